/-! The walk as predicates: locals, stack and state of a module are plain values; a block of instructions is a predicate; 'Snd pc P': P at pc is enough for the machine to come to its end. -/
abbrev Lc : Type := List (Option Value)
def nth : Lc → Nat → Option Value
  | [], _ => none
  | a :: _, 0 => a
  | _ :: t, i + 1 => nth t i
def dropL : Option Value → Option Value
  | some (.long _) => none
  | some (.double _) => none
  | a => a
def stL : Lc → Nat → Value → Lc
  | [], _, _ => []
  | _ :: t, 0, v => some v :: t
  | a :: t, i + 1, v => (match i with | 0 => dropL a | _ + 1 => a) :: stL t i v
def stL2 : Lc → Nat → Value → Lc
  | [], _, _ => []
  | _ :: t, 0, v => some v :: (match t with | [] => [] | _ :: t' => none :: t')
  | a :: t, i + 1, v => (match i with | 0 => dropL a | _ + 1 => a) :: stL2 t i v
def keepL : Lc → List Bool → Lc
  | [], _ => []
  | a :: t, true :: bs => a :: keepL t bs
  | _ :: t, false :: bs => none :: keepL t bs
  | _ :: t, [] => none :: keepL t []
def padL : Nat → Lc → Lc
  | 0, l => l
  | n + 1, [] => none :: padL n []
  | n + 1, a :: t => a :: padL n t
def mkL : List Value → Lc
  | [] => []
  | v :: vs => some v :: (match v with | .long _ => none :: mkL vs | .double _ => none :: mkL vs | _ => mkL vs)
def lvOf : Nat → Lc → List (Nat × Value)
  | _, [] => []
  | k, a :: t => (match a with | some v => [(k, v)] | none => []) ++ lvOf (k + 1) t
theorem mem_lvOf : ∀ (L : Lc) (k i : Nat) (v : Value), nth L i = some v → (k + i, v) ∈ lvOf k L := by
  intro L
  induction L with
  | nil => intro k i v h; cases h
  | cons a t ih =>
    intro k i v h
    cases i with
    | zero =>
      have h : a = some v := h
      subst h
      exact List.mem_append_left _ (by simp)
    | succ i =>
      have h2 := ih (k + 1) i v h
      rw [show k + (i + 1) = k + 1 + i by omega]
      exact List.mem_append_right _ h2
theorem lvOf_mem : ∀ (L : Lc) (k : Nat) (q : Nat × Value), q ∈ lvOf k L → ∃ i, q.1 = k + i ∧ nth L i = some q.2 := by
  intro L
  induction L with
  | nil => intro k q h; cases h
  | cons a t ih =>
    intro k q h
    rcases List.mem_append.mp h with h | h
    · cases a with
      | none => cases h
      | some v =>
        have h := List.mem_singleton.mp h
        subst h
        exact ⟨0, rfl, rfl⟩
    · obtain ⟨i, h1, h2⟩ := ih (k + 1) q h
      exact ⟨i + 1, by omega, h2⟩
def lh (ls : Array Slot) (nL : Nat) (L : Lc) : Prop := ls.size = nL ∧ lv_wf ls ∧ ∀ i v, nth L i = some v → ls[i]? = some (.val v)
theorem lh.has {ls : Array Slot} {nL : Nat} {L : Lc} (h : lh ls nL L) : lv_has ls nL (lvOf 0 L) := by
  refine ⟨h.1, h.2.1, fun q hq => ?_⟩
  obtain ⟨i, h1, h2⟩ := lvOf_mem L 0 q hq
  rw [h1, Nat.zero_add]
  exact h.2.2 i _ h2
theorem dropL_some {a : Option Value} {w : Value} (h : dropL a = some w) : a = some w ∧ ¬ w.category = 2 := by
  cases a with
  | none => cases h
  | some v => cases v <;> simp [dropL] at h <;> subst h <;> simp [Value.category]
theorem nth_stL : ∀ (L : Lc) (i j : Nat) (v w : Value), nth (stL L i v) j = some w → (j = i ∧ w = v) ∨ (j ≠ i ∧ nth L j = some w ∧ ¬ (j + 1 = i ∧ w.category = 2)) := by
  intro L
  induction L with
  | nil => intro i j v w h; cases h
  | cons a t ih =>
    intro i j v w h
    cases i with
    | zero =>
      cases j with
      | zero => exact Or.inl ⟨rfl, (Option.some.inj h).symm⟩
      | succ j => exact Or.inr ⟨by omega, h, by omega⟩
    | succ i =>
      cases j with
      | zero =>
        cases i with
        | zero =>
          obtain ⟨h1, h2⟩ := dropL_some (a := a) (w := w) h
          exact Or.inr ⟨by omega, h1, fun q => h2 q.2⟩
        | succ i => exact Or.inr ⟨by omega, h, by omega⟩
      | succ j =>
        rcases ih i j v w h with ⟨h1, h2⟩ | ⟨h1, h2, h3⟩
        · exact Or.inl ⟨by omega, h2⟩
        · exact Or.inr ⟨by omega, h2, fun q => h3 ⟨by omega, q.2⟩⟩
theorem nth_stL2 : ∀ (L : Lc) (i j : Nat) (v w : Value), nth (stL2 L i v) j = some w → (j = i ∧ w = v) ∨ (j ≠ i ∧ j ≠ i + 1 ∧ nth L j = some w ∧ ¬ (j + 1 = i ∧ w.category = 2)) := by
  intro L
  induction L with
  | nil => intro i j v w h; cases h
  | cons a t ih =>
    intro i j v w h
    cases i with
    | zero =>
      cases j with
      | zero => exact Or.inl ⟨rfl, (Option.some.inj h).symm⟩
      | succ j =>
        cases t with
        | nil => cases h
        | cons b t' =>
          cases j with
          | zero => cases h
          | succ j => exact Or.inr ⟨by omega, by omega, h, by omega⟩
    | succ i =>
      cases j with
      | zero =>
        cases i with
        | zero =>
          obtain ⟨h1, h2⟩ := dropL_some (a := a) (w := w) h
          exact Or.inr ⟨by omega, by omega, h1, fun q => h2 q.2⟩
        | succ i => exact Or.inr ⟨by omega, by omega, h, by omega⟩
      | succ j =>
        rcases ih i j v w h with ⟨h1, h2⟩ | ⟨h1, h2, h3, h4⟩
        · exact Or.inl ⟨by omega, h2⟩
        · exact Or.inr ⟨by omega, by omega, h3, fun q => h4 ⟨by omega, q.2⟩⟩
theorem lh.st1 {ls' : Array Slot} {nL i : Nat} {L : Lc} {v : Value} (h : lv_has ls' nL ((i, v) :: (lvOf 0 L).filter (fun q => !(q.1 == i) && !(q.1 + 1 == i && q.2.category == 2)))) : lh ls' nL (stL L i v) := by
  refine ⟨h.1, h.2.1, fun j w hj => ?_⟩
  rcases nth_stL L i j v w hj with ⟨rfl, rfl⟩ | ⟨h1, h2, h3⟩
  · exact h.2.2 (j, w) List.mem_cons_self
  · have hm := mem_lvOf L 0 j w h2
    rw [Nat.zero_add] at hm
    refine h.2.2 (j, w) (List.mem_cons_of_mem _ (List.mem_filter.mpr ⟨hm, ?_⟩))
    have e1 : (j == i) = false := by simp [h1]
    by_cases e : j + 1 = i
    · have e2 : (w.category == 2) = false := by
        have : ¬ w.category = 2 := fun q => h3 ⟨e, q⟩
        simp [this]
      simp [e1, e2]
    · have e2 : (j + 1 == i) = false := by simp [e]
      simp [e1, e2]
theorem lh.st2 {ls' : Array Slot} {nL i : Nat} {L : Lc} {v : Value} (h : lv_has ls' nL ((i, v) :: (lvOf 0 L).filter (fun q => !(q.1 == i) && (!(q.1 == i + 1) && !(q.1 + 1 == i && q.2.category == 2))))) : lh ls' nL (stL2 L i v) := by
  refine ⟨h.1, h.2.1, fun j w hj => ?_⟩
  rcases nth_stL2 L i j v w hj with ⟨rfl, rfl⟩ | ⟨h1, h1', h2, h3⟩
  · exact h.2.2 (j, w) List.mem_cons_self
  · have hm := mem_lvOf L 0 j w h2
    rw [Nat.zero_add] at hm
    refine h.2.2 (j, w) (List.mem_cons_of_mem _ (List.mem_filter.mpr ⟨hm, ?_⟩))
    have e1 : (j == i) = false := by simp [h1]
    have e1' : (j == i + 1) = false := by simp [h1']
    by_cases e : j + 1 = i
    · have e2 : (w.category == 2) = false := by
        have : ¬ w.category = 2 := fun q => h3 ⟨e, q⟩
        simp [this]
      simp [e1, e1', e2]
    · have e2 : (j + 1 == i) = false := by simp [e]
      simp [e1, e1', e2]
theorem nth_keepL : ∀ (L : Lc) (bs : List Bool) (j : Nat) (w : Value), nth (keepL L bs) j = some w → nth L j = some w := by
  intro L
  induction L with
  | nil => intro bs j w h; cases bs <;> cases h
  | cons a t ih =>
    intro bs j w h
    cases bs with
    | nil =>
      cases j with
      | zero => cases h
      | succ j => exact ih [] j w h
    | cons b bs =>
      cases b with
      | true =>
        cases j with
        | zero => exact h
        | succ j => exact ih bs j w h
      | false =>
        cases j with
        | zero => cases h
        | succ j => exact ih bs j w h
theorem lh.keep {ls : Array Slot} {nL : Nat} {L : Lc} (h : lh ls nL L) (bs : List Bool) : lh ls nL (keepL L bs) := ⟨h.1, h.2.1, fun j w hj => h.2.2 j w (nth_keepL L bs j w hj)⟩
theorem nth_padL : ∀ (n : Nat) (L : Lc) (j : Nat) (w : Value), nth (padL n L) j = some w → nth L j = some w := by
  intro n
  induction n with
  | zero => intro L j w h; exact h
  | succ n ih =>
    intro L j w h
    cases L with
    | nil =>
      cases j with
      | zero => cases h
      | succ j => exact absurd (ih [] j w h) (by intro q; cases q)
    | cons a t =>
      cases j with
      | zero => exact h
      | succ j => exact ih t j w h
theorem nth_mkL : ∀ (vs : List Value) (k i : Nat) (w : Value), nth (mkL vs) i = some w → (k + i, w) ∈ lv_args k vs := by
  intro vs
  induction vs with
  | nil => intro k i w h; cases h
  | cons v vs ih =>
    intro k i w h
    cases i with
    | zero =>
      have h : some v = some w := h
      cases h
      exact List.mem_cons_self
    | succ i =>
      refine List.mem_cons_of_mem _ ?_
      have one : v.category ≠ 2 → nth (mkL vs) i = some w → (k + (i + 1), w) ∈ lv_args (if v.category = 2 then k + 2 else k + 1) vs := by
        intro hc h2
        rw [if_neg hc, show k + (i + 1) = k + 1 + i by omega]
        exact ih (k + 1) i w h2
      have two : v.category = 2 → nth (none :: mkL vs) i = some w → (k + (i + 1), w) ∈ lv_args (if v.category = 2 then k + 2 else k + 1) vs := by
        intro hc h2
        cases i with
        | zero => cases h2
        | succ i =>
          rw [if_pos hc, show k + (i + 1 + 1) = k + 2 + i by omega]
          exact ih (k + 2) i w h2
      cases v with
      | long x => exact two rfl h
      | double x => exact two rfl h
      | int x => exact one (by simp [Value.category]) h
      | float x => exact one (by simp [Value.category]) h
      | null => exact one (by simp [Value.category]) h
      | ref x => exact one (by simp [Value.category]) h
      | retAddr x => exact one (by simp [Value.category]) h
abbrev Gx : Type := va_G × List vw_C × ClassId × ClassId × (Nat → Nat) × (Nat → Nat)
abbrev tyG (G : Gx) : List (ClassId × FieldType) := [(G.2.2.1, .int), (G.2.2.2.1, .long)]
/-- the class's String constants, and String's own switch: nobody writes them -/
def lenS : List Nat := [9, 8, 6, 4, 0]
def bytS : List (List Int32) := [[100, 100, 100, 44, 100, 100, 100, 100, 59], [100, 100, 44, 100, 100, 100, 100, 59], [100, 100, 100, 100, 100, 59], [100, 100, 100, 59], []]
def idxS : List Nat := [27, 29, 31, 33, 35]
def txS : List String := ["ddd,dddd;", "dd,dddd;", "ddddd;", "ddd;", ""]
/-- nest mates that are called across classes -/
def nestL : List (String × Nat × MethodName) := [("HelpedOnlyOnce$Letters", 88, ⟨"HelpedOnlyOnce", "leastSetting", "(I)I"⟩), ("HelpedOnlyOnce$Letters", 91, ⟨"HelpedOnlyOnce", "greatestSetting", "(I)I"⟩), ("HelpedOnlyOnce", 11, ⟨"HelpedOnlyOnce$Town", "<init>", "()V"⟩), ("HelpedOnlyOnce", 24, ⟨"HelpedOnlyOnce$Search", "<init>", "()V"⟩), ("HelpedOnlyOnce", 31, ⟨"HelpedOnlyOnce$Letters", "<init>", "()V"⟩)]
def NestS (U : State) : Prop := ∀ q ∈ nestL, va_Nw (.methodLinkNest q.1 q.2.1 q.2.2 "HelpedOnlyOnce") U
def EnvS (G : Gx) (A : Nat → Prop) (U : State) (H : Heap) : Prop :=
  vk_S 5 lenS bytS G.2.2.2.2.1 G.2.2.2.2.2 A U H ∧ (∀ i, i < 5 → vk_R "HelpedOnlyOnce$Letters" (idxS.getD i 0) (txS.getD i "") (G.2.2.2.2.1 i) U) ∧ va_Z "java/lang/String" "COMPACT_STRINGS" "Z" (.int 1) A U H ∧ NestS U ∧ ∃ fm : Value, (fm = .null ∨ ∃ a, fm = .ref a) ∧ va_Z "jdk/internal/util/Preconditions" "SIOOBE_FORMATTER" "Ljava/util/function/BiFunction;" fm A U H
theorem EnvS.kept {G : Gx} {A : Nat → Prop} {U : State} {H H1 : Heap} (h : EnvS G A U H) (hq : ∀ a : Nat, a < H.size → ¬ A a → H1[a]? = H[a]?) : EnvS G A U H1 := ⟨h.1.kept hq, h.2.1, h.2.2.1.kept hq, h.2.2.2.1, h.2.2.2.2.imp (fun _ z => ⟨z.1, z.2.kept hq⟩)⟩
theorem EnvS.narrow {G : Gx} {A B : Nat → Prop} {U : State} {H : Heap} (h : EnvS G A U H) (hAB : ∀ q, B q → A q) : EnvS G B U H := ⟨h.1.narrow hAB, h.2.1, h.2.2.1.narrow hAB, h.2.2.2.1, h.2.2.2.2.imp (fun _ z => ⟨z.1, z.2.narrow hAB⟩)⟩
theorem EnvS.warm {G : Gx} {A : Nat → Prop} {s U : State} {H : Heap} (hW : s.WarmedH U.vm) (h : EnvS G A s H) : EnvS G A U H := ⟨vk_S.moved hW.alike h.1, fun i hi => vk_R.warm hW (h.2.1 i hi), va_Z.moved hW.alike h.2.2.1, fun q hq => va_Nw.warmM hW (h.2.2.2.1 q hq), h.2.2.2.2.imp (fun _ z => ⟨z.1, z.2.moved hW.alike⟩)⟩
theorem EnvS.same {G : Gx} {A : Nat → Prop} {s U : State} {H : Heap} (hv : U.vm = s.vm) (h : EnvS G A s H) : EnvS G A U H := ⟨vk_S.moved (hv ▸ Vm.Alike.refl s.vm) h.1, fun i hi => vk_R.same hv (h.2.1 i hi), va_Z.moved (hv ▸ Vm.Alike.refl s.vm) h.2.2.1, fun q hq => va_Nw.same rfl hv.symm (h.2.2.2.1 q hq), h.2.2.2.2.imp (fun _ z => ⟨z.1, z.2.moved (hv ▸ Vm.Alike.refl s.vm)⟩)⟩
abbrev Cx : Type := Program × Launch × Env × Room × State × MethodId × Array Value × List Frame × Method × Code × (Nat → Prop) × (State → Prop)
abbrev xp (X : Cx) : Program := X.1
abbrev xl (X : Cx) : Launch := X.2.1
abbrev xe (X : Cx) : Env := X.2.2.1
abbrev xR (X : Cx) : Room := X.2.2.2.1
abbrev xs (X : Cx) : State := X.2.2.2.2.1
abbrev xm (X : Cx) : MethodId := X.2.2.2.2.2.1
abbrev xa (X : Cx) : Array Value := X.2.2.2.2.2.2.1
abbrev xb (X : Cx) : List Frame := X.2.2.2.2.2.2.2.1
abbrev xd (X : Cx) : Method := X.2.2.2.2.2.2.2.2.1
abbrev xc (X : Cx) : Code := X.2.2.2.2.2.2.2.2.2.1
abbrev xA (X : Cx) : Nat → Prop := X.2.2.2.2.2.2.2.2.2.2.1
abbrev xQ (X : Cx) : State → Prop := X.2.2.2.2.2.2.2.2.2.2.2
abbrev PT (σ : Type) : Type := Lc → List Value → σ → Prop
def Snd {σ : Type} (X : Cx) (G : Gx) (nL : Nat) (enc : σ → va_W) (pc : Nat) (P : PT σ) : Prop :=
  ∀ (H : Heap) (locs : List Loc) (ls : Array Slot) (L : Lc) (st : List Value) (s : σ), lh ls nL L → va_P G.1 G.2.1 (enc s) H → va_D (xA X) (enc s) → va_S (xA X) (xs X).heap H locs → P L st s →
    W (xp X) (xl X) (xe X) (xR X) (xs X) (xm X) (xa X) (xb X) (xd X) (xc X) H locs 0 0 (xQ X) (F0 (xm X) pc ls st)
def OkX (X : Cx) (G : Gx) (cc : ByteArray) (nL : Nat) (Ts : List Cond) (own : String) (rm : Room) : Prop :=
  (xp X).tables.exec = Jvm.exec ∧ (xc X).code = cc ∧ (xc X).maxLocals = nL ∧ (xs X).vm.findClass own = some (xm X).cls ∧ (∀ w ∈ Ts, w.before (xa X) (xs X) = true) ∧ va_K G.1 G.2.1 (tyG G) (xs X) ∧ (∀ q, (xs X).heap.size ≤ q → xA X q) ∧ (xd X).locks = false ∧ xR X = rm ∧ EnvS G (xA X) (xs X) (xs X).heap
def Qg {σ : Type} (G : Gx) (Post : Option Value → σ → Prop) (enc : σ → va_W) (A : Nat → Prop) : Array Value → State → Outcome → State → Prop := fun _ st oc t =>
  (∃ (o : Option Value) (u : σ), oc = .returned o ∧ Post o u ∧ va_P G.1 G.2.1 (enc u) t.heap ∧ va_K G.1 G.2.1 (tyG G) t ∧ va_D A (enc u)) ∧ va_F A st t
def RtX {σ : Type} (X : Cx) (G : Gx) (ret : Option FieldType) (enc : σ → va_W) (Post : Option Value → σ → Prop) : Prop :=
  (xd X).sig.returnType = ret ∧ xQ X = MQ (xb X) (Qg G Post enc (xA X)) (xa X) (xs X) 0 0 (xA X)
def Mt {σ : Type} (l : Launch) (G : Gx) (y : MethodName) (ws : List Cond) (rm : Room) (enc : σ → va_W) (av : List Value) (s : σ) (Post : Option Value → σ → Prop) : Prop :=
  ∀ sz : Nat, Met l y ws rm (va_Pc av (fun U => U.heap.size = sz ∧ va_P G.1 G.2.1 (enc s) U.heap ∧ va_K G.1 G.2.1 (tyG G) U ∧ va_D (fun _ => True) (enc s) ∧ EnvS G (va_A (enc s) sz) U U.heap)) (Qg G Post enc (va_A (enc s) sz)) 0 0 (va_A (enc s) sz)
theorem Mt.of {σ : Type} {l : Launch} {G : Gx} {y : MethodName} {ws ws' : List Cond} {rm : Room} {enc : σ → va_W} {av : List Value} {s : σ} {Post : Option Value → σ → Prop} {cc : ByteArray} {nL : Nat} {ret : Option FieldType} {P : PT σ}
    (hy : plainName y.cls = true) (hw : ws = Cond.code y cc nL ret :: ws') (hlen : (lg_sl av).length ≤ nL) (hrm : (headSpec ws rm).room = rm)
    (body : ∀ X : Cx, OkX X G cc nL ws y.cls rm → RtX X G ret enc Post → Snd X G nL enc 0 P) (hP0 : P (padL nL (mkL av)) [] s) : Mt l G y ws rm enc av s Post := by
  intro sz
  refine Met.ofW (cc := cc) (maxL := nL) (ret := ret) hy hw ?_
  intro p e s1 m args below meth c s₁ B hml hv
  obtain ⟨rfl, hsz, hP, hK, hD0, hE⟩ := hv
  have hown : s1.vm.findClass y.cls = some m.cls := findClass_of_methodNamed B.named
  have hts : ∀ w ∈ ws, w.before av.toArray s1 = true := atoms_spec (ws := ws) B.pre
  subst hsz
  have hD := hD0.self (sz := s1.heap.size)
  have hA : ∀ q : Nat, s1.heap.size ≤ q → va_A (enc s) s1.heap.size q := fun q h => Or.inr h
  have hl := lv_entry av (n := nL) hlen
  rw [lg_entry_eq]
  generalize (lg_sl av ++ List.replicate (nL - (lg_sl av).length) Slot.unset).toArray = ls at hl ⊢
  have hlh : lh ls nL (padL nL (mkL av)) := ⟨hl.1, hl.2.1, fun i v hi => by
    have := nth_mkL av 0 i v (nth_padL _ _ _ _ hi)
    rw [Nat.zero_add] at this
    exact hl.2.2 (i, v) this⟩
  exact body (p, l, e, (headSpec ws rm).room, s1, m, av.toArray, below, meth, c, va_A (enc s) s1.heap.size, MQ below (Qg G Post enc (va_A (enc s) s1.heap.size)) av.toArray s1 0 0 (va_A (enc s) s1.heap.size))
    ⟨B.exec, B.bytes, hml, hown, hts, hK, hA, B.notSynchronized, hrm, hE⟩ ⟨B.returns, rfl⟩ s1.heap [] ls (padL nL (mkL av)) [] s hlh hP hD va_S.rf hP0
