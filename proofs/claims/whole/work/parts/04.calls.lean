/-- a loop: T is the body from its head to its head (K) or out of it; I its invariant with a measure -/
theorem snd_loop {σ : Type} {X : Cx} {G : Gx} {nL pc : Nat} {enc : σ → va_W} (T : PT σ → PT σ) (I : Nat → PT σ) (hT : ∀ K : PT σ, Snd X G nL enc pc K → Snd X G nL enc pc (T K))
    (hI : ∀ (K : PT σ) n L st s, I n L st s → (∀ m L st s, m < n → I m L st s → K L st s) → T K L st s) : Snd X G nL enc pc (fun L st s => ∃ n, I n L st s) := by
  have key : ∀ n, Snd X G nL enc pc (fun L st s => ∃ m, m < n ∧ I m L st s) := by
    intro n
    induction n with
    | zero => exact fun H locs ls L st s hl hP hD hS hw => absurd hw (fun ⟨m, h, _⟩ => absurd h (Nat.not_lt_zero m))
    | succ n ih =>
      intro H locs ls L st s hl hP hD hS hw
      obtain ⟨m, hm, hw⟩ := hw
      rcases Nat.lt_or_eq_of_le (Nat.le_of_lt_succ hm) with h | h
      · exact ih H locs ls L st s hl hP hD hS ⟨m, h, hw⟩
      · subst h
        exact hT _ ih H locs ls L st s hl hP hD hS (hI _ m L st s hw (fun m' L' st' s' h1 h2 => ⟨m', h1, h2⟩))
  exact fun H locs ls L st s hl hP hD hS hw => key (hw.choose + 1) H locs ls L st s hl hP hD hS ⟨hw.choose, Nat.lt_succ_self _, hw.choose_spec⟩
theorem Snd.mono {σ : Type} {X : Cx} {G : Gx} {nL pc : Nat} {enc : σ → va_W} {P P' : PT σ} (h : Snd X G nL enc pc P) (hP : ∀ L st s, P' L st s → P L st s) : Snd X G nL enc pc P' :=
  fun H locs ls L st s hl hP1 hD hS hw => h H locs ls L st s hl hP1 hD hS (hP L st s hw)
/-- what a callee's cells are among a caller's: which of its cells go, which stay, how they stand behind the call -/
def FrOK {σ σc : Type} (enc : σ → va_W) (encC : σc → va_W) (get : σ → σc) (set : σ → σc → σ) (isC isR perm : List Nat) : Prop :=
  (∀ s, isC.map (fun i => (enc s)[i]?) = (encC (get s)).map some) ∧ va_nd isC = true ∧ va_nd isR = true ∧ (∀ i ∈ isR, i ∉ isC) ∧ va_nd perm = true ∧ ∀ s, ∃ wr : va_W, isR.map (fun i => (enc s)[i]?) = wr.map some ∧ ∀ u, perm.map (fun i => (wr ++ encC u)[i]?) = (enc (set s u)).map some
theorem map_fm {α : Type} {ws ws' : List α} : ∀ (is : List Nat), is.map (fun i => ws[i]?) = ws'.map some → is.filterMap (fun i => ws[i]?) = ws' := by
  intro is
  induction is generalizing ws' with
  | nil =>
    intro h
    cases ws' with
    | nil => rfl
    | cons a t => cases h
  | cons i is ih =>
    intro h
    cases ws' with
    | nil => cases h
    | cons a t =>
      have h1 : ws[i]? = some a ∧ is.map (fun i => ws[i]?) = t.map some := by simpa using h
      rw [List.filterMap_cons, h1.1]
      show a :: is.filterMap (fun i => ws[i]?) = a :: t
      rw [ih h1.2]
/-- a method's contract as functions: where pre holds it answers f, and the state behind it is g -/
abbrev CF (σ : Type) : Type := (List Value → σ → Prop) × (List Value → σ → Option Value) × (List Value → σ → σ)
def MtF {σ : Type} (G : Gx) (y : MethodName) (ws : List Cond) (rm : Room) (enc : σ → va_W) (F : CF σ) : Prop :=
  ∀ (l : Launch) (av : List Value) (s : σ), F.1 av s → Mt l G y ws rm enc av s (fun o u => o = F.2.1 av s ∧ u = F.2.2 av s)
/-- behind a run of a callee -/
theorem after_call {σ σc : Type} {X : Cx} {G : Gx} {nL : Nat} {enc : σ → va_W} {encC : σc → va_W} {cc : ByteArray} {Ts : List Cond} {own : String} {rm : Room} (C : OkX X G cc nL Ts own rm) {get : σ → σc} {set : σ → σc → σ} {isC isR perm : List Nat} (hFr : FrOK enc encC get set isC isR perm)
    {pc : Nat} {P : PT σ} (hn : Snd X G nL enc (pc + 3) P) {H : Heap} {locs : List Loc} {ls : Array Slot} {L : Lc} {s : σ} (hl : lh ls nL L) (hP : va_P G.1 G.2.1 (enc s) H) (hD : va_D (xA X) (enc s)) (hS : va_S (xA X) (xs X).heap H locs)
    {st0 rest : List Value} {av : Array Value} {o : Option Value} {u0 : σc} (hr : va_Run (xp X) (xl X) (xe X) (xR X) (xs X) (xm X) (xa X) (xb X) (xd X) (xc X) H locs 0 0 0 0 (F0 (xm X) pc ls st0) rest (Qg G (fun o' u => o' = o ∧ u = u0) encC (va_A (encC (get s)) H.size) av) (va_A (encC (get s)) H.size))
    (hw : P L (o.toList ++ rest) (set s u0)) : W (xp X) (xl X) (xe X) (xR X) (xs X) (xm X) (xa X) (xb X) (xd X) (xc X) H locs 0 0 (xQ X) (F0 (xm X) pc ls st0) := by
  intro T hT X0
  obtain ⟨hC, hn0, hn1, hdis, hn2, hrest⟩ := hFr
  obtain ⟨wr, hR, hperm⟩ := hrest s
  have hF := va_free hD hS C.2.2.2.2.2.2.1 isC (hC s)
  obtain ⟨v, st₀, t, T', Lx, h0, X', hL, e1, e2, ⟨⟨o1, u, hv, ⟨ho, hu⟩, hP1, hK1, hD1⟩, hz, hk⟩, stp⟩ := hr T hT X0
  subst ho; subst hu
  cases hv
  rw [h0] at hz hk
  rw [← e1] at hP1 hz hk
  obtain ⟨hP2, hD2⟩ := va_join hP hD isC isR (hC s) hR hn1 hdis (fun q h1 h2 => hk q h1 h2) hF hP1 hD1
  have hP3 := hP2.sub perm (map_fm perm (hperm u))
  have hD3 := hD2.sub perm hn2 (hperm u)
  have hS3 : va_S (xA X) (xs X).heap T'.heap (locs ++ Lx) := ⟨Nat.le_trans hS.1 hz, fun q h1 h2 => by
      rw [hk q (Nat.lt_of_lt_of_le h1 hS.1) (fun z => h2 (hF q z))]; exact hS.2.1 q h1 h2, fun q hq => by
      rcases List.mem_append.mp hq with h | h
      · exact hS.2.2 q h
      · exact hF _ (hL q h)⟩
  obtain ⟨t2, a1, b1⟩ := hn T'.heap (locs ++ Lx) ls L _ (set s u) hl hP3 hD3 hS3 hw T' rfl X'
  exact ⟨t2, stp t2 a1, b1⟩
def wCall {σ σc : Type} (n : Nat) (F : CF σc) (get : σ → σc) (set : σ → σc → σ) (P : PT σ) (L : Lc) (st : List Value) (s : σ) : Prop :=
  F.1 (st.take n).reverse (get s) ∧ P L ((F.2.1 (st.take n).reverse (get s)).toList ++ st.drop n) (set s (F.2.2 (st.take n).reverse (get s)))
theorem st_split (st : List Value) (n : Nat) : st = (st.take n).reverse.reverse ++ st.drop n := by rw [List.reverse_reverse, List.take_append_drop]
def wCallR {σ σc : Type} (n : Nat) (F : CF σc) (get : σ → σc) (set : σ → σc → σ) (P : PT σ) (L : Lc) (st : List Value) (s : σ) : Prop := restOK (st.drop n) ∧ wCall n F get set P L st s
theorem wsV_ini {own : String} {idx : Nat} {CN : String} {y : MethodName} {ws Ts : List Cond} (h : GoodIn Ts (wsV own idx CN y ws)) : Cond.initialized CN ∈ Ts := (h _ (by simp [wsV])).1
/-- a virtual call on an object of a known class -/
theorem s_callV {σ σc : Type} {X : Cx} {G : Gx} {nL : Nat} {enc : σ → va_W} {encC : σc → va_W} {cc : ByteArray} {Ts : List Cond} {own : String} {rm rmc : Room} (C : OkX X G cc nL Ts own rm) {get : σ → σc} {set : σ → σc → σ} {isC isR perm : List Nat} (hFr : FrOK enc encC get set isC isR perm)
    {y : MethodName} {CN : String} {ws ws' : List Cond} {bytes : ByteArray} {maxL index n pc : Nat} {ret : Option FieldType} {F : CF σc} (hM : MtF G y ws rmc encC F) (hg : GoodIn Ts (wsV own index CN y ws)) (hw0 : ws = Cond.code y bytes maxL ret :: ws')
    (hd : y.cls = CN ∧ y.cls ≠ "java/lang/invoke/MethodHandle" ∧ y.cls ≠ "java/lang/invoke/VarHandle" ∧ (parseMethodDescriptor y.desc).map (fun d => d.parameters.length) = some n) (hc0 : rmc.cells = 0 ∧ rmc.slots = 0) (hR : rmc.frames + 1 ≤ rm.frames ∧ 8 + (maxL + 11) + rmc.locals ≤ rm.locals)
    {T : u_T} {N ci q0 b : Nat} (hci : G.2.1[ci]? = some (CN, T, N)) (hrecv : ∀ s, ∃ fs, (enc s)[q0]? = some (b, .inr (ci, fs))) (hrf : ∀ av s, F.1 av s → ∃ As, av = .ref b :: As ∧ As.length = n)
    {P : PT σ} (hdg : decode cc pc = .ok (.invokevirtual index, 3)) (hn : Snd X G nL enc (pc + 3) P) :
    Snd X G nL enc pc (wCallR (n + 1) F get set P) := by
  intro H locs ls L st s hl hP hD hS hw
  obtain ⟨hro, hpre, hw⟩ := hw
  obtain ⟨As, hav, hlen⟩ := hrf _ _ hpre
  obtain ⟨hx, hb, hml, hown, hts, hK, hA, hlocks, hxR, hE⟩ := id C
  have hEH := (hE.kept hS.2.1).narrow (va_free hD hS hA isC (hFr.1 s))
  obtain ⟨fs, hfs⟩ := hrecv s
  have hstk : st = As.reverse ++ .ref b :: st.drop (n + 1) := by
    conv => lhs; rw [st_split st (n + 1), hav]
    simp
  have hPc := hP.sub isC (map_fm isC (hFr.1 s))
  have hDc := hD.sub isC hFr.2.1 (hFr.1 s)
  refine after_call C hFr hn hl hP hD hS (st0 := st) (rest := st.drop (n + 1)) (av := (Value.ref b :: As).toArray) (o := F.2.1 (st.take (n + 1)).reverse (get s)) (u0 := F.2.2 (st.take (n + 1)).reverse (get s)) ?_ hw
  refine va_runV (As := As) (rest := st.drop (n + 1)) (n := n) ⟨hx, hb, hml, hown, hts⟩ (hM (xl X) _ (get s) hpre H.size) (cwV n hts hg hw0 hc0.1 hc0.2 hd (by rw [hxR]; exact hR)) ⟨?_, va_recv hK hP hci hfs, ?_⟩ rfl hlen hl.1 hstk (lv_room (restOK_le hro)) hdg ⟨Nat.zero_le _, Nat.zero_le _⟩
  · exact fun a U g mk q => by obtain ⟨q0, q1, qP, qK, qD, qE⟩ := q; exact ⟨q0, q1, qP, va_K.moved (u := U) (U := U.calling g mk a) (Vm.Alike.refl U.vm) qK, qD, EnvS.same (s := U) (U := U.calling g mk a) rfl qE⟩
  · exact fun U hU hW => ⟨by rw [hav], by rw [hU], by rw [hU]; exact hPc, va_K.moved hW.alike hK, hDc.weaken (fun _ _ _ _ => trivial), by rw [hU]; exact hEH.warm hW⟩
/-- a static call -/
theorem s_callS {σ σc : Type} {X : Cx} {G : Gx} {nL : Nat} {enc : σ → va_W} {encC : σc → va_W} {cc : ByteArray} {Ts : List Cond} {own : String} {rm rmc : Room} (C : OkX X G cc nL Ts own rm) {get : σ → σc} {set : σ → σc → σ} {isC isR perm : List Nat} (hFr : FrOK enc encC get set isC isR perm)
    {y : MethodName} {ws ws' : List Cond} {bytes : ByteArray} {maxL index n pc : Nat} {ret : Option FieldType} {F : CF σc} (hM : MtF G y ws rmc encC F) (hg : GoodIn Ts (va_wsS own index y ws)) (hw0 : ws = Cond.code y bytes maxL ret :: ws')
    (hd : y.cls ≠ "java/lang/invoke/MethodHandle" ∧ y.cls ≠ "java/lang/invoke/VarHandle" ∧ (parseMethodDescriptor y.desc).map (fun d => d.parameters.length) = some n) (hc0 : rmc.cells = 0 ∧ rmc.slots = 0) (hR : rmc.frames + 1 ≤ rm.frames ∧ 8 + (maxL + 11) + rmc.locals ≤ rm.locals)
    (hrf : ∀ av s, F.1 av s → av.length = n)
    {P : PT σ} (hdg : decode cc pc = .ok (.invokestatic index, 3)) (hn : Snd X G nL enc (pc + 3) P) :
    Snd X G nL enc pc (wCallR n F get set P) := by
  intro H locs ls L st s hl hP hD hS hw
  obtain ⟨hro, hpre, hw⟩ := hw
  have hlen := hrf _ _ hpre
  obtain ⟨hx, hb, hml, hown, hts, hK, hA, hlocks, hxR, hE⟩ := id C
  have hEH := (hE.kept hS.2.1).narrow (va_free hD hS hA isC (hFr.1 s))
  have hstk : st = (st.take n).reverse.reverse ++ st.drop n := st_split st n
  have hPc := hP.sub isC (map_fm isC (hFr.1 s))
  have hDc := hD.sub isC hFr.2.1 (hFr.1 s)
  refine after_call C hFr hn hl hP hD hS (st0 := st) (rest := st.drop n) (av := (st.take n).reverse.toArray) (o := F.2.1 (st.take n).reverse (get s)) (u0 := F.2.2 (st.take n).reverse (get s)) ?_ hw
  refine va_runS (As := (st.take n).reverse) (rest := st.drop n) (n := n) ⟨hx, hb, hml, hown, hts⟩ (hM (xl X) _ (get s) hpre H.size) (va_cwS n hts hg hw0 hc0.1 hc0.2 hd (by rw [hxR]; exact hR)) ⟨?_, ?_⟩ rfl hlen hl.1 hstk (lv_room (restOK_le hro)) hdg ⟨Nat.zero_le _, Nat.zero_le _⟩
  · exact fun a U g mk q => by obtain ⟨q0, q1, qP, qK, qD, qE⟩ := q; exact ⟨q0, q1, qP, va_K.moved (u := U) (U := U.calling g mk a) (Vm.Alike.refl U.vm) qK, qD, EnvS.same (s := U) (U := U.calling g mk a) rfl qE⟩
  · exact fun U hU hW => ⟨rfl, by rw [hU], by rw [hU]; exact hPc, va_K.moved hW.alike hK, hDc.weaken (fun _ _ _ _ => trivial), by rw [hU]; exact hEH.warm hW⟩
/-- a switch over neighbours -/
def tabW {σ : Type} : List (Int32 × PT σ) → PT σ → Int32 → Lc → List Value → σ → Prop
  | [], D, _, L, st, s => D L st s
  | (k, P) :: cs, D, x, L, st, s => (x = k → P L st s) ∧ (¬ x = k → tabW cs D x L st s)
def wTab {σ : Type} (cs : List (Int32 × PT σ)) (D : PT σ) (L : Lc) (st : List Value) (s : σ) : Prop := match st with | .int x :: r => tabW cs D x L r s | _ => False
def sndAll {σ : Type} (X : Cx) (G : Gx) (nL : Nat) (enc : σ → va_W) : List Nat → List (Int32 × PT σ) → Prop
  | [], [] => True
  | t :: ts, (_, P) :: cs => Snd X G nL enc t P ∧ sndAll X G nL enc ts cs
  | _, _ => False
/-- the offsets of the table lead to the targets -/
def tabOff (pc : Nat) (offs : List Int) (tgts : List Nat) : Bool := offs.map (fun o => (pc : Int) + o) == tgts.map Int.ofNat
def tabKeys (lo : Int) (ks : List Int32) : Bool := ks.map Int32.toInt == (List.range ks.length).map (fun j : Nat => lo + Int.ofNat j)
theorem tabW_spec {σ : Type} {X : Cx} {G : Gx} {nL pc : Nat} {enc : σ → va_W} {D : PT σ} {L : Lc} {r : List Value} {s : σ} {x : Int32} :
    ∀ (cs : List (Int32 × PT σ)) (tgts : List Nat), sndAll X G nL enc tgts cs → tabW cs D x L r s → (∃ (j : Nat) (k : Int32) (P : PT σ) (t : Nat), cs[j]? = some (k, P) ∧ tgts[j]? = some t ∧ x = k ∧ Snd X G nL enc t P ∧ P L r s) ∨ ((∀ q ∈ cs, ¬ x = q.1) ∧ D L r s) := by
  intro cs
  induction cs with
  | nil => intro tgts _ h; exact Or.inr ⟨fun q hq => (by cases hq), h⟩
  | cons q cs ih =>
    intro tgts hs h
    cases tgts with
    | nil => exact hs.elim
    | cons t ts =>
      obtain ⟨k, P⟩ := q
      obtain ⟨hs1, hs2⟩ := hs
      by_cases e : x = k
      · exact Or.inl ⟨0, k, P, t, rfl, rfl, e, hs1, h.1 e⟩
      · rcases ih ts hs2 (h.2 e) with ⟨j, k', P', t', a, b, c, d, e'⟩ | ⟨a, b⟩
        · exact Or.inl ⟨j + 1, k', P', t', a, b, c, d, e'⟩
        · refine Or.inr ⟨fun q hq => ?_, b⟩
          rcases List.mem_cons.mp hq with rfl | hq
          · exact e
          · exact a q hq
theorem s_tab {σ : Type} {X : Cx} {G : Gx} {nL : Nat} {enc : σ → va_W} {cc : ByteArray} {Ts : List Cond} {own : String} {rm : Room} (C : OkX X G cc nL Ts own rm) {pc len : Nat} {lo hi dflt : Int} {offs : Array Int} {cs : List (Int32 × PT σ)} {D : PT σ} (tgt : Nat) (tgts : List Nat)
    (hd : decode cc pc = .ok (.tableswitch dflt lo hi offs, len)) (hdf : (pc : Int) + dflt = (tgt : Int)) (hof : tabOff pc offs.toList tgts = true) (hk : tabKeys lo (cs.map (·.1)) = true) (hhi : hi = lo + (cs.length : Int) - 1) (hlen : tgts.length = cs.length) (hD' : Snd X G nL enc tgt D) (hcs : sndAll X G nL enc tgts cs) : Snd X G nL enc pc (wTab cs D) := by
  intro H locs ls L st s hl hP hD hS hw
  unfold wTab at hw
  split at hw
  · rename_i x r
    have hk1 : (cs.map (·.1)).map Int32.toInt = (List.range (cs.map (·.1)).length).map (fun j : Nat => lo + Int.ofNat j) := by simpa [tabKeys] using hk
    have hof1 : offs.toList.map (fun o => (pc : Int) + o) = tgts.map Int.ofNat := by simpa [tabOff] using hof
    rcases tabW_spec (pc := pc) cs tgts hcs hw with ⟨j, k, P, t, e1, e2, e3, hs, hp⟩ | ⟨hno, hdw⟩
    · have hj : j < cs.length := (List.getElem?_eq_some_iff.mp e1).1
      have hkj : k.toInt = lo + (j : Int) := by
        have := congrArg (fun l => l[j]?) hk1
        simp [hj] at this
        have e4 : cs[j] = (k, P) := Option.some.inj ((List.getElem?_eq_getElem hj).symm.trans e1)
        rw [e4] at this
        exact this
      have hoj : ∃ o, offs.toList[j]? = some o ∧ (pc : Int) + o = (t : Int) := by
        have := congrArg (fun l => l[j]?) hof1
        simp only [List.getElem?_map, e2, Option.map_some] at this
        cases ho : offs.toList[j]? with
        | none => rw [ho] at this; cases this
        | some o => rw [ho] at this; exact ⟨o, rfl, Option.some.inj this⟩
      obtain ⟨o, ho, ht⟩ := hoj
      subst e3
      refine lv_tableIn C.1 C.2.1 hd (by omega) (by omega) (off := o) ?_ ht (hs H locs ls L _ s hl hP hD hS hp)
      rw [hkj, show (lo + (j : Int) - lo).toNat = j by omega, ← ho]
      simp
    · refine lv_tableOut C.1 C.2.1 hd ?_ hdf (hD' H locs ls L _ s hl hP hD hS hdw)
      by_cases h1 : x.toInt < lo
      · exact Or.inl h1
      · by_cases h2 : hi < x.toInt
        · exact Or.inr h2
        · exfalso
          have hj : (x.toInt - lo).toNat < cs.length := by omega
          have hg : cs[(x.toInt - lo).toNat]? = some cs[(x.toInt - lo).toNat] := List.getElem?_eq_getElem hj
          have hkj : (cs[(x.toInt - lo).toNat]).1.toInt = lo + ((x.toInt - lo).toNat : Int) := by
            have := congrArg (fun l => l[(x.toInt - lo).toNat]?) hk1
            simp [hj] at this
            omega
          exact hno _ (List.mem_of_getElem? hg) (Int32.toInt_inj.mp (by rw [hkj]; omega))
  · exact hw.elim
