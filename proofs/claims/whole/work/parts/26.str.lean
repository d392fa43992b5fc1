noncomputable section
abbrev aK (B : Bx) : Nat → Nat := B.2.2.2.1
abbrev aV (B : Bx) : Nat → Nat := B.2.2.2.2
def wNo {σ : Type} (_ : Lc) (_ : List Value) (_ : σ) : Prop := False
theorem s_no {σ : Type} {X : Cx} {G : Gx} {nL pc : Nat} {enc : σ → va_W} : Snd X G nL enc pc wNo := fun _ _ _ _ _ _ _ _ _ _ hw => hw.elim
def wSVal {σ : Type} (B : Bx) (P : PT σ) (L : Lc) (st : List Value) (s : σ) : Prop := match st with | .ref a :: r => ∃ i, i < 5 ∧ a = aK B i ∧ P L (.ref (aV B i) :: r) s | _ => False
def wSCod {σ : Type} (B : Bx) (P : PT σ) (L : Lc) (st : List Value) (s : σ) : Prop := match st with | .ref a :: r => ∃ i, i < 5 ∧ a = aK B i ∧ P L (.int 0 :: r) s | _ => False
def wSBl {σ : Type} (B : Bx) (P : PT σ) (L : Lc) (st : List Value) (s : σ) : Prop := match st with | .ref a :: r => ∃ i, i < 5 ∧ a = aV B i ∧ P L (.int (nI (lenS.getD i 0)) :: r) s | _ => False
def wSBa {σ : Type} (B : Bx) (P : PT σ) (L : Lc) (st : List Value) (s : σ) : Prop := match st with | .int k :: .ref a :: r => ∃ i, i < 5 ∧ a = aV B i ∧ vp_in k (lenS.getD i 0) ∧ P L (.int ((bytS.getD i []).getD k.toNatClampNeg 0) :: r) s | _ => False
def wFm {σ : Type} (P : PT σ) (L : Lc) (st : List Value) (s : σ) : Prop := ∀ fm : Value, (fm = .null ∨ ∃ a, fm = .ref a) → P L (fm :: st) s
def wRetN {σ : Type} (ty : FieldType) (Post : Option Value → σ → Prop) (_ : Lc) (st : List Value) (s : σ) : Prop := match st with | [.int v] => narrow ty (.int v) = .int v ∧ Post (some (.int v)) s | _ => False
section STR
variable {σ : Type} {X : Cx} {B : Bx} {nL : Nat} {enc : σ → va_W} {cc : ByteArray} {Ts : List Cond} {own : String} {rm : Room} {pc index : Nat} {P : PT σ}
theorem s_sval (C : OkX X (gx B) cc nL Ts own rm) (hlink : Cond.fieldLink own index "java/lang/String" "value" "[B" ∈ Ts) (hd : decode cc pc = .ok (.getfield index, 3)) (hn : Snd X (gx B) nL enc (pc + 3) P) : Snd X (gx B) nL enc pc (wSVal B P) := by
  intro H locs ls L st s hl hP hD hS hw
  unfold wSVal at hw
  split at hw
  · obtain ⟨i, hi, rfl, hw⟩ := hw
    exact vk_getf C.1 C.2.1 (C.2.2.2.2.2.2.2.2.2.1.1 i hi).2.2.1 hS C.2.2.2.1 (C.2.2.2.2.1 _ hlink) (fun _ h => h) hd (hn H locs ls L _ s hl hP hD hS hw)
  · exact hw.elim
theorem s_scod (C : OkX X (gx B) cc nL Ts own rm) (hlink : Cond.fieldLink own index "java/lang/String" "coder" "B" ∈ Ts) (hd : decode cc pc = .ok (.getfield index, 3)) (hn : Snd X (gx B) nL enc (pc + 3) P) : Snd X (gx B) nL enc pc (wSCod B P) := by
  intro H locs ls L st s hl hP hD hS hw
  unfold wSCod at hw
  split at hw
  · obtain ⟨i, hi, rfl, hw⟩ := hw
    exact vk_getf C.1 C.2.1 (C.2.2.2.2.2.2.2.2.2.1.1 i hi).2.1 hS C.2.2.2.1 (C.2.2.2.2.1 _ hlink) (fun _ h => h) hd (hn H locs ls L _ s hl hP hD hS hw)
  · exact hw.elim
theorem s_sbl (C : OkX X (gx B) cc nL Ts own rm) (hd : decode cc pc = .ok (.arraylength, 1)) (hn : Snd X (gx B) nL enc (pc + 1) P) : Snd X (gx B) nL enc pc (wSBl B P) := by
  intro H locs ls L st s hl hP hD hS hw
  unfold wSBl at hw
  split at hw
  · obtain ⟨i, hi, rfl, hw⟩ := hw
    exact va_tlen C.1 C.2.1 (C.2.2.2.2.2.2.2.2.2.1.1 i hi).2.2.2 hS rfl hd (hn H locs ls L _ s hl hP hD hS hw)
  · exact hw.elim
theorem s_sba (C : OkX X (gx B) cc nL Ts own rm) (hd : decode cc pc = .ok (.baload, 1)) (hn : Snd X (gx B) nL enc (pc + 1) P) : Snd X (gx B) nL enc pc (wSBa B P) := by
  intro H locs ls L st s hl hP hD hS hw
  unfold wSBa at hw
  split at hw
  · obtain ⟨i, hi, rfl, hk, hw⟩ := hw
    exact va_tb C.1 C.2.1 (C.2.2.2.2.2.2.2.2.2.1.1 i hi).2.2.2 hS hk rfl hd (hn H locs ls L _ s hl hP hD hS hw)
  · exact hw.elim
theorem s_cs (C : OkX X (gx B) cc nL Ts own rm) (hlink : Cond.fieldLink own index "java/lang/String" "COMPACT_STRINGS" "Z" ∈ Ts) (hd : decode cc pc = .ok (.getstatic index, 3)) (hn : Snd X (gx B) nL enc (pc + 3) P) : Snd X (gx B) nL enc pc (wK (.int 1) P) := by
  intro H locs ls L st s hl hP hD hS hw
  exact va_gets C.1 C.2.1 C.2.2.2.2.2.2.2.2.2.2.2.1 hS C.2.2.2.1 (C.2.2.2.2.1 _ hlink) (fun _ h => h) hd (hn H locs ls L _ s hl hP hD hS hw)
theorem s_fm (C : OkX X (gx B) cc nL Ts own rm) (hlink : Cond.fieldLink own index "jdk/internal/util/Preconditions" "SIOOBE_FORMATTER" "Ljava/util/function/BiFunction;" ∈ Ts) (hd : decode cc pc = .ok (.getstatic index, 3)) (hn : Snd X (gx B) nL enc (pc + 3) P) : Snd X (gx B) nL enc pc (wFm P) := by
  intro H locs ls L st s hl hP hD hS hw
  obtain ⟨fm, hn0, hfm⟩ := C.2.2.2.2.2.2.2.2.2.2.2.2.2
  exact va_gets C.1 C.2.1 hfm hS C.2.2.2.1 (C.2.2.2.2.1 _ hlink) (fun _ h => h) hd (hn H locs ls L _ s hl hP hD hS (hw fm hn0))
theorem s_i2c (C : OkX X (gx B) cc nL Ts own rm) (hd : decode cc pc = .ok (.i2c, 1)) (hn : Snd X (gx B) nL enc (pc + 1) P) : Snd X (gx B) nL enc pc (wU (fun x => (x.toUInt32 % 65536).toInt32) P) := by
  intro H locs ls L st s hl hP hD hS hw
  unfold wU at hw
  split at hw
  · exact lv_i2c C.1 C.2.1 hd rfl (hn H locs ls L _ s hl hP hD hS hw)
  · exact hw.elim
theorem s_ishr (C : OkX X (gx B) cc nL Ts own rm) (hd : decode cc pc = .ok (.ishr, 1)) (hn : Snd X (gx B) nL enc (pc + 1) P) : Snd X (gx B) nL enc pc (wB (fun x y => x >>> (y &&& 31)) P) := by
  intro H locs ls L st s hl hP hD hS hw
  unfold wB at hw
  split at hw
  · exact lv_ishr C.1 C.2.1 hd (hn H locs ls L _ s hl hP hD hS hw)
  · exact hw.elim
theorem s_ldcS (C : OkX X (gx B) cc nL Ts own rm) {i : Nat} (hown : own = "HelpedOnlyOnce$Letters") (hi : i < 5) (hd : decode cc pc = .ok (.ldc (idxS.getD i 0), 2)) (hn : Snd X (gx B) nL enc (pc + 2) P) : Snd X (gx B) nL enc pc (wK (.ref (aK B i)) P) := by
  intro H locs ls L st s hl hP hD hS hw
  subst hown
  exact va_ldcS C.1 C.2.1 C.2.2.2.1 (C.2.2.2.2.2.2.2.2.2.2.1 i hi) hd (hn H locs ls L _ s hl hP hD hS hw)
theorem s_nret (C : OkX X (gx B) cc nL Ts own rm) {ty : FieldType} {Post : Option Value → σ → Prop} (hR : RtX X (gx B) (some ty) enc Post) (hd : decode cc pc = .ok (.ireturn, 1)) : Snd X (gx B) nL enc pc (wRetN ty Post) := by
  intro H locs ls L st s hl hP hD hS hw
  obtain ⟨hr, hq⟩ := hR
  rw [hq]
  unfold wRetN at hw
  split at hw
  · obtain ⟨hv, hw⟩ := hw
    exact W.zret C.1 C.2.1 hr hv (fun t ht hW => ⟨⟨_, s, rfl, hw, by rw [ht]; exact hP, va_K.moved hW.alike C.2.2.2.2.2.1, hD⟩, hS.F ht⟩) hS.2.2 hd C.2.2.2.2.2.2.2.1
  · exact hw.elim
end STR
def wStr {σ : Type} (n : Nat) (F : Nat → CF Unit) (P : PT σ) (L : Lc) (st : List Value) (s : σ) : Prop := ∃ i, i < 5 ∧ wCallR n (F i) (fun _ => ()) (fun s _ => s) P L st s
/-- a virtual call on a String constant -/
theorem s_callK {σ σc : Type} {X : Cx} {B : Bx} {nL : Nat} {enc : σ → va_W} {encC : σc → va_W} {cc : ByteArray} {Ts : List Cond} {own : String} {rm rmc : Room} (C : OkX X (gx B) cc nL Ts own rm) {get : σ → σc} {set : σ → σc → σ} {isC isR perm : List Nat} (hFr : FrOK enc encC get set isC isR perm)
    {y : MethodName} {ws ws' : List Cond} {bytes : ByteArray} {maxL index n pc : Nat} {ret : Option FieldType} {F : CF σc} (hM : MtF (gx B) y ws rmc encC F) (hg : GoodIn Ts (wsV own index "java/lang/String" y ws)) (hw0 : ws = Cond.code y bytes maxL ret :: ws')
    (hd : y.cls = "java/lang/String" ∧ y.cls ≠ "java/lang/invoke/MethodHandle" ∧ y.cls ≠ "java/lang/invoke/VarHandle" ∧ (parseMethodDescriptor y.desc).map (fun d => d.parameters.length) = some n) (hc0 : rmc.cells = 0 ∧ rmc.slots = 0) (hR : rmc.frames + 1 ≤ rm.frames ∧ 8 + (maxL + 11) + rmc.locals ≤ rm.locals)
    {i : Nat} (hi : i < 5) (hrf : ∀ av s, F.1 av s → ∃ As, av = .ref (aK B i) :: As ∧ As.length = n)
    {P : PT σ} (hdg : decode cc pc = .ok (.invokevirtual index, 3)) (hn : Snd X (gx B) nL enc (pc + 3) P) : Snd X (gx B) nL enc pc (wCallR (n + 1) F get set P) := by
  intro H locs ls L st s hl hP hD hS hw
  obtain ⟨hro, hpre, hw⟩ := hw
  obtain ⟨As, hav, hlen⟩ := hrf _ _ hpre
  obtain ⟨hx, hb, hml, hown, hts, hK, hA, hlocks, hxR, hE⟩ := id C
  have hEH := (hE.kept hS.2.1).narrow (va_free hD hS hA isC (hFr.1 s))
  have hstk : st = As.reverse ++ .ref (aK B i) :: st.drop (n + 1) := by
    conv => lhs; rw [st_split st (n + 1), hav]
    simp
  have hPc := hP.sub isC (map_fm isC (hFr.1 s))
  have hDc := hD.sub isC hFr.2.1 (hFr.1 s)
  refine after_call C hFr hn hl hP hD hS (st0 := st) (rest := st.drop (n + 1)) (av := (Value.ref (aK B i) :: As).toArray) (o := F.2.1 (st.take (n + 1)).reverse (get s)) (u0 := F.2.2 (st.take (n + 1)).reverse (get s)) ?_ hw
  refine va_runV (As := As) (rest := st.drop (n + 1)) (n := n) ⟨hx, hb, hml, hown, hts⟩ (hM (xl X) _ (get s) hpre H.size) (cwV n hts hg hw0 hc0.1 hc0.2 hd (by rw [hxR]; exact hR)) ⟨?_, vk_recv hE.1 hi hS, ?_⟩ rfl hlen hl.1 hstk (lv_room (restOK_le hro)) hdg ⟨Nat.zero_le _, Nat.zero_le _⟩
  · exact fun a U g mk q => by obtain ⟨q0, q1, qP, qK, qD, qE⟩ := q; exact ⟨q0, q1, qP, va_K.moved (u := U) (U := U.calling g mk a) (Vm.Alike.refl U.vm) qK, qD, EnvS.same (s := U) (U := U.calling g mk a) rfl qE⟩
  · exact fun U hU hW => ⟨by rw [hav], by rw [hU], by rw [hU]; exact hPc, va_K.moved hW.alike hK, hDc.weaken (fun _ _ _ _ => trivial), by rw [hU]; exact hEH.warm hW⟩
theorem Snd.ex' {σ α : Type} {X : Cx} {G : Gx} {nL pc : Nat} {enc : σ → va_W} {P : α → PT σ} (h : ∀ a, Snd X G nL enc pc (P a)) : Snd X G nL enc pc (fun L st s => ∃ a, P a L st s) :=
  fun H locs ls L st s hl hP hD hS hw => h hw.choose H locs ls L st s hl hP hD hS hw.choose_spec
theorem s_strK {σ : Type} {X : Cx} {B : Bx} {nL : Nat} {enc : σ → va_W} {cc : ByteArray} {Ts : List Cond} {own : String} {rm rmc : Room} (C : OkX X (gx B) cc nL Ts own rm) {isR perm : List Nat} (hFr : FrOK enc encE (fun _ => ()) (fun s _ => s) [] isR perm)
    {y : MethodName} {ws ws' : List Cond} {bytes : ByteArray} {maxL index n pc : Nat} {ret : Option FieldType} {F : Nat → CF Unit} (hM : ∀ i, i < 5 → MtF (gx B) y ws rmc encE (F i)) (hg : GoodIn Ts (wsV own index "java/lang/String" y ws)) (hw0 : ws = Cond.code y bytes maxL ret :: ws')
    (hd : y.cls = "java/lang/String" ∧ y.cls ≠ "java/lang/invoke/MethodHandle" ∧ y.cls ≠ "java/lang/invoke/VarHandle" ∧ (parseMethodDescriptor y.desc).map (fun d => d.parameters.length) = some n) (hc0 : rmc.cells = 0 ∧ rmc.slots = 0) (hR : rmc.frames + 1 ≤ rm.frames ∧ 8 + (maxL + 11) + rmc.locals ≤ rm.locals)
    (hrf : ∀ i av s, (F i).1 av s → ∃ As, av = .ref (aK B i) :: As ∧ As.length = n)
    {P : PT σ} (hdg : decode cc pc = .ok (.invokevirtual index, 3)) (hn : Snd X (gx B) nL enc (pc + 3) P) : Snd X (gx B) nL enc pc (wStr (n + 1) F P) :=
  Snd.ex' (fun i => Snd.imp (fun hi => s_callK C hFr (hM i hi) hg hw0 hd hc0 hR hi (hrf i) hdg hn))
theorem s_strS {σ : Type} {X : Cx} {B : Bx} {nL : Nat} {enc : σ → va_W} {cc : ByteArray} {Ts : List Cond} {own : String} {rm rmc : Room} (C : OkX X (gx B) cc nL Ts own rm) {isR perm : List Nat} (hFr : FrOK enc encE (fun _ => ()) (fun s _ => s) [] isR perm)
    {y : MethodName} {ws ws' : List Cond} {bytes : ByteArray} {maxL index n pc : Nat} {ret : Option FieldType} {F : Nat → CF Unit} (hM : ∀ i, i < 5 → MtF (gx B) y ws rmc encE (F i)) (hg : GoodIn Ts (va_wsS own index y ws)) (hw0 : ws = Cond.code y bytes maxL ret :: ws')
    (hd : y.cls ≠ "java/lang/invoke/MethodHandle" ∧ y.cls ≠ "java/lang/invoke/VarHandle" ∧ (parseMethodDescriptor y.desc).map (fun d => d.parameters.length) = some n) (hc0 : rmc.cells = 0 ∧ rmc.slots = 0) (hR : rmc.frames + 1 ≤ rm.frames ∧ 8 + (maxL + 11) + rmc.locals ≤ rm.locals)
    (hrf : ∀ i av s, (F i).1 av s → av.length = n)
    {P : PT σ} (hdg : decode cc pc = .ok (.invokestatic index, 3)) (hn : Snd X (gx B) nL enc (pc + 3) P) : Snd X (gx B) nL enc pc (wStr n F P) :=
  Snd.ex' (fun i => Snd.imp (fun hi => s_callS C hFr (hM i hi) hg hw0 hd hc0 hR (hrf i) hdg hn))
/-- a static call of a nest mate -/
theorem s_callSN {σ σc : Type} {X : Cx} {G : Gx} {nL : Nat} {enc : σ → va_W} {encC : σc → va_W} {cc : ByteArray} {Ts : List Cond} {own : String} {rm rmc : Room} (C : OkX X G cc nL Ts own rm) {get : σ → σc} {set : σ → σc → σ} {isC isR perm : List Nat} (hFr : FrOK enc encC get set isC isR perm)
    {y : MethodName} {ws ws' : List Cond} {bytes : ByteArray} {maxL index n pc : Nat} {ret : Option FieldType} {F : CF σc} (hM : MtF G y ws rmc encC F) (hg : GoodIn Ts ws) (hnest : (own, index, y) ∈ nestL) (hini : Cond.initialized y.cls ∈ Ts) (hst : Cond.static y ∈ Ts) (hw0 : ws = Cond.code y bytes maxL ret :: ws')
    (hd : y.cls ≠ "java/lang/invoke/MethodHandle" ∧ y.cls ≠ "java/lang/invoke/VarHandle" ∧ (parseMethodDescriptor y.desc).map (fun d => d.parameters.length) = some n) (hc0 : rmc.cells = 0 ∧ rmc.slots = 0) (hR : rmc.frames + 1 ≤ rm.frames ∧ 8 + (maxL + 11) + rmc.locals ≤ rm.locals)
    (hrf : ∀ av s, F.1 av s → av.length = n)
    {P : PT σ} (hdg : decode cc pc = .ok (.invokestatic index, 3)) (hn : Snd X G nL enc (pc + 3) P) :
    Snd X G nL enc pc (wCallR n F get set P) := by
  intro H locs ls L st s hl hP hD hS hw
  obtain ⟨hro, hpre, hw⟩ := hw
  have hlen := hrf _ _ hpre
  obtain ⟨hx, hb, hml, hown, hts, hK, hA, hlocks, hxR, hE⟩ := id C
  have hEH := (hE.kept hS.2.1).narrow (va_free hD hS hA isC (hFr.1 s))
  have hstk : st = (st.take n).reverse.reverse ++ st.drop n := st_split st n
  have hPc := hP.sub isC (map_fm isC (hFr.1 s))
  have hDc := hD.sub isC hFr.2.1 (hFr.1 s)
  refine after_call C hFr hn hl hP hD hS (st0 := st) (rest := st.drop n) (av := (st.take n).reverse.toArray) (o := F.2.1 (st.take n).reverse (get s)) (u0 := F.2.2 (st.take n).reverse (get s)) ?_ hw
  refine va_runSN (As := (st.take n).reverse) (rest := st.drop n) (n := n) ⟨hx, hb, hml, hown, hts⟩ (hM (xl X) _ (get s) hpre H.size) ⟨va_cnB n hts hg hw0 hc0.1 hc0.2 (hE.2.2.2.1 _ hnest) (hts _ hini) hd (by rw [hxR]; exact hR), hts _ hst, trivial⟩ ⟨?_, ?_⟩ rfl hlen hl.1 hstk (lv_room (restOK_le hro)) hdg ⟨Nat.zero_le _, Nat.zero_le _⟩
  · exact fun a U g mk q => by obtain ⟨q0, q1, qP, qK, qD, qE⟩ := q; exact ⟨q0, q1, qP, va_K.moved (u := U) (U := U.calling g mk a) (Vm.Alike.refl U.vm) qK, qD, EnvS.same (s := U) (U := U.calling g mk a) rfl qE⟩
  · exact fun U hU hW => ⟨rfl, by rw [hU], by rw [hU]; exact hPc, va_K.moved hW.alike hK, hDc.weaken (fun _ _ _ _ => trivial), by rw [hU]; exact hEH.warm hW⟩
end
