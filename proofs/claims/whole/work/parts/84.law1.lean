noncomputable section
/-- the law's world: the class's object and the model -/
abbrev LW : Type := HS × MS
def encW (B : Bx) (g : Nat → Nat) (Z : LW) : va_W := encH B g Z.1 ++ encM B g Z.2
set_option maxRecDepth 20000 in
theorem frW_H (B : Bx) (g : Nat → Nat) : FrOK (encW B g) (encH B g) Prod.fst (fun Z u => (u, Z.2)) [0, 1, 2, 3, 4, 5, 6, 7, 8, 9, 10, 11, 12, 13, 14, 15, 16, 17, 18, 19, 20, 21, 22, 23, 24, 25] [26, 27, 28, 29, 30, 31, 32, 33, 34, 35, 36, 37, 38, 39, 40, 41, 42, 43, 44, 45, 46, 47, 48, 49, 50, 51] [26, 27, 28, 29, 30, 31, 32, 33, 34, 35, 36, 37, 38, 39, 40, 41, 42, 43, 44, 45, 46, 47, 48, 49, 50, 51, 0, 1, 2, 3, 4, 5, 6, 7, 8, 9, 10, 11, 12, 13, 14, 15, 16, 17, 18, 19, 20, 21, 22, 23, 24, 25] := ⟨fun _ => rfl, rfl, rfl, by decide, rfl, fun Z => ⟨encM B g Z.2, rfl, fun _ => rfl⟩⟩
set_option maxRecDepth 20000 in
theorem frW_M (B : Bx) (g : Nat → Nat) : FrOK (encW B g) (encM B g) Prod.snd (fun Z u => (Z.1, u)) [26, 27, 28, 29, 30, 31, 32, 33, 34, 35, 36, 37, 38, 39, 40, 41, 42, 43, 44, 45, 46, 47, 48, 49, 50, 51] [0, 1, 2, 3, 4, 5, 6, 7, 8, 9, 10, 11, 12, 13, 14, 15, 16, 17, 18, 19, 20, 21, 22, 23, 24, 25] [0, 1, 2, 3, 4, 5, 6, 7, 8, 9, 10, 11, 12, 13, 14, 15, 16, 17, 18, 19, 20, 21, 22, 23, 24, 25, 26, 27, 28, 29, 30, 31, 32, 33, 34, 35, 36, 37, 38, 39, 40, 41, 42, 43, 44, 45, 46, 47, 48, 49, 50, 51] := ⟨fun _ => rfl, rfl, rfl, by decide, rfl, fun Z => ⟨encH B g Z.1, rfl, fun _ => rfl⟩⟩
/-- what holds in the law's body, from its entry on -/
def LwC (p : Program) (s : State) (m : MethodId) (meth : Method) (c : Code) (b L : Nat) (xs : Nat → Int32) (B : Bx) : Prop :=
  p.tables.exec = Jvm.exec ∧ c.code = code ∧ c.maxLocals = 4 ∧ s.vm.findClass RL = some m.cls ∧ (∀ w ∈ lw_tbl, w.before #[Value.ref b] s = true) ∧ va_X b L xs s s.heap ∧ b < s.heap.size ∧ meth.locks = false ∧ meth.sig.returnType = ret ∧ va_K B.1 vwCl (tyG (gx B)) s ∧ EnvS (gx B) (fun q : Nat => s.heap.size ≤ q) s s.heap
theorem lawV {p : Program} {l : Launch} {e : Env} {s : State} {m : MethodId} {below : List Frame} {meth : Method} {c : Code} {b L : Nat} {xs : Nat → Int32} {B : Bx} (LC : LwC p s m meth c b L xs B) {g : Nat → Nat} {Q : State → Prop} {cells slots : Nat} {σc : Type} {encC : σc → va_W} {get : LW → σc} {set : LW → σc → LW} {isC isR perm : List Nat} (hFr : FrOK (encW B g) encC get set isC isR perm)
    {y : MethodName} {CN : String} {ws ws' : List Cond} {bytes : ByteArray} {maxL index n pc : Nat} {ret : Option FieldType} {rmc : Room} {F : CF σc} (hM : MtF (gx B) y ws rmc encC F) (hg : GoodIn lw_tbl (wsV RL index CN y ws)) (hw0 : ws = Cond.code y bytes maxL ret :: ws')
    (hd : y.cls = CN ∧ y.cls ≠ "java/lang/invoke/MethodHandle" ∧ y.cls ≠ "java/lang/invoke/VarHandle" ∧ (parseMethodDescriptor y.desc).map (fun d => d.parameters.length) = some n) (hc0 : rmc.cells = 0 ∧ rmc.slots = 0) (hR : rmc.frames + 1 ≤ room_1.frames ∧ 8 + (maxL + 11) + rmc.locals ≤ room_1.locals)
    {T : u_T} {N ci q0 b0 : Nat} (hci : vwCl[ci]? = some (CN, T, N)) (hrecv : ∀ Z, ∃ fs, (encW B g Z)[q0]? = some (b0, .inr (ci, fs)))
    (As : List Value) (hlen : As.length = n) (Z : LW) (hpre : F.1 (.ref b0 :: As) (get Z)) {H : Heap} {locs : List Loc} {ls : Array Slot} {rest st : List Value} (hP : va_P B.1 vwCl (encW B g Z) H) (hD : va_D (fun q : Nat => s.heap.size ≤ q) (encW B g Z)) (hS : va_S (fun q : Nat => s.heap.size ≤ q) s.heap H locs)
    (hls : ls.size = 4) (hro : restOK rest) (hst : st = As.reverse ++ .ref b0 :: rest) (hdg : decode code pc = .ok (.invokevirtual index, 3)) (hcs : cells ≤ room_1.cells) (hsl : slots ≤ room_1.slots)
    (kk : ∀ (H1 : Heap) (locs1 : List Loc), va_P B.1 vwCl (encW B g (set Z (F.2.2 (.ref b0 :: As) (get Z)))) H1 → va_D (fun q : Nat => s.heap.size ≤ q) (encW B g (set Z (F.2.2 (.ref b0 :: As) (get Z)))) → va_S (fun q : Nat => s.heap.size ≤ q) s.heap H1 locs1 →
      W p l e room_1 s m #[Value.ref b] below meth c H1 locs1 cells slots Q (F0 m (pc + 3) ls ((F.2.1 (.ref b0 :: As) (get Z)).toList ++ rest))) : W p l e room_1 s m #[Value.ref b] below meth c H locs cells slots Q (F0 m pc ls st) := by
  obtain ⟨hx, hb, hml, hown, hts, -, -, hlocks, -, hK, hE⟩ := id LC
  obtain ⟨hC, hn0, hn1, hdis, hn2, hrest⟩ := id hFr
  have hA : ∀ q : Nat, s.heap.size ≤ q → (fun q : Nat => s.heap.size ≤ q) q := fun _ h => h
  have hEH := (hE.kept hS.2.1).narrow (va_free hD hS hA isC (hC Z))
  obtain ⟨fs, hfs⟩ := hrecv Z
  have hPc := hP.sub isC (map_fm isC (hC Z))
  have hDc := hD.sub isC hn0 (hC Z)
  have hF := va_free hD hS hA isC (hC Z)
  have hr := va_runV (p := p) (l := l) (e := e) (R := room_1) (s := s) (m := m) (below := below) (meth := meth) (locs := locs) (cells := cells) (slots := slots) (g := F0 m pc ls st) (As := As) (rest := rest) (n := n) ⟨hx, hb, hml, hown, hts⟩ (hM l _ (get Z) hpre H.size) (cwV n hts hg hw0 hc0.1 hc0.2 hd hR) ⟨fun a U g mk q => by obtain ⟨q0, q1, qP, qK, qD, qE⟩ := q; exact ⟨q0, q1, qP, va_K.moved (u := U) (U := U.calling g mk a) (Vm.Alike.refl U.vm) qK, qD, EnvS.same (s := U) (U := U.calling g mk a) rfl qE⟩, va_recv hK hP hci hfs, fun U hU hW => ⟨rfl, by rw [hU], by rw [hU]; exact hPc, va_K.moved hW.alike hK, hDc.weaken (fun _ _ _ _ => trivial), by rw [hU]; exact hEH.warm hW⟩⟩ rfl hlen hls hst (lv_room (restOK_le hro)) hdg ⟨hcs, hsl⟩
  intro T0 hT X0
  obtain ⟨wr, hRr, hperm⟩ := hrest Z
  obtain ⟨v, st₀, t, T', Lx, h0, X', hL, e1, e2, ⟨⟨o1, u, hv, ⟨ho, hu⟩, hP1, hK1, hD1⟩, hz, hk⟩, stp⟩ := hr T0 hT X0
  subst ho; subst hu
  cases hv
  rw [h0] at hz hk
  rw [← e1] at hP1 hz hk
  obtain ⟨hP2, hD2⟩ := va_join hP hD isC isR (hC Z) hRr hn1 hdis (fun q h1 h2 => hk q h1 h2) hF hP1 hD1
  have hP3 := hP2.sub perm (map_fm perm (hperm _))
  have hD3 := hD2.sub perm hn2 (hperm _)
  have hS3 : va_S (fun q : Nat => s.heap.size ≤ q) s.heap T'.heap (locs ++ Lx) := ⟨Nat.le_trans hS.1 hz, fun q h1 h2 => by
      rw [hk q (Nat.lt_of_lt_of_le h1 hS.1) (fun z => h2 (hF q z))]; exact hS.2.1 q h1 h2, fun q hq => by
      rcases List.mem_append.mp hq with h | h
      · exact hS.2.2 q h
      · exact hF _ (hL q h)⟩
  obtain ⟨t2, a1, b1⟩ := kk T'.heap (locs ++ Lx) hP3 hD3 hS3 T' rfl X'
  exact ⟨t2, stp t2 a1, b1⟩
/-- both answer alike, and keep to the relation -/
def pf (LI : HS → MS → Prop) (g : Nat → Nat) (F : CF HS) (G : CF MS) (as : List Value) : Prop := ∀ S M, LI S M → F.1 (.ref (g 0) :: as) S ∧ G.1 (.ref (g 30) :: as) M ∧ (∃ r : Int32, F.2.1 (.ref (g 0) :: as) S = some (.int r) ∧ G.2.1 (.ref (g 30) :: as) M = some (.int r)) ∧ LI (F.2.2 (.ref (g 0) :: as) S) (G.2.2 (.ref (g 30) :: as) M)
def PureOK (LI : HS → MS → Prop) (g : Nat → Nat) : Prop :=
  (∀ x : Int32, pf LI g (F_X3_feed g) (F_X4_feed g) [.int x]) ∧ pf LI g (F_X3_town g) (F_X4_town g) [] ∧ (∀ x y : Int32, pf LI g (F_X3_person g) (F_X4_person g) [.int x, .int y]) ∧ (∀ x y : Int32, pf LI g (F_X3_need g) (F_X4_need g) [.int x, .int y]) ∧ (∀ x y : Int32, pf LI g (F_X3_set g) (F_X4_set g) [.int x, .int y]) ∧ (∀ x y : Int32, pf LI g (F_X3_minutes g) (F_X4_minutes g) [.int x, .int y]) ∧ (∀ x y : Int32, pf LI g (F_X3_spent g) (F_X4_spent g) [.int x, .int y]) ∧ (∀ x y : Int32, pf LI g (F_X3_may g) (F_X4_may g) [.int x, .int y]) ∧ (∀ x y : Int32, pf LI g (F_X3_good g) (F_X4_good g) [.int x, .int y]) ∧ (∀ x y : Int32, pf LI g (F_X3_help g) (F_X4_help g) [.int x, .int y]) ∧ pf LI g (F_X3_back g) (F_X4_back g) [] ∧ pf LI g (F_X3_year g) (F_X4_year g) [] ∧ (∀ x y : Int32, pf LI g (F_X3_chosen g) (F_X4_chosen g) [.int x, .int y]) ∧ (∀ x y : Int32, pf LI g (F_X3_loss g) (F_X4_loss g) [.int x, .int y]) ∧ (∀ x : Int32, pf LI g (F_X3_run g) (F_X4_run g) [.int x]) ∧ (∀ x : Int32, pf LI g (F_X3_without g) (F_X4_without g) [.int x]) ∧ pf LI g (F_X3_most g) (F_X4_most g) [] ∧ pf LI g (F_X3_first g) (F_X4_first g) [] ∧ (∀ x : Int32, pf LI g (F_X3_gap g) (F_X4_gap g) [.int x]) ∧ (∀ x y : Int32, pf LI g (F_X3_worth g) (F_X4_worth g) [.int x, .int y]) ∧ (∀ x : Int32, pf LI g (F_X3_keeps g) (F_X4_keeps g) [.int x]) ∧ (∀ x y : Int32, pf LI g (F_X3_lasts g) (F_X4_lasts g) [.int x, .int y]) ∧ (∀ x y : Int32, pf LI g (F_X3_many g) (F_X4_many g) [.int x, .int y]) ∧ (∀ x y : Int32, pf LI g (F_X3_move g) (F_X4_move g) [.int x, .int y]) ∧ (∀ x : Int32, pf LI g (F_X3_bestPlace g) (F_X4_bestPlace g) [.int x]) ∧ (∀ x : Int32, pf LI g (F_X3_strangers g) (F_X4_strangers g) [.int x]) ∧ pf LI g (F_X3_smallest g) (F_X4_smallest g) [] ∧ (∀ x y : Int32, pf LI g (F_X3_byLaw g) (F_X4_byLaw g) [.int x, .int y]) ∧ (∀ x y z : Int32, pf LI g (F_X3_seeds g) (F_X4_seeds g) [.int x, .int y, .int z]) ∧ (∀ x : Int32, pf LI g (F_X3_row g) (F_X4_row g) [.int x]) ∧ pf LI g (F_X3_judge g) (F_X4_judge g) [] ∧ pf LI g (F_X3_clear g) (F_X4_clear g) [] ∧ pf LI g (F_X3_image g) (F_X4_image g) [] ∧ pf LI g (F_X3_restore g) (F_X4_restore g) [] ∧ (∀ x : Int32, pf LI g (F_X3_count g) (F_X4_count g) [.int x])
end
