noncomputable section
theorem va_newN {p : Program} {l : Launch} {e : Env} {R : Room} {s : State} {m : MethodId} {args : Array Value} {below : List Frame} {meth : Method} {c : Code} {H : Heap} {locs : List Loc} {cells slots : Nat} {Q : State → Prop} {pc : Nat} {ls : Array Slot} {rest : List Value} {A : Nat → Prop} {H0 : Heap} {D : va_G} {cl : List vw_C} {ws : va_W} {tys : List (ClassId × FieldType)} {cc : ByteArray}
    (hexec : p.tables.exec = Jvm.exec) (hb : c.code = cc) {atype : ArrayType} {ty : FieldType} (harr : (Cond.arrayClass ty).before args s = true) (hty : newarray.typeOf atype = ty) (hK : va_K D cl tys s) (hP : va_P D cl ws H) (hD : va_D A ws) (hS : va_S A H0 H locs) (hA : ∀ q, H0.size ≤ q → A q)
    {cA : ClassId} (t0 : Nat) (ht : tys[t0]? = some (cA, ty)) (hra : va_RA s cA ty → s.vm.findClass ("[" ++ ty.toString) = some cA) {n : Int32} (N' : Nat) {a0 : vp_A} (ha : vp_cell cA a0 = arrV cA N' (fun _ => defaultValue ty)) (hn : ¬ n < 0) (hN : n.toNatClampNeg = N') (hbytes : N' * componentBytes ty ≤ 536870912) (hcells : cells + 1 ≤ R.cells) (hslots : slots + N' ≤ R.slots) (hdg : decode cc pc = .ok (.newarray atype, 2))
    (kk : ∀ (q : Nat) (H1 : Heap), va_P D cl (ws ++ [(q, .inl (cA, a0))]) H1 → va_D A (ws ++ [(q, .inl (cA, a0))]) → va_S A H0 H1 locs →
      W p l e R s m args below meth c H1 locs (cells + 1) (slots + N') Q (F0 m (pc + 2) ls (.ref q :: rest))) : W p l e R s m args below meth c H locs cells slots Q (F0 m pc ls (.int n :: rest)) := by
  subst hty
  refine va_newaK hexec hb harr rfl hdg rfl hn hN hbytes hcells hslots rfl fun H1 cB e1 z1 o1 hAr hNm => ?_
  have hcB : cB = cA := Option.some.inj (hNm.symm.trans (hra (hK.2 t0 _ ht).2))
  subst hcB
  have hk : ∀ (k : Nat) (x : Nat × va_E), ws[k]? = some x → H1[x.1]? = H[x.1]? := fun k x hx => o1 x.1 ((hP k x hx).lt)
  refine kk H.size H1 ((hP.kept hk).app (fun k x hx => ?_)) (hD.push hP rfl (hA _ hS.1)) ⟨Nat.le_trans hS.1 (by omega), fun x h1 h2 => (o1 x (Nat.lt_of_lt_of_le h1 hS.1)).trans (hS.2.1 x h1 h2), hS.2.2⟩
  have hz : k < 1 := (List.getElem?_eq_some_iff.mp hx).1
  rw [show k = 0 by omega] at hx
  cases hx
  show H1[H.size]? = some (vp_cell _ _)
  rw [ha]
  exact e1
theorem inw_X0_init_X0 : ∀ w ∈ u_ws RX0 TX0 2, w ∈ wsX0_init := by decide +kernel
abbrev at_X0 (B : Bx) (A : Nat → Prop) (h0 : Nat) (t : State) : Prop := ∃ q0 : Nat, va_P B.1 vwCl [(h0, .inr (0, [.ref q0, .int 0])), (q0, .inl (B.2.1, 64, (.inl fun _ => 0)))] t.heap ∧ va_K B.1 vwCl (tyG (gx B)) t ∧ va_D A [(h0, .inr (0, [.ref q0, .int 0])), (q0, .inl (B.2.1, 64, (.inl fun _ => 0)))]
set_option maxHeartbeats 4000000 in
set_option maxRecDepth 100000 in
theorem c_X0_init (l : Launch) (B : Bx) (h0 : Nat) (sz : Nat) : Met l yX0_init wsX0_init ({ frames := 1, cells := 1, slots := 64, locals := 12 }) (va_Pc [.ref h0] (fun U => U.heap.size = sz ∧ va_P B.1 vwCl [(h0, .inr (0, [.null, .int 0]))] U.heap ∧ va_K B.1 vwCl (tyG (gx B)) U ∧ va_D (fun _ => True) [(h0, .inr (0, [.null, .int 0]))])) (va_Qv (fun _ : Unit => True) (fun _ t => at_X0 B (va_A [(h0, .inr (0, [.null, .int 0]))] sz) h0 t) (va_A [(h0, .inr (0, [.null, .int 0]))] sz)) 1 64 (va_A [(h0, .inr (0, [.null, .int 0]))] sz) := by
  refine Met.ofW (cc := cX0_init) (maxL := 1) (ret := none) (by decide) rfl ?_
  intro p e s m args below meth c s₁ B0 hml hv
  obtain ⟨rfl, hsz, hP, hK, hD0⟩ := hv
  have hx := B0.exec
  have hb := B0.bytes
  have hr := B0.returns
  have hts := atoms_spec (ws := wsX0_init) B0.pre
  have hown : s.vm.findClass RX0 = some m.cls := findClass_of_methodNamed B0.named
  have hlocks := B0.notSynchronized
  have hin : meth.name = "<init>" := (name_of_methodNamed B0.named B0.method).1
  subst hsz
  have hD := hD0.self (sz := s.heap.size)
  generalize hAe : va_A [(h0, .inr (0, [.null, .int 0]))] s.heap.size = A at hD ⊢
  have hA : ∀ q : Nat, s.heap.size ≤ q → A q := fun q h => by rw [← hAe]; exact Or.inr h
  have hS : va_S A s.heap s.heap [] := va_S.rf
  have hP : va_P B.1 vwCl [(h0, .inr (0, [.null, .int 0]))] s.heap := hP
  have hl := lv_entry ([.ref h0]) (n := 1) (Nat.le_of_ble_eq_true rfl)
  rw [lg_entry_eq]
  generalize (lg_sl ([.ref h0]) ++ List.replicate (1 - (lg_sl ([.ref h0])).length) Slot.unset).toArray = ls at hl ⊢
  have hl : lv_has ls 1 [(0, .ref h0)] := hl
  refine lv_aload_n hx hb dX0_init_0 rfl (lv_at hl 0 rfl) ?_
  refine W.objInit hx hb hown (hts (.methodLink RX0 3 objectInit) (by decide +kernel)) (hts (.instanceMethod objectInit) (by decide +kernel)) (hts (.code objectInit ⟨#[0xb1]⟩ 1 none) (List.mem_of_getElem? (i := 3) rfl)) rfl (by rw [hml]; exact hl.1) rfl dX0_init_1 (Nat.le_of_ble_eq_true rfl) (Nat.le_of_ble_eq_true rfl) ?_
  refine W.eq (g2 := F0 m 4 ls []) rfl ?_
  refine lv_aload_n hx hb dX0_init_4 rfl (lv_at hl 0 rfl) ?_
  refine lv_bipush (v := 64) hx hb dX0_init_5 (by decide) ?_
  refine va_newN (atype := .int) (ty := .int) (cA := B.2.1) (a0 := (64, (.inl fun _ => 0))) hx hb (hts (.arrayClass .int) (by decide +kernel)) rfl hK hP hD hS hA 0 rfl (fun h => h) 64 rfl (by decide) (by decide) (Nat.le_of_ble_eq_true rfl) (Nat.le_of_ble_eq_true rfl) (Nat.le_of_ble_eq_true rfl) dX0_init_7 (fun q0 H hP hD hS => ?_)
  have hP : va_P B.1 vwCl [(h0, .inr (0, [.null, .int 0])), (q0, .inl (B.2.1, 64, (.inl fun _ => 0)))] H := hP
  have hD : va_D A [(h0, .inr (0, [.null, .int 0])), (q0, .inl (B.2.1, 64, (.inl fun _ => 0)))] := hD
  refine W.widen (k := 1) (n := 64) (Nat.le_of_ble_eq_true rfl) (Nat.le_of_ble_eq_true rfl) ?_
  refine va_putF (D := B.1) (ci := 0) (v := .ref q0) (ty := tyX0 0) (C := RX0) (T := TX0) (N := 2) hx hb hts inw_X0_init_X0 tyX0 tyX0_ok nmX0 hown hK hP hD hS 0 rfl rfl 0 (by decide) (hts (.fieldLink RX0 9 (TX0 0).1 (TX0 0).2.1 (TX0 0).2.2.1) (by decide +kernel)) (fun _ h9 => h9) rfl hin rfl (tyX0_ok 0 (by decide)) rfl rfl (Nat.le_of_ble_eq_true rfl) dX0_init_9 (fun H locs hP hD hS => ?_)
  have hP : va_P B.1 vwCl [(h0, .inr (0, [.ref q0, .int 0])), (q0, .inl (B.2.1, 64, (.inl fun _ => 0)))] H := hP
  have hD : va_D A [(h0, .inr (0, [.ref q0, .int 0])), (q0, .inl (B.2.1, 64, (.inl fun _ => 0)))] := hD
  exact W.vret hx hb hr (fun t ht hW => ⟨⟨(), rfl, trivial, q0, by rw [ht]; exact hP, va_K.moved hW.alike hK, hD⟩, hS.F ht⟩) hS.2.2 dX0_init_12
theorem inw_X2_init_X2 : ∀ w ∈ u_ws RX2 TX2 8, w ∈ wsX2_init := by decide +kernel
abbrev at_X2 (B : Bx) (A : Nat → Prop) (h0 : Nat) (t : State) : Prop := ∃ q0 q1 q2 q3 : Nat, va_P B.1 vwCl [(h0, .inr (2, [.ref q0, .int 0, .ref q1, .int 0, .ref q2, .int 0, .ref q3, .int 0])), (q0, .inl (B.2.1, 42, (.inl fun _ => 0))), (q1, .inl (B.2.1, 72, (.inl fun _ => 0))), (q2, .inl (B.2.1, 1350, (.inl fun _ => 0))), (q3, .inl (B.2.1, 4, (.inl (upd ((upd ((upd ((upd (fun _ => 0) 0 0)) 1 3)) 2 3)) 3 0))))] t.heap ∧ va_K B.1 vwCl (tyG (gx B)) t ∧ va_D A [(h0, .inr (2, [.ref q0, .int 0, .ref q1, .int 0, .ref q2, .int 0, .ref q3, .int 0])), (q0, .inl (B.2.1, 42, (.inl fun _ => 0))), (q1, .inl (B.2.1, 72, (.inl fun _ => 0))), (q2, .inl (B.2.1, 1350, (.inl fun _ => 0))), (q3, .inl (B.2.1, 4, (.inl (upd ((upd ((upd ((upd (fun _ => 0) 0 0)) 1 3)) 2 3)) 3 0))))]
set_option maxHeartbeats 4000000 in
set_option maxRecDepth 100000 in
theorem c_X2_init (l : Launch) (B : Bx) (h0 : Nat) (sz : Nat) : Met l yX2_init wsX2_init ({ frames := 1, cells := 4, slots := 1468, locals := 12 }) (va_Pc [.ref h0] (fun U => U.heap.size = sz ∧ va_P B.1 vwCl [(h0, .inr (2, [.null, .int 0, .null, .int 0, .null, .int 0, .null, .int 0]))] U.heap ∧ va_K B.1 vwCl (tyG (gx B)) U ∧ va_D (fun _ => True) [(h0, .inr (2, [.null, .int 0, .null, .int 0, .null, .int 0, .null, .int 0]))])) (va_Qv (fun _ : Unit => True) (fun _ t => at_X2 B (va_A [(h0, .inr (2, [.null, .int 0, .null, .int 0, .null, .int 0, .null, .int 0]))] sz) h0 t) (va_A [(h0, .inr (2, [.null, .int 0, .null, .int 0, .null, .int 0, .null, .int 0]))] sz)) 4 1468 (va_A [(h0, .inr (2, [.null, .int 0, .null, .int 0, .null, .int 0, .null, .int 0]))] sz) := by
  refine Met.ofW (cc := cX2_init) (maxL := 1) (ret := none) (by decide) rfl ?_
  intro p e s m args below meth c s₁ B0 hml hv
  obtain ⟨rfl, hsz, hP, hK, hD0⟩ := hv
  have hx := B0.exec
  have hb := B0.bytes
  have hr := B0.returns
  have hts := atoms_spec (ws := wsX2_init) B0.pre
  have hown : s.vm.findClass RX2 = some m.cls := findClass_of_methodNamed B0.named
  have hlocks := B0.notSynchronized
  have hin : meth.name = "<init>" := (name_of_methodNamed B0.named B0.method).1
  subst hsz
  have hD := hD0.self (sz := s.heap.size)
  generalize hAe : va_A [(h0, .inr (2, [.null, .int 0, .null, .int 0, .null, .int 0, .null, .int 0]))] s.heap.size = A at hD ⊢
  have hA : ∀ q : Nat, s.heap.size ≤ q → A q := fun q h => by rw [← hAe]; exact Or.inr h
  have hS : va_S A s.heap s.heap [] := va_S.rf
  have hP : va_P B.1 vwCl [(h0, .inr (2, [.null, .int 0, .null, .int 0, .null, .int 0, .null, .int 0]))] s.heap := hP
  have hl := lv_entry ([.ref h0]) (n := 1) (Nat.le_of_ble_eq_true rfl)
  rw [lg_entry_eq]
  generalize (lg_sl ([.ref h0]) ++ List.replicate (1 - (lg_sl ([.ref h0])).length) Slot.unset).toArray = ls at hl ⊢
  have hl : lv_has ls 1 [(0, .ref h0)] := hl
  refine lv_aload_n hx hb dX2_init_0 rfl (lv_at hl 0 rfl) ?_
  refine W.objInit hx hb hown (hts (.methodLink RX2 3 objectInit) (by decide +kernel)) (hts (.instanceMethod objectInit) (by decide +kernel)) (hts (.code objectInit ⟨#[0xb1]⟩ 1 none) (List.mem_of_getElem? (i := 3) rfl)) rfl (by rw [hml]; exact hl.1) rfl dX2_init_1 (Nat.le_of_ble_eq_true rfl) (Nat.le_of_ble_eq_true rfl) ?_
  refine W.eq (g2 := F0 m 4 ls []) rfl ?_
  refine lv_aload_n hx hb dX2_init_4 rfl (lv_at hl 0 rfl) ?_
  refine lv_bipush (v := 42) hx hb dX2_init_5 (by decide) ?_
  refine va_newN (atype := .int) (ty := .int) (cA := B.2.1) (a0 := (42, (.inl fun _ => 0))) hx hb (hts (.arrayClass .int) (by decide +kernel)) rfl hK hP hD hS hA 0 rfl (fun h => h) 42 rfl (by decide) (by decide) (Nat.le_of_ble_eq_true rfl) (Nat.le_of_ble_eq_true rfl) (Nat.le_of_ble_eq_true rfl) dX2_init_7 (fun q0 H hP hD hS => ?_)
  have hP : va_P B.1 vwCl [(h0, .inr (2, [.null, .int 0, .null, .int 0, .null, .int 0, .null, .int 0])), (q0, .inl (B.2.1, 42, (.inl fun _ => 0)))] H := hP
  have hD : va_D A [(h0, .inr (2, [.null, .int 0, .null, .int 0, .null, .int 0, .null, .int 0])), (q0, .inl (B.2.1, 42, (.inl fun _ => 0)))] := hD
  refine W.widen (k := 1) (n := 42) (Nat.le_of_ble_eq_true rfl) (Nat.le_of_ble_eq_true rfl) ?_
  refine va_putF (D := B.1) (ci := 2) (v := .ref q0) (ty := tyX2 0) (C := RX2) (T := TX2) (N := 8) hx hb hts inw_X2_init_X2 tyX2 tyX2_ok nmX2 hown hK hP hD hS 0 rfl rfl 0 (by decide) (hts (.fieldLink RX2 9 (TX2 0).1 (TX2 0).2.1 (TX2 0).2.2.1) (by decide +kernel)) (fun _ h9 => h9) rfl hin rfl (tyX2_ok 0 (by decide)) rfl rfl (Nat.le_of_ble_eq_true rfl) dX2_init_9 (fun H locs hP hD hS => ?_)
  have hP : va_P B.1 vwCl [(h0, .inr (2, [.ref q0, .int 0, .null, .int 0, .null, .int 0, .null, .int 0])), (q0, .inl (B.2.1, 42, (.inl fun _ => 0)))] H := hP
  have hD : va_D A [(h0, .inr (2, [.ref q0, .int 0, .null, .int 0, .null, .int 0, .null, .int 0])), (q0, .inl (B.2.1, 42, (.inl fun _ => 0)))] := hD
  refine lv_aload_n hx hb dX2_init_12 rfl (lv_at hl 0 rfl) ?_
  refine lv_bipush (v := 72) hx hb dX2_init_13 (by decide) ?_
  refine va_newN (atype := .int) (ty := .int) (cA := B.2.1) (a0 := (72, (.inl fun _ => 0))) hx hb (hts (.arrayClass .int) (by decide +kernel)) rfl hK hP hD hS hA 0 rfl (fun h => h) 72 rfl (by decide) (by decide) (Nat.le_of_ble_eq_true rfl) (Nat.le_of_ble_eq_true rfl) (Nat.le_of_ble_eq_true rfl) dX2_init_15 (fun q1 H hP hD hS => ?_)
  have hP : va_P B.1 vwCl [(h0, .inr (2, [.ref q0, .int 0, .null, .int 0, .null, .int 0, .null, .int 0])), (q0, .inl (B.2.1, 42, (.inl fun _ => 0))), (q1, .inl (B.2.1, 72, (.inl fun _ => 0)))] H := hP
  have hD : va_D A [(h0, .inr (2, [.ref q0, .int 0, .null, .int 0, .null, .int 0, .null, .int 0])), (q0, .inl (B.2.1, 42, (.inl fun _ => 0))), (q1, .inl (B.2.1, 72, (.inl fun _ => 0)))] := hD
  refine W.widen (k := 2) (n := 114) (Nat.le_of_ble_eq_true rfl) (Nat.le_of_ble_eq_true rfl) ?_
  refine va_putF (D := B.1) (ci := 2) (v := .ref q1) (ty := tyX2 2) (C := RX2) (T := TX2) (N := 8) hx hb hts inw_X2_init_X2 tyX2 tyX2_ok nmX2 hown hK hP hD hS 0 rfl rfl 2 (by decide) (hts (.fieldLink RX2 15 (TX2 2).1 (TX2 2).2.1 (TX2 2).2.2.1) (by decide +kernel)) (fun _ h9 => h9) rfl hin rfl (tyX2_ok 2 (by decide)) rfl rfl (Nat.le_of_ble_eq_true rfl) dX2_init_17 (fun H locs hP hD hS => ?_)
  have hP : va_P B.1 vwCl [(h0, .inr (2, [.ref q0, .int 0, .ref q1, .int 0, .null, .int 0, .null, .int 0])), (q0, .inl (B.2.1, 42, (.inl fun _ => 0))), (q1, .inl (B.2.1, 72, (.inl fun _ => 0)))] H := hP
  have hD : va_D A [(h0, .inr (2, [.ref q0, .int 0, .ref q1, .int 0, .null, .int 0, .null, .int 0])), (q0, .inl (B.2.1, 42, (.inl fun _ => 0))), (q1, .inl (B.2.1, 72, (.inl fun _ => 0)))] := hD
  refine lv_aload_n hx hb dX2_init_20 rfl (lv_at hl 0 rfl) ?_
  refine lv_sipush (v := 1350) hx hb dX2_init_21 (by decide) ?_
  refine va_newN (atype := .int) (ty := .int) (cA := B.2.1) (a0 := (1350, (.inl fun _ => 0))) hx hb (hts (.arrayClass .int) (by decide +kernel)) rfl hK hP hD hS hA 0 rfl (fun h => h) 1350 rfl (by decide) (by decide) (Nat.le_of_ble_eq_true rfl) (Nat.le_of_ble_eq_true rfl) (Nat.le_of_ble_eq_true rfl) dX2_init_24 (fun q2 H hP hD hS => ?_)
  have hP : va_P B.1 vwCl [(h0, .inr (2, [.ref q0, .int 0, .ref q1, .int 0, .null, .int 0, .null, .int 0])), (q0, .inl (B.2.1, 42, (.inl fun _ => 0))), (q1, .inl (B.2.1, 72, (.inl fun _ => 0))), (q2, .inl (B.2.1, 1350, (.inl fun _ => 0)))] H := hP
  have hD : va_D A [(h0, .inr (2, [.ref q0, .int 0, .ref q1, .int 0, .null, .int 0, .null, .int 0])), (q0, .inl (B.2.1, 42, (.inl fun _ => 0))), (q1, .inl (B.2.1, 72, (.inl fun _ => 0))), (q2, .inl (B.2.1, 1350, (.inl fun _ => 0)))] := hD
  refine W.widen (k := 3) (n := 1464) (Nat.le_of_ble_eq_true rfl) (Nat.le_of_ble_eq_true rfl) ?_
  refine va_putF (D := B.1) (ci := 2) (v := .ref q2) (ty := tyX2 4) (C := RX2) (T := TX2) (N := 8) hx hb hts inw_X2_init_X2 tyX2 tyX2_ok nmX2 hown hK hP hD hS 0 rfl rfl 4 (by decide) (hts (.fieldLink RX2 18 (TX2 4).1 (TX2 4).2.1 (TX2 4).2.2.1) (by decide +kernel)) (fun _ h9 => h9) rfl hin rfl (tyX2_ok 4 (by decide)) rfl rfl (Nat.le_of_ble_eq_true rfl) dX2_init_26 (fun H locs hP hD hS => ?_)
  have hP : va_P B.1 vwCl [(h0, .inr (2, [.ref q0, .int 0, .ref q1, .int 0, .ref q2, .int 0, .null, .int 0])), (q0, .inl (B.2.1, 42, (.inl fun _ => 0))), (q1, .inl (B.2.1, 72, (.inl fun _ => 0))), (q2, .inl (B.2.1, 1350, (.inl fun _ => 0)))] H := hP
  have hD : va_D A [(h0, .inr (2, [.ref q0, .int 0, .ref q1, .int 0, .ref q2, .int 0, .null, .int 0])), (q0, .inl (B.2.1, 42, (.inl fun _ => 0))), (q1, .inl (B.2.1, 72, (.inl fun _ => 0))), (q2, .inl (B.2.1, 1350, (.inl fun _ => 0)))] := hD
  refine lv_aload_n hx hb dX2_init_29 rfl (lv_at hl 0 rfl) ?_
  refine lv_iconst (v := 4) hx hb dX2_init_30 (by decide) ?_
  refine va_newN (atype := .int) (ty := .int) (cA := B.2.1) (a0 := (4, (.inl fun _ => 0))) hx hb (hts (.arrayClass .int) (by decide +kernel)) rfl hK hP hD hS hA 0 rfl (fun h => h) 4 rfl (by decide) (by decide) (Nat.le_of_ble_eq_true rfl) (Nat.le_of_ble_eq_true rfl) (Nat.le_of_ble_eq_true rfl) dX2_init_31 (fun q3 H hP hD hS => ?_)
  have hP : va_P B.1 vwCl [(h0, .inr (2, [.ref q0, .int 0, .ref q1, .int 0, .ref q2, .int 0, .null, .int 0])), (q0, .inl (B.2.1, 42, (.inl fun _ => 0))), (q1, .inl (B.2.1, 72, (.inl fun _ => 0))), (q2, .inl (B.2.1, 1350, (.inl fun _ => 0))), (q3, .inl (B.2.1, 4, (.inl fun _ => 0)))] H := hP
  have hD : va_D A [(h0, .inr (2, [.ref q0, .int 0, .ref q1, .int 0, .ref q2, .int 0, .null, .int 0])), (q0, .inl (B.2.1, 42, (.inl fun _ => 0))), (q1, .inl (B.2.1, 72, (.inl fun _ => 0))), (q2, .inl (B.2.1, 1350, (.inl fun _ => 0))), (q3, .inl (B.2.1, 4, (.inl fun _ => 0)))] := hD
  refine W.widen (k := 4) (n := 1468) (Nat.le_of_ble_eq_true rfl) (Nat.le_of_ble_eq_true rfl) ?_
  refine lv_dup hx hb dX2_init_33 rfl ?_
  refine lv_iconst (v := 0) hx hb dX2_init_34 (by decide) ?_
  refine lv_iconst (v := 0) hx hb dX2_init_35 (by decide) ?_
  refine va_iast hx hb hK hP hD hS 4 0 rfl rfl (i := 0) (by unfold vp_in; decide) dX2_init_36 (fun H locs hP hD hS => ?_)
  have hP : va_P B.1 vwCl [(h0, .inr (2, [.ref q0, .int 0, .ref q1, .int 0, .ref q2, .int 0, .null, .int 0])), (q0, .inl (B.2.1, 42, (.inl fun _ => 0))), (q1, .inl (B.2.1, 72, (.inl fun _ => 0))), (q2, .inl (B.2.1, 1350, (.inl fun _ => 0))), (q3, .inl (B.2.1, 4, (.inl (upd (fun _ => 0) 0 0))))] H := hP
  have hD : va_D A [(h0, .inr (2, [.ref q0, .int 0, .ref q1, .int 0, .ref q2, .int 0, .null, .int 0])), (q0, .inl (B.2.1, 42, (.inl fun _ => 0))), (q1, .inl (B.2.1, 72, (.inl fun _ => 0))), (q2, .inl (B.2.1, 1350, (.inl fun _ => 0))), (q3, .inl (B.2.1, 4, (.inl (upd (fun _ => 0) 0 0))))] := hD
  refine lv_dup hx hb dX2_init_37 rfl ?_
  refine lv_iconst (v := 1) hx hb dX2_init_38 (by decide) ?_
  refine lv_iconst (v := 3) hx hb dX2_init_39 (by decide) ?_
  refine va_iast hx hb hK hP hD hS 4 0 rfl rfl (i := 1) (by unfold vp_in; decide) dX2_init_40 (fun H locs hP hD hS => ?_)
  have hP : va_P B.1 vwCl [(h0, .inr (2, [.ref q0, .int 0, .ref q1, .int 0, .ref q2, .int 0, .null, .int 0])), (q0, .inl (B.2.1, 42, (.inl fun _ => 0))), (q1, .inl (B.2.1, 72, (.inl fun _ => 0))), (q2, .inl (B.2.1, 1350, (.inl fun _ => 0))), (q3, .inl (B.2.1, 4, (.inl (upd ((upd (fun _ => 0) 0 0)) 1 3))))] H := hP
  have hD : va_D A [(h0, .inr (2, [.ref q0, .int 0, .ref q1, .int 0, .ref q2, .int 0, .null, .int 0])), (q0, .inl (B.2.1, 42, (.inl fun _ => 0))), (q1, .inl (B.2.1, 72, (.inl fun _ => 0))), (q2, .inl (B.2.1, 1350, (.inl fun _ => 0))), (q3, .inl (B.2.1, 4, (.inl (upd ((upd (fun _ => 0) 0 0)) 1 3))))] := hD
  refine lv_dup hx hb dX2_init_41 rfl ?_
  refine lv_iconst (v := 2) hx hb dX2_init_42 (by decide) ?_
  refine lv_iconst (v := 3) hx hb dX2_init_43 (by decide) ?_
  refine va_iast hx hb hK hP hD hS 4 0 rfl rfl (i := 2) (by unfold vp_in; decide) dX2_init_44 (fun H locs hP hD hS => ?_)
  have hP : va_P B.1 vwCl [(h0, .inr (2, [.ref q0, .int 0, .ref q1, .int 0, .ref q2, .int 0, .null, .int 0])), (q0, .inl (B.2.1, 42, (.inl fun _ => 0))), (q1, .inl (B.2.1, 72, (.inl fun _ => 0))), (q2, .inl (B.2.1, 1350, (.inl fun _ => 0))), (q3, .inl (B.2.1, 4, (.inl (upd ((upd ((upd (fun _ => 0) 0 0)) 1 3)) 2 3))))] H := hP
  have hD : va_D A [(h0, .inr (2, [.ref q0, .int 0, .ref q1, .int 0, .ref q2, .int 0, .null, .int 0])), (q0, .inl (B.2.1, 42, (.inl fun _ => 0))), (q1, .inl (B.2.1, 72, (.inl fun _ => 0))), (q2, .inl (B.2.1, 1350, (.inl fun _ => 0))), (q3, .inl (B.2.1, 4, (.inl (upd ((upd ((upd (fun _ => 0) 0 0)) 1 3)) 2 3))))] := hD
  refine lv_dup hx hb dX2_init_45 rfl ?_
  refine lv_iconst (v := 3) hx hb dX2_init_46 (by decide) ?_
  refine lv_iconst (v := 0) hx hb dX2_init_47 (by decide) ?_
  refine va_iast hx hb hK hP hD hS 4 0 rfl rfl (i := 3) (by unfold vp_in; decide) dX2_init_48 (fun H locs hP hD hS => ?_)
  have hP : va_P B.1 vwCl [(h0, .inr (2, [.ref q0, .int 0, .ref q1, .int 0, .ref q2, .int 0, .null, .int 0])), (q0, .inl (B.2.1, 42, (.inl fun _ => 0))), (q1, .inl (B.2.1, 72, (.inl fun _ => 0))), (q2, .inl (B.2.1, 1350, (.inl fun _ => 0))), (q3, .inl (B.2.1, 4, (.inl (upd ((upd ((upd ((upd (fun _ => 0) 0 0)) 1 3)) 2 3)) 3 0))))] H := hP
  have hD : va_D A [(h0, .inr (2, [.ref q0, .int 0, .ref q1, .int 0, .ref q2, .int 0, .null, .int 0])), (q0, .inl (B.2.1, 42, (.inl fun _ => 0))), (q1, .inl (B.2.1, 72, (.inl fun _ => 0))), (q2, .inl (B.2.1, 1350, (.inl fun _ => 0))), (q3, .inl (B.2.1, 4, (.inl (upd ((upd ((upd ((upd (fun _ => 0) 0 0)) 1 3)) 2 3)) 3 0))))] := hD
  refine va_putF (D := B.1) (ci := 2) (v := .ref q3) (ty := tyX2 6) (C := RX2) (T := TX2) (N := 8) hx hb hts inw_X2_init_X2 tyX2 tyX2_ok nmX2 hown hK hP hD hS 0 rfl rfl 6 (by decide) (hts (.fieldLink RX2 21 (TX2 6).1 (TX2 6).2.1 (TX2 6).2.2.1) (by decide +kernel)) (fun _ h9 => h9) rfl hin rfl (tyX2_ok 6 (by decide)) rfl rfl (Nat.le_of_ble_eq_true rfl) dX2_init_49 (fun H locs hP hD hS => ?_)
  have hP : va_P B.1 vwCl [(h0, .inr (2, [.ref q0, .int 0, .ref q1, .int 0, .ref q2, .int 0, .ref q3, .int 0])), (q0, .inl (B.2.1, 42, (.inl fun _ => 0))), (q1, .inl (B.2.1, 72, (.inl fun _ => 0))), (q2, .inl (B.2.1, 1350, (.inl fun _ => 0))), (q3, .inl (B.2.1, 4, (.inl (upd ((upd ((upd ((upd (fun _ => 0) 0 0)) 1 3)) 2 3)) 3 0))))] H := hP
  have hD : va_D A [(h0, .inr (2, [.ref q0, .int 0, .ref q1, .int 0, .ref q2, .int 0, .ref q3, .int 0])), (q0, .inl (B.2.1, 42, (.inl fun _ => 0))), (q1, .inl (B.2.1, 72, (.inl fun _ => 0))), (q2, .inl (B.2.1, 1350, (.inl fun _ => 0))), (q3, .inl (B.2.1, 4, (.inl (upd ((upd ((upd ((upd (fun _ => 0) 0 0)) 1 3)) 2 3)) 3 0))))] := hD
  exact W.vret hx hb hr (fun t ht hW => ⟨⟨(), rfl, trivial, q0, q1, q2, q3, by rw [ht]; exact hP, va_K.moved hW.alike hK, hD⟩, hS.F ht⟩) hS.2.2 dX2_init_52
theorem inw_X1_init_X1 : ∀ w ∈ u_ws RX1 TX1 7, w ∈ wsX1_init := by decide +kernel
abbrev at_X1 (B : Bx) (A : Nat → Prop) (h0 : Nat) (t : State) : Prop := ∃ q0 q1 q2 q3 q4 : Nat, va_P B.1 vwCl [(h0, .inr (1, [.ref q0, .int 0, .ref q1, .ref q2, .ref q3, .ref q4, .int 0])), (q0, .inl (B.2.1, 8, (.inl fun _ => 0))), (q1, .inl (B.2.1, 56, (.inl fun _ => 0))), (q2, .inl (B.2.2.1, 56, (.inr (.inl fun _ => 0)))), (q3, .inl (B.2.2.1, 1024, (.inr (.inl fun _ => 0)))), (q4, .inl (B.2.1, 1024, (.inl fun _ => 0)))] t.heap ∧ va_K B.1 vwCl (tyG (gx B)) t ∧ va_D A [(h0, .inr (1, [.ref q0, .int 0, .ref q1, .ref q2, .ref q3, .ref q4, .int 0])), (q0, .inl (B.2.1, 8, (.inl fun _ => 0))), (q1, .inl (B.2.1, 56, (.inl fun _ => 0))), (q2, .inl (B.2.2.1, 56, (.inr (.inl fun _ => 0)))), (q3, .inl (B.2.2.1, 1024, (.inr (.inl fun _ => 0)))), (q4, .inl (B.2.1, 1024, (.inl fun _ => 0)))]
set_option maxHeartbeats 4000000 in
set_option maxRecDepth 100000 in
theorem c_X1_init (l : Launch) (B : Bx) (h0 : Nat) (sz : Nat) : Met l yX1_init wsX1_init ({ frames := 1, cells := 5, slots := 2168, locals := 12 }) (va_Pc [.ref h0] (fun U => U.heap.size = sz ∧ va_P B.1 vwCl [(h0, .inr (1, [.null, .int 0, .null, .null, .null, .null, .int 0]))] U.heap ∧ va_K B.1 vwCl (tyG (gx B)) U ∧ va_D (fun _ => True) [(h0, .inr (1, [.null, .int 0, .null, .null, .null, .null, .int 0]))])) (va_Qv (fun _ : Unit => True) (fun _ t => at_X1 B (va_A [(h0, .inr (1, [.null, .int 0, .null, .null, .null, .null, .int 0]))] sz) h0 t) (va_A [(h0, .inr (1, [.null, .int 0, .null, .null, .null, .null, .int 0]))] sz)) 5 2168 (va_A [(h0, .inr (1, [.null, .int 0, .null, .null, .null, .null, .int 0]))] sz) := by
  refine Met.ofW (cc := cX1_init) (maxL := 1) (ret := none) (by decide) rfl ?_
  intro p e s m args below meth c s₁ B0 hml hv
  obtain ⟨rfl, hsz, hP, hK, hD0⟩ := hv
  have hx := B0.exec
  have hb := B0.bytes
  have hr := B0.returns
  have hts := atoms_spec (ws := wsX1_init) B0.pre
  have hown : s.vm.findClass RX1 = some m.cls := findClass_of_methodNamed B0.named
  have hlocks := B0.notSynchronized
  have hin : meth.name = "<init>" := (name_of_methodNamed B0.named B0.method).1
  subst hsz
  have hD := hD0.self (sz := s.heap.size)
  generalize hAe : va_A [(h0, .inr (1, [.null, .int 0, .null, .null, .null, .null, .int 0]))] s.heap.size = A at hD ⊢
  have hA : ∀ q : Nat, s.heap.size ≤ q → A q := fun q h => by rw [← hAe]; exact Or.inr h
  have hS : va_S A s.heap s.heap [] := va_S.rf
  have hP : va_P B.1 vwCl [(h0, .inr (1, [.null, .int 0, .null, .null, .null, .null, .int 0]))] s.heap := hP
  have hl := lv_entry ([.ref h0]) (n := 1) (Nat.le_of_ble_eq_true rfl)
  rw [lg_entry_eq]
  generalize (lg_sl ([.ref h0]) ++ List.replicate (1 - (lg_sl ([.ref h0])).length) Slot.unset).toArray = ls at hl ⊢
  have hl : lv_has ls 1 [(0, .ref h0)] := hl
  refine lv_aload_n hx hb dX1_init_0 rfl (lv_at hl 0 rfl) ?_
  refine W.objInit hx hb hown (hts (.methodLink RX1 3 objectInit) (by decide +kernel)) (hts (.instanceMethod objectInit) (by decide +kernel)) (hts (.code objectInit ⟨#[0xb1]⟩ 1 none) (List.mem_of_getElem? (i := 3) rfl)) rfl (by rw [hml]; exact hl.1) rfl dX1_init_1 (Nat.le_of_ble_eq_true rfl) (Nat.le_of_ble_eq_true rfl) ?_
  refine W.eq (g2 := F0 m 4 ls []) rfl ?_
  refine lv_aload_n hx hb dX1_init_4 rfl (lv_at hl 0 rfl) ?_
  refine lv_bipush (v := 8) hx hb dX1_init_5 (by decide) ?_
  refine va_newN (atype := .int) (ty := .int) (cA := B.2.1) (a0 := (8, (.inl fun _ => 0))) hx hb (hts (.arrayClass .int) (by decide +kernel)) rfl hK hP hD hS hA 0 rfl (fun h => h) 8 rfl (by decide) (by decide) (Nat.le_of_ble_eq_true rfl) (Nat.le_of_ble_eq_true rfl) (Nat.le_of_ble_eq_true rfl) dX1_init_7 (fun q0 H hP hD hS => ?_)
  have hP : va_P B.1 vwCl [(h0, .inr (1, [.null, .int 0, .null, .null, .null, .null, .int 0])), (q0, .inl (B.2.1, 8, (.inl fun _ => 0)))] H := hP
  have hD : va_D A [(h0, .inr (1, [.null, .int 0, .null, .null, .null, .null, .int 0])), (q0, .inl (B.2.1, 8, (.inl fun _ => 0)))] := hD
  refine W.widen (k := 1) (n := 8) (Nat.le_of_ble_eq_true rfl) (Nat.le_of_ble_eq_true rfl) ?_
  refine va_putF (D := B.1) (ci := 1) (v := .ref q0) (ty := tyX1 0) (C := RX1) (T := TX1) (N := 7) hx hb hts inw_X1_init_X1 tyX1 tyX1_ok nmX1 hown hK hP hD hS 0 rfl rfl 0 (by decide) (hts (.fieldLink RX1 9 (TX1 0).1 (TX1 0).2.1 (TX1 0).2.2.1) (by decide +kernel)) (fun _ h9 => h9) rfl hin rfl (tyX1_ok 0 (by decide)) rfl rfl (Nat.le_of_ble_eq_true rfl) dX1_init_9 (fun H locs hP hD hS => ?_)
  have hP : va_P B.1 vwCl [(h0, .inr (1, [.ref q0, .int 0, .null, .null, .null, .null, .int 0])), (q0, .inl (B.2.1, 8, (.inl fun _ => 0)))] H := hP
  have hD : va_D A [(h0, .inr (1, [.ref q0, .int 0, .null, .null, .null, .null, .int 0])), (q0, .inl (B.2.1, 8, (.inl fun _ => 0)))] := hD
  refine lv_aload_n hx hb dX1_init_12 rfl (lv_at hl 0 rfl) ?_
  refine lv_bipush (v := 56) hx hb dX1_init_13 (by decide) ?_
  refine va_newN (atype := .int) (ty := .int) (cA := B.2.1) (a0 := (56, (.inl fun _ => 0))) hx hb (hts (.arrayClass .int) (by decide +kernel)) rfl hK hP hD hS hA 0 rfl (fun h => h) 56 rfl (by decide) (by decide) (Nat.le_of_ble_eq_true rfl) (Nat.le_of_ble_eq_true rfl) (Nat.le_of_ble_eq_true rfl) dX1_init_15 (fun q1 H hP hD hS => ?_)
  have hP : va_P B.1 vwCl [(h0, .inr (1, [.ref q0, .int 0, .null, .null, .null, .null, .int 0])), (q0, .inl (B.2.1, 8, (.inl fun _ => 0))), (q1, .inl (B.2.1, 56, (.inl fun _ => 0)))] H := hP
  have hD : va_D A [(h0, .inr (1, [.ref q0, .int 0, .null, .null, .null, .null, .int 0])), (q0, .inl (B.2.1, 8, (.inl fun _ => 0))), (q1, .inl (B.2.1, 56, (.inl fun _ => 0)))] := hD
  refine W.widen (k := 2) (n := 64) (Nat.le_of_ble_eq_true rfl) (Nat.le_of_ble_eq_true rfl) ?_
  refine va_putF (D := B.1) (ci := 1) (v := .ref q1) (ty := tyX1 2) (C := RX1) (T := TX1) (N := 7) hx hb hts inw_X1_init_X1 tyX1 tyX1_ok nmX1 hown hK hP hD hS 0 rfl rfl 2 (by decide) (hts (.fieldLink RX1 15 (TX1 2).1 (TX1 2).2.1 (TX1 2).2.2.1) (by decide +kernel)) (fun _ h9 => h9) rfl hin rfl (tyX1_ok 2 (by decide)) rfl rfl (Nat.le_of_ble_eq_true rfl) dX1_init_17 (fun H locs hP hD hS => ?_)
  have hP : va_P B.1 vwCl [(h0, .inr (1, [.ref q0, .int 0, .ref q1, .null, .null, .null, .int 0])), (q0, .inl (B.2.1, 8, (.inl fun _ => 0))), (q1, .inl (B.2.1, 56, (.inl fun _ => 0)))] H := hP
  have hD : va_D A [(h0, .inr (1, [.ref q0, .int 0, .ref q1, .null, .null, .null, .int 0])), (q0, .inl (B.2.1, 8, (.inl fun _ => 0))), (q1, .inl (B.2.1, 56, (.inl fun _ => 0)))] := hD
  refine lv_aload_n hx hb dX1_init_20 rfl (lv_at hl 0 rfl) ?_
  refine lv_bipush (v := 56) hx hb dX1_init_21 (by decide) ?_
  refine va_newN (atype := .long) (ty := .long) (cA := B.2.2.1) (a0 := (56, (.inr (.inl fun _ => 0)))) hx hb (hts (.arrayClass .long) (by decide +kernel)) rfl hK hP hD hS hA 1 rfl (fun h => h) 56 rfl (by decide) (by decide) (Nat.le_of_ble_eq_true rfl) (Nat.le_of_ble_eq_true rfl) (Nat.le_of_ble_eq_true rfl) dX1_init_23 (fun q2 H hP hD hS => ?_)
  have hP : va_P B.1 vwCl [(h0, .inr (1, [.ref q0, .int 0, .ref q1, .null, .null, .null, .int 0])), (q0, .inl (B.2.1, 8, (.inl fun _ => 0))), (q1, .inl (B.2.1, 56, (.inl fun _ => 0))), (q2, .inl (B.2.2.1, 56, (.inr (.inl fun _ => 0))))] H := hP
  have hD : va_D A [(h0, .inr (1, [.ref q0, .int 0, .ref q1, .null, .null, .null, .int 0])), (q0, .inl (B.2.1, 8, (.inl fun _ => 0))), (q1, .inl (B.2.1, 56, (.inl fun _ => 0))), (q2, .inl (B.2.2.1, 56, (.inr (.inl fun _ => 0))))] := hD
  refine W.widen (k := 3) (n := 120) (Nat.le_of_ble_eq_true rfl) (Nat.le_of_ble_eq_true rfl) ?_
  refine va_putF (D := B.1) (ci := 1) (v := .ref q2) (ty := tyX1 3) (C := RX1) (T := TX1) (N := 7) hx hb hts inw_X1_init_X1 tyX1 tyX1_ok nmX1 hown hK hP hD hS 0 rfl rfl 3 (by decide) (hts (.fieldLink RX1 18 (TX1 3).1 (TX1 3).2.1 (TX1 3).2.2.1) (by decide +kernel)) (fun _ h9 => h9) rfl hin rfl (tyX1_ok 3 (by decide)) rfl rfl (Nat.le_of_ble_eq_true rfl) dX1_init_25 (fun H locs hP hD hS => ?_)
  have hP : va_P B.1 vwCl [(h0, .inr (1, [.ref q0, .int 0, .ref q1, .ref q2, .null, .null, .int 0])), (q0, .inl (B.2.1, 8, (.inl fun _ => 0))), (q1, .inl (B.2.1, 56, (.inl fun _ => 0))), (q2, .inl (B.2.2.1, 56, (.inr (.inl fun _ => 0))))] H := hP
  have hD : va_D A [(h0, .inr (1, [.ref q0, .int 0, .ref q1, .ref q2, .null, .null, .int 0])), (q0, .inl (B.2.1, 8, (.inl fun _ => 0))), (q1, .inl (B.2.1, 56, (.inl fun _ => 0))), (q2, .inl (B.2.2.1, 56, (.inr (.inl fun _ => 0))))] := hD
  refine lv_aload_n hx hb dX1_init_28 rfl (lv_at hl 0 rfl) ?_
  refine lv_sipush (v := 1024) hx hb dX1_init_29 (by decide) ?_
  refine va_newN (atype := .long) (ty := .long) (cA := B.2.2.1) (a0 := (1024, (.inr (.inl fun _ => 0)))) hx hb (hts (.arrayClass .long) (by decide +kernel)) rfl hK hP hD hS hA 1 rfl (fun h => h) 1024 rfl (by decide) (by decide) (Nat.le_of_ble_eq_true rfl) (Nat.le_of_ble_eq_true rfl) (Nat.le_of_ble_eq_true rfl) dX1_init_32 (fun q3 H hP hD hS => ?_)
  have hP : va_P B.1 vwCl [(h0, .inr (1, [.ref q0, .int 0, .ref q1, .ref q2, .null, .null, .int 0])), (q0, .inl (B.2.1, 8, (.inl fun _ => 0))), (q1, .inl (B.2.1, 56, (.inl fun _ => 0))), (q2, .inl (B.2.2.1, 56, (.inr (.inl fun _ => 0)))), (q3, .inl (B.2.2.1, 1024, (.inr (.inl fun _ => 0))))] H := hP
  have hD : va_D A [(h0, .inr (1, [.ref q0, .int 0, .ref q1, .ref q2, .null, .null, .int 0])), (q0, .inl (B.2.1, 8, (.inl fun _ => 0))), (q1, .inl (B.2.1, 56, (.inl fun _ => 0))), (q2, .inl (B.2.2.1, 56, (.inr (.inl fun _ => 0)))), (q3, .inl (B.2.2.1, 1024, (.inr (.inl fun _ => 0))))] := hD
  refine W.widen (k := 4) (n := 1144) (Nat.le_of_ble_eq_true rfl) (Nat.le_of_ble_eq_true rfl) ?_
  refine va_putF (D := B.1) (ci := 1) (v := .ref q3) (ty := tyX1 4) (C := RX1) (T := TX1) (N := 7) hx hb hts inw_X1_init_X1 tyX1 tyX1_ok nmX1 hown hK hP hD hS 0 rfl rfl 4 (by decide) (hts (.fieldLink RX1 22 (TX1 4).1 (TX1 4).2.1 (TX1 4).2.2.1) (by decide +kernel)) (fun _ h9 => h9) rfl hin rfl (tyX1_ok 4 (by decide)) rfl rfl (Nat.le_of_ble_eq_true rfl) dX1_init_34 (fun H locs hP hD hS => ?_)
  have hP : va_P B.1 vwCl [(h0, .inr (1, [.ref q0, .int 0, .ref q1, .ref q2, .ref q3, .null, .int 0])), (q0, .inl (B.2.1, 8, (.inl fun _ => 0))), (q1, .inl (B.2.1, 56, (.inl fun _ => 0))), (q2, .inl (B.2.2.1, 56, (.inr (.inl fun _ => 0)))), (q3, .inl (B.2.2.1, 1024, (.inr (.inl fun _ => 0))))] H := hP
  have hD : va_D A [(h0, .inr (1, [.ref q0, .int 0, .ref q1, .ref q2, .ref q3, .null, .int 0])), (q0, .inl (B.2.1, 8, (.inl fun _ => 0))), (q1, .inl (B.2.1, 56, (.inl fun _ => 0))), (q2, .inl (B.2.2.1, 56, (.inr (.inl fun _ => 0)))), (q3, .inl (B.2.2.1, 1024, (.inr (.inl fun _ => 0))))] := hD
  refine lv_aload_n hx hb dX1_init_37 rfl (lv_at hl 0 rfl) ?_
  refine lv_sipush (v := 1024) hx hb dX1_init_38 (by decide) ?_
  refine va_newN (atype := .int) (ty := .int) (cA := B.2.1) (a0 := (1024, (.inl fun _ => 0))) hx hb (hts (.arrayClass .int) (by decide +kernel)) rfl hK hP hD hS hA 0 rfl (fun h => h) 1024 rfl (by decide) (by decide) (Nat.le_of_ble_eq_true rfl) (Nat.le_of_ble_eq_true rfl) (Nat.le_of_ble_eq_true rfl) dX1_init_41 (fun q4 H hP hD hS => ?_)
  have hP : va_P B.1 vwCl [(h0, .inr (1, [.ref q0, .int 0, .ref q1, .ref q2, .ref q3, .null, .int 0])), (q0, .inl (B.2.1, 8, (.inl fun _ => 0))), (q1, .inl (B.2.1, 56, (.inl fun _ => 0))), (q2, .inl (B.2.2.1, 56, (.inr (.inl fun _ => 0)))), (q3, .inl (B.2.2.1, 1024, (.inr (.inl fun _ => 0)))), (q4, .inl (B.2.1, 1024, (.inl fun _ => 0)))] H := hP
  have hD : va_D A [(h0, .inr (1, [.ref q0, .int 0, .ref q1, .ref q2, .ref q3, .null, .int 0])), (q0, .inl (B.2.1, 8, (.inl fun _ => 0))), (q1, .inl (B.2.1, 56, (.inl fun _ => 0))), (q2, .inl (B.2.2.1, 56, (.inr (.inl fun _ => 0)))), (q3, .inl (B.2.2.1, 1024, (.inr (.inl fun _ => 0)))), (q4, .inl (B.2.1, 1024, (.inl fun _ => 0)))] := hD
  refine W.widen (k := 5) (n := 2168) (Nat.le_of_ble_eq_true rfl) (Nat.le_of_ble_eq_true rfl) ?_
  refine va_putF (D := B.1) (ci := 1) (v := .ref q4) (ty := tyX1 5) (C := RX1) (T := TX1) (N := 7) hx hb hts inw_X1_init_X1 tyX1 tyX1_ok nmX1 hown hK hP hD hS 0 rfl rfl 5 (by decide) (hts (.fieldLink RX1 25 (TX1 5).1 (TX1 5).2.1 (TX1 5).2.2.1) (by decide +kernel)) (fun _ h9 => h9) rfl hin rfl (tyX1_ok 5 (by decide)) rfl rfl (Nat.le_of_ble_eq_true rfl) dX1_init_43 (fun H locs hP hD hS => ?_)
  have hP : va_P B.1 vwCl [(h0, .inr (1, [.ref q0, .int 0, .ref q1, .ref q2, .ref q3, .ref q4, .int 0])), (q0, .inl (B.2.1, 8, (.inl fun _ => 0))), (q1, .inl (B.2.1, 56, (.inl fun _ => 0))), (q2, .inl (B.2.2.1, 56, (.inr (.inl fun _ => 0)))), (q3, .inl (B.2.2.1, 1024, (.inr (.inl fun _ => 0)))), (q4, .inl (B.2.1, 1024, (.inl fun _ => 0)))] H := hP
  have hD : va_D A [(h0, .inr (1, [.ref q0, .int 0, .ref q1, .ref q2, .ref q3, .ref q4, .int 0])), (q0, .inl (B.2.1, 8, (.inl fun _ => 0))), (q1, .inl (B.2.1, 56, (.inl fun _ => 0))), (q2, .inl (B.2.2.1, 56, (.inr (.inl fun _ => 0)))), (q3, .inl (B.2.2.1, 1024, (.inr (.inl fun _ => 0)))), (q4, .inl (B.2.1, 1024, (.inl fun _ => 0)))] := hD
  exact W.vret hx hb hr (fun t ht hW => ⟨⟨(), rfl, trivial, q0, q1, q2, q3, q4, by rw [ht]; exact hP, va_K.moved hW.alike hK, hD⟩, hS.F ht⟩) hS.2.2 dX1_init_46
end
