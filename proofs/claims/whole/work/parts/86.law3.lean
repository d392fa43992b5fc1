noncomputable section
theorem lw_gt {L i : Nat} (h : L < i + 4) (hi : L ≤ 2048 ∧ i ≤ 4096) : nI i > Int32.ofNat L - 4 := by
  show nI L - nI 4 < nI i
  rw [Int32.lt_iff_toInt_lt, Int32.toInt_sub, nI_toInt (by omega), nI_toInt (by omega), nI_toInt (by omega)]
  have := Int.bmod_eq_of_le (n := (L : Int) - ((4 : Nat) : Int)) (m := 4294967296) (by omega) (by omega)
  show ((L : Int) - ((4 : Nat) : Int)).bmod 4294967296 < (i : Int)
  rw [this]
  omega
def TG : List Nat := [188, 211, 224, 257, 290, 323, 356, 389, 422, 455, 488, 501, 514, 547, 580, 603, 626, 639, 652, 675, 708, 731, 764, 797, 830, 853, 876, 889, 922, 965, 988, 1001, 1014, 1027, 1040]
theorem lwOff : ∀ j, j < 35 → ∃ o : Int, (#[156, 179, 192, 225, 258, 291, 324, 357, 390, 423, 456, 469, 482, 515, 548, 571, 594, 607, 620, 643, 676, 699, 732, 765, 798, 821, 844, 857, 890, 933, 956, 969, 982, 995, 1008] : Array Int)[j]? = some o ∧ ((32 : Nat) : Int) + o = ((TG.getD j 0 : Nat) : Int) := by
  intro j hj
  rcases (show j = 0 ∨ j = 1 ∨ j = 2 ∨ j = 3 ∨ j = 4 ∨ j = 5 ∨ j = 6 ∨ j = 7 ∨ j = 8 ∨ j = 9 ∨ j = 10 ∨ j = 11 ∨ j = 12 ∨ j = 13 ∨ j = 14 ∨ j = 15 ∨ j = 16 ∨ j = 17 ∨ j = 18 ∨ j = 19 ∨ j = 20 ∨ j = 21 ∨ j = 22 ∨ j = 23 ∨ j = 24 ∨ j = 25 ∨ j = 26 ∨ j = 27 ∨ j = 28 ∨ j = 29 ∨ j = 30 ∨ j = 31 ∨ j = 32 ∨ j = 33 ∨ j = 34 by omega) with rfl | rfl | rfl | rfl | rfl | rfl | rfl | rfl | rfl | rfl | rfl | rfl | rfl | rfl | rfl | rfl | rfl | rfl | rfl | rfl | rfl | rfl | rfl | rfl | rfl | rfl | rfl | rfl | rfl | rfl | rfl | rfl | rfl | rfl | rfl
  · exact ⟨156, rfl, by decide⟩
  · exact ⟨179, rfl, by decide⟩
  · exact ⟨192, rfl, by decide⟩
  · exact ⟨225, rfl, by decide⟩
  · exact ⟨258, rfl, by decide⟩
  · exact ⟨291, rfl, by decide⟩
  · exact ⟨324, rfl, by decide⟩
  · exact ⟨357, rfl, by decide⟩
  · exact ⟨390, rfl, by decide⟩
  · exact ⟨423, rfl, by decide⟩
  · exact ⟨456, rfl, by decide⟩
  · exact ⟨469, rfl, by decide⟩
  · exact ⟨482, rfl, by decide⟩
  · exact ⟨515, rfl, by decide⟩
  · exact ⟨548, rfl, by decide⟩
  · exact ⟨571, rfl, by decide⟩
  · exact ⟨594, rfl, by decide⟩
  · exact ⟨607, rfl, by decide⟩
  · exact ⟨620, rfl, by decide⟩
  · exact ⟨643, rfl, by decide⟩
  · exact ⟨676, rfl, by decide⟩
  · exact ⟨699, rfl, by decide⟩
  · exact ⟨732, rfl, by decide⟩
  · exact ⟨765, rfl, by decide⟩
  · exact ⟨798, rfl, by decide⟩
  · exact ⟨821, rfl, by decide⟩
  · exact ⟨844, rfl, by decide⟩
  · exact ⟨857, rfl, by decide⟩
  · exact ⟨890, rfl, by decide⟩
  · exact ⟨933, rfl, by decide⟩
  · exact ⟨956, rfl, by decide⟩
  · exact ⟨969, rfl, by decide⟩
  · exact ⟨982, rfl, by decide⟩
  · exact ⟨995, rfl, by decide⟩
  · exact ⟨1008, rfl, by decide⟩
theorem lwTab {p : Program} {l : Launch} {e : Env} {R : Room} {s : State} {m : MethodId} {args : Array Value} {below : List Frame} {meth : Method} {c : Code} {H : Heap} {locs : List Loc} {cells slots : Nat} {Q : State → Prop} {ls : Array Slot} (hx : p.tables.exec = Jvm.exec) (hb : c.code = code) {x : Int32}
    (kk : ∀ j, j < 35 → W p l e R s m args below meth c H locs cells slots Q (F0 m (TG.getD j 0) ls [])) (kd : W p l e R s m args below meth c H locs cells slots Q (F0 m 1063 ls [])) : W p l e R s m args below meth c H locs cells slots Q (F0 m 32 ls [.int x]) := by
  by_cases h1 : x.toInt < 0
  · exact lv_tableOut hx hb dL_law_32 (Or.inl h1) (by decide) kd
  · by_cases h2 : 34 < x.toInt
    · exact lv_tableOut hx hb dL_law_32 (Or.inr h2) (by decide) kd
    · have hj : x.toInt.toNat < 35 := by omega
      obtain ⟨o, ho, ht⟩ := lwOff x.toInt.toNat hj
      exact lv_tableIn hx hb dL_law_32 h1 h2 (off := o) (by rw [Int.sub_zero]; exact ho) ht (kk _ hj)
theorem lw_loop {p : Program} {l : Launch} {e : Env} {s : State} {m : MethodId} {below : List Frame} {meth : Method} {c : Code} {b L : Nat} {xs : Nat → Int32} {B : Bx} {g : Nat → Nat} {LI : HS → MS → Prop} (hL : L ≤ 2048) (LC : LwC p s m meth c b L xs B) (hpu : PureOK LI g) {cells slots : Nat} (hcs : cells ≤ 600000) (hsl : slots ≤ 7302250) :
    ∀ (n i : Nat), L + 4 ≤ i + n → i ≤ L + 4 → ∀ (H : Heap) (locs : List Loc) (ls : Array Slot) (Z : LW), LI Z.1 Z.2 → va_P B.1 vwCl (encW B g Z) H → va_D (fun q : Nat => s.heap.size ≤ q) (encW B g Z) → va_S (fun q : Nat => s.heap.size ≤ q) s.heap H locs → lv_has ls 4 [(0, .ref b), (1, .ref (g 0)), (2, .ref (g 30)), (3, .int (nI i))] → W p l e room_1 s m #[Value.ref b] below meth c H locs cells slots (lw_Z below #[Value.ref b] s) (F0 m 18 ls []) := by
  obtain ⟨hx, hb, hml, hown, hts, hX, hbl, hlocks, hr, hK, hE⟩ := id LC
  have hbA : ¬ (fun q : Nat => s.heap.size ≤ q) b := Nat.not_le.mpr hbl
  intro n
  induction n with
  | zero =>
    intro i h1 h2 H locs ls Z hZ hP hD hS hl
    refine lv_iload_n hx hb dL_law_18 rfl (lv_at hl 3 rfl) ?_
    refine lv_aload_n hx hb dL_law_19 rfl (lv_at hl 0 rfl) ?_
    refine va_slen hx hb hX hbl hbA hS dL_law_20 ?_
    refine lv_iconst (v := 4) hx hb dL_law_21 (by decide) ?_
    refine lv_isub hx hb dL_law_22 ?_
    refine lv_icmp_gt (tgt := 1069) hx hb dL_law_23 (by decide) (fun _ => ?_) (fun h => absurd (lw_gt (by omega) ⟨by omega, by omega⟩) h)
    refine lv_iconst (v := 1) hx hb dL_law_1069 (by decide) ?_
    refine va_forget (fun q hq => hS.2.2 q hq) ?_
    refine W.widen hcs hsl ?_
    exact lw_ret hx hb hr hlocks dL_law_1070
  | succ n ih =>
    intro i h1 h2 H locs ls Z hZ hP hD hS hl
    refine lv_iload_n hx hb dL_law_18 rfl (lv_at hl 3 rfl) ?_
    refine lv_aload_n hx hb dL_law_19 rfl (lv_at hl 0 rfl) ?_
    refine va_slen hx hb hX hbl hbA hS dL_law_20 ?_
    refine lv_iconst (v := 4) hx hb dL_law_21 (by decide) ?_
    refine lv_isub hx hb dL_law_22 ?_
    refine lv_icmp_gt (tgt := 1069) hx hb dL_law_23 (by decide) (fun _ => ?_) (fun hg => ?_)
    · refine lv_iconst (v := 1) hx hb dL_law_1069 (by decide) ?_
      refine va_forget (fun q hq => hS.2.2 q hq) ?_
      refine W.widen hcs hsl ?_
      exact lw_ret hx hb hr hlocks dL_law_1070
    · have hi : i + 4 ≤ L := by
        rcases Nat.lt_or_ge L (i + 4) with q | q
        · exact absurd (lw_gt q ⟨by omega, by omega⟩) hg
        · exact q
      have hv : ∀ t : Nat, t < 4 → vp_in (nI i + nI t) L := fun t ht => by rw [nI_add]; exact vp_in_nI (by omega) (by omega)
      have hv0 : vp_in (nI i) L := vp_in_nI (by omega) (by omega)
      refine lv_aload_n hx hb dL_law_26 rfl (lv_at hl 0 rfl) ?_
      refine lv_iload_n hx hb dL_law_27 rfl (lv_at hl 3 rfl) ?_
      refine va_sld hx hb hX hbl hbA hS hv0 dL_law_28 ?_
      refine lv_bipush (v := 63) hx hb dL_law_29 (by decide) ?_
      refine lv_iand hx hb dL_law_31 ?_
      have hnx : ∀ (H : Heap) (locs : List Loc) (Z : LW), LI Z.1 Z.2 → va_P B.1 vwCl (encW B g Z) H → va_D (fun q : Nat => s.heap.size ≤ q) (encW B g Z) → va_S (fun q : Nat => s.heap.size ≤ q) s.heap H locs → W p l e room_1 s m #[Value.ref b] below meth c H locs cells slots (lw_Z below #[Value.ref b] s) (F0 m 1063 ls []) := by
        intro H locs Z hZ hP hD hS
        refine lv_iinc (v := nI (i + 4)) (lv' := [(3, .int (nI (i + 4))), (0, .ref b), (1, .ref (g 0)), (2, .ref (g 30))]) hx hb dL_law_1063 hl (k := 3) rfl (nI_add i 4) (by decide) rfl (fun ls hl => ?_)
        refine lv_goto (tgt := 18) hx hb dL_law_1066 (by decide) ?_
        exact ih (i + 4) (by omega) (by omega) H locs ls Z hZ hP hD hS (lv_sub hl [1, 2, 3, 0] rfl)
      refine lwTab hx hb (fun j hj => ?_) (hnx H locs Z hZ hP hD hS)
      rcases (show j = 0 ∨ j = 1 ∨ j = 2 ∨ j = 3 ∨ j = 4 ∨ j = 5 ∨ j = 6 ∨ j = 7 ∨ j = 8 ∨ j = 9 ∨ j = 10 ∨ j = 11 ∨ j = 12 ∨ j = 13 ∨ j = 14 ∨ j = 15 ∨ j = 16 ∨ j = 17 ∨ j = 18 ∨ j = 19 ∨ j = 20 ∨ j = 21 ∨ j = 22 ∨ j = 23 ∨ j = 24 ∨ j = 25 ∨ j = 26 ∨ j = 27 ∨ j = 28 ∨ j = 29 ∨ j = 30 ∨ j = 31 ∨ j = 32 ∨ j = 33 ∨ j = 34 by omega) with rfl | rfl | rfl | rfl | rfl | rfl | rfl | rfl | rfl | rfl | rfl | rfl | rfl | rfl | rfl | rfl | rfl | rfl | rfl | rfl | rfl | rfl | rfl | rfl | rfl | rfl | rfl | rfl | rfl | rfl | rfl | rfl | rfl | rfl | rfl
      · exact lwc_feed LC hpu hcs hsl (hv 1 (by decide)) (hv 2 (by decide)) (hv 3 (by decide)) hl hnx Z hZ hP hD hS
      · exact lwc_town LC hpu hcs hsl (hv 1 (by decide)) (hv 2 (by decide)) (hv 3 (by decide)) hl hnx Z hZ hP hD hS
      · exact lwc_person LC hpu hcs hsl (hv 1 (by decide)) (hv 2 (by decide)) (hv 3 (by decide)) hl hnx Z hZ hP hD hS
      · exact lwc_need LC hpu hcs hsl (hv 1 (by decide)) (hv 2 (by decide)) (hv 3 (by decide)) hl hnx Z hZ hP hD hS
      · exact lwc_set LC hpu hcs hsl (hv 1 (by decide)) (hv 2 (by decide)) (hv 3 (by decide)) hl hnx Z hZ hP hD hS
      · exact lwc_minutes LC hpu hcs hsl (hv 1 (by decide)) (hv 2 (by decide)) (hv 3 (by decide)) hl hnx Z hZ hP hD hS
      · exact lwc_spent LC hpu hcs hsl (hv 1 (by decide)) (hv 2 (by decide)) (hv 3 (by decide)) hl hnx Z hZ hP hD hS
      · exact lwc_may LC hpu hcs hsl (hv 1 (by decide)) (hv 2 (by decide)) (hv 3 (by decide)) hl hnx Z hZ hP hD hS
      · exact lwc_good LC hpu hcs hsl (hv 1 (by decide)) (hv 2 (by decide)) (hv 3 (by decide)) hl hnx Z hZ hP hD hS
      · exact lwc_help LC hpu hcs hsl (hv 1 (by decide)) (hv 2 (by decide)) (hv 3 (by decide)) hl hnx Z hZ hP hD hS
      · exact lwc_back LC hpu hcs hsl (hv 1 (by decide)) (hv 2 (by decide)) (hv 3 (by decide)) hl hnx Z hZ hP hD hS
      · exact lwc_year LC hpu hcs hsl (hv 1 (by decide)) (hv 2 (by decide)) (hv 3 (by decide)) hl hnx Z hZ hP hD hS
      · exact lwc_chosen LC hpu hcs hsl (hv 1 (by decide)) (hv 2 (by decide)) (hv 3 (by decide)) hl hnx Z hZ hP hD hS
      · exact lwc_loss LC hpu hcs hsl (hv 1 (by decide)) (hv 2 (by decide)) (hv 3 (by decide)) hl hnx Z hZ hP hD hS
      · exact lwc_run LC hpu hcs hsl (hv 1 (by decide)) (hv 2 (by decide)) (hv 3 (by decide)) hl hnx Z hZ hP hD hS
      · exact lwc_without LC hpu hcs hsl (hv 1 (by decide)) (hv 2 (by decide)) (hv 3 (by decide)) hl hnx Z hZ hP hD hS
      · exact lwc_most LC hpu hcs hsl (hv 1 (by decide)) (hv 2 (by decide)) (hv 3 (by decide)) hl hnx Z hZ hP hD hS
      · exact lwc_first LC hpu hcs hsl (hv 1 (by decide)) (hv 2 (by decide)) (hv 3 (by decide)) hl hnx Z hZ hP hD hS
      · exact lwc_gap LC hpu hcs hsl (hv 1 (by decide)) (hv 2 (by decide)) (hv 3 (by decide)) hl hnx Z hZ hP hD hS
      · exact lwc_worth LC hpu hcs hsl (hv 1 (by decide)) (hv 2 (by decide)) (hv 3 (by decide)) hl hnx Z hZ hP hD hS
      · exact lwc_keeps LC hpu hcs hsl (hv 1 (by decide)) (hv 2 (by decide)) (hv 3 (by decide)) hl hnx Z hZ hP hD hS
      · exact lwc_lasts LC hpu hcs hsl (hv 1 (by decide)) (hv 2 (by decide)) (hv 3 (by decide)) hl hnx Z hZ hP hD hS
      · exact lwc_many LC hpu hcs hsl (hv 1 (by decide)) (hv 2 (by decide)) (hv 3 (by decide)) hl hnx Z hZ hP hD hS
      · exact lwc_move LC hpu hcs hsl (hv 1 (by decide)) (hv 2 (by decide)) (hv 3 (by decide)) hl hnx Z hZ hP hD hS
      · exact lwc_bestPlace LC hpu hcs hsl (hv 1 (by decide)) (hv 2 (by decide)) (hv 3 (by decide)) hl hnx Z hZ hP hD hS
      · exact lwc_strangers LC hpu hcs hsl (hv 1 (by decide)) (hv 2 (by decide)) (hv 3 (by decide)) hl hnx Z hZ hP hD hS
      · exact lwc_smallest LC hpu hcs hsl (hv 1 (by decide)) (hv 2 (by decide)) (hv 3 (by decide)) hl hnx Z hZ hP hD hS
      · exact lwc_byLaw LC hpu hcs hsl (hv 1 (by decide)) (hv 2 (by decide)) (hv 3 (by decide)) hl hnx Z hZ hP hD hS
      · exact lwc_seeds LC hpu hcs hsl (hv 1 (by decide)) (hv 2 (by decide)) (hv 3 (by decide)) hl hnx Z hZ hP hD hS
      · exact lwc_row LC hpu hcs hsl (hv 1 (by decide)) (hv 2 (by decide)) (hv 3 (by decide)) hl hnx Z hZ hP hD hS
      · exact lwc_judge LC hpu hcs hsl (hv 1 (by decide)) (hv 2 (by decide)) (hv 3 (by decide)) hl hnx Z hZ hP hD hS
      · exact lwc_clear LC hpu hcs hsl (hv 1 (by decide)) (hv 2 (by decide)) (hv 3 (by decide)) hl hnx Z hZ hP hD hS
      · exact lwc_image LC hpu hcs hsl (hv 1 (by decide)) (hv 2 (by decide)) (hv 3 (by decide)) hl hnx Z hZ hP hD hS
      · exact lwc_restore LC hpu hcs hsl (hv 1 (by decide)) (hv 2 (by decide)) (hv 3 (by decide)) hl hnx Z hZ hP hD hS
      · exact lwc_count LC hpu hcs hsl (hv 1 (by decide)) (hv 2 (by decide)) (hv 3 (by decide)) hl hnx Z hZ hP hD hS
end
