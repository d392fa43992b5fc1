noncomputable section
theorem uW_row {M : MS} (x y z n : Int32) {i : Nat} (hi : 10 ≤ i ∧ i ≤ 14) {k : Nat} (hk : ¬ k = uHelps M) : mA i (uW M x y z n) k = mA i M k := by
  rcases (show i = 10 ∨ i = 11 ∨ i = 12 ∨ i = 13 ∨ i = 14 by omega) with rfl | rfl | rfl | rfl | rfl
  · rw [uW_10, upd_ne hk]
  · rw [uW_11, upd_ne hk]
  · rw [uW_12, upd_ne hk]
  · rw [uW_13, upd_ne hk]
  · rw [uW_14, upd_ne hk]
theorem bkX_r (M : MS) : bkX M M := ⟨fun _ _ => rfl, fun _ _ => rfl, Nat.le_refl _, fun _ _ _ _ => rfl⟩
theorem bkX_hMv {M N : MS} (hx : bkX M N) {b : Nat} (hb : hpB b N) (hb2 : b < 2 ^ 30) (l : List Nat) (d c : Nat) : bkX M (hMv N l d c) := by
  have eH : uHelps (hMv N l d c) = uHelps N + 1 := uHelps_W (M := msS 22 N (mA 8 N (l.getD d 0))) hb hb2 _ _ _ _
  have h3 := hx.2.2.1
  refine ⟨fun i hi => ?_, fun i hi => ?_, by omega, fun i hi k hk => ?_⟩
  · unfold hMv
    rw [uW_S i (by omega), mS_ne (by omega)]
    exact hx.1 i hi
  · unfold hMv
    rw [uW_A i (by omega)]
    exact hx.2.1 i hi
  · unfold hMv
    rw [uW_row _ _ _ _ hi (show ¬ k = uHelps (msS 22 N (mA 8 N (l.getD d 0))) by show ¬ k = uHelps N; omega)]
    exact hx.2.2.2 i hi k hk
theorem hMv_9 (N : MS) (l : List Nat) (d c : Nat) (hn : l.getD d 0 < 12) : mA 9 (hMv N l d c) = upd (mA 9 N) (l.getD d 0) (mA 9 N (l.getD d 0) + 1) := by
  unfold hMv
  rw [uW_9, if_neg (nI_nlt0 (by omega)), nI_clamp (by omega)]
  rfl
theorem hadB_hMv {M N : MS} {l : List Nat} (hl : l = HLs M) (hv : VB M) (h12 : uNeeds M ≤ 12) {d : Nat} (hb : hadB M N l d) (hd : d < l.length) (c : Nat) : hadB M (hMv N l d c) l (d + 1) := by
  intro n hn
  have hnd : l.getD d 0 < uNeeds M := by subst hl; exact HLs_lt M hd
  obtain ⟨e, m, h1, h2, h3, h4, h5⟩ := hb n hn
  rw [hMv_9 N l d c (by omega), take_succ_count hd]
  by_cases en : n = l.getD d 0
  · subst en
    obtain ⟨-, hh, dd, d1, d2, d3, d4⟩ := hv (l.getD d 0) hnd
    have hc := take_count (Nat.le_refl d) hd
    have hc2 : l.count (l.getD d 0) ≤ HLn M (l.getD d 0) := by rw [hl]; exact HLs_count M _
    have em : m = dd := (nI_inj (by omega) (by omega)).mp (h2.symm.trans d4)
    have hHL : HLn M (l.getD d 0) = hh - dd := by unfold HLn; rw [d3, d4, nI_clamp (by omega), nI_clamp (by omega)]
    refine ⟨e + 1, m, by rw [upd_eq, h1]; exact nI_1 e, h2, by omega, h4, by rw [if_pos rfl]; omega⟩
  · refine ⟨e, m, by rw [upd_ne en]; exact h1, h2, h3, h4, by omega⟩
theorem hadB_0 {M : MS} (hv : VB M) (l : List Nat) : hadB M M l 0 := by
  intro n hn
  obtain ⟨-, hh, dd, d1, d2, d3, d4⟩ := hv n hn
  exact ⟨dd, dd, d4, d4, by omega, by omega, by rw [List.take_zero, List.count_nil]; omega⟩
theorem hadB_up {M N : MS} {l : List Nat} {d : Nat} (hb : hadB M N l d) : hadB M N l (d + 1) := by
  intro n hn
  obtain ⟨e, m, h1, h2, h3, h4, h5⟩ := hb n hn
  refine ⟨e, m, h1, h2, h3, h4, ?_⟩
  have : (l.take d).count n ≤ (l.take (d + 1)).count n := by
    rw [List.take_succ, List.count_append]
    omega
  omega
/-- what stays when one more helps: the same as when only he helps -/
theorem av_union {M N : MS} {l : List Nat} (hl : l = HLs M) (hv : VB M) (h12 : uNeeds M ≤ 12) {b : Nat} (hbM : hpB b M) (hbN : hpB b N) (hb : b < 300) (hx : bkX M N) {d j q c : Nat} (hh : hadB M N l d) (hj : j < l.length) (hd : d < j) :
    avM (hMv N l d c) l j q = (avM N l j q && st0M M l d c j q) := by
  have hdl : d < l.length := by omega
  have hnj : l.getD j 0 < uNeeds M := by subst hl; exact HLs_lt M hj
  have hnd : l.getD d 0 < uNeeds M := by subst hl; exact HLs_lt M hdl
  have hxX := bkX_hMv hx hbN (by omega) l d c
  have hxM := bkX_hMv (bkX_r M) hbM (by omega) l d c
  have hhX := hadB_hMv hl hv h12 hh hdl c
  have hhM0 : ∀ k, hadB M M l k := fun k => by
    induction k with
    | zero => exact hadB_0 hv l
    | succ k ih => exact hadB_up ih
  have hhM := hadB_hMv hl hv h12 (hhM0 d) hdl c
  have oX := hadB_open hl hv hhX (fun i hi => hxX.2.1 i (by omega)) (show d + 1 ≤ j by omega) hj hnj
  have oM := hadB_open hl hv hhM (fun i hi => hxM.2.1 i (by omega)) (show d + 1 ≤ j by omega) hj hnj
  have oN := hadB_open hl hv hh (fun i hi => hx.2.1 i (by omega)) (show d ≤ j by omega) hj hnj
  unfold st0M
  rw [decide_eq_true hj, Bool.true_and, avM_e hxX (by omega) oX, avM_e hxM (by omega) oM, avM_e hx (by omega) oN]
  have eyN : mA 8 N = mA 8 M := hx.2.1 8 (by omega)
  have ewN : mA 4 N = mA 4 M := hx.2.1 4 (by omega)
  have egN : mA 6 N = mA 6 M := hx.2.1 6 (by omega)
  have key : ∀ (P : MS) (hP : hpB b P) (eY : mA 8 P = mA 8 M) (eW : mA 4 P = mA 4 M) (eG : mA 6 P = mA 6 M) (y p w : Int32), uSpent (msS 22 (hMv P l d c) y) p w = (uSpent (msS 22 P y) p w || (!decide (mA 1 P p.toNatClampNeg = 4) && hitV P y p w (nI c) (mA 4 M (l.getD d 0)) (mA 8 M (l.getD d 0)) (mA 6 M (l.getD d 0)))) := fun P hP eY eW eG y p w => by
    have hP2 : hpB b (msS 22 P (mA 8 P (l.getD d 0))) := hP
    unfold hMv
    rw [uSpent_W hP2 (by omega), eW, eG, eY]
    rfl
  have key2 : ∀ (P : MS) (hP : hpB b P) (p w : Int32), uHas (hMv P l d c) p w = (uHas P p w || (decide ((if nI (l.getD d 0) = 12 then -1 else nI (l.getD d 0)) = w) && decide (nI c = p))) := fun P hP p w => by
    have hP2 : hpB b (msS 22 P (mA 8 P (l.getD d 0))) := hP
    unfold hMv
    rw [uHas_W hP2 (by omega)]
    rfl
  rw [key N hbN eyN ewN egN, key M hbM rfl rfl rfl, key2 N hbN, key2 M hbM]
  have ek : mA 1 N = mA 1 M := hx.2.1 1 (by omega)
  have eh : hitV N = hitV M := by
    unfold hitV
    rw [hx.1 18 (by omega), hx.1 19 (by omega), hx.1 20 (by omega)]
  rw [ek, eh]
  have hs := bkX_spent hx (mA 8 M (l.getD j 0)) (nI q) (mA 4 M (l.getD j 0))
  have hu := bkX_has hx (nI q) (nI (l.getD j 0))
  generalize hitV M _ _ _ _ _ _ _ = A1
  generalize (decide ((if nI (l.getD d 0) = 12 then -1 else nI (l.getD d 0)) = nI (l.getD j 0)) && decide (nI c = nI q)) = A2
  generalize decide (mA 1 M (nI q).toNatClampNeg = 4) = A3
  generalize uSpent (msS 22 M (mA 8 M (l.getD j 0))) (nI q) (mA 4 M (l.getD j 0)) = s1 at hs ⊢
  generalize uSpent (msS 22 N (mA 8 M (l.getD j 0))) (nI q) (mA 4 M (l.getD j 0)) = s2 at hs ⊢
  generalize uHas M (nI q) (nI (l.getD j 0)) = u1 at hu ⊢
  generalize uHas N (nI q) (nI (l.getD j 0)) = u2 at hu ⊢
  generalize decide (q < uPeople M) = B1
  generalize scM M (nI q) (mA 4 M (l.getD j 0)) = B2
  revert hs hu
  cases s1 <;> cases s2 <;> cases u1 <;> cases u2 <;> cases A1 <;> cases A2 <;> cases A3 <;> cases B1 <;> cases B2 <;> decide
end
