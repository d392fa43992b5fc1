noncomputable section
theorem lwc_feed {p : Program} {l : Launch} {e : Env} {s : State} {m : MethodId} {below : List Frame} {meth : Method} {c : Code} {b L : Nat} {xs : Nat → Int32} {B : Bx} {Q : State → Prop} {cells slots : Nat} {g : Nat → Nat} {LI : HS → MS → Prop} (LC : LwC p s m meth c b L xs B) (hpu : PureOK LI g) (hcs : cells ≤ room_1.cells) (hsl : slots ≤ room_1.slots) {i : Nat} (hv1 : vp_in (nI i + 1) L) (hv2 : vp_in (nI i + 2) L) (hv3 : vp_in (nI i + 3) L) {ls : Array Slot} (hl : lv_has ls 4 [(0, .ref b), (1, .ref (g 0)), (2, .ref (g 30)), (3, .int (nI i))]) (kk : ∀ (H : Heap) (locs : List Loc) (Z : LW), LI Z.1 Z.2 → va_P B.1 vwCl (encW B g Z) H → va_D (fun q : Nat => s.heap.size ≤ q) (encW B g Z) → va_S (fun q : Nat => s.heap.size ≤ q) s.heap H locs → W p l e room_1 s m #[Value.ref b] below meth c H locs cells slots Q (F0 m 1063 ls []))
    {H : Heap} {locs : List Loc} (Z : LW) (hZ : LI Z.1 Z.2) (hP : va_P B.1 vwCl (encW B g Z) H) (hD : va_D (fun q : Nat => s.heap.size ≤ q) (encW B g Z)) (hS : va_S (fun q : Nat => s.heap.size ≤ q) s.heap H locs) : W p l e room_1 s m #[Value.ref b] below meth c H locs cells slots Q (F0 m 188 ls []) := by
  obtain ⟨hx, hb, hml, hown, hts, hX, hbl, hlocks, -, hK, hE⟩ := id LC
  have hbA : ¬ (fun q : Nat => s.heap.size ≤ q) b := Nat.not_le.mpr hbl
  obtain ⟨a1, ha1⟩ : ∃ a, a = xs (nI i + 1).toNatClampNeg := ⟨_, rfl⟩
  obtain ⟨p1, p2, ⟨r, q1, q2⟩, q3⟩ := (hpu.1 a1) Z.1 Z.2 hZ
  refine lv_aload_n hx hb dL_law_188 rfl (lv_at hl 1 rfl) ?_
  refine lv_aload_n hx hb dL_law_189 rfl (lv_at hl 0 rfl) ?_
  refine lv_iload_n hx hb dL_law_190 rfl (lv_at hl 3 rfl) ?_
  refine lv_iconst (v := 1) hx hb dL_law_191 (by decide) ?_
  refine lv_iadd hx hb dL_law_192 ?_
  refine va_sld hx hb hX hbl hbA hS (hv1) dL_law_193 ?_
  rw [← ha1]
  refine lawV (n := 1) (b0 := g 0) (q0 := 0) (ci := 3) LC (frW_H B g) (k_X3_feed B g) (lwGood gL_law_X3_feed) rfl ⟨rfl, by decide +kernel, by decide +kernel, by decide +kernel⟩ ⟨rfl, rfl⟩ ⟨Nat.le_of_ble_eq_true rfl, Nat.le_of_ble_eq_true rfl⟩ rfl (fun Z => ⟨_, rfl⟩) [.int a1] rfl Z p1 hP hD hS hl.1 (by first | exact trivial | (unfold restOK restOKn; trivial)) rfl dL_law_194 hcs hsl (fun H locs hP hD hS => ?_)
  rw [show (F_X3_feed g).2.1 (.ref (g 0) :: [.int a1]) Z.1 = some (.int r) from q1]
  generalize hS1 : (F_X3_feed g).2.2 (.ref (g 0) :: [.int a1]) Z.1 = S1 at q3 hP hD
  obtain ⟨Z1, hZ1⟩ : ∃ Z1 : LW, Z1 = (S1, Z.2) := ⟨_, rfl⟩
  have hM1 : Z1.2 = Z.2 := by rw [hZ1]
  have p2 : (F_X4_feed g).1 (.ref (g 30) :: [.int a1]) Z1.2 := by rw [hM1]; exact p2
  have q2 : (F_X4_feed g).2.1 (.ref (g 30) :: [.int a1]) Z1.2 = some (.int r) := by rw [hM1]; exact q2
  have q3 : LI Z1.1 ((F_X4_feed g).2.2 (.ref (g 30) :: [.int a1]) Z1.2) := by rw [hM1, hZ1]; exact q3
  have hP : va_P B.1 vwCl (encW B g Z1) H := by rw [hZ1]; exact hP
  have hD : va_D (fun q : Nat => s.heap.size ≤ q) (encW B g Z1) := by rw [hZ1]; exact hD
  refine lv_aload_n hx hb dL_law_197 rfl (lv_at hl 2 rfl) ?_
  refine lv_aload_n hx hb dL_law_198 rfl (lv_at hl 0 rfl) ?_
  refine lv_iload_n hx hb dL_law_199 rfl (lv_at hl 3 rfl) ?_
  refine lv_iconst (v := 1) hx hb dL_law_200 (by decide) ?_
  refine lv_iadd hx hb dL_law_201 ?_
  refine va_sld hx hb hX hbl hbA hS (hv1) dL_law_202 ?_
  rw [← ha1]
  refine lawV (n := 1) (b0 := g 30) (q0 := 26) (ci := 4) LC (frW_M B g) (k_X4_feed B g) (lwGood gL_law_X4_feed) rfl ⟨rfl, by decide +kernel, by decide +kernel, by decide +kernel⟩ ⟨rfl, rfl⟩ ⟨Nat.le_of_ble_eq_true rfl, Nat.le_of_ble_eq_true rfl⟩ rfl (fun Z => ⟨_, rfl⟩) [.int a1] rfl Z1 p2 hP hD hS hl.1 (by first | exact trivial | (unfold restOK restOKn; trivial)) rfl dL_law_203 hcs hsl (fun H locs hP hD hS => ?_)
  rw [show (F_X4_feed g).2.1 (.ref (g 30) :: [.int a1]) Z1.2 = some (.int r) from q2]
  generalize (F_X4_feed g).2.2 (.ref (g 30) :: [.int a1]) Z1.2 = M2 at q3 hP hD
  refine lv_icmp_eq (tgt := 1063) hx hb dL_law_206 (by decide) (fun _ => ?_) (fun h => absurd rfl h)
  exact kk H locs (Z1.1, M2) q3 hP hD hS
theorem lwc_town {p : Program} {l : Launch} {e : Env} {s : State} {m : MethodId} {below : List Frame} {meth : Method} {c : Code} {b L : Nat} {xs : Nat → Int32} {B : Bx} {Q : State → Prop} {cells slots : Nat} {g : Nat → Nat} {LI : HS → MS → Prop} (LC : LwC p s m meth c b L xs B) (hpu : PureOK LI g) (hcs : cells ≤ room_1.cells) (hsl : slots ≤ room_1.slots) {i : Nat} (hv1 : vp_in (nI i + 1) L) (hv2 : vp_in (nI i + 2) L) (hv3 : vp_in (nI i + 3) L) {ls : Array Slot} (hl : lv_has ls 4 [(0, .ref b), (1, .ref (g 0)), (2, .ref (g 30)), (3, .int (nI i))]) (kk : ∀ (H : Heap) (locs : List Loc) (Z : LW), LI Z.1 Z.2 → va_P B.1 vwCl (encW B g Z) H → va_D (fun q : Nat => s.heap.size ≤ q) (encW B g Z) → va_S (fun q : Nat => s.heap.size ≤ q) s.heap H locs → W p l e room_1 s m #[Value.ref b] below meth c H locs cells slots Q (F0 m 1063 ls []))
    {H : Heap} {locs : List Loc} (Z : LW) (hZ : LI Z.1 Z.2) (hP : va_P B.1 vwCl (encW B g Z) H) (hD : va_D (fun q : Nat => s.heap.size ≤ q) (encW B g Z)) (hS : va_S (fun q : Nat => s.heap.size ≤ q) s.heap H locs) : W p l e room_1 s m #[Value.ref b] below meth c H locs cells slots Q (F0 m 211 ls []) := by
  obtain ⟨hx, hb, hml, hown, hts, hX, hbl, hlocks, -, hK, hE⟩ := id LC
  have hbA : ¬ (fun q : Nat => s.heap.size ≤ q) b := Nat.not_le.mpr hbl
  obtain ⟨p1, p2, ⟨r, q1, q2⟩, q3⟩ := (hpu.2.1) Z.1 Z.2 hZ
  refine lv_aload_n hx hb dL_law_211 rfl (lv_at hl 1 rfl) ?_
  refine lawV (n := 0) (b0 := g 0) (q0 := 0) (ci := 3) LC (frW_H B g) (k_X3_town B g) (lwGood gL_law_X3_town) rfl ⟨rfl, by decide +kernel, by decide +kernel, by decide +kernel⟩ ⟨rfl, rfl⟩ ⟨Nat.le_of_ble_eq_true rfl, Nat.le_of_ble_eq_true rfl⟩ rfl (fun Z => ⟨_, rfl⟩) [] rfl Z p1 hP hD hS hl.1 (by first | exact trivial | (unfold restOK restOKn; trivial)) rfl dL_law_212 hcs hsl (fun H locs hP hD hS => ?_)
  rw [show (F_X3_town g).2.1 (.ref (g 0) :: []) Z.1 = some (.int r) from q1]
  generalize hS1 : (F_X3_town g).2.2 (.ref (g 0) :: []) Z.1 = S1 at q3 hP hD
  obtain ⟨Z1, hZ1⟩ : ∃ Z1 : LW, Z1 = (S1, Z.2) := ⟨_, rfl⟩
  have hM1 : Z1.2 = Z.2 := by rw [hZ1]
  have p2 : (F_X4_town g).1 (.ref (g 30) :: []) Z1.2 := by rw [hM1]; exact p2
  have q2 : (F_X4_town g).2.1 (.ref (g 30) :: []) Z1.2 = some (.int r) := by rw [hM1]; exact q2
  have q3 : LI Z1.1 ((F_X4_town g).2.2 (.ref (g 30) :: []) Z1.2) := by rw [hM1, hZ1]; exact q3
  have hP : va_P B.1 vwCl (encW B g Z1) H := by rw [hZ1]; exact hP
  have hD : va_D (fun q : Nat => s.heap.size ≤ q) (encW B g Z1) := by rw [hZ1]; exact hD
  refine lv_aload_n hx hb dL_law_215 rfl (lv_at hl 2 rfl) ?_
  refine lawV (n := 0) (b0 := g 30) (q0 := 26) (ci := 4) LC (frW_M B g) (k_X4_town B g) (lwGood gL_law_X4_town) rfl ⟨rfl, by decide +kernel, by decide +kernel, by decide +kernel⟩ ⟨rfl, rfl⟩ ⟨Nat.le_of_ble_eq_true rfl, Nat.le_of_ble_eq_true rfl⟩ rfl (fun Z => ⟨_, rfl⟩) [] rfl Z1 p2 hP hD hS hl.1 (by first | exact trivial | (unfold restOK restOKn; trivial)) rfl dL_law_216 hcs hsl (fun H locs hP hD hS => ?_)
  rw [show (F_X4_town g).2.1 (.ref (g 30) :: []) Z1.2 = some (.int r) from q2]
  generalize (F_X4_town g).2.2 (.ref (g 30) :: []) Z1.2 = M2 at q3 hP hD
  refine lv_icmp_eq (tgt := 1063) hx hb dL_law_219 (by decide) (fun _ => ?_) (fun h => absurd rfl h)
  exact kk H locs (Z1.1, M2) q3 hP hD hS
theorem lwc_person {p : Program} {l : Launch} {e : Env} {s : State} {m : MethodId} {below : List Frame} {meth : Method} {c : Code} {b L : Nat} {xs : Nat → Int32} {B : Bx} {Q : State → Prop} {cells slots : Nat} {g : Nat → Nat} {LI : HS → MS → Prop} (LC : LwC p s m meth c b L xs B) (hpu : PureOK LI g) (hcs : cells ≤ room_1.cells) (hsl : slots ≤ room_1.slots) {i : Nat} (hv1 : vp_in (nI i + 1) L) (hv2 : vp_in (nI i + 2) L) (hv3 : vp_in (nI i + 3) L) {ls : Array Slot} (hl : lv_has ls 4 [(0, .ref b), (1, .ref (g 0)), (2, .ref (g 30)), (3, .int (nI i))]) (kk : ∀ (H : Heap) (locs : List Loc) (Z : LW), LI Z.1 Z.2 → va_P B.1 vwCl (encW B g Z) H → va_D (fun q : Nat => s.heap.size ≤ q) (encW B g Z) → va_S (fun q : Nat => s.heap.size ≤ q) s.heap H locs → W p l e room_1 s m #[Value.ref b] below meth c H locs cells slots Q (F0 m 1063 ls []))
    {H : Heap} {locs : List Loc} (Z : LW) (hZ : LI Z.1 Z.2) (hP : va_P B.1 vwCl (encW B g Z) H) (hD : va_D (fun q : Nat => s.heap.size ≤ q) (encW B g Z)) (hS : va_S (fun q : Nat => s.heap.size ≤ q) s.heap H locs) : W p l e room_1 s m #[Value.ref b] below meth c H locs cells slots Q (F0 m 224 ls []) := by
  obtain ⟨hx, hb, hml, hown, hts, hX, hbl, hlocks, -, hK, hE⟩ := id LC
  have hbA : ¬ (fun q : Nat => s.heap.size ≤ q) b := Nat.not_le.mpr hbl
  obtain ⟨a1, ha1⟩ : ∃ a, a = xs (nI i + 1).toNatClampNeg := ⟨_, rfl⟩
  obtain ⟨a2, ha2⟩ : ∃ a, a = xs (nI i + 2).toNatClampNeg := ⟨_, rfl⟩
  obtain ⟨p1, p2, ⟨r, q1, q2⟩, q3⟩ := (hpu.2.2.1 a1 a2) Z.1 Z.2 hZ
  refine lv_aload_n hx hb dL_law_224 rfl (lv_at hl 1 rfl) ?_
  refine lv_aload_n hx hb dL_law_225 rfl (lv_at hl 0 rfl) ?_
  refine lv_iload_n hx hb dL_law_226 rfl (lv_at hl 3 rfl) ?_
  refine lv_iconst (v := 1) hx hb dL_law_227 (by decide) ?_
  refine lv_iadd hx hb dL_law_228 ?_
  refine va_sld hx hb hX hbl hbA hS (hv1) dL_law_229 ?_
  rw [← ha1]
  refine lv_aload_n hx hb dL_law_230 rfl (lv_at hl 0 rfl) ?_
  refine lv_iload_n hx hb dL_law_231 rfl (lv_at hl 3 rfl) ?_
  refine lv_iconst (v := 2) hx hb dL_law_232 (by decide) ?_
  refine lv_iadd hx hb dL_law_233 ?_
  refine va_sld hx hb hX hbl hbA hS (hv2) dL_law_234 ?_
  rw [← ha2]
  refine lawV (n := 2) (b0 := g 0) (q0 := 0) (ci := 3) LC (frW_H B g) (k_X3_person B g) (lwGood gL_law_X3_person) rfl ⟨rfl, by decide +kernel, by decide +kernel, by decide +kernel⟩ ⟨rfl, rfl⟩ ⟨Nat.le_of_ble_eq_true rfl, Nat.le_of_ble_eq_true rfl⟩ rfl (fun Z => ⟨_, rfl⟩) [.int a1, .int a2] rfl Z p1 hP hD hS hl.1 (by first | exact trivial | (unfold restOK restOKn; trivial)) rfl dL_law_235 hcs hsl (fun H locs hP hD hS => ?_)
  rw [show (F_X3_person g).2.1 (.ref (g 0) :: [.int a1, .int a2]) Z.1 = some (.int r) from q1]
  generalize hS1 : (F_X3_person g).2.2 (.ref (g 0) :: [.int a1, .int a2]) Z.1 = S1 at q3 hP hD
  obtain ⟨Z1, hZ1⟩ : ∃ Z1 : LW, Z1 = (S1, Z.2) := ⟨_, rfl⟩
  have hM1 : Z1.2 = Z.2 := by rw [hZ1]
  have p2 : (F_X4_person g).1 (.ref (g 30) :: [.int a1, .int a2]) Z1.2 := by rw [hM1]; exact p2
  have q2 : (F_X4_person g).2.1 (.ref (g 30) :: [.int a1, .int a2]) Z1.2 = some (.int r) := by rw [hM1]; exact q2
  have q3 : LI Z1.1 ((F_X4_person g).2.2 (.ref (g 30) :: [.int a1, .int a2]) Z1.2) := by rw [hM1, hZ1]; exact q3
  have hP : va_P B.1 vwCl (encW B g Z1) H := by rw [hZ1]; exact hP
  have hD : va_D (fun q : Nat => s.heap.size ≤ q) (encW B g Z1) := by rw [hZ1]; exact hD
  refine lv_aload_n hx hb dL_law_238 rfl (lv_at hl 2 rfl) ?_
  refine lv_aload_n hx hb dL_law_239 rfl (lv_at hl 0 rfl) ?_
  refine lv_iload_n hx hb dL_law_240 rfl (lv_at hl 3 rfl) ?_
  refine lv_iconst (v := 1) hx hb dL_law_241 (by decide) ?_
  refine lv_iadd hx hb dL_law_242 ?_
  refine va_sld hx hb hX hbl hbA hS (hv1) dL_law_243 ?_
  rw [← ha1]
  refine lv_aload_n hx hb dL_law_244 rfl (lv_at hl 0 rfl) ?_
  refine lv_iload_n hx hb dL_law_245 rfl (lv_at hl 3 rfl) ?_
  refine lv_iconst (v := 2) hx hb dL_law_246 (by decide) ?_
  refine lv_iadd hx hb dL_law_247 ?_
  refine va_sld hx hb hX hbl hbA hS (hv2) dL_law_248 ?_
  rw [← ha2]
  refine lawV (n := 2) (b0 := g 30) (q0 := 26) (ci := 4) LC (frW_M B g) (k_X4_person B g) (lwGood gL_law_X4_person) rfl ⟨rfl, by decide +kernel, by decide +kernel, by decide +kernel⟩ ⟨rfl, rfl⟩ ⟨Nat.le_of_ble_eq_true rfl, Nat.le_of_ble_eq_true rfl⟩ rfl (fun Z => ⟨_, rfl⟩) [.int a1, .int a2] rfl Z1 p2 hP hD hS hl.1 (by first | exact trivial | (unfold restOK restOKn; trivial)) rfl dL_law_249 hcs hsl (fun H locs hP hD hS => ?_)
  rw [show (F_X4_person g).2.1 (.ref (g 30) :: [.int a1, .int a2]) Z1.2 = some (.int r) from q2]
  generalize (F_X4_person g).2.2 (.ref (g 30) :: [.int a1, .int a2]) Z1.2 = M2 at q3 hP hD
  refine lv_icmp_eq (tgt := 1063) hx hb dL_law_252 (by decide) (fun _ => ?_) (fun h => absurd rfl h)
  exact kk H locs (Z1.1, M2) q3 hP hD hS
theorem lwc_need {p : Program} {l : Launch} {e : Env} {s : State} {m : MethodId} {below : List Frame} {meth : Method} {c : Code} {b L : Nat} {xs : Nat → Int32} {B : Bx} {Q : State → Prop} {cells slots : Nat} {g : Nat → Nat} {LI : HS → MS → Prop} (LC : LwC p s m meth c b L xs B) (hpu : PureOK LI g) (hcs : cells ≤ room_1.cells) (hsl : slots ≤ room_1.slots) {i : Nat} (hv1 : vp_in (nI i + 1) L) (hv2 : vp_in (nI i + 2) L) (hv3 : vp_in (nI i + 3) L) {ls : Array Slot} (hl : lv_has ls 4 [(0, .ref b), (1, .ref (g 0)), (2, .ref (g 30)), (3, .int (nI i))]) (kk : ∀ (H : Heap) (locs : List Loc) (Z : LW), LI Z.1 Z.2 → va_P B.1 vwCl (encW B g Z) H → va_D (fun q : Nat => s.heap.size ≤ q) (encW B g Z) → va_S (fun q : Nat => s.heap.size ≤ q) s.heap H locs → W p l e room_1 s m #[Value.ref b] below meth c H locs cells slots Q (F0 m 1063 ls []))
    {H : Heap} {locs : List Loc} (Z : LW) (hZ : LI Z.1 Z.2) (hP : va_P B.1 vwCl (encW B g Z) H) (hD : va_D (fun q : Nat => s.heap.size ≤ q) (encW B g Z)) (hS : va_S (fun q : Nat => s.heap.size ≤ q) s.heap H locs) : W p l e room_1 s m #[Value.ref b] below meth c H locs cells slots Q (F0 m 257 ls []) := by
  obtain ⟨hx, hb, hml, hown, hts, hX, hbl, hlocks, -, hK, hE⟩ := id LC
  have hbA : ¬ (fun q : Nat => s.heap.size ≤ q) b := Nat.not_le.mpr hbl
  obtain ⟨a1, ha1⟩ : ∃ a, a = xs (nI i + 1).toNatClampNeg := ⟨_, rfl⟩
  obtain ⟨a2, ha2⟩ : ∃ a, a = xs (nI i + 2).toNatClampNeg := ⟨_, rfl⟩
  obtain ⟨p1, p2, ⟨r, q1, q2⟩, q3⟩ := (hpu.2.2.2.1 a1 a2) Z.1 Z.2 hZ
  refine lv_aload_n hx hb dL_law_257 rfl (lv_at hl 1 rfl) ?_
  refine lv_aload_n hx hb dL_law_258 rfl (lv_at hl 0 rfl) ?_
  refine lv_iload_n hx hb dL_law_259 rfl (lv_at hl 3 rfl) ?_
  refine lv_iconst (v := 1) hx hb dL_law_260 (by decide) ?_
  refine lv_iadd hx hb dL_law_261 ?_
  refine va_sld hx hb hX hbl hbA hS (hv1) dL_law_262 ?_
  rw [← ha1]
  refine lv_aload_n hx hb dL_law_263 rfl (lv_at hl 0 rfl) ?_
  refine lv_iload_n hx hb dL_law_264 rfl (lv_at hl 3 rfl) ?_
  refine lv_iconst (v := 2) hx hb dL_law_265 (by decide) ?_
  refine lv_iadd hx hb dL_law_266 ?_
  refine va_sld hx hb hX hbl hbA hS (hv2) dL_law_267 ?_
  rw [← ha2]
  refine lawV (n := 2) (b0 := g 0) (q0 := 0) (ci := 3) LC (frW_H B g) (k_X3_need B g) (lwGood gL_law_X3_need) rfl ⟨rfl, by decide +kernel, by decide +kernel, by decide +kernel⟩ ⟨rfl, rfl⟩ ⟨Nat.le_of_ble_eq_true rfl, Nat.le_of_ble_eq_true rfl⟩ rfl (fun Z => ⟨_, rfl⟩) [.int a1, .int a2] rfl Z p1 hP hD hS hl.1 (by first | exact trivial | (unfold restOK restOKn; trivial)) rfl dL_law_268 hcs hsl (fun H locs hP hD hS => ?_)
  rw [show (F_X3_need g).2.1 (.ref (g 0) :: [.int a1, .int a2]) Z.1 = some (.int r) from q1]
  generalize hS1 : (F_X3_need g).2.2 (.ref (g 0) :: [.int a1, .int a2]) Z.1 = S1 at q3 hP hD
  obtain ⟨Z1, hZ1⟩ : ∃ Z1 : LW, Z1 = (S1, Z.2) := ⟨_, rfl⟩
  have hM1 : Z1.2 = Z.2 := by rw [hZ1]
  have p2 : (F_X4_need g).1 (.ref (g 30) :: [.int a1, .int a2]) Z1.2 := by rw [hM1]; exact p2
  have q2 : (F_X4_need g).2.1 (.ref (g 30) :: [.int a1, .int a2]) Z1.2 = some (.int r) := by rw [hM1]; exact q2
  have q3 : LI Z1.1 ((F_X4_need g).2.2 (.ref (g 30) :: [.int a1, .int a2]) Z1.2) := by rw [hM1, hZ1]; exact q3
  have hP : va_P B.1 vwCl (encW B g Z1) H := by rw [hZ1]; exact hP
  have hD : va_D (fun q : Nat => s.heap.size ≤ q) (encW B g Z1) := by rw [hZ1]; exact hD
  refine lv_aload_n hx hb dL_law_271 rfl (lv_at hl 2 rfl) ?_
  refine lv_aload_n hx hb dL_law_272 rfl (lv_at hl 0 rfl) ?_
  refine lv_iload_n hx hb dL_law_273 rfl (lv_at hl 3 rfl) ?_
  refine lv_iconst (v := 1) hx hb dL_law_274 (by decide) ?_
  refine lv_iadd hx hb dL_law_275 ?_
  refine va_sld hx hb hX hbl hbA hS (hv1) dL_law_276 ?_
  rw [← ha1]
  refine lv_aload_n hx hb dL_law_277 rfl (lv_at hl 0 rfl) ?_
  refine lv_iload_n hx hb dL_law_278 rfl (lv_at hl 3 rfl) ?_
  refine lv_iconst (v := 2) hx hb dL_law_279 (by decide) ?_
  refine lv_iadd hx hb dL_law_280 ?_
  refine va_sld hx hb hX hbl hbA hS (hv2) dL_law_281 ?_
  rw [← ha2]
  refine lawV (n := 2) (b0 := g 30) (q0 := 26) (ci := 4) LC (frW_M B g) (k_X4_need B g) (lwGood gL_law_X4_need) rfl ⟨rfl, by decide +kernel, by decide +kernel, by decide +kernel⟩ ⟨rfl, rfl⟩ ⟨Nat.le_of_ble_eq_true rfl, Nat.le_of_ble_eq_true rfl⟩ rfl (fun Z => ⟨_, rfl⟩) [.int a1, .int a2] rfl Z1 p2 hP hD hS hl.1 (by first | exact trivial | (unfold restOK restOKn; trivial)) rfl dL_law_282 hcs hsl (fun H locs hP hD hS => ?_)
  rw [show (F_X4_need g).2.1 (.ref (g 30) :: [.int a1, .int a2]) Z1.2 = some (.int r) from q2]
  generalize (F_X4_need g).2.2 (.ref (g 30) :: [.int a1, .int a2]) Z1.2 = M2 at q3 hP hD
  refine lv_icmp_eq (tgt := 1063) hx hb dL_law_285 (by decide) (fun _ => ?_) (fun h => absurd rfl h)
  exact kk H locs (Z1.1, M2) q3 hP hD hS
theorem lwc_set {p : Program} {l : Launch} {e : Env} {s : State} {m : MethodId} {below : List Frame} {meth : Method} {c : Code} {b L : Nat} {xs : Nat → Int32} {B : Bx} {Q : State → Prop} {cells slots : Nat} {g : Nat → Nat} {LI : HS → MS → Prop} (LC : LwC p s m meth c b L xs B) (hpu : PureOK LI g) (hcs : cells ≤ room_1.cells) (hsl : slots ≤ room_1.slots) {i : Nat} (hv1 : vp_in (nI i + 1) L) (hv2 : vp_in (nI i + 2) L) (hv3 : vp_in (nI i + 3) L) {ls : Array Slot} (hl : lv_has ls 4 [(0, .ref b), (1, .ref (g 0)), (2, .ref (g 30)), (3, .int (nI i))]) (kk : ∀ (H : Heap) (locs : List Loc) (Z : LW), LI Z.1 Z.2 → va_P B.1 vwCl (encW B g Z) H → va_D (fun q : Nat => s.heap.size ≤ q) (encW B g Z) → va_S (fun q : Nat => s.heap.size ≤ q) s.heap H locs → W p l e room_1 s m #[Value.ref b] below meth c H locs cells slots Q (F0 m 1063 ls []))
    {H : Heap} {locs : List Loc} (Z : LW) (hZ : LI Z.1 Z.2) (hP : va_P B.1 vwCl (encW B g Z) H) (hD : va_D (fun q : Nat => s.heap.size ≤ q) (encW B g Z)) (hS : va_S (fun q : Nat => s.heap.size ≤ q) s.heap H locs) : W p l e room_1 s m #[Value.ref b] below meth c H locs cells slots Q (F0 m 290 ls []) := by
  obtain ⟨hx, hb, hml, hown, hts, hX, hbl, hlocks, -, hK, hE⟩ := id LC
  have hbA : ¬ (fun q : Nat => s.heap.size ≤ q) b := Nat.not_le.mpr hbl
  obtain ⟨a1, ha1⟩ : ∃ a, a = xs (nI i + 1).toNatClampNeg := ⟨_, rfl⟩
  obtain ⟨a2, ha2⟩ : ∃ a, a = xs (nI i + 2).toNatClampNeg := ⟨_, rfl⟩
  obtain ⟨p1, p2, ⟨r, q1, q2⟩, q3⟩ := (hpu.2.2.2.2.1 a1 a2) Z.1 Z.2 hZ
  refine lv_aload_n hx hb dL_law_290 rfl (lv_at hl 1 rfl) ?_
  refine lv_aload_n hx hb dL_law_291 rfl (lv_at hl 0 rfl) ?_
  refine lv_iload_n hx hb dL_law_292 rfl (lv_at hl 3 rfl) ?_
  refine lv_iconst (v := 1) hx hb dL_law_293 (by decide) ?_
  refine lv_iadd hx hb dL_law_294 ?_
  refine va_sld hx hb hX hbl hbA hS (hv1) dL_law_295 ?_
  rw [← ha1]
  refine lv_aload_n hx hb dL_law_296 rfl (lv_at hl 0 rfl) ?_
  refine lv_iload_n hx hb dL_law_297 rfl (lv_at hl 3 rfl) ?_
  refine lv_iconst (v := 2) hx hb dL_law_298 (by decide) ?_
  refine lv_iadd hx hb dL_law_299 ?_
  refine va_sld hx hb hX hbl hbA hS (hv2) dL_law_300 ?_
  rw [← ha2]
  refine lawV (n := 2) (b0 := g 0) (q0 := 0) (ci := 3) LC (frW_H B g) (k_X3_set B g) (lwGood gL_law_X3_set) rfl ⟨rfl, by decide +kernel, by decide +kernel, by decide +kernel⟩ ⟨rfl, rfl⟩ ⟨Nat.le_of_ble_eq_true rfl, Nat.le_of_ble_eq_true rfl⟩ rfl (fun Z => ⟨_, rfl⟩) [.int a1, .int a2] rfl Z p1 hP hD hS hl.1 (by first | exact trivial | (unfold restOK restOKn; trivial)) rfl dL_law_301 hcs hsl (fun H locs hP hD hS => ?_)
  rw [show (F_X3_set g).2.1 (.ref (g 0) :: [.int a1, .int a2]) Z.1 = some (.int r) from q1]
  generalize hS1 : (F_X3_set g).2.2 (.ref (g 0) :: [.int a1, .int a2]) Z.1 = S1 at q3 hP hD
  obtain ⟨Z1, hZ1⟩ : ∃ Z1 : LW, Z1 = (S1, Z.2) := ⟨_, rfl⟩
  have hM1 : Z1.2 = Z.2 := by rw [hZ1]
  have p2 : (F_X4_set g).1 (.ref (g 30) :: [.int a1, .int a2]) Z1.2 := by rw [hM1]; exact p2
  have q2 : (F_X4_set g).2.1 (.ref (g 30) :: [.int a1, .int a2]) Z1.2 = some (.int r) := by rw [hM1]; exact q2
  have q3 : LI Z1.1 ((F_X4_set g).2.2 (.ref (g 30) :: [.int a1, .int a2]) Z1.2) := by rw [hM1, hZ1]; exact q3
  have hP : va_P B.1 vwCl (encW B g Z1) H := by rw [hZ1]; exact hP
  have hD : va_D (fun q : Nat => s.heap.size ≤ q) (encW B g Z1) := by rw [hZ1]; exact hD
  refine lv_aload_n hx hb dL_law_304 rfl (lv_at hl 2 rfl) ?_
  refine lv_aload_n hx hb dL_law_305 rfl (lv_at hl 0 rfl) ?_
  refine lv_iload_n hx hb dL_law_306 rfl (lv_at hl 3 rfl) ?_
  refine lv_iconst (v := 1) hx hb dL_law_307 (by decide) ?_
  refine lv_iadd hx hb dL_law_308 ?_
  refine va_sld hx hb hX hbl hbA hS (hv1) dL_law_309 ?_
  rw [← ha1]
  refine lv_aload_n hx hb dL_law_310 rfl (lv_at hl 0 rfl) ?_
  refine lv_iload_n hx hb dL_law_311 rfl (lv_at hl 3 rfl) ?_
  refine lv_iconst (v := 2) hx hb dL_law_312 (by decide) ?_
  refine lv_iadd hx hb dL_law_313 ?_
  refine va_sld hx hb hX hbl hbA hS (hv2) dL_law_314 ?_
  rw [← ha2]
  refine lawV (n := 2) (b0 := g 30) (q0 := 26) (ci := 4) LC (frW_M B g) (k_X4_set B g) (lwGood gL_law_X4_set) rfl ⟨rfl, by decide +kernel, by decide +kernel, by decide +kernel⟩ ⟨rfl, rfl⟩ ⟨Nat.le_of_ble_eq_true rfl, Nat.le_of_ble_eq_true rfl⟩ rfl (fun Z => ⟨_, rfl⟩) [.int a1, .int a2] rfl Z1 p2 hP hD hS hl.1 (by first | exact trivial | (unfold restOK restOKn; trivial)) rfl dL_law_315 hcs hsl (fun H locs hP hD hS => ?_)
  rw [show (F_X4_set g).2.1 (.ref (g 30) :: [.int a1, .int a2]) Z1.2 = some (.int r) from q2]
  generalize (F_X4_set g).2.2 (.ref (g 30) :: [.int a1, .int a2]) Z1.2 = M2 at q3 hP hD
  refine lv_icmp_eq (tgt := 1063) hx hb dL_law_318 (by decide) (fun _ => ?_) (fun h => absurd rfl h)
  exact kk H locs (Z1.1, M2) q3 hP hD hS
theorem lwc_minutes {p : Program} {l : Launch} {e : Env} {s : State} {m : MethodId} {below : List Frame} {meth : Method} {c : Code} {b L : Nat} {xs : Nat → Int32} {B : Bx} {Q : State → Prop} {cells slots : Nat} {g : Nat → Nat} {LI : HS → MS → Prop} (LC : LwC p s m meth c b L xs B) (hpu : PureOK LI g) (hcs : cells ≤ room_1.cells) (hsl : slots ≤ room_1.slots) {i : Nat} (hv1 : vp_in (nI i + 1) L) (hv2 : vp_in (nI i + 2) L) (hv3 : vp_in (nI i + 3) L) {ls : Array Slot} (hl : lv_has ls 4 [(0, .ref b), (1, .ref (g 0)), (2, .ref (g 30)), (3, .int (nI i))]) (kk : ∀ (H : Heap) (locs : List Loc) (Z : LW), LI Z.1 Z.2 → va_P B.1 vwCl (encW B g Z) H → va_D (fun q : Nat => s.heap.size ≤ q) (encW B g Z) → va_S (fun q : Nat => s.heap.size ≤ q) s.heap H locs → W p l e room_1 s m #[Value.ref b] below meth c H locs cells slots Q (F0 m 1063 ls []))
    {H : Heap} {locs : List Loc} (Z : LW) (hZ : LI Z.1 Z.2) (hP : va_P B.1 vwCl (encW B g Z) H) (hD : va_D (fun q : Nat => s.heap.size ≤ q) (encW B g Z)) (hS : va_S (fun q : Nat => s.heap.size ≤ q) s.heap H locs) : W p l e room_1 s m #[Value.ref b] below meth c H locs cells slots Q (F0 m 323 ls []) := by
  obtain ⟨hx, hb, hml, hown, hts, hX, hbl, hlocks, -, hK, hE⟩ := id LC
  have hbA : ¬ (fun q : Nat => s.heap.size ≤ q) b := Nat.not_le.mpr hbl
  obtain ⟨a1, ha1⟩ : ∃ a, a = xs (nI i + 1).toNatClampNeg := ⟨_, rfl⟩
  obtain ⟨a2, ha2⟩ : ∃ a, a = xs (nI i + 2).toNatClampNeg := ⟨_, rfl⟩
  obtain ⟨p1, p2, ⟨r, q1, q2⟩, q3⟩ := (hpu.2.2.2.2.2.1 a1 a2) Z.1 Z.2 hZ
  refine lv_aload_n hx hb dL_law_323 rfl (lv_at hl 1 rfl) ?_
  refine lv_aload_n hx hb dL_law_324 rfl (lv_at hl 0 rfl) ?_
  refine lv_iload_n hx hb dL_law_325 rfl (lv_at hl 3 rfl) ?_
  refine lv_iconst (v := 1) hx hb dL_law_326 (by decide) ?_
  refine lv_iadd hx hb dL_law_327 ?_
  refine va_sld hx hb hX hbl hbA hS (hv1) dL_law_328 ?_
  rw [← ha1]
  refine lv_aload_n hx hb dL_law_329 rfl (lv_at hl 0 rfl) ?_
  refine lv_iload_n hx hb dL_law_330 rfl (lv_at hl 3 rfl) ?_
  refine lv_iconst (v := 2) hx hb dL_law_331 (by decide) ?_
  refine lv_iadd hx hb dL_law_332 ?_
  refine va_sld hx hb hX hbl hbA hS (hv2) dL_law_333 ?_
  rw [← ha2]
  refine lawV (n := 2) (b0 := g 0) (q0 := 0) (ci := 3) LC (frW_H B g) (k_X3_minutes B g) (lwGood gL_law_X3_minutes) rfl ⟨rfl, by decide +kernel, by decide +kernel, by decide +kernel⟩ ⟨rfl, rfl⟩ ⟨Nat.le_of_ble_eq_true rfl, Nat.le_of_ble_eq_true rfl⟩ rfl (fun Z => ⟨_, rfl⟩) [.int a1, .int a2] rfl Z p1 hP hD hS hl.1 (by first | exact trivial | (unfold restOK restOKn; trivial)) rfl dL_law_334 hcs hsl (fun H locs hP hD hS => ?_)
  rw [show (F_X3_minutes g).2.1 (.ref (g 0) :: [.int a1, .int a2]) Z.1 = some (.int r) from q1]
  generalize hS1 : (F_X3_minutes g).2.2 (.ref (g 0) :: [.int a1, .int a2]) Z.1 = S1 at q3 hP hD
  obtain ⟨Z1, hZ1⟩ : ∃ Z1 : LW, Z1 = (S1, Z.2) := ⟨_, rfl⟩
  have hM1 : Z1.2 = Z.2 := by rw [hZ1]
  have p2 : (F_X4_minutes g).1 (.ref (g 30) :: [.int a1, .int a2]) Z1.2 := by rw [hM1]; exact p2
  have q2 : (F_X4_minutes g).2.1 (.ref (g 30) :: [.int a1, .int a2]) Z1.2 = some (.int r) := by rw [hM1]; exact q2
  have q3 : LI Z1.1 ((F_X4_minutes g).2.2 (.ref (g 30) :: [.int a1, .int a2]) Z1.2) := by rw [hM1, hZ1]; exact q3
  have hP : va_P B.1 vwCl (encW B g Z1) H := by rw [hZ1]; exact hP
  have hD : va_D (fun q : Nat => s.heap.size ≤ q) (encW B g Z1) := by rw [hZ1]; exact hD
  refine lv_aload_n hx hb dL_law_337 rfl (lv_at hl 2 rfl) ?_
  refine lv_aload_n hx hb dL_law_338 rfl (lv_at hl 0 rfl) ?_
  refine lv_iload_n hx hb dL_law_339 rfl (lv_at hl 3 rfl) ?_
  refine lv_iconst (v := 1) hx hb dL_law_340 (by decide) ?_
  refine lv_iadd hx hb dL_law_341 ?_
  refine va_sld hx hb hX hbl hbA hS (hv1) dL_law_342 ?_
  rw [← ha1]
  refine lv_aload_n hx hb dL_law_343 rfl (lv_at hl 0 rfl) ?_
  refine lv_iload_n hx hb dL_law_344 rfl (lv_at hl 3 rfl) ?_
  refine lv_iconst (v := 2) hx hb dL_law_345 (by decide) ?_
  refine lv_iadd hx hb dL_law_346 ?_
  refine va_sld hx hb hX hbl hbA hS (hv2) dL_law_347 ?_
  rw [← ha2]
  refine lawV (n := 2) (b0 := g 30) (q0 := 26) (ci := 4) LC (frW_M B g) (k_X4_minutes B g) (lwGood gL_law_X4_minutes) rfl ⟨rfl, by decide +kernel, by decide +kernel, by decide +kernel⟩ ⟨rfl, rfl⟩ ⟨Nat.le_of_ble_eq_true rfl, Nat.le_of_ble_eq_true rfl⟩ rfl (fun Z => ⟨_, rfl⟩) [.int a1, .int a2] rfl Z1 p2 hP hD hS hl.1 (by first | exact trivial | (unfold restOK restOKn; trivial)) rfl dL_law_348 hcs hsl (fun H locs hP hD hS => ?_)
  rw [show (F_X4_minutes g).2.1 (.ref (g 30) :: [.int a1, .int a2]) Z1.2 = some (.int r) from q2]
  generalize (F_X4_minutes g).2.2 (.ref (g 30) :: [.int a1, .int a2]) Z1.2 = M2 at q3 hP hD
  refine lv_icmp_eq (tgt := 1063) hx hb dL_law_351 (by decide) (fun _ => ?_) (fun h => absurd rfl h)
  exact kk H locs (Z1.1, M2) q3 hP hD hS
theorem lwc_spent {p : Program} {l : Launch} {e : Env} {s : State} {m : MethodId} {below : List Frame} {meth : Method} {c : Code} {b L : Nat} {xs : Nat → Int32} {B : Bx} {Q : State → Prop} {cells slots : Nat} {g : Nat → Nat} {LI : HS → MS → Prop} (LC : LwC p s m meth c b L xs B) (hpu : PureOK LI g) (hcs : cells ≤ room_1.cells) (hsl : slots ≤ room_1.slots) {i : Nat} (hv1 : vp_in (nI i + 1) L) (hv2 : vp_in (nI i + 2) L) (hv3 : vp_in (nI i + 3) L) {ls : Array Slot} (hl : lv_has ls 4 [(0, .ref b), (1, .ref (g 0)), (2, .ref (g 30)), (3, .int (nI i))]) (kk : ∀ (H : Heap) (locs : List Loc) (Z : LW), LI Z.1 Z.2 → va_P B.1 vwCl (encW B g Z) H → va_D (fun q : Nat => s.heap.size ≤ q) (encW B g Z) → va_S (fun q : Nat => s.heap.size ≤ q) s.heap H locs → W p l e room_1 s m #[Value.ref b] below meth c H locs cells slots Q (F0 m 1063 ls []))
    {H : Heap} {locs : List Loc} (Z : LW) (hZ : LI Z.1 Z.2) (hP : va_P B.1 vwCl (encW B g Z) H) (hD : va_D (fun q : Nat => s.heap.size ≤ q) (encW B g Z)) (hS : va_S (fun q : Nat => s.heap.size ≤ q) s.heap H locs) : W p l e room_1 s m #[Value.ref b] below meth c H locs cells slots Q (F0 m 356 ls []) := by
  obtain ⟨hx, hb, hml, hown, hts, hX, hbl, hlocks, -, hK, hE⟩ := id LC
  have hbA : ¬ (fun q : Nat => s.heap.size ≤ q) b := Nat.not_le.mpr hbl
  obtain ⟨a1, ha1⟩ : ∃ a, a = xs (nI i + 1).toNatClampNeg := ⟨_, rfl⟩
  obtain ⟨a2, ha2⟩ : ∃ a, a = xs (nI i + 2).toNatClampNeg := ⟨_, rfl⟩
  obtain ⟨p1, p2, ⟨r, q1, q2⟩, q3⟩ := (hpu.2.2.2.2.2.2.1 a1 a2) Z.1 Z.2 hZ
  refine lv_aload_n hx hb dL_law_356 rfl (lv_at hl 1 rfl) ?_
  refine lv_aload_n hx hb dL_law_357 rfl (lv_at hl 0 rfl) ?_
  refine lv_iload_n hx hb dL_law_358 rfl (lv_at hl 3 rfl) ?_
  refine lv_iconst (v := 1) hx hb dL_law_359 (by decide) ?_
  refine lv_iadd hx hb dL_law_360 ?_
  refine va_sld hx hb hX hbl hbA hS (hv1) dL_law_361 ?_
  rw [← ha1]
  refine lv_aload_n hx hb dL_law_362 rfl (lv_at hl 0 rfl) ?_
  refine lv_iload_n hx hb dL_law_363 rfl (lv_at hl 3 rfl) ?_
  refine lv_iconst (v := 2) hx hb dL_law_364 (by decide) ?_
  refine lv_iadd hx hb dL_law_365 ?_
  refine va_sld hx hb hX hbl hbA hS (hv2) dL_law_366 ?_
  rw [← ha2]
  refine lawV (n := 2) (b0 := g 0) (q0 := 0) (ci := 3) LC (frW_H B g) (k_X3_spent B g) (lwGood gL_law_X3_spent) rfl ⟨rfl, by decide +kernel, by decide +kernel, by decide +kernel⟩ ⟨rfl, rfl⟩ ⟨Nat.le_of_ble_eq_true rfl, Nat.le_of_ble_eq_true rfl⟩ rfl (fun Z => ⟨_, rfl⟩) [.int a1, .int a2] rfl Z p1 hP hD hS hl.1 (by first | exact trivial | (unfold restOK restOKn; trivial)) rfl dL_law_367 hcs hsl (fun H locs hP hD hS => ?_)
  rw [show (F_X3_spent g).2.1 (.ref (g 0) :: [.int a1, .int a2]) Z.1 = some (.int r) from q1]
  generalize hS1 : (F_X3_spent g).2.2 (.ref (g 0) :: [.int a1, .int a2]) Z.1 = S1 at q3 hP hD
  obtain ⟨Z1, hZ1⟩ : ∃ Z1 : LW, Z1 = (S1, Z.2) := ⟨_, rfl⟩
  have hM1 : Z1.2 = Z.2 := by rw [hZ1]
  have p2 : (F_X4_spent g).1 (.ref (g 30) :: [.int a1, .int a2]) Z1.2 := by rw [hM1]; exact p2
  have q2 : (F_X4_spent g).2.1 (.ref (g 30) :: [.int a1, .int a2]) Z1.2 = some (.int r) := by rw [hM1]; exact q2
  have q3 : LI Z1.1 ((F_X4_spent g).2.2 (.ref (g 30) :: [.int a1, .int a2]) Z1.2) := by rw [hM1, hZ1]; exact q3
  have hP : va_P B.1 vwCl (encW B g Z1) H := by rw [hZ1]; exact hP
  have hD : va_D (fun q : Nat => s.heap.size ≤ q) (encW B g Z1) := by rw [hZ1]; exact hD
  refine lv_aload_n hx hb dL_law_370 rfl (lv_at hl 2 rfl) ?_
  refine lv_aload_n hx hb dL_law_371 rfl (lv_at hl 0 rfl) ?_
  refine lv_iload_n hx hb dL_law_372 rfl (lv_at hl 3 rfl) ?_
  refine lv_iconst (v := 1) hx hb dL_law_373 (by decide) ?_
  refine lv_iadd hx hb dL_law_374 ?_
  refine va_sld hx hb hX hbl hbA hS (hv1) dL_law_375 ?_
  rw [← ha1]
  refine lv_aload_n hx hb dL_law_376 rfl (lv_at hl 0 rfl) ?_
  refine lv_iload_n hx hb dL_law_377 rfl (lv_at hl 3 rfl) ?_
  refine lv_iconst (v := 2) hx hb dL_law_378 (by decide) ?_
  refine lv_iadd hx hb dL_law_379 ?_
  refine va_sld hx hb hX hbl hbA hS (hv2) dL_law_380 ?_
  rw [← ha2]
  refine lawV (n := 2) (b0 := g 30) (q0 := 26) (ci := 4) LC (frW_M B g) (k_X4_spent B g) (lwGood gL_law_X4_spent) rfl ⟨rfl, by decide +kernel, by decide +kernel, by decide +kernel⟩ ⟨rfl, rfl⟩ ⟨Nat.le_of_ble_eq_true rfl, Nat.le_of_ble_eq_true rfl⟩ rfl (fun Z => ⟨_, rfl⟩) [.int a1, .int a2] rfl Z1 p2 hP hD hS hl.1 (by first | exact trivial | (unfold restOK restOKn; trivial)) rfl dL_law_381 hcs hsl (fun H locs hP hD hS => ?_)
  rw [show (F_X4_spent g).2.1 (.ref (g 30) :: [.int a1, .int a2]) Z1.2 = some (.int r) from q2]
  generalize (F_X4_spent g).2.2 (.ref (g 30) :: [.int a1, .int a2]) Z1.2 = M2 at q3 hP hD
  refine lv_icmp_eq (tgt := 1063) hx hb dL_law_384 (by decide) (fun _ => ?_) (fun h => absurd rfl h)
  exact kk H locs (Z1.1, M2) q3 hP hD hS
theorem lwc_may {p : Program} {l : Launch} {e : Env} {s : State} {m : MethodId} {below : List Frame} {meth : Method} {c : Code} {b L : Nat} {xs : Nat → Int32} {B : Bx} {Q : State → Prop} {cells slots : Nat} {g : Nat → Nat} {LI : HS → MS → Prop} (LC : LwC p s m meth c b L xs B) (hpu : PureOK LI g) (hcs : cells ≤ room_1.cells) (hsl : slots ≤ room_1.slots) {i : Nat} (hv1 : vp_in (nI i + 1) L) (hv2 : vp_in (nI i + 2) L) (hv3 : vp_in (nI i + 3) L) {ls : Array Slot} (hl : lv_has ls 4 [(0, .ref b), (1, .ref (g 0)), (2, .ref (g 30)), (3, .int (nI i))]) (kk : ∀ (H : Heap) (locs : List Loc) (Z : LW), LI Z.1 Z.2 → va_P B.1 vwCl (encW B g Z) H → va_D (fun q : Nat => s.heap.size ≤ q) (encW B g Z) → va_S (fun q : Nat => s.heap.size ≤ q) s.heap H locs → W p l e room_1 s m #[Value.ref b] below meth c H locs cells slots Q (F0 m 1063 ls []))
    {H : Heap} {locs : List Loc} (Z : LW) (hZ : LI Z.1 Z.2) (hP : va_P B.1 vwCl (encW B g Z) H) (hD : va_D (fun q : Nat => s.heap.size ≤ q) (encW B g Z)) (hS : va_S (fun q : Nat => s.heap.size ≤ q) s.heap H locs) : W p l e room_1 s m #[Value.ref b] below meth c H locs cells slots Q (F0 m 389 ls []) := by
  obtain ⟨hx, hb, hml, hown, hts, hX, hbl, hlocks, -, hK, hE⟩ := id LC
  have hbA : ¬ (fun q : Nat => s.heap.size ≤ q) b := Nat.not_le.mpr hbl
  obtain ⟨a1, ha1⟩ : ∃ a, a = xs (nI i + 1).toNatClampNeg := ⟨_, rfl⟩
  obtain ⟨a2, ha2⟩ : ∃ a, a = xs (nI i + 2).toNatClampNeg := ⟨_, rfl⟩
  obtain ⟨p1, p2, ⟨r, q1, q2⟩, q3⟩ := (hpu.2.2.2.2.2.2.2.1 a1 a2) Z.1 Z.2 hZ
  refine lv_aload_n hx hb dL_law_389 rfl (lv_at hl 1 rfl) ?_
  refine lv_aload_n hx hb dL_law_390 rfl (lv_at hl 0 rfl) ?_
  refine lv_iload_n hx hb dL_law_391 rfl (lv_at hl 3 rfl) ?_
  refine lv_iconst (v := 1) hx hb dL_law_392 (by decide) ?_
  refine lv_iadd hx hb dL_law_393 ?_
  refine va_sld hx hb hX hbl hbA hS (hv1) dL_law_394 ?_
  rw [← ha1]
  refine lv_aload_n hx hb dL_law_395 rfl (lv_at hl 0 rfl) ?_
  refine lv_iload_n hx hb dL_law_396 rfl (lv_at hl 3 rfl) ?_
  refine lv_iconst (v := 2) hx hb dL_law_397 (by decide) ?_
  refine lv_iadd hx hb dL_law_398 ?_
  refine va_sld hx hb hX hbl hbA hS (hv2) dL_law_399 ?_
  rw [← ha2]
  refine lawV (n := 2) (b0 := g 0) (q0 := 0) (ci := 3) LC (frW_H B g) (k_X3_may B g) (lwGood gL_law_X3_may) rfl ⟨rfl, by decide +kernel, by decide +kernel, by decide +kernel⟩ ⟨rfl, rfl⟩ ⟨Nat.le_of_ble_eq_true rfl, Nat.le_of_ble_eq_true rfl⟩ rfl (fun Z => ⟨_, rfl⟩) [.int a1, .int a2] rfl Z p1 hP hD hS hl.1 (by first | exact trivial | (unfold restOK restOKn; trivial)) rfl dL_law_400 hcs hsl (fun H locs hP hD hS => ?_)
  rw [show (F_X3_may g).2.1 (.ref (g 0) :: [.int a1, .int a2]) Z.1 = some (.int r) from q1]
  generalize hS1 : (F_X3_may g).2.2 (.ref (g 0) :: [.int a1, .int a2]) Z.1 = S1 at q3 hP hD
  obtain ⟨Z1, hZ1⟩ : ∃ Z1 : LW, Z1 = (S1, Z.2) := ⟨_, rfl⟩
  have hM1 : Z1.2 = Z.2 := by rw [hZ1]
  have p2 : (F_X4_may g).1 (.ref (g 30) :: [.int a1, .int a2]) Z1.2 := by rw [hM1]; exact p2
  have q2 : (F_X4_may g).2.1 (.ref (g 30) :: [.int a1, .int a2]) Z1.2 = some (.int r) := by rw [hM1]; exact q2
  have q3 : LI Z1.1 ((F_X4_may g).2.2 (.ref (g 30) :: [.int a1, .int a2]) Z1.2) := by rw [hM1, hZ1]; exact q3
  have hP : va_P B.1 vwCl (encW B g Z1) H := by rw [hZ1]; exact hP
  have hD : va_D (fun q : Nat => s.heap.size ≤ q) (encW B g Z1) := by rw [hZ1]; exact hD
  refine lv_aload_n hx hb dL_law_403 rfl (lv_at hl 2 rfl) ?_
  refine lv_aload_n hx hb dL_law_404 rfl (lv_at hl 0 rfl) ?_
  refine lv_iload_n hx hb dL_law_405 rfl (lv_at hl 3 rfl) ?_
  refine lv_iconst (v := 1) hx hb dL_law_406 (by decide) ?_
  refine lv_iadd hx hb dL_law_407 ?_
  refine va_sld hx hb hX hbl hbA hS (hv1) dL_law_408 ?_
  rw [← ha1]
  refine lv_aload_n hx hb dL_law_409 rfl (lv_at hl 0 rfl) ?_
  refine lv_iload_n hx hb dL_law_410 rfl (lv_at hl 3 rfl) ?_
  refine lv_iconst (v := 2) hx hb dL_law_411 (by decide) ?_
  refine lv_iadd hx hb dL_law_412 ?_
  refine va_sld hx hb hX hbl hbA hS (hv2) dL_law_413 ?_
  rw [← ha2]
  refine lawV (n := 2) (b0 := g 30) (q0 := 26) (ci := 4) LC (frW_M B g) (k_X4_may B g) (lwGood gL_law_X4_may) rfl ⟨rfl, by decide +kernel, by decide +kernel, by decide +kernel⟩ ⟨rfl, rfl⟩ ⟨Nat.le_of_ble_eq_true rfl, Nat.le_of_ble_eq_true rfl⟩ rfl (fun Z => ⟨_, rfl⟩) [.int a1, .int a2] rfl Z1 p2 hP hD hS hl.1 (by first | exact trivial | (unfold restOK restOKn; trivial)) rfl dL_law_414 hcs hsl (fun H locs hP hD hS => ?_)
  rw [show (F_X4_may g).2.1 (.ref (g 30) :: [.int a1, .int a2]) Z1.2 = some (.int r) from q2]
  generalize (F_X4_may g).2.2 (.ref (g 30) :: [.int a1, .int a2]) Z1.2 = M2 at q3 hP hD
  refine lv_icmp_eq (tgt := 1063) hx hb dL_law_417 (by decide) (fun _ => ?_) (fun h => absurd rfl h)
  exact kk H locs (Z1.1, M2) q3 hP hD hS
theorem lwc_good {p : Program} {l : Launch} {e : Env} {s : State} {m : MethodId} {below : List Frame} {meth : Method} {c : Code} {b L : Nat} {xs : Nat → Int32} {B : Bx} {Q : State → Prop} {cells slots : Nat} {g : Nat → Nat} {LI : HS → MS → Prop} (LC : LwC p s m meth c b L xs B) (hpu : PureOK LI g) (hcs : cells ≤ room_1.cells) (hsl : slots ≤ room_1.slots) {i : Nat} (hv1 : vp_in (nI i + 1) L) (hv2 : vp_in (nI i + 2) L) (hv3 : vp_in (nI i + 3) L) {ls : Array Slot} (hl : lv_has ls 4 [(0, .ref b), (1, .ref (g 0)), (2, .ref (g 30)), (3, .int (nI i))]) (kk : ∀ (H : Heap) (locs : List Loc) (Z : LW), LI Z.1 Z.2 → va_P B.1 vwCl (encW B g Z) H → va_D (fun q : Nat => s.heap.size ≤ q) (encW B g Z) → va_S (fun q : Nat => s.heap.size ≤ q) s.heap H locs → W p l e room_1 s m #[Value.ref b] below meth c H locs cells slots Q (F0 m 1063 ls []))
    {H : Heap} {locs : List Loc} (Z : LW) (hZ : LI Z.1 Z.2) (hP : va_P B.1 vwCl (encW B g Z) H) (hD : va_D (fun q : Nat => s.heap.size ≤ q) (encW B g Z)) (hS : va_S (fun q : Nat => s.heap.size ≤ q) s.heap H locs) : W p l e room_1 s m #[Value.ref b] below meth c H locs cells slots Q (F0 m 422 ls []) := by
  obtain ⟨hx, hb, hml, hown, hts, hX, hbl, hlocks, -, hK, hE⟩ := id LC
  have hbA : ¬ (fun q : Nat => s.heap.size ≤ q) b := Nat.not_le.mpr hbl
  obtain ⟨a1, ha1⟩ : ∃ a, a = xs (nI i + 1).toNatClampNeg := ⟨_, rfl⟩
  obtain ⟨a2, ha2⟩ : ∃ a, a = xs (nI i + 2).toNatClampNeg := ⟨_, rfl⟩
  obtain ⟨p1, p2, ⟨r, q1, q2⟩, q3⟩ := (hpu.2.2.2.2.2.2.2.2.1 a1 a2) Z.1 Z.2 hZ
  refine lv_aload_n hx hb dL_law_422 rfl (lv_at hl 1 rfl) ?_
  refine lv_aload_n hx hb dL_law_423 rfl (lv_at hl 0 rfl) ?_
  refine lv_iload_n hx hb dL_law_424 rfl (lv_at hl 3 rfl) ?_
  refine lv_iconst (v := 1) hx hb dL_law_425 (by decide) ?_
  refine lv_iadd hx hb dL_law_426 ?_
  refine va_sld hx hb hX hbl hbA hS (hv1) dL_law_427 ?_
  rw [← ha1]
  refine lv_aload_n hx hb dL_law_428 rfl (lv_at hl 0 rfl) ?_
  refine lv_iload_n hx hb dL_law_429 rfl (lv_at hl 3 rfl) ?_
  refine lv_iconst (v := 2) hx hb dL_law_430 (by decide) ?_
  refine lv_iadd hx hb dL_law_431 ?_
  refine va_sld hx hb hX hbl hbA hS (hv2) dL_law_432 ?_
  rw [← ha2]
  refine lawV (n := 2) (b0 := g 0) (q0 := 0) (ci := 3) LC (frW_H B g) (k_X3_good B g) (lwGood gL_law_X3_good) rfl ⟨rfl, by decide +kernel, by decide +kernel, by decide +kernel⟩ ⟨rfl, rfl⟩ ⟨Nat.le_of_ble_eq_true rfl, Nat.le_of_ble_eq_true rfl⟩ rfl (fun Z => ⟨_, rfl⟩) [.int a1, .int a2] rfl Z p1 hP hD hS hl.1 (by first | exact trivial | (unfold restOK restOKn; trivial)) rfl dL_law_433 hcs hsl (fun H locs hP hD hS => ?_)
  rw [show (F_X3_good g).2.1 (.ref (g 0) :: [.int a1, .int a2]) Z.1 = some (.int r) from q1]
  generalize hS1 : (F_X3_good g).2.2 (.ref (g 0) :: [.int a1, .int a2]) Z.1 = S1 at q3 hP hD
  obtain ⟨Z1, hZ1⟩ : ∃ Z1 : LW, Z1 = (S1, Z.2) := ⟨_, rfl⟩
  have hM1 : Z1.2 = Z.2 := by rw [hZ1]
  have p2 : (F_X4_good g).1 (.ref (g 30) :: [.int a1, .int a2]) Z1.2 := by rw [hM1]; exact p2
  have q2 : (F_X4_good g).2.1 (.ref (g 30) :: [.int a1, .int a2]) Z1.2 = some (.int r) := by rw [hM1]; exact q2
  have q3 : LI Z1.1 ((F_X4_good g).2.2 (.ref (g 30) :: [.int a1, .int a2]) Z1.2) := by rw [hM1, hZ1]; exact q3
  have hP : va_P B.1 vwCl (encW B g Z1) H := by rw [hZ1]; exact hP
  have hD : va_D (fun q : Nat => s.heap.size ≤ q) (encW B g Z1) := by rw [hZ1]; exact hD
  refine lv_aload_n hx hb dL_law_436 rfl (lv_at hl 2 rfl) ?_
  refine lv_aload_n hx hb dL_law_437 rfl (lv_at hl 0 rfl) ?_
  refine lv_iload_n hx hb dL_law_438 rfl (lv_at hl 3 rfl) ?_
  refine lv_iconst (v := 1) hx hb dL_law_439 (by decide) ?_
  refine lv_iadd hx hb dL_law_440 ?_
  refine va_sld hx hb hX hbl hbA hS (hv1) dL_law_441 ?_
  rw [← ha1]
  refine lv_aload_n hx hb dL_law_442 rfl (lv_at hl 0 rfl) ?_
  refine lv_iload_n hx hb dL_law_443 rfl (lv_at hl 3 rfl) ?_
  refine lv_iconst (v := 2) hx hb dL_law_444 (by decide) ?_
  refine lv_iadd hx hb dL_law_445 ?_
  refine va_sld hx hb hX hbl hbA hS (hv2) dL_law_446 ?_
  rw [← ha2]
  refine lawV (n := 2) (b0 := g 30) (q0 := 26) (ci := 4) LC (frW_M B g) (k_X4_good B g) (lwGood gL_law_X4_good) rfl ⟨rfl, by decide +kernel, by decide +kernel, by decide +kernel⟩ ⟨rfl, rfl⟩ ⟨Nat.le_of_ble_eq_true rfl, Nat.le_of_ble_eq_true rfl⟩ rfl (fun Z => ⟨_, rfl⟩) [.int a1, .int a2] rfl Z1 p2 hP hD hS hl.1 (by first | exact trivial | (unfold restOK restOKn; trivial)) rfl dL_law_447 hcs hsl (fun H locs hP hD hS => ?_)
  rw [show (F_X4_good g).2.1 (.ref (g 30) :: [.int a1, .int a2]) Z1.2 = some (.int r) from q2]
  generalize (F_X4_good g).2.2 (.ref (g 30) :: [.int a1, .int a2]) Z1.2 = M2 at q3 hP hD
  refine lv_icmp_eq (tgt := 1063) hx hb dL_law_450 (by decide) (fun _ => ?_) (fun h => absurd rfl h)
  exact kk H locs (Z1.1, M2) q3 hP hD hS
theorem lwc_help {p : Program} {l : Launch} {e : Env} {s : State} {m : MethodId} {below : List Frame} {meth : Method} {c : Code} {b L : Nat} {xs : Nat → Int32} {B : Bx} {Q : State → Prop} {cells slots : Nat} {g : Nat → Nat} {LI : HS → MS → Prop} (LC : LwC p s m meth c b L xs B) (hpu : PureOK LI g) (hcs : cells ≤ room_1.cells) (hsl : slots ≤ room_1.slots) {i : Nat} (hv1 : vp_in (nI i + 1) L) (hv2 : vp_in (nI i + 2) L) (hv3 : vp_in (nI i + 3) L) {ls : Array Slot} (hl : lv_has ls 4 [(0, .ref b), (1, .ref (g 0)), (2, .ref (g 30)), (3, .int (nI i))]) (kk : ∀ (H : Heap) (locs : List Loc) (Z : LW), LI Z.1 Z.2 → va_P B.1 vwCl (encW B g Z) H → va_D (fun q : Nat => s.heap.size ≤ q) (encW B g Z) → va_S (fun q : Nat => s.heap.size ≤ q) s.heap H locs → W p l e room_1 s m #[Value.ref b] below meth c H locs cells slots Q (F0 m 1063 ls []))
    {H : Heap} {locs : List Loc} (Z : LW) (hZ : LI Z.1 Z.2) (hP : va_P B.1 vwCl (encW B g Z) H) (hD : va_D (fun q : Nat => s.heap.size ≤ q) (encW B g Z)) (hS : va_S (fun q : Nat => s.heap.size ≤ q) s.heap H locs) : W p l e room_1 s m #[Value.ref b] below meth c H locs cells slots Q (F0 m 455 ls []) := by
  obtain ⟨hx, hb, hml, hown, hts, hX, hbl, hlocks, -, hK, hE⟩ := id LC
  have hbA : ¬ (fun q : Nat => s.heap.size ≤ q) b := Nat.not_le.mpr hbl
  obtain ⟨a1, ha1⟩ : ∃ a, a = xs (nI i + 1).toNatClampNeg := ⟨_, rfl⟩
  obtain ⟨a2, ha2⟩ : ∃ a, a = xs (nI i + 2).toNatClampNeg := ⟨_, rfl⟩
  obtain ⟨p1, p2, ⟨r, q1, q2⟩, q3⟩ := (hpu.2.2.2.2.2.2.2.2.2.1 a1 a2) Z.1 Z.2 hZ
  refine lv_aload_n hx hb dL_law_455 rfl (lv_at hl 1 rfl) ?_
  refine lv_aload_n hx hb dL_law_456 rfl (lv_at hl 0 rfl) ?_
  refine lv_iload_n hx hb dL_law_457 rfl (lv_at hl 3 rfl) ?_
  refine lv_iconst (v := 1) hx hb dL_law_458 (by decide) ?_
  refine lv_iadd hx hb dL_law_459 ?_
  refine va_sld hx hb hX hbl hbA hS (hv1) dL_law_460 ?_
  rw [← ha1]
  refine lv_aload_n hx hb dL_law_461 rfl (lv_at hl 0 rfl) ?_
  refine lv_iload_n hx hb dL_law_462 rfl (lv_at hl 3 rfl) ?_
  refine lv_iconst (v := 2) hx hb dL_law_463 (by decide) ?_
  refine lv_iadd hx hb dL_law_464 ?_
  refine va_sld hx hb hX hbl hbA hS (hv2) dL_law_465 ?_
  rw [← ha2]
  refine lawV (n := 2) (b0 := g 0) (q0 := 0) (ci := 3) LC (frW_H B g) (k_X3_help B g) (lwGood gL_law_X3_help) rfl ⟨rfl, by decide +kernel, by decide +kernel, by decide +kernel⟩ ⟨rfl, rfl⟩ ⟨Nat.le_of_ble_eq_true rfl, Nat.le_of_ble_eq_true rfl⟩ rfl (fun Z => ⟨_, rfl⟩) [.int a1, .int a2] rfl Z p1 hP hD hS hl.1 (by first | exact trivial | (unfold restOK restOKn; trivial)) rfl dL_law_466 hcs hsl (fun H locs hP hD hS => ?_)
  rw [show (F_X3_help g).2.1 (.ref (g 0) :: [.int a1, .int a2]) Z.1 = some (.int r) from q1]
  generalize hS1 : (F_X3_help g).2.2 (.ref (g 0) :: [.int a1, .int a2]) Z.1 = S1 at q3 hP hD
  obtain ⟨Z1, hZ1⟩ : ∃ Z1 : LW, Z1 = (S1, Z.2) := ⟨_, rfl⟩
  have hM1 : Z1.2 = Z.2 := by rw [hZ1]
  have p2 : (F_X4_help g).1 (.ref (g 30) :: [.int a1, .int a2]) Z1.2 := by rw [hM1]; exact p2
  have q2 : (F_X4_help g).2.1 (.ref (g 30) :: [.int a1, .int a2]) Z1.2 = some (.int r) := by rw [hM1]; exact q2
  have q3 : LI Z1.1 ((F_X4_help g).2.2 (.ref (g 30) :: [.int a1, .int a2]) Z1.2) := by rw [hM1, hZ1]; exact q3
  have hP : va_P B.1 vwCl (encW B g Z1) H := by rw [hZ1]; exact hP
  have hD : va_D (fun q : Nat => s.heap.size ≤ q) (encW B g Z1) := by rw [hZ1]; exact hD
  refine lv_aload_n hx hb dL_law_469 rfl (lv_at hl 2 rfl) ?_
  refine lv_aload_n hx hb dL_law_470 rfl (lv_at hl 0 rfl) ?_
  refine lv_iload_n hx hb dL_law_471 rfl (lv_at hl 3 rfl) ?_
  refine lv_iconst (v := 1) hx hb dL_law_472 (by decide) ?_
  refine lv_iadd hx hb dL_law_473 ?_
  refine va_sld hx hb hX hbl hbA hS (hv1) dL_law_474 ?_
  rw [← ha1]
  refine lv_aload_n hx hb dL_law_475 rfl (lv_at hl 0 rfl) ?_
  refine lv_iload_n hx hb dL_law_476 rfl (lv_at hl 3 rfl) ?_
  refine lv_iconst (v := 2) hx hb dL_law_477 (by decide) ?_
  refine lv_iadd hx hb dL_law_478 ?_
  refine va_sld hx hb hX hbl hbA hS (hv2) dL_law_479 ?_
  rw [← ha2]
  refine lawV (n := 2) (b0 := g 30) (q0 := 26) (ci := 4) LC (frW_M B g) (k_X4_help B g) (lwGood gL_law_X4_help) rfl ⟨rfl, by decide +kernel, by decide +kernel, by decide +kernel⟩ ⟨rfl, rfl⟩ ⟨Nat.le_of_ble_eq_true rfl, Nat.le_of_ble_eq_true rfl⟩ rfl (fun Z => ⟨_, rfl⟩) [.int a1, .int a2] rfl Z1 p2 hP hD hS hl.1 (by first | exact trivial | (unfold restOK restOKn; trivial)) rfl dL_law_480 hcs hsl (fun H locs hP hD hS => ?_)
  rw [show (F_X4_help g).2.1 (.ref (g 30) :: [.int a1, .int a2]) Z1.2 = some (.int r) from q2]
  generalize (F_X4_help g).2.2 (.ref (g 30) :: [.int a1, .int a2]) Z1.2 = M2 at q3 hP hD
  refine lv_icmp_eq (tgt := 1063) hx hb dL_law_483 (by decide) (fun _ => ?_) (fun h => absurd rfl h)
  exact kk H locs (Z1.1, M2) q3 hP hD hS
theorem lwc_back {p : Program} {l : Launch} {e : Env} {s : State} {m : MethodId} {below : List Frame} {meth : Method} {c : Code} {b L : Nat} {xs : Nat → Int32} {B : Bx} {Q : State → Prop} {cells slots : Nat} {g : Nat → Nat} {LI : HS → MS → Prop} (LC : LwC p s m meth c b L xs B) (hpu : PureOK LI g) (hcs : cells ≤ room_1.cells) (hsl : slots ≤ room_1.slots) {i : Nat} (hv1 : vp_in (nI i + 1) L) (hv2 : vp_in (nI i + 2) L) (hv3 : vp_in (nI i + 3) L) {ls : Array Slot} (hl : lv_has ls 4 [(0, .ref b), (1, .ref (g 0)), (2, .ref (g 30)), (3, .int (nI i))]) (kk : ∀ (H : Heap) (locs : List Loc) (Z : LW), LI Z.1 Z.2 → va_P B.1 vwCl (encW B g Z) H → va_D (fun q : Nat => s.heap.size ≤ q) (encW B g Z) → va_S (fun q : Nat => s.heap.size ≤ q) s.heap H locs → W p l e room_1 s m #[Value.ref b] below meth c H locs cells slots Q (F0 m 1063 ls []))
    {H : Heap} {locs : List Loc} (Z : LW) (hZ : LI Z.1 Z.2) (hP : va_P B.1 vwCl (encW B g Z) H) (hD : va_D (fun q : Nat => s.heap.size ≤ q) (encW B g Z)) (hS : va_S (fun q : Nat => s.heap.size ≤ q) s.heap H locs) : W p l e room_1 s m #[Value.ref b] below meth c H locs cells slots Q (F0 m 488 ls []) := by
  obtain ⟨hx, hb, hml, hown, hts, hX, hbl, hlocks, -, hK, hE⟩ := id LC
  have hbA : ¬ (fun q : Nat => s.heap.size ≤ q) b := Nat.not_le.mpr hbl
  obtain ⟨p1, p2, ⟨r, q1, q2⟩, q3⟩ := (hpu.2.2.2.2.2.2.2.2.2.2.1) Z.1 Z.2 hZ
  refine lv_aload_n hx hb dL_law_488 rfl (lv_at hl 1 rfl) ?_
  refine lawV (n := 0) (b0 := g 0) (q0 := 0) (ci := 3) LC (frW_H B g) (k_X3_back B g) (lwGood gL_law_X3_back) rfl ⟨rfl, by decide +kernel, by decide +kernel, by decide +kernel⟩ ⟨rfl, rfl⟩ ⟨Nat.le_of_ble_eq_true rfl, Nat.le_of_ble_eq_true rfl⟩ rfl (fun Z => ⟨_, rfl⟩) [] rfl Z p1 hP hD hS hl.1 (by first | exact trivial | (unfold restOK restOKn; trivial)) rfl dL_law_489 hcs hsl (fun H locs hP hD hS => ?_)
  rw [show (F_X3_back g).2.1 (.ref (g 0) :: []) Z.1 = some (.int r) from q1]
  generalize hS1 : (F_X3_back g).2.2 (.ref (g 0) :: []) Z.1 = S1 at q3 hP hD
  obtain ⟨Z1, hZ1⟩ : ∃ Z1 : LW, Z1 = (S1, Z.2) := ⟨_, rfl⟩
  have hM1 : Z1.2 = Z.2 := by rw [hZ1]
  have p2 : (F_X4_back g).1 (.ref (g 30) :: []) Z1.2 := by rw [hM1]; exact p2
  have q2 : (F_X4_back g).2.1 (.ref (g 30) :: []) Z1.2 = some (.int r) := by rw [hM1]; exact q2
  have q3 : LI Z1.1 ((F_X4_back g).2.2 (.ref (g 30) :: []) Z1.2) := by rw [hM1, hZ1]; exact q3
  have hP : va_P B.1 vwCl (encW B g Z1) H := by rw [hZ1]; exact hP
  have hD : va_D (fun q : Nat => s.heap.size ≤ q) (encW B g Z1) := by rw [hZ1]; exact hD
  refine lv_aload_n hx hb dL_law_492 rfl (lv_at hl 2 rfl) ?_
  refine lawV (n := 0) (b0 := g 30) (q0 := 26) (ci := 4) LC (frW_M B g) (k_X4_back B g) (lwGood gL_law_X4_back) rfl ⟨rfl, by decide +kernel, by decide +kernel, by decide +kernel⟩ ⟨rfl, rfl⟩ ⟨Nat.le_of_ble_eq_true rfl, Nat.le_of_ble_eq_true rfl⟩ rfl (fun Z => ⟨_, rfl⟩) [] rfl Z1 p2 hP hD hS hl.1 (by first | exact trivial | (unfold restOK restOKn; trivial)) rfl dL_law_493 hcs hsl (fun H locs hP hD hS => ?_)
  rw [show (F_X4_back g).2.1 (.ref (g 30) :: []) Z1.2 = some (.int r) from q2]
  generalize (F_X4_back g).2.2 (.ref (g 30) :: []) Z1.2 = M2 at q3 hP hD
  refine lv_icmp_eq (tgt := 1063) hx hb dL_law_496 (by decide) (fun _ => ?_) (fun h => absurd rfl h)
  exact kk H locs (Z1.1, M2) q3 hP hD hS
theorem lwc_year {p : Program} {l : Launch} {e : Env} {s : State} {m : MethodId} {below : List Frame} {meth : Method} {c : Code} {b L : Nat} {xs : Nat → Int32} {B : Bx} {Q : State → Prop} {cells slots : Nat} {g : Nat → Nat} {LI : HS → MS → Prop} (LC : LwC p s m meth c b L xs B) (hpu : PureOK LI g) (hcs : cells ≤ room_1.cells) (hsl : slots ≤ room_1.slots) {i : Nat} (hv1 : vp_in (nI i + 1) L) (hv2 : vp_in (nI i + 2) L) (hv3 : vp_in (nI i + 3) L) {ls : Array Slot} (hl : lv_has ls 4 [(0, .ref b), (1, .ref (g 0)), (2, .ref (g 30)), (3, .int (nI i))]) (kk : ∀ (H : Heap) (locs : List Loc) (Z : LW), LI Z.1 Z.2 → va_P B.1 vwCl (encW B g Z) H → va_D (fun q : Nat => s.heap.size ≤ q) (encW B g Z) → va_S (fun q : Nat => s.heap.size ≤ q) s.heap H locs → W p l e room_1 s m #[Value.ref b] below meth c H locs cells slots Q (F0 m 1063 ls []))
    {H : Heap} {locs : List Loc} (Z : LW) (hZ : LI Z.1 Z.2) (hP : va_P B.1 vwCl (encW B g Z) H) (hD : va_D (fun q : Nat => s.heap.size ≤ q) (encW B g Z)) (hS : va_S (fun q : Nat => s.heap.size ≤ q) s.heap H locs) : W p l e room_1 s m #[Value.ref b] below meth c H locs cells slots Q (F0 m 501 ls []) := by
  obtain ⟨hx, hb, hml, hown, hts, hX, hbl, hlocks, -, hK, hE⟩ := id LC
  have hbA : ¬ (fun q : Nat => s.heap.size ≤ q) b := Nat.not_le.mpr hbl
  obtain ⟨p1, p2, ⟨r, q1, q2⟩, q3⟩ := (hpu.2.2.2.2.2.2.2.2.2.2.2.1) Z.1 Z.2 hZ
  refine lv_aload_n hx hb dL_law_501 rfl (lv_at hl 1 rfl) ?_
  refine lawV (n := 0) (b0 := g 0) (q0 := 0) (ci := 3) LC (frW_H B g) (k_X3_year B g) (lwGood gL_law_X3_year) rfl ⟨rfl, by decide +kernel, by decide +kernel, by decide +kernel⟩ ⟨rfl, rfl⟩ ⟨Nat.le_of_ble_eq_true rfl, Nat.le_of_ble_eq_true rfl⟩ rfl (fun Z => ⟨_, rfl⟩) [] rfl Z p1 hP hD hS hl.1 (by first | exact trivial | (unfold restOK restOKn; trivial)) rfl dL_law_502 hcs hsl (fun H locs hP hD hS => ?_)
  rw [show (F_X3_year g).2.1 (.ref (g 0) :: []) Z.1 = some (.int r) from q1]
  generalize hS1 : (F_X3_year g).2.2 (.ref (g 0) :: []) Z.1 = S1 at q3 hP hD
  obtain ⟨Z1, hZ1⟩ : ∃ Z1 : LW, Z1 = (S1, Z.2) := ⟨_, rfl⟩
  have hM1 : Z1.2 = Z.2 := by rw [hZ1]
  have p2 : (F_X4_year g).1 (.ref (g 30) :: []) Z1.2 := by rw [hM1]; exact p2
  have q2 : (F_X4_year g).2.1 (.ref (g 30) :: []) Z1.2 = some (.int r) := by rw [hM1]; exact q2
  have q3 : LI Z1.1 ((F_X4_year g).2.2 (.ref (g 30) :: []) Z1.2) := by rw [hM1, hZ1]; exact q3
  have hP : va_P B.1 vwCl (encW B g Z1) H := by rw [hZ1]; exact hP
  have hD : va_D (fun q : Nat => s.heap.size ≤ q) (encW B g Z1) := by rw [hZ1]; exact hD
  refine lv_aload_n hx hb dL_law_505 rfl (lv_at hl 2 rfl) ?_
  refine lawV (n := 0) (b0 := g 30) (q0 := 26) (ci := 4) LC (frW_M B g) (k_X4_year B g) (lwGood gL_law_X4_year) rfl ⟨rfl, by decide +kernel, by decide +kernel, by decide +kernel⟩ ⟨rfl, rfl⟩ ⟨Nat.le_of_ble_eq_true rfl, Nat.le_of_ble_eq_true rfl⟩ rfl (fun Z => ⟨_, rfl⟩) [] rfl Z1 p2 hP hD hS hl.1 (by first | exact trivial | (unfold restOK restOKn; trivial)) rfl dL_law_506 hcs hsl (fun H locs hP hD hS => ?_)
  rw [show (F_X4_year g).2.1 (.ref (g 30) :: []) Z1.2 = some (.int r) from q2]
  generalize (F_X4_year g).2.2 (.ref (g 30) :: []) Z1.2 = M2 at q3 hP hD
  refine lv_icmp_eq (tgt := 1063) hx hb dL_law_509 (by decide) (fun _ => ?_) (fun h => absurd rfl h)
  exact kk H locs (Z1.1, M2) q3 hP hD hS
theorem lwc_chosen {p : Program} {l : Launch} {e : Env} {s : State} {m : MethodId} {below : List Frame} {meth : Method} {c : Code} {b L : Nat} {xs : Nat → Int32} {B : Bx} {Q : State → Prop} {cells slots : Nat} {g : Nat → Nat} {LI : HS → MS → Prop} (LC : LwC p s m meth c b L xs B) (hpu : PureOK LI g) (hcs : cells ≤ room_1.cells) (hsl : slots ≤ room_1.slots) {i : Nat} (hv1 : vp_in (nI i + 1) L) (hv2 : vp_in (nI i + 2) L) (hv3 : vp_in (nI i + 3) L) {ls : Array Slot} (hl : lv_has ls 4 [(0, .ref b), (1, .ref (g 0)), (2, .ref (g 30)), (3, .int (nI i))]) (kk : ∀ (H : Heap) (locs : List Loc) (Z : LW), LI Z.1 Z.2 → va_P B.1 vwCl (encW B g Z) H → va_D (fun q : Nat => s.heap.size ≤ q) (encW B g Z) → va_S (fun q : Nat => s.heap.size ≤ q) s.heap H locs → W p l e room_1 s m #[Value.ref b] below meth c H locs cells slots Q (F0 m 1063 ls []))
    {H : Heap} {locs : List Loc} (Z : LW) (hZ : LI Z.1 Z.2) (hP : va_P B.1 vwCl (encW B g Z) H) (hD : va_D (fun q : Nat => s.heap.size ≤ q) (encW B g Z)) (hS : va_S (fun q : Nat => s.heap.size ≤ q) s.heap H locs) : W p l e room_1 s m #[Value.ref b] below meth c H locs cells slots Q (F0 m 514 ls []) := by
  obtain ⟨hx, hb, hml, hown, hts, hX, hbl, hlocks, -, hK, hE⟩ := id LC
  have hbA : ¬ (fun q : Nat => s.heap.size ≤ q) b := Nat.not_le.mpr hbl
  obtain ⟨a1, ha1⟩ : ∃ a, a = xs (nI i + 1).toNatClampNeg := ⟨_, rfl⟩
  obtain ⟨a2, ha2⟩ : ∃ a, a = xs (nI i + 2).toNatClampNeg := ⟨_, rfl⟩
  obtain ⟨p1, p2, ⟨r, q1, q2⟩, q3⟩ := (hpu.2.2.2.2.2.2.2.2.2.2.2.2.1 a1 a2) Z.1 Z.2 hZ
  refine lv_aload_n hx hb dL_law_514 rfl (lv_at hl 1 rfl) ?_
  refine lv_aload_n hx hb dL_law_515 rfl (lv_at hl 0 rfl) ?_
  refine lv_iload_n hx hb dL_law_516 rfl (lv_at hl 3 rfl) ?_
  refine lv_iconst (v := 1) hx hb dL_law_517 (by decide) ?_
  refine lv_iadd hx hb dL_law_518 ?_
  refine va_sld hx hb hX hbl hbA hS (hv1) dL_law_519 ?_
  rw [← ha1]
  refine lv_aload_n hx hb dL_law_520 rfl (lv_at hl 0 rfl) ?_
  refine lv_iload_n hx hb dL_law_521 rfl (lv_at hl 3 rfl) ?_
  refine lv_iconst (v := 2) hx hb dL_law_522 (by decide) ?_
  refine lv_iadd hx hb dL_law_523 ?_
  refine va_sld hx hb hX hbl hbA hS (hv2) dL_law_524 ?_
  rw [← ha2]
  refine lawV (n := 2) (b0 := g 0) (q0 := 0) (ci := 3) LC (frW_H B g) (k_X3_chosen B g) (lwGood gL_law_X3_chosen) rfl ⟨rfl, by decide +kernel, by decide +kernel, by decide +kernel⟩ ⟨rfl, rfl⟩ ⟨Nat.le_of_ble_eq_true rfl, Nat.le_of_ble_eq_true rfl⟩ rfl (fun Z => ⟨_, rfl⟩) [.int a1, .int a2] rfl Z p1 hP hD hS hl.1 (by first | exact trivial | (unfold restOK restOKn; trivial)) rfl dL_law_525 hcs hsl (fun H locs hP hD hS => ?_)
  rw [show (F_X3_chosen g).2.1 (.ref (g 0) :: [.int a1, .int a2]) Z.1 = some (.int r) from q1]
  generalize hS1 : (F_X3_chosen g).2.2 (.ref (g 0) :: [.int a1, .int a2]) Z.1 = S1 at q3 hP hD
  obtain ⟨Z1, hZ1⟩ : ∃ Z1 : LW, Z1 = (S1, Z.2) := ⟨_, rfl⟩
  have hM1 : Z1.2 = Z.2 := by rw [hZ1]
  have p2 : (F_X4_chosen g).1 (.ref (g 30) :: [.int a1, .int a2]) Z1.2 := by rw [hM1]; exact p2
  have q2 : (F_X4_chosen g).2.1 (.ref (g 30) :: [.int a1, .int a2]) Z1.2 = some (.int r) := by rw [hM1]; exact q2
  have q3 : LI Z1.1 ((F_X4_chosen g).2.2 (.ref (g 30) :: [.int a1, .int a2]) Z1.2) := by rw [hM1, hZ1]; exact q3
  have hP : va_P B.1 vwCl (encW B g Z1) H := by rw [hZ1]; exact hP
  have hD : va_D (fun q : Nat => s.heap.size ≤ q) (encW B g Z1) := by rw [hZ1]; exact hD
  refine lv_aload_n hx hb dL_law_528 rfl (lv_at hl 2 rfl) ?_
  refine lv_aload_n hx hb dL_law_529 rfl (lv_at hl 0 rfl) ?_
  refine lv_iload_n hx hb dL_law_530 rfl (lv_at hl 3 rfl) ?_
  refine lv_iconst (v := 1) hx hb dL_law_531 (by decide) ?_
  refine lv_iadd hx hb dL_law_532 ?_
  refine va_sld hx hb hX hbl hbA hS (hv1) dL_law_533 ?_
  rw [← ha1]
  refine lv_aload_n hx hb dL_law_534 rfl (lv_at hl 0 rfl) ?_
  refine lv_iload_n hx hb dL_law_535 rfl (lv_at hl 3 rfl) ?_
  refine lv_iconst (v := 2) hx hb dL_law_536 (by decide) ?_
  refine lv_iadd hx hb dL_law_537 ?_
  refine va_sld hx hb hX hbl hbA hS (hv2) dL_law_538 ?_
  rw [← ha2]
  refine lawV (n := 2) (b0 := g 30) (q0 := 26) (ci := 4) LC (frW_M B g) (k_X4_chosen B g) (lwGood gL_law_X4_chosen) rfl ⟨rfl, by decide +kernel, by decide +kernel, by decide +kernel⟩ ⟨rfl, rfl⟩ ⟨Nat.le_of_ble_eq_true rfl, Nat.le_of_ble_eq_true rfl⟩ rfl (fun Z => ⟨_, rfl⟩) [.int a1, .int a2] rfl Z1 p2 hP hD hS hl.1 (by first | exact trivial | (unfold restOK restOKn; trivial)) rfl dL_law_539 hcs hsl (fun H locs hP hD hS => ?_)
  rw [show (F_X4_chosen g).2.1 (.ref (g 30) :: [.int a1, .int a2]) Z1.2 = some (.int r) from q2]
  generalize (F_X4_chosen g).2.2 (.ref (g 30) :: [.int a1, .int a2]) Z1.2 = M2 at q3 hP hD
  refine lv_icmp_eq (tgt := 1063) hx hb dL_law_542 (by decide) (fun _ => ?_) (fun h => absurd rfl h)
  exact kk H locs (Z1.1, M2) q3 hP hD hS
theorem lwc_loss {p : Program} {l : Launch} {e : Env} {s : State} {m : MethodId} {below : List Frame} {meth : Method} {c : Code} {b L : Nat} {xs : Nat → Int32} {B : Bx} {Q : State → Prop} {cells slots : Nat} {g : Nat → Nat} {LI : HS → MS → Prop} (LC : LwC p s m meth c b L xs B) (hpu : PureOK LI g) (hcs : cells ≤ room_1.cells) (hsl : slots ≤ room_1.slots) {i : Nat} (hv1 : vp_in (nI i + 1) L) (hv2 : vp_in (nI i + 2) L) (hv3 : vp_in (nI i + 3) L) {ls : Array Slot} (hl : lv_has ls 4 [(0, .ref b), (1, .ref (g 0)), (2, .ref (g 30)), (3, .int (nI i))]) (kk : ∀ (H : Heap) (locs : List Loc) (Z : LW), LI Z.1 Z.2 → va_P B.1 vwCl (encW B g Z) H → va_D (fun q : Nat => s.heap.size ≤ q) (encW B g Z) → va_S (fun q : Nat => s.heap.size ≤ q) s.heap H locs → W p l e room_1 s m #[Value.ref b] below meth c H locs cells slots Q (F0 m 1063 ls []))
    {H : Heap} {locs : List Loc} (Z : LW) (hZ : LI Z.1 Z.2) (hP : va_P B.1 vwCl (encW B g Z) H) (hD : va_D (fun q : Nat => s.heap.size ≤ q) (encW B g Z)) (hS : va_S (fun q : Nat => s.heap.size ≤ q) s.heap H locs) : W p l e room_1 s m #[Value.ref b] below meth c H locs cells slots Q (F0 m 547 ls []) := by
  obtain ⟨hx, hb, hml, hown, hts, hX, hbl, hlocks, -, hK, hE⟩ := id LC
  have hbA : ¬ (fun q : Nat => s.heap.size ≤ q) b := Nat.not_le.mpr hbl
  obtain ⟨a1, ha1⟩ : ∃ a, a = xs (nI i + 1).toNatClampNeg := ⟨_, rfl⟩
  obtain ⟨a2, ha2⟩ : ∃ a, a = xs (nI i + 2).toNatClampNeg := ⟨_, rfl⟩
  obtain ⟨p1, p2, ⟨r, q1, q2⟩, q3⟩ := (hpu.2.2.2.2.2.2.2.2.2.2.2.2.2.1 a1 a2) Z.1 Z.2 hZ
  refine lv_aload_n hx hb dL_law_547 rfl (lv_at hl 1 rfl) ?_
  refine lv_aload_n hx hb dL_law_548 rfl (lv_at hl 0 rfl) ?_
  refine lv_iload_n hx hb dL_law_549 rfl (lv_at hl 3 rfl) ?_
  refine lv_iconst (v := 1) hx hb dL_law_550 (by decide) ?_
  refine lv_iadd hx hb dL_law_551 ?_
  refine va_sld hx hb hX hbl hbA hS (hv1) dL_law_552 ?_
  rw [← ha1]
  refine lv_aload_n hx hb dL_law_553 rfl (lv_at hl 0 rfl) ?_
  refine lv_iload_n hx hb dL_law_554 rfl (lv_at hl 3 rfl) ?_
  refine lv_iconst (v := 2) hx hb dL_law_555 (by decide) ?_
  refine lv_iadd hx hb dL_law_556 ?_
  refine va_sld hx hb hX hbl hbA hS (hv2) dL_law_557 ?_
  rw [← ha2]
  refine lawV (n := 2) (b0 := g 0) (q0 := 0) (ci := 3) LC (frW_H B g) (k_X3_loss B g) (lwGood gL_law_X3_loss) rfl ⟨rfl, by decide +kernel, by decide +kernel, by decide +kernel⟩ ⟨rfl, rfl⟩ ⟨Nat.le_of_ble_eq_true rfl, Nat.le_of_ble_eq_true rfl⟩ rfl (fun Z => ⟨_, rfl⟩) [.int a1, .int a2] rfl Z p1 hP hD hS hl.1 (by first | exact trivial | (unfold restOK restOKn; trivial)) rfl dL_law_558 hcs hsl (fun H locs hP hD hS => ?_)
  rw [show (F_X3_loss g).2.1 (.ref (g 0) :: [.int a1, .int a2]) Z.1 = some (.int r) from q1]
  generalize hS1 : (F_X3_loss g).2.2 (.ref (g 0) :: [.int a1, .int a2]) Z.1 = S1 at q3 hP hD
  obtain ⟨Z1, hZ1⟩ : ∃ Z1 : LW, Z1 = (S1, Z.2) := ⟨_, rfl⟩
  have hM1 : Z1.2 = Z.2 := by rw [hZ1]
  have p2 : (F_X4_loss g).1 (.ref (g 30) :: [.int a1, .int a2]) Z1.2 := by rw [hM1]; exact p2
  have q2 : (F_X4_loss g).2.1 (.ref (g 30) :: [.int a1, .int a2]) Z1.2 = some (.int r) := by rw [hM1]; exact q2
  have q3 : LI Z1.1 ((F_X4_loss g).2.2 (.ref (g 30) :: [.int a1, .int a2]) Z1.2) := by rw [hM1, hZ1]; exact q3
  have hP : va_P B.1 vwCl (encW B g Z1) H := by rw [hZ1]; exact hP
  have hD : va_D (fun q : Nat => s.heap.size ≤ q) (encW B g Z1) := by rw [hZ1]; exact hD
  refine lv_aload_n hx hb dL_law_561 rfl (lv_at hl 2 rfl) ?_
  refine lv_aload_n hx hb dL_law_562 rfl (lv_at hl 0 rfl) ?_
  refine lv_iload_n hx hb dL_law_563 rfl (lv_at hl 3 rfl) ?_
  refine lv_iconst (v := 1) hx hb dL_law_564 (by decide) ?_
  refine lv_iadd hx hb dL_law_565 ?_
  refine va_sld hx hb hX hbl hbA hS (hv1) dL_law_566 ?_
  rw [← ha1]
  refine lv_aload_n hx hb dL_law_567 rfl (lv_at hl 0 rfl) ?_
  refine lv_iload_n hx hb dL_law_568 rfl (lv_at hl 3 rfl) ?_
  refine lv_iconst (v := 2) hx hb dL_law_569 (by decide) ?_
  refine lv_iadd hx hb dL_law_570 ?_
  refine va_sld hx hb hX hbl hbA hS (hv2) dL_law_571 ?_
  rw [← ha2]
  refine lawV (n := 2) (b0 := g 30) (q0 := 26) (ci := 4) LC (frW_M B g) (k_X4_loss B g) (lwGood gL_law_X4_loss) rfl ⟨rfl, by decide +kernel, by decide +kernel, by decide +kernel⟩ ⟨rfl, rfl⟩ ⟨Nat.le_of_ble_eq_true rfl, Nat.le_of_ble_eq_true rfl⟩ rfl (fun Z => ⟨_, rfl⟩) [.int a1, .int a2] rfl Z1 p2 hP hD hS hl.1 (by first | exact trivial | (unfold restOK restOKn; trivial)) rfl dL_law_572 hcs hsl (fun H locs hP hD hS => ?_)
  rw [show (F_X4_loss g).2.1 (.ref (g 30) :: [.int a1, .int a2]) Z1.2 = some (.int r) from q2]
  generalize (F_X4_loss g).2.2 (.ref (g 30) :: [.int a1, .int a2]) Z1.2 = M2 at q3 hP hD
  refine lv_icmp_eq (tgt := 1063) hx hb dL_law_575 (by decide) (fun _ => ?_) (fun h => absurd rfl h)
  exact kk H locs (Z1.1, M2) q3 hP hD hS
theorem lwc_run {p : Program} {l : Launch} {e : Env} {s : State} {m : MethodId} {below : List Frame} {meth : Method} {c : Code} {b L : Nat} {xs : Nat → Int32} {B : Bx} {Q : State → Prop} {cells slots : Nat} {g : Nat → Nat} {LI : HS → MS → Prop} (LC : LwC p s m meth c b L xs B) (hpu : PureOK LI g) (hcs : cells ≤ room_1.cells) (hsl : slots ≤ room_1.slots) {i : Nat} (hv1 : vp_in (nI i + 1) L) (hv2 : vp_in (nI i + 2) L) (hv3 : vp_in (nI i + 3) L) {ls : Array Slot} (hl : lv_has ls 4 [(0, .ref b), (1, .ref (g 0)), (2, .ref (g 30)), (3, .int (nI i))]) (kk : ∀ (H : Heap) (locs : List Loc) (Z : LW), LI Z.1 Z.2 → va_P B.1 vwCl (encW B g Z) H → va_D (fun q : Nat => s.heap.size ≤ q) (encW B g Z) → va_S (fun q : Nat => s.heap.size ≤ q) s.heap H locs → W p l e room_1 s m #[Value.ref b] below meth c H locs cells slots Q (F0 m 1063 ls []))
    {H : Heap} {locs : List Loc} (Z : LW) (hZ : LI Z.1 Z.2) (hP : va_P B.1 vwCl (encW B g Z) H) (hD : va_D (fun q : Nat => s.heap.size ≤ q) (encW B g Z)) (hS : va_S (fun q : Nat => s.heap.size ≤ q) s.heap H locs) : W p l e room_1 s m #[Value.ref b] below meth c H locs cells slots Q (F0 m 580 ls []) := by
  obtain ⟨hx, hb, hml, hown, hts, hX, hbl, hlocks, -, hK, hE⟩ := id LC
  have hbA : ¬ (fun q : Nat => s.heap.size ≤ q) b := Nat.not_le.mpr hbl
  obtain ⟨a1, ha1⟩ : ∃ a, a = xs (nI i + 1).toNatClampNeg := ⟨_, rfl⟩
  obtain ⟨p1, p2, ⟨r, q1, q2⟩, q3⟩ := (hpu.2.2.2.2.2.2.2.2.2.2.2.2.2.2.1 a1) Z.1 Z.2 hZ
  refine lv_aload_n hx hb dL_law_580 rfl (lv_at hl 1 rfl) ?_
  refine lv_aload_n hx hb dL_law_581 rfl (lv_at hl 0 rfl) ?_
  refine lv_iload_n hx hb dL_law_582 rfl (lv_at hl 3 rfl) ?_
  refine lv_iconst (v := 1) hx hb dL_law_583 (by decide) ?_
  refine lv_iadd hx hb dL_law_584 ?_
  refine va_sld hx hb hX hbl hbA hS (hv1) dL_law_585 ?_
  rw [← ha1]
  refine lawV (n := 1) (b0 := g 0) (q0 := 0) (ci := 3) LC (frW_H B g) (k_X3_run B g) (lwGood gL_law_X3_run) rfl ⟨rfl, by decide +kernel, by decide +kernel, by decide +kernel⟩ ⟨rfl, rfl⟩ ⟨Nat.le_of_ble_eq_true rfl, Nat.le_of_ble_eq_true rfl⟩ rfl (fun Z => ⟨_, rfl⟩) [.int a1] rfl Z p1 hP hD hS hl.1 (by first | exact trivial | (unfold restOK restOKn; trivial)) rfl dL_law_586 hcs hsl (fun H locs hP hD hS => ?_)
  rw [show (F_X3_run g).2.1 (.ref (g 0) :: [.int a1]) Z.1 = some (.int r) from q1]
  generalize hS1 : (F_X3_run g).2.2 (.ref (g 0) :: [.int a1]) Z.1 = S1 at q3 hP hD
  obtain ⟨Z1, hZ1⟩ : ∃ Z1 : LW, Z1 = (S1, Z.2) := ⟨_, rfl⟩
  have hM1 : Z1.2 = Z.2 := by rw [hZ1]
  have p2 : (F_X4_run g).1 (.ref (g 30) :: [.int a1]) Z1.2 := by rw [hM1]; exact p2
  have q2 : (F_X4_run g).2.1 (.ref (g 30) :: [.int a1]) Z1.2 = some (.int r) := by rw [hM1]; exact q2
  have q3 : LI Z1.1 ((F_X4_run g).2.2 (.ref (g 30) :: [.int a1]) Z1.2) := by rw [hM1, hZ1]; exact q3
  have hP : va_P B.1 vwCl (encW B g Z1) H := by rw [hZ1]; exact hP
  have hD : va_D (fun q : Nat => s.heap.size ≤ q) (encW B g Z1) := by rw [hZ1]; exact hD
  refine lv_aload_n hx hb dL_law_589 rfl (lv_at hl 2 rfl) ?_
  refine lv_aload_n hx hb dL_law_590 rfl (lv_at hl 0 rfl) ?_
  refine lv_iload_n hx hb dL_law_591 rfl (lv_at hl 3 rfl) ?_
  refine lv_iconst (v := 1) hx hb dL_law_592 (by decide) ?_
  refine lv_iadd hx hb dL_law_593 ?_
  refine va_sld hx hb hX hbl hbA hS (hv1) dL_law_594 ?_
  rw [← ha1]
  refine lawV (n := 1) (b0 := g 30) (q0 := 26) (ci := 4) LC (frW_M B g) (k_X4_run B g) (lwGood gL_law_X4_run) rfl ⟨rfl, by decide +kernel, by decide +kernel, by decide +kernel⟩ ⟨rfl, rfl⟩ ⟨Nat.le_of_ble_eq_true rfl, Nat.le_of_ble_eq_true rfl⟩ rfl (fun Z => ⟨_, rfl⟩) [.int a1] rfl Z1 p2 hP hD hS hl.1 (by first | exact trivial | (unfold restOK restOKn; trivial)) rfl dL_law_595 hcs hsl (fun H locs hP hD hS => ?_)
  rw [show (F_X4_run g).2.1 (.ref (g 30) :: [.int a1]) Z1.2 = some (.int r) from q2]
  generalize (F_X4_run g).2.2 (.ref (g 30) :: [.int a1]) Z1.2 = M2 at q3 hP hD
  refine lv_icmp_eq (tgt := 1063) hx hb dL_law_598 (by decide) (fun _ => ?_) (fun h => absurd rfl h)
  exact kk H locs (Z1.1, M2) q3 hP hD hS
theorem lwc_without {p : Program} {l : Launch} {e : Env} {s : State} {m : MethodId} {below : List Frame} {meth : Method} {c : Code} {b L : Nat} {xs : Nat → Int32} {B : Bx} {Q : State → Prop} {cells slots : Nat} {g : Nat → Nat} {LI : HS → MS → Prop} (LC : LwC p s m meth c b L xs B) (hpu : PureOK LI g) (hcs : cells ≤ room_1.cells) (hsl : slots ≤ room_1.slots) {i : Nat} (hv1 : vp_in (nI i + 1) L) (hv2 : vp_in (nI i + 2) L) (hv3 : vp_in (nI i + 3) L) {ls : Array Slot} (hl : lv_has ls 4 [(0, .ref b), (1, .ref (g 0)), (2, .ref (g 30)), (3, .int (nI i))]) (kk : ∀ (H : Heap) (locs : List Loc) (Z : LW), LI Z.1 Z.2 → va_P B.1 vwCl (encW B g Z) H → va_D (fun q : Nat => s.heap.size ≤ q) (encW B g Z) → va_S (fun q : Nat => s.heap.size ≤ q) s.heap H locs → W p l e room_1 s m #[Value.ref b] below meth c H locs cells slots Q (F0 m 1063 ls []))
    {H : Heap} {locs : List Loc} (Z : LW) (hZ : LI Z.1 Z.2) (hP : va_P B.1 vwCl (encW B g Z) H) (hD : va_D (fun q : Nat => s.heap.size ≤ q) (encW B g Z)) (hS : va_S (fun q : Nat => s.heap.size ≤ q) s.heap H locs) : W p l e room_1 s m #[Value.ref b] below meth c H locs cells slots Q (F0 m 603 ls []) := by
  obtain ⟨hx, hb, hml, hown, hts, hX, hbl, hlocks, -, hK, hE⟩ := id LC
  have hbA : ¬ (fun q : Nat => s.heap.size ≤ q) b := Nat.not_le.mpr hbl
  obtain ⟨a1, ha1⟩ : ∃ a, a = xs (nI i + 1).toNatClampNeg := ⟨_, rfl⟩
  obtain ⟨p1, p2, ⟨r, q1, q2⟩, q3⟩ := (hpu.2.2.2.2.2.2.2.2.2.2.2.2.2.2.2.1 a1) Z.1 Z.2 hZ
  refine lv_aload_n hx hb dL_law_603 rfl (lv_at hl 1 rfl) ?_
  refine lv_aload_n hx hb dL_law_604 rfl (lv_at hl 0 rfl) ?_
  refine lv_iload_n hx hb dL_law_605 rfl (lv_at hl 3 rfl) ?_
  refine lv_iconst (v := 1) hx hb dL_law_606 (by decide) ?_
  refine lv_iadd hx hb dL_law_607 ?_
  refine va_sld hx hb hX hbl hbA hS (hv1) dL_law_608 ?_
  rw [← ha1]
  refine lawV (n := 1) (b0 := g 0) (q0 := 0) (ci := 3) LC (frW_H B g) (k_X3_without B g) (lwGood gL_law_X3_without) rfl ⟨rfl, by decide +kernel, by decide +kernel, by decide +kernel⟩ ⟨rfl, rfl⟩ ⟨Nat.le_of_ble_eq_true rfl, Nat.le_of_ble_eq_true rfl⟩ rfl (fun Z => ⟨_, rfl⟩) [.int a1] rfl Z p1 hP hD hS hl.1 (by first | exact trivial | (unfold restOK restOKn; trivial)) rfl dL_law_609 hcs hsl (fun H locs hP hD hS => ?_)
  rw [show (F_X3_without g).2.1 (.ref (g 0) :: [.int a1]) Z.1 = some (.int r) from q1]
  generalize hS1 : (F_X3_without g).2.2 (.ref (g 0) :: [.int a1]) Z.1 = S1 at q3 hP hD
  obtain ⟨Z1, hZ1⟩ : ∃ Z1 : LW, Z1 = (S1, Z.2) := ⟨_, rfl⟩
  have hM1 : Z1.2 = Z.2 := by rw [hZ1]
  have p2 : (F_X4_without g).1 (.ref (g 30) :: [.int a1]) Z1.2 := by rw [hM1]; exact p2
  have q2 : (F_X4_without g).2.1 (.ref (g 30) :: [.int a1]) Z1.2 = some (.int r) := by rw [hM1]; exact q2
  have q3 : LI Z1.1 ((F_X4_without g).2.2 (.ref (g 30) :: [.int a1]) Z1.2) := by rw [hM1, hZ1]; exact q3
  have hP : va_P B.1 vwCl (encW B g Z1) H := by rw [hZ1]; exact hP
  have hD : va_D (fun q : Nat => s.heap.size ≤ q) (encW B g Z1) := by rw [hZ1]; exact hD
  refine lv_aload_n hx hb dL_law_612 rfl (lv_at hl 2 rfl) ?_
  refine lv_aload_n hx hb dL_law_613 rfl (lv_at hl 0 rfl) ?_
  refine lv_iload_n hx hb dL_law_614 rfl (lv_at hl 3 rfl) ?_
  refine lv_iconst (v := 1) hx hb dL_law_615 (by decide) ?_
  refine lv_iadd hx hb dL_law_616 ?_
  refine va_sld hx hb hX hbl hbA hS (hv1) dL_law_617 ?_
  rw [← ha1]
  refine lawV (n := 1) (b0 := g 30) (q0 := 26) (ci := 4) LC (frW_M B g) (k_X4_without B g) (lwGood gL_law_X4_without) rfl ⟨rfl, by decide +kernel, by decide +kernel, by decide +kernel⟩ ⟨rfl, rfl⟩ ⟨Nat.le_of_ble_eq_true rfl, Nat.le_of_ble_eq_true rfl⟩ rfl (fun Z => ⟨_, rfl⟩) [.int a1] rfl Z1 p2 hP hD hS hl.1 (by first | exact trivial | (unfold restOK restOKn; trivial)) rfl dL_law_618 hcs hsl (fun H locs hP hD hS => ?_)
  rw [show (F_X4_without g).2.1 (.ref (g 30) :: [.int a1]) Z1.2 = some (.int r) from q2]
  generalize (F_X4_without g).2.2 (.ref (g 30) :: [.int a1]) Z1.2 = M2 at q3 hP hD
  refine lv_icmp_eq (tgt := 1063) hx hb dL_law_621 (by decide) (fun _ => ?_) (fun h => absurd rfl h)
  exact kk H locs (Z1.1, M2) q3 hP hD hS
theorem lwc_most {p : Program} {l : Launch} {e : Env} {s : State} {m : MethodId} {below : List Frame} {meth : Method} {c : Code} {b L : Nat} {xs : Nat → Int32} {B : Bx} {Q : State → Prop} {cells slots : Nat} {g : Nat → Nat} {LI : HS → MS → Prop} (LC : LwC p s m meth c b L xs B) (hpu : PureOK LI g) (hcs : cells ≤ room_1.cells) (hsl : slots ≤ room_1.slots) {i : Nat} (hv1 : vp_in (nI i + 1) L) (hv2 : vp_in (nI i + 2) L) (hv3 : vp_in (nI i + 3) L) {ls : Array Slot} (hl : lv_has ls 4 [(0, .ref b), (1, .ref (g 0)), (2, .ref (g 30)), (3, .int (nI i))]) (kk : ∀ (H : Heap) (locs : List Loc) (Z : LW), LI Z.1 Z.2 → va_P B.1 vwCl (encW B g Z) H → va_D (fun q : Nat => s.heap.size ≤ q) (encW B g Z) → va_S (fun q : Nat => s.heap.size ≤ q) s.heap H locs → W p l e room_1 s m #[Value.ref b] below meth c H locs cells slots Q (F0 m 1063 ls []))
    {H : Heap} {locs : List Loc} (Z : LW) (hZ : LI Z.1 Z.2) (hP : va_P B.1 vwCl (encW B g Z) H) (hD : va_D (fun q : Nat => s.heap.size ≤ q) (encW B g Z)) (hS : va_S (fun q : Nat => s.heap.size ≤ q) s.heap H locs) : W p l e room_1 s m #[Value.ref b] below meth c H locs cells slots Q (F0 m 626 ls []) := by
  obtain ⟨hx, hb, hml, hown, hts, hX, hbl, hlocks, -, hK, hE⟩ := id LC
  have hbA : ¬ (fun q : Nat => s.heap.size ≤ q) b := Nat.not_le.mpr hbl
  obtain ⟨p1, p2, ⟨r, q1, q2⟩, q3⟩ := (hpu.2.2.2.2.2.2.2.2.2.2.2.2.2.2.2.2.1) Z.1 Z.2 hZ
  refine lv_aload_n hx hb dL_law_626 rfl (lv_at hl 1 rfl) ?_
  refine lawV (n := 0) (b0 := g 0) (q0 := 0) (ci := 3) LC (frW_H B g) (k_X3_most B g) (lwGood gL_law_X3_most) rfl ⟨rfl, by decide +kernel, by decide +kernel, by decide +kernel⟩ ⟨rfl, rfl⟩ ⟨Nat.le_of_ble_eq_true rfl, Nat.le_of_ble_eq_true rfl⟩ rfl (fun Z => ⟨_, rfl⟩) [] rfl Z p1 hP hD hS hl.1 (by first | exact trivial | (unfold restOK restOKn; trivial)) rfl dL_law_627 hcs hsl (fun H locs hP hD hS => ?_)
  rw [show (F_X3_most g).2.1 (.ref (g 0) :: []) Z.1 = some (.int r) from q1]
  generalize hS1 : (F_X3_most g).2.2 (.ref (g 0) :: []) Z.1 = S1 at q3 hP hD
  obtain ⟨Z1, hZ1⟩ : ∃ Z1 : LW, Z1 = (S1, Z.2) := ⟨_, rfl⟩
  have hM1 : Z1.2 = Z.2 := by rw [hZ1]
  have p2 : (F_X4_most g).1 (.ref (g 30) :: []) Z1.2 := by rw [hM1]; exact p2
  have q2 : (F_X4_most g).2.1 (.ref (g 30) :: []) Z1.2 = some (.int r) := by rw [hM1]; exact q2
  have q3 : LI Z1.1 ((F_X4_most g).2.2 (.ref (g 30) :: []) Z1.2) := by rw [hM1, hZ1]; exact q3
  have hP : va_P B.1 vwCl (encW B g Z1) H := by rw [hZ1]; exact hP
  have hD : va_D (fun q : Nat => s.heap.size ≤ q) (encW B g Z1) := by rw [hZ1]; exact hD
  refine lv_aload_n hx hb dL_law_630 rfl (lv_at hl 2 rfl) ?_
  refine lawV (n := 0) (b0 := g 30) (q0 := 26) (ci := 4) LC (frW_M B g) (k_X4_most B g) (lwGood gL_law_X4_most) rfl ⟨rfl, by decide +kernel, by decide +kernel, by decide +kernel⟩ ⟨rfl, rfl⟩ ⟨Nat.le_of_ble_eq_true rfl, Nat.le_of_ble_eq_true rfl⟩ rfl (fun Z => ⟨_, rfl⟩) [] rfl Z1 p2 hP hD hS hl.1 (by first | exact trivial | (unfold restOK restOKn; trivial)) rfl dL_law_631 hcs hsl (fun H locs hP hD hS => ?_)
  rw [show (F_X4_most g).2.1 (.ref (g 30) :: []) Z1.2 = some (.int r) from q2]
  generalize (F_X4_most g).2.2 (.ref (g 30) :: []) Z1.2 = M2 at q3 hP hD
  refine lv_icmp_eq (tgt := 1063) hx hb dL_law_634 (by decide) (fun _ => ?_) (fun h => absurd rfl h)
  exact kk H locs (Z1.1, M2) q3 hP hD hS
theorem lwc_first {p : Program} {l : Launch} {e : Env} {s : State} {m : MethodId} {below : List Frame} {meth : Method} {c : Code} {b L : Nat} {xs : Nat → Int32} {B : Bx} {Q : State → Prop} {cells slots : Nat} {g : Nat → Nat} {LI : HS → MS → Prop} (LC : LwC p s m meth c b L xs B) (hpu : PureOK LI g) (hcs : cells ≤ room_1.cells) (hsl : slots ≤ room_1.slots) {i : Nat} (hv1 : vp_in (nI i + 1) L) (hv2 : vp_in (nI i + 2) L) (hv3 : vp_in (nI i + 3) L) {ls : Array Slot} (hl : lv_has ls 4 [(0, .ref b), (1, .ref (g 0)), (2, .ref (g 30)), (3, .int (nI i))]) (kk : ∀ (H : Heap) (locs : List Loc) (Z : LW), LI Z.1 Z.2 → va_P B.1 vwCl (encW B g Z) H → va_D (fun q : Nat => s.heap.size ≤ q) (encW B g Z) → va_S (fun q : Nat => s.heap.size ≤ q) s.heap H locs → W p l e room_1 s m #[Value.ref b] below meth c H locs cells slots Q (F0 m 1063 ls []))
    {H : Heap} {locs : List Loc} (Z : LW) (hZ : LI Z.1 Z.2) (hP : va_P B.1 vwCl (encW B g Z) H) (hD : va_D (fun q : Nat => s.heap.size ≤ q) (encW B g Z)) (hS : va_S (fun q : Nat => s.heap.size ≤ q) s.heap H locs) : W p l e room_1 s m #[Value.ref b] below meth c H locs cells slots Q (F0 m 639 ls []) := by
  obtain ⟨hx, hb, hml, hown, hts, hX, hbl, hlocks, -, hK, hE⟩ := id LC
  have hbA : ¬ (fun q : Nat => s.heap.size ≤ q) b := Nat.not_le.mpr hbl
  obtain ⟨p1, p2, ⟨r, q1, q2⟩, q3⟩ := (hpu.2.2.2.2.2.2.2.2.2.2.2.2.2.2.2.2.2.1) Z.1 Z.2 hZ
  refine lv_aload_n hx hb dL_law_639 rfl (lv_at hl 1 rfl) ?_
  refine lawV (n := 0) (b0 := g 0) (q0 := 0) (ci := 3) LC (frW_H B g) (k_X3_first B g) (lwGood gL_law_X3_first) rfl ⟨rfl, by decide +kernel, by decide +kernel, by decide +kernel⟩ ⟨rfl, rfl⟩ ⟨Nat.le_of_ble_eq_true rfl, Nat.le_of_ble_eq_true rfl⟩ rfl (fun Z => ⟨_, rfl⟩) [] rfl Z p1 hP hD hS hl.1 (by first | exact trivial | (unfold restOK restOKn; trivial)) rfl dL_law_640 hcs hsl (fun H locs hP hD hS => ?_)
  rw [show (F_X3_first g).2.1 (.ref (g 0) :: []) Z.1 = some (.int r) from q1]
  generalize hS1 : (F_X3_first g).2.2 (.ref (g 0) :: []) Z.1 = S1 at q3 hP hD
  obtain ⟨Z1, hZ1⟩ : ∃ Z1 : LW, Z1 = (S1, Z.2) := ⟨_, rfl⟩
  have hM1 : Z1.2 = Z.2 := by rw [hZ1]
  have p2 : (F_X4_first g).1 (.ref (g 30) :: []) Z1.2 := by rw [hM1]; exact p2
  have q2 : (F_X4_first g).2.1 (.ref (g 30) :: []) Z1.2 = some (.int r) := by rw [hM1]; exact q2
  have q3 : LI Z1.1 ((F_X4_first g).2.2 (.ref (g 30) :: []) Z1.2) := by rw [hM1, hZ1]; exact q3
  have hP : va_P B.1 vwCl (encW B g Z1) H := by rw [hZ1]; exact hP
  have hD : va_D (fun q : Nat => s.heap.size ≤ q) (encW B g Z1) := by rw [hZ1]; exact hD
  refine lv_aload_n hx hb dL_law_643 rfl (lv_at hl 2 rfl) ?_
  refine lawV (n := 0) (b0 := g 30) (q0 := 26) (ci := 4) LC (frW_M B g) (k_X4_first B g) (lwGood gL_law_X4_first) rfl ⟨rfl, by decide +kernel, by decide +kernel, by decide +kernel⟩ ⟨rfl, rfl⟩ ⟨Nat.le_of_ble_eq_true rfl, Nat.le_of_ble_eq_true rfl⟩ rfl (fun Z => ⟨_, rfl⟩) [] rfl Z1 p2 hP hD hS hl.1 (by first | exact trivial | (unfold restOK restOKn; trivial)) rfl dL_law_644 hcs hsl (fun H locs hP hD hS => ?_)
  rw [show (F_X4_first g).2.1 (.ref (g 30) :: []) Z1.2 = some (.int r) from q2]
  generalize (F_X4_first g).2.2 (.ref (g 30) :: []) Z1.2 = M2 at q3 hP hD
  refine lv_icmp_eq (tgt := 1063) hx hb dL_law_647 (by decide) (fun _ => ?_) (fun h => absurd rfl h)
  exact kk H locs (Z1.1, M2) q3 hP hD hS
theorem lwc_gap {p : Program} {l : Launch} {e : Env} {s : State} {m : MethodId} {below : List Frame} {meth : Method} {c : Code} {b L : Nat} {xs : Nat → Int32} {B : Bx} {Q : State → Prop} {cells slots : Nat} {g : Nat → Nat} {LI : HS → MS → Prop} (LC : LwC p s m meth c b L xs B) (hpu : PureOK LI g) (hcs : cells ≤ room_1.cells) (hsl : slots ≤ room_1.slots) {i : Nat} (hv1 : vp_in (nI i + 1) L) (hv2 : vp_in (nI i + 2) L) (hv3 : vp_in (nI i + 3) L) {ls : Array Slot} (hl : lv_has ls 4 [(0, .ref b), (1, .ref (g 0)), (2, .ref (g 30)), (3, .int (nI i))]) (kk : ∀ (H : Heap) (locs : List Loc) (Z : LW), LI Z.1 Z.2 → va_P B.1 vwCl (encW B g Z) H → va_D (fun q : Nat => s.heap.size ≤ q) (encW B g Z) → va_S (fun q : Nat => s.heap.size ≤ q) s.heap H locs → W p l e room_1 s m #[Value.ref b] below meth c H locs cells slots Q (F0 m 1063 ls []))
    {H : Heap} {locs : List Loc} (Z : LW) (hZ : LI Z.1 Z.2) (hP : va_P B.1 vwCl (encW B g Z) H) (hD : va_D (fun q : Nat => s.heap.size ≤ q) (encW B g Z)) (hS : va_S (fun q : Nat => s.heap.size ≤ q) s.heap H locs) : W p l e room_1 s m #[Value.ref b] below meth c H locs cells slots Q (F0 m 652 ls []) := by
  obtain ⟨hx, hb, hml, hown, hts, hX, hbl, hlocks, -, hK, hE⟩ := id LC
  have hbA : ¬ (fun q : Nat => s.heap.size ≤ q) b := Nat.not_le.mpr hbl
  obtain ⟨a1, ha1⟩ : ∃ a, a = xs (nI i + 1).toNatClampNeg := ⟨_, rfl⟩
  obtain ⟨p1, p2, ⟨r, q1, q2⟩, q3⟩ := (hpu.2.2.2.2.2.2.2.2.2.2.2.2.2.2.2.2.2.2.1 a1) Z.1 Z.2 hZ
  refine lv_aload_n hx hb dL_law_652 rfl (lv_at hl 1 rfl) ?_
  refine lv_aload_n hx hb dL_law_653 rfl (lv_at hl 0 rfl) ?_
  refine lv_iload_n hx hb dL_law_654 rfl (lv_at hl 3 rfl) ?_
  refine lv_iconst (v := 1) hx hb dL_law_655 (by decide) ?_
  refine lv_iadd hx hb dL_law_656 ?_
  refine va_sld hx hb hX hbl hbA hS (hv1) dL_law_657 ?_
  rw [← ha1]
  refine lawV (n := 1) (b0 := g 0) (q0 := 0) (ci := 3) LC (frW_H B g) (k_X3_gap B g) (lwGood gL_law_X3_gap) rfl ⟨rfl, by decide +kernel, by decide +kernel, by decide +kernel⟩ ⟨rfl, rfl⟩ ⟨Nat.le_of_ble_eq_true rfl, Nat.le_of_ble_eq_true rfl⟩ rfl (fun Z => ⟨_, rfl⟩) [.int a1] rfl Z p1 hP hD hS hl.1 (by first | exact trivial | (unfold restOK restOKn; trivial)) rfl dL_law_658 hcs hsl (fun H locs hP hD hS => ?_)
  rw [show (F_X3_gap g).2.1 (.ref (g 0) :: [.int a1]) Z.1 = some (.int r) from q1]
  generalize hS1 : (F_X3_gap g).2.2 (.ref (g 0) :: [.int a1]) Z.1 = S1 at q3 hP hD
  obtain ⟨Z1, hZ1⟩ : ∃ Z1 : LW, Z1 = (S1, Z.2) := ⟨_, rfl⟩
  have hM1 : Z1.2 = Z.2 := by rw [hZ1]
  have p2 : (F_X4_gap g).1 (.ref (g 30) :: [.int a1]) Z1.2 := by rw [hM1]; exact p2
  have q2 : (F_X4_gap g).2.1 (.ref (g 30) :: [.int a1]) Z1.2 = some (.int r) := by rw [hM1]; exact q2
  have q3 : LI Z1.1 ((F_X4_gap g).2.2 (.ref (g 30) :: [.int a1]) Z1.2) := by rw [hM1, hZ1]; exact q3
  have hP : va_P B.1 vwCl (encW B g Z1) H := by rw [hZ1]; exact hP
  have hD : va_D (fun q : Nat => s.heap.size ≤ q) (encW B g Z1) := by rw [hZ1]; exact hD
  refine lv_aload_n hx hb dL_law_661 rfl (lv_at hl 2 rfl) ?_
  refine lv_aload_n hx hb dL_law_662 rfl (lv_at hl 0 rfl) ?_
  refine lv_iload_n hx hb dL_law_663 rfl (lv_at hl 3 rfl) ?_
  refine lv_iconst (v := 1) hx hb dL_law_664 (by decide) ?_
  refine lv_iadd hx hb dL_law_665 ?_
  refine va_sld hx hb hX hbl hbA hS (hv1) dL_law_666 ?_
  rw [← ha1]
  refine lawV (n := 1) (b0 := g 30) (q0 := 26) (ci := 4) LC (frW_M B g) (k_X4_gap B g) (lwGood gL_law_X4_gap) rfl ⟨rfl, by decide +kernel, by decide +kernel, by decide +kernel⟩ ⟨rfl, rfl⟩ ⟨Nat.le_of_ble_eq_true rfl, Nat.le_of_ble_eq_true rfl⟩ rfl (fun Z => ⟨_, rfl⟩) [.int a1] rfl Z1 p2 hP hD hS hl.1 (by first | exact trivial | (unfold restOK restOKn; trivial)) rfl dL_law_667 hcs hsl (fun H locs hP hD hS => ?_)
  rw [show (F_X4_gap g).2.1 (.ref (g 30) :: [.int a1]) Z1.2 = some (.int r) from q2]
  generalize (F_X4_gap g).2.2 (.ref (g 30) :: [.int a1]) Z1.2 = M2 at q3 hP hD
  refine lv_icmp_eq (tgt := 1063) hx hb dL_law_670 (by decide) (fun _ => ?_) (fun h => absurd rfl h)
  exact kk H locs (Z1.1, M2) q3 hP hD hS
theorem lwc_worth {p : Program} {l : Launch} {e : Env} {s : State} {m : MethodId} {below : List Frame} {meth : Method} {c : Code} {b L : Nat} {xs : Nat → Int32} {B : Bx} {Q : State → Prop} {cells slots : Nat} {g : Nat → Nat} {LI : HS → MS → Prop} (LC : LwC p s m meth c b L xs B) (hpu : PureOK LI g) (hcs : cells ≤ room_1.cells) (hsl : slots ≤ room_1.slots) {i : Nat} (hv1 : vp_in (nI i + 1) L) (hv2 : vp_in (nI i + 2) L) (hv3 : vp_in (nI i + 3) L) {ls : Array Slot} (hl : lv_has ls 4 [(0, .ref b), (1, .ref (g 0)), (2, .ref (g 30)), (3, .int (nI i))]) (kk : ∀ (H : Heap) (locs : List Loc) (Z : LW), LI Z.1 Z.2 → va_P B.1 vwCl (encW B g Z) H → va_D (fun q : Nat => s.heap.size ≤ q) (encW B g Z) → va_S (fun q : Nat => s.heap.size ≤ q) s.heap H locs → W p l e room_1 s m #[Value.ref b] below meth c H locs cells slots Q (F0 m 1063 ls []))
    {H : Heap} {locs : List Loc} (Z : LW) (hZ : LI Z.1 Z.2) (hP : va_P B.1 vwCl (encW B g Z) H) (hD : va_D (fun q : Nat => s.heap.size ≤ q) (encW B g Z)) (hS : va_S (fun q : Nat => s.heap.size ≤ q) s.heap H locs) : W p l e room_1 s m #[Value.ref b] below meth c H locs cells slots Q (F0 m 675 ls []) := by
  obtain ⟨hx, hb, hml, hown, hts, hX, hbl, hlocks, -, hK, hE⟩ := id LC
  have hbA : ¬ (fun q : Nat => s.heap.size ≤ q) b := Nat.not_le.mpr hbl
  obtain ⟨a1, ha1⟩ : ∃ a, a = xs (nI i + 1).toNatClampNeg := ⟨_, rfl⟩
  obtain ⟨a2, ha2⟩ : ∃ a, a = xs (nI i + 2).toNatClampNeg := ⟨_, rfl⟩
  obtain ⟨p1, p2, ⟨r, q1, q2⟩, q3⟩ := (hpu.2.2.2.2.2.2.2.2.2.2.2.2.2.2.2.2.2.2.2.1 a1 a2) Z.1 Z.2 hZ
  refine lv_aload_n hx hb dL_law_675 rfl (lv_at hl 1 rfl) ?_
  refine lv_aload_n hx hb dL_law_676 rfl (lv_at hl 0 rfl) ?_
  refine lv_iload_n hx hb dL_law_677 rfl (lv_at hl 3 rfl) ?_
  refine lv_iconst (v := 1) hx hb dL_law_678 (by decide) ?_
  refine lv_iadd hx hb dL_law_679 ?_
  refine va_sld hx hb hX hbl hbA hS (hv1) dL_law_680 ?_
  rw [← ha1]
  refine lv_aload_n hx hb dL_law_681 rfl (lv_at hl 0 rfl) ?_
  refine lv_iload_n hx hb dL_law_682 rfl (lv_at hl 3 rfl) ?_
  refine lv_iconst (v := 2) hx hb dL_law_683 (by decide) ?_
  refine lv_iadd hx hb dL_law_684 ?_
  refine va_sld hx hb hX hbl hbA hS (hv2) dL_law_685 ?_
  rw [← ha2]
  refine lawV (n := 2) (b0 := g 0) (q0 := 0) (ci := 3) LC (frW_H B g) (k_X3_worth B g) (lwGood gL_law_X3_worth) rfl ⟨rfl, by decide +kernel, by decide +kernel, by decide +kernel⟩ ⟨rfl, rfl⟩ ⟨Nat.le_of_ble_eq_true rfl, Nat.le_of_ble_eq_true rfl⟩ rfl (fun Z => ⟨_, rfl⟩) [.int a1, .int a2] rfl Z p1 hP hD hS hl.1 (by first | exact trivial | (unfold restOK restOKn; trivial)) rfl dL_law_686 hcs hsl (fun H locs hP hD hS => ?_)
  rw [show (F_X3_worth g).2.1 (.ref (g 0) :: [.int a1, .int a2]) Z.1 = some (.int r) from q1]
  generalize hS1 : (F_X3_worth g).2.2 (.ref (g 0) :: [.int a1, .int a2]) Z.1 = S1 at q3 hP hD
  obtain ⟨Z1, hZ1⟩ : ∃ Z1 : LW, Z1 = (S1, Z.2) := ⟨_, rfl⟩
  have hM1 : Z1.2 = Z.2 := by rw [hZ1]
  have p2 : (F_X4_worth g).1 (.ref (g 30) :: [.int a1, .int a2]) Z1.2 := by rw [hM1]; exact p2
  have q2 : (F_X4_worth g).2.1 (.ref (g 30) :: [.int a1, .int a2]) Z1.2 = some (.int r) := by rw [hM1]; exact q2
  have q3 : LI Z1.1 ((F_X4_worth g).2.2 (.ref (g 30) :: [.int a1, .int a2]) Z1.2) := by rw [hM1, hZ1]; exact q3
  have hP : va_P B.1 vwCl (encW B g Z1) H := by rw [hZ1]; exact hP
  have hD : va_D (fun q : Nat => s.heap.size ≤ q) (encW B g Z1) := by rw [hZ1]; exact hD
  refine lv_aload_n hx hb dL_law_689 rfl (lv_at hl 2 rfl) ?_
  refine lv_aload_n hx hb dL_law_690 rfl (lv_at hl 0 rfl) ?_
  refine lv_iload_n hx hb dL_law_691 rfl (lv_at hl 3 rfl) ?_
  refine lv_iconst (v := 1) hx hb dL_law_692 (by decide) ?_
  refine lv_iadd hx hb dL_law_693 ?_
  refine va_sld hx hb hX hbl hbA hS (hv1) dL_law_694 ?_
  rw [← ha1]
  refine lv_aload_n hx hb dL_law_695 rfl (lv_at hl 0 rfl) ?_
  refine lv_iload_n hx hb dL_law_696 rfl (lv_at hl 3 rfl) ?_
  refine lv_iconst (v := 2) hx hb dL_law_697 (by decide) ?_
  refine lv_iadd hx hb dL_law_698 ?_
  refine va_sld hx hb hX hbl hbA hS (hv2) dL_law_699 ?_
  rw [← ha2]
  refine lawV (n := 2) (b0 := g 30) (q0 := 26) (ci := 4) LC (frW_M B g) (k_X4_worth B g) (lwGood gL_law_X4_worth) rfl ⟨rfl, by decide +kernel, by decide +kernel, by decide +kernel⟩ ⟨rfl, rfl⟩ ⟨Nat.le_of_ble_eq_true rfl, Nat.le_of_ble_eq_true rfl⟩ rfl (fun Z => ⟨_, rfl⟩) [.int a1, .int a2] rfl Z1 p2 hP hD hS hl.1 (by first | exact trivial | (unfold restOK restOKn; trivial)) rfl dL_law_700 hcs hsl (fun H locs hP hD hS => ?_)
  rw [show (F_X4_worth g).2.1 (.ref (g 30) :: [.int a1, .int a2]) Z1.2 = some (.int r) from q2]
  generalize (F_X4_worth g).2.2 (.ref (g 30) :: [.int a1, .int a2]) Z1.2 = M2 at q3 hP hD
  refine lv_icmp_eq (tgt := 1063) hx hb dL_law_703 (by decide) (fun _ => ?_) (fun h => absurd rfl h)
  exact kk H locs (Z1.1, M2) q3 hP hD hS
theorem lwc_keeps {p : Program} {l : Launch} {e : Env} {s : State} {m : MethodId} {below : List Frame} {meth : Method} {c : Code} {b L : Nat} {xs : Nat → Int32} {B : Bx} {Q : State → Prop} {cells slots : Nat} {g : Nat → Nat} {LI : HS → MS → Prop} (LC : LwC p s m meth c b L xs B) (hpu : PureOK LI g) (hcs : cells ≤ room_1.cells) (hsl : slots ≤ room_1.slots) {i : Nat} (hv1 : vp_in (nI i + 1) L) (hv2 : vp_in (nI i + 2) L) (hv3 : vp_in (nI i + 3) L) {ls : Array Slot} (hl : lv_has ls 4 [(0, .ref b), (1, .ref (g 0)), (2, .ref (g 30)), (3, .int (nI i))]) (kk : ∀ (H : Heap) (locs : List Loc) (Z : LW), LI Z.1 Z.2 → va_P B.1 vwCl (encW B g Z) H → va_D (fun q : Nat => s.heap.size ≤ q) (encW B g Z) → va_S (fun q : Nat => s.heap.size ≤ q) s.heap H locs → W p l e room_1 s m #[Value.ref b] below meth c H locs cells slots Q (F0 m 1063 ls []))
    {H : Heap} {locs : List Loc} (Z : LW) (hZ : LI Z.1 Z.2) (hP : va_P B.1 vwCl (encW B g Z) H) (hD : va_D (fun q : Nat => s.heap.size ≤ q) (encW B g Z)) (hS : va_S (fun q : Nat => s.heap.size ≤ q) s.heap H locs) : W p l e room_1 s m #[Value.ref b] below meth c H locs cells slots Q (F0 m 708 ls []) := by
  obtain ⟨hx, hb, hml, hown, hts, hX, hbl, hlocks, -, hK, hE⟩ := id LC
  have hbA : ¬ (fun q : Nat => s.heap.size ≤ q) b := Nat.not_le.mpr hbl
  obtain ⟨a1, ha1⟩ : ∃ a, a = xs (nI i + 1).toNatClampNeg := ⟨_, rfl⟩
  obtain ⟨p1, p2, ⟨r, q1, q2⟩, q3⟩ := (hpu.2.2.2.2.2.2.2.2.2.2.2.2.2.2.2.2.2.2.2.2.1 a1) Z.1 Z.2 hZ
  refine lv_aload_n hx hb dL_law_708 rfl (lv_at hl 1 rfl) ?_
  refine lv_aload_n hx hb dL_law_709 rfl (lv_at hl 0 rfl) ?_
  refine lv_iload_n hx hb dL_law_710 rfl (lv_at hl 3 rfl) ?_
  refine lv_iconst (v := 1) hx hb dL_law_711 (by decide) ?_
  refine lv_iadd hx hb dL_law_712 ?_
  refine va_sld hx hb hX hbl hbA hS (hv1) dL_law_713 ?_
  rw [← ha1]
  refine lawV (n := 1) (b0 := g 0) (q0 := 0) (ci := 3) LC (frW_H B g) (k_X3_keeps B g) (lwGood gL_law_X3_keeps) rfl ⟨rfl, by decide +kernel, by decide +kernel, by decide +kernel⟩ ⟨rfl, rfl⟩ ⟨Nat.le_of_ble_eq_true rfl, Nat.le_of_ble_eq_true rfl⟩ rfl (fun Z => ⟨_, rfl⟩) [.int a1] rfl Z p1 hP hD hS hl.1 (by first | exact trivial | (unfold restOK restOKn; trivial)) rfl dL_law_714 hcs hsl (fun H locs hP hD hS => ?_)
  rw [show (F_X3_keeps g).2.1 (.ref (g 0) :: [.int a1]) Z.1 = some (.int r) from q1]
  generalize hS1 : (F_X3_keeps g).2.2 (.ref (g 0) :: [.int a1]) Z.1 = S1 at q3 hP hD
  obtain ⟨Z1, hZ1⟩ : ∃ Z1 : LW, Z1 = (S1, Z.2) := ⟨_, rfl⟩
  have hM1 : Z1.2 = Z.2 := by rw [hZ1]
  have p2 : (F_X4_keeps g).1 (.ref (g 30) :: [.int a1]) Z1.2 := by rw [hM1]; exact p2
  have q2 : (F_X4_keeps g).2.1 (.ref (g 30) :: [.int a1]) Z1.2 = some (.int r) := by rw [hM1]; exact q2
  have q3 : LI Z1.1 ((F_X4_keeps g).2.2 (.ref (g 30) :: [.int a1]) Z1.2) := by rw [hM1, hZ1]; exact q3
  have hP : va_P B.1 vwCl (encW B g Z1) H := by rw [hZ1]; exact hP
  have hD : va_D (fun q : Nat => s.heap.size ≤ q) (encW B g Z1) := by rw [hZ1]; exact hD
  refine lv_aload_n hx hb dL_law_717 rfl (lv_at hl 2 rfl) ?_
  refine lv_aload_n hx hb dL_law_718 rfl (lv_at hl 0 rfl) ?_
  refine lv_iload_n hx hb dL_law_719 rfl (lv_at hl 3 rfl) ?_
  refine lv_iconst (v := 1) hx hb dL_law_720 (by decide) ?_
  refine lv_iadd hx hb dL_law_721 ?_
  refine va_sld hx hb hX hbl hbA hS (hv1) dL_law_722 ?_
  rw [← ha1]
  refine lawV (n := 1) (b0 := g 30) (q0 := 26) (ci := 4) LC (frW_M B g) (k_X4_keeps B g) (lwGood gL_law_X4_keeps) rfl ⟨rfl, by decide +kernel, by decide +kernel, by decide +kernel⟩ ⟨rfl, rfl⟩ ⟨Nat.le_of_ble_eq_true rfl, Nat.le_of_ble_eq_true rfl⟩ rfl (fun Z => ⟨_, rfl⟩) [.int a1] rfl Z1 p2 hP hD hS hl.1 (by first | exact trivial | (unfold restOK restOKn; trivial)) rfl dL_law_723 hcs hsl (fun H locs hP hD hS => ?_)
  rw [show (F_X4_keeps g).2.1 (.ref (g 30) :: [.int a1]) Z1.2 = some (.int r) from q2]
  generalize (F_X4_keeps g).2.2 (.ref (g 30) :: [.int a1]) Z1.2 = M2 at q3 hP hD
  refine lv_icmp_eq (tgt := 1063) hx hb dL_law_726 (by decide) (fun _ => ?_) (fun h => absurd rfl h)
  exact kk H locs (Z1.1, M2) q3 hP hD hS
theorem lwc_lasts {p : Program} {l : Launch} {e : Env} {s : State} {m : MethodId} {below : List Frame} {meth : Method} {c : Code} {b L : Nat} {xs : Nat → Int32} {B : Bx} {Q : State → Prop} {cells slots : Nat} {g : Nat → Nat} {LI : HS → MS → Prop} (LC : LwC p s m meth c b L xs B) (hpu : PureOK LI g) (hcs : cells ≤ room_1.cells) (hsl : slots ≤ room_1.slots) {i : Nat} (hv1 : vp_in (nI i + 1) L) (hv2 : vp_in (nI i + 2) L) (hv3 : vp_in (nI i + 3) L) {ls : Array Slot} (hl : lv_has ls 4 [(0, .ref b), (1, .ref (g 0)), (2, .ref (g 30)), (3, .int (nI i))]) (kk : ∀ (H : Heap) (locs : List Loc) (Z : LW), LI Z.1 Z.2 → va_P B.1 vwCl (encW B g Z) H → va_D (fun q : Nat => s.heap.size ≤ q) (encW B g Z) → va_S (fun q : Nat => s.heap.size ≤ q) s.heap H locs → W p l e room_1 s m #[Value.ref b] below meth c H locs cells slots Q (F0 m 1063 ls []))
    {H : Heap} {locs : List Loc} (Z : LW) (hZ : LI Z.1 Z.2) (hP : va_P B.1 vwCl (encW B g Z) H) (hD : va_D (fun q : Nat => s.heap.size ≤ q) (encW B g Z)) (hS : va_S (fun q : Nat => s.heap.size ≤ q) s.heap H locs) : W p l e room_1 s m #[Value.ref b] below meth c H locs cells slots Q (F0 m 731 ls []) := by
  obtain ⟨hx, hb, hml, hown, hts, hX, hbl, hlocks, -, hK, hE⟩ := id LC
  have hbA : ¬ (fun q : Nat => s.heap.size ≤ q) b := Nat.not_le.mpr hbl
  obtain ⟨a1, ha1⟩ : ∃ a, a = xs (nI i + 1).toNatClampNeg := ⟨_, rfl⟩
  obtain ⟨a2, ha2⟩ : ∃ a, a = xs (nI i + 2).toNatClampNeg := ⟨_, rfl⟩
  obtain ⟨p1, p2, ⟨r, q1, q2⟩, q3⟩ := (hpu.2.2.2.2.2.2.2.2.2.2.2.2.2.2.2.2.2.2.2.2.2.1 a1 a2) Z.1 Z.2 hZ
  refine lv_aload_n hx hb dL_law_731 rfl (lv_at hl 1 rfl) ?_
  refine lv_aload_n hx hb dL_law_732 rfl (lv_at hl 0 rfl) ?_
  refine lv_iload_n hx hb dL_law_733 rfl (lv_at hl 3 rfl) ?_
  refine lv_iconst (v := 1) hx hb dL_law_734 (by decide) ?_
  refine lv_iadd hx hb dL_law_735 ?_
  refine va_sld hx hb hX hbl hbA hS (hv1) dL_law_736 ?_
  rw [← ha1]
  refine lv_aload_n hx hb dL_law_737 rfl (lv_at hl 0 rfl) ?_
  refine lv_iload_n hx hb dL_law_738 rfl (lv_at hl 3 rfl) ?_
  refine lv_iconst (v := 2) hx hb dL_law_739 (by decide) ?_
  refine lv_iadd hx hb dL_law_740 ?_
  refine va_sld hx hb hX hbl hbA hS (hv2) dL_law_741 ?_
  rw [← ha2]
  refine lawV (n := 2) (b0 := g 0) (q0 := 0) (ci := 3) LC (frW_H B g) (k_X3_lasts B g) (lwGood gL_law_X3_lasts) rfl ⟨rfl, by decide +kernel, by decide +kernel, by decide +kernel⟩ ⟨rfl, rfl⟩ ⟨Nat.le_of_ble_eq_true rfl, Nat.le_of_ble_eq_true rfl⟩ rfl (fun Z => ⟨_, rfl⟩) [.int a1, .int a2] rfl Z p1 hP hD hS hl.1 (by first | exact trivial | (unfold restOK restOKn; trivial)) rfl dL_law_742 hcs hsl (fun H locs hP hD hS => ?_)
  rw [show (F_X3_lasts g).2.1 (.ref (g 0) :: [.int a1, .int a2]) Z.1 = some (.int r) from q1]
  generalize hS1 : (F_X3_lasts g).2.2 (.ref (g 0) :: [.int a1, .int a2]) Z.1 = S1 at q3 hP hD
  obtain ⟨Z1, hZ1⟩ : ∃ Z1 : LW, Z1 = (S1, Z.2) := ⟨_, rfl⟩
  have hM1 : Z1.2 = Z.2 := by rw [hZ1]
  have p2 : (F_X4_lasts g).1 (.ref (g 30) :: [.int a1, .int a2]) Z1.2 := by rw [hM1]; exact p2
  have q2 : (F_X4_lasts g).2.1 (.ref (g 30) :: [.int a1, .int a2]) Z1.2 = some (.int r) := by rw [hM1]; exact q2
  have q3 : LI Z1.1 ((F_X4_lasts g).2.2 (.ref (g 30) :: [.int a1, .int a2]) Z1.2) := by rw [hM1, hZ1]; exact q3
  have hP : va_P B.1 vwCl (encW B g Z1) H := by rw [hZ1]; exact hP
  have hD : va_D (fun q : Nat => s.heap.size ≤ q) (encW B g Z1) := by rw [hZ1]; exact hD
  refine lv_aload_n hx hb dL_law_745 rfl (lv_at hl 2 rfl) ?_
  refine lv_aload_n hx hb dL_law_746 rfl (lv_at hl 0 rfl) ?_
  refine lv_iload_n hx hb dL_law_747 rfl (lv_at hl 3 rfl) ?_
  refine lv_iconst (v := 1) hx hb dL_law_748 (by decide) ?_
  refine lv_iadd hx hb dL_law_749 ?_
  refine va_sld hx hb hX hbl hbA hS (hv1) dL_law_750 ?_
  rw [← ha1]
  refine lv_aload_n hx hb dL_law_751 rfl (lv_at hl 0 rfl) ?_
  refine lv_iload_n hx hb dL_law_752 rfl (lv_at hl 3 rfl) ?_
  refine lv_iconst (v := 2) hx hb dL_law_753 (by decide) ?_
  refine lv_iadd hx hb dL_law_754 ?_
  refine va_sld hx hb hX hbl hbA hS (hv2) dL_law_755 ?_
  rw [← ha2]
  refine lawV (n := 2) (b0 := g 30) (q0 := 26) (ci := 4) LC (frW_M B g) (k_X4_lasts B g) (lwGood gL_law_X4_lasts) rfl ⟨rfl, by decide +kernel, by decide +kernel, by decide +kernel⟩ ⟨rfl, rfl⟩ ⟨Nat.le_of_ble_eq_true rfl, Nat.le_of_ble_eq_true rfl⟩ rfl (fun Z => ⟨_, rfl⟩) [.int a1, .int a2] rfl Z1 p2 hP hD hS hl.1 (by first | exact trivial | (unfold restOK restOKn; trivial)) rfl dL_law_756 hcs hsl (fun H locs hP hD hS => ?_)
  rw [show (F_X4_lasts g).2.1 (.ref (g 30) :: [.int a1, .int a2]) Z1.2 = some (.int r) from q2]
  generalize (F_X4_lasts g).2.2 (.ref (g 30) :: [.int a1, .int a2]) Z1.2 = M2 at q3 hP hD
  refine lv_icmp_eq (tgt := 1063) hx hb dL_law_759 (by decide) (fun _ => ?_) (fun h => absurd rfl h)
  exact kk H locs (Z1.1, M2) q3 hP hD hS
theorem lwc_many {p : Program} {l : Launch} {e : Env} {s : State} {m : MethodId} {below : List Frame} {meth : Method} {c : Code} {b L : Nat} {xs : Nat → Int32} {B : Bx} {Q : State → Prop} {cells slots : Nat} {g : Nat → Nat} {LI : HS → MS → Prop} (LC : LwC p s m meth c b L xs B) (hpu : PureOK LI g) (hcs : cells ≤ room_1.cells) (hsl : slots ≤ room_1.slots) {i : Nat} (hv1 : vp_in (nI i + 1) L) (hv2 : vp_in (nI i + 2) L) (hv3 : vp_in (nI i + 3) L) {ls : Array Slot} (hl : lv_has ls 4 [(0, .ref b), (1, .ref (g 0)), (2, .ref (g 30)), (3, .int (nI i))]) (kk : ∀ (H : Heap) (locs : List Loc) (Z : LW), LI Z.1 Z.2 → va_P B.1 vwCl (encW B g Z) H → va_D (fun q : Nat => s.heap.size ≤ q) (encW B g Z) → va_S (fun q : Nat => s.heap.size ≤ q) s.heap H locs → W p l e room_1 s m #[Value.ref b] below meth c H locs cells slots Q (F0 m 1063 ls []))
    {H : Heap} {locs : List Loc} (Z : LW) (hZ : LI Z.1 Z.2) (hP : va_P B.1 vwCl (encW B g Z) H) (hD : va_D (fun q : Nat => s.heap.size ≤ q) (encW B g Z)) (hS : va_S (fun q : Nat => s.heap.size ≤ q) s.heap H locs) : W p l e room_1 s m #[Value.ref b] below meth c H locs cells slots Q (F0 m 764 ls []) := by
  obtain ⟨hx, hb, hml, hown, hts, hX, hbl, hlocks, -, hK, hE⟩ := id LC
  have hbA : ¬ (fun q : Nat => s.heap.size ≤ q) b := Nat.not_le.mpr hbl
  obtain ⟨a1, ha1⟩ : ∃ a, a = xs (nI i + 1).toNatClampNeg := ⟨_, rfl⟩
  obtain ⟨a2, ha2⟩ : ∃ a, a = xs (nI i + 2).toNatClampNeg := ⟨_, rfl⟩
  obtain ⟨p1, p2, ⟨r, q1, q2⟩, q3⟩ := (hpu.2.2.2.2.2.2.2.2.2.2.2.2.2.2.2.2.2.2.2.2.2.2.1 a1 a2) Z.1 Z.2 hZ
  refine lv_aload_n hx hb dL_law_764 rfl (lv_at hl 1 rfl) ?_
  refine lv_aload_n hx hb dL_law_765 rfl (lv_at hl 0 rfl) ?_
  refine lv_iload_n hx hb dL_law_766 rfl (lv_at hl 3 rfl) ?_
  refine lv_iconst (v := 1) hx hb dL_law_767 (by decide) ?_
  refine lv_iadd hx hb dL_law_768 ?_
  refine va_sld hx hb hX hbl hbA hS (hv1) dL_law_769 ?_
  rw [← ha1]
  refine lv_aload_n hx hb dL_law_770 rfl (lv_at hl 0 rfl) ?_
  refine lv_iload_n hx hb dL_law_771 rfl (lv_at hl 3 rfl) ?_
  refine lv_iconst (v := 2) hx hb dL_law_772 (by decide) ?_
  refine lv_iadd hx hb dL_law_773 ?_
  refine va_sld hx hb hX hbl hbA hS (hv2) dL_law_774 ?_
  rw [← ha2]
  refine lawV (n := 2) (b0 := g 0) (q0 := 0) (ci := 3) LC (frW_H B g) (k_X3_many B g) (lwGood gL_law_X3_many) rfl ⟨rfl, by decide +kernel, by decide +kernel, by decide +kernel⟩ ⟨rfl, rfl⟩ ⟨Nat.le_of_ble_eq_true rfl, Nat.le_of_ble_eq_true rfl⟩ rfl (fun Z => ⟨_, rfl⟩) [.int a1, .int a2] rfl Z p1 hP hD hS hl.1 (by first | exact trivial | (unfold restOK restOKn; trivial)) rfl dL_law_775 hcs hsl (fun H locs hP hD hS => ?_)
  rw [show (F_X3_many g).2.1 (.ref (g 0) :: [.int a1, .int a2]) Z.1 = some (.int r) from q1]
  generalize hS1 : (F_X3_many g).2.2 (.ref (g 0) :: [.int a1, .int a2]) Z.1 = S1 at q3 hP hD
  obtain ⟨Z1, hZ1⟩ : ∃ Z1 : LW, Z1 = (S1, Z.2) := ⟨_, rfl⟩
  have hM1 : Z1.2 = Z.2 := by rw [hZ1]
  have p2 : (F_X4_many g).1 (.ref (g 30) :: [.int a1, .int a2]) Z1.2 := by rw [hM1]; exact p2
  have q2 : (F_X4_many g).2.1 (.ref (g 30) :: [.int a1, .int a2]) Z1.2 = some (.int r) := by rw [hM1]; exact q2
  have q3 : LI Z1.1 ((F_X4_many g).2.2 (.ref (g 30) :: [.int a1, .int a2]) Z1.2) := by rw [hM1, hZ1]; exact q3
  have hP : va_P B.1 vwCl (encW B g Z1) H := by rw [hZ1]; exact hP
  have hD : va_D (fun q : Nat => s.heap.size ≤ q) (encW B g Z1) := by rw [hZ1]; exact hD
  refine lv_aload_n hx hb dL_law_778 rfl (lv_at hl 2 rfl) ?_
  refine lv_aload_n hx hb dL_law_779 rfl (lv_at hl 0 rfl) ?_
  refine lv_iload_n hx hb dL_law_780 rfl (lv_at hl 3 rfl) ?_
  refine lv_iconst (v := 1) hx hb dL_law_781 (by decide) ?_
  refine lv_iadd hx hb dL_law_782 ?_
  refine va_sld hx hb hX hbl hbA hS (hv1) dL_law_783 ?_
  rw [← ha1]
  refine lv_aload_n hx hb dL_law_784 rfl (lv_at hl 0 rfl) ?_
  refine lv_iload_n hx hb dL_law_785 rfl (lv_at hl 3 rfl) ?_
  refine lv_iconst (v := 2) hx hb dL_law_786 (by decide) ?_
  refine lv_iadd hx hb dL_law_787 ?_
  refine va_sld hx hb hX hbl hbA hS (hv2) dL_law_788 ?_
  rw [← ha2]
  refine lawV (n := 2) (b0 := g 30) (q0 := 26) (ci := 4) LC (frW_M B g) (k_X4_many B g) (lwGood gL_law_X4_many) rfl ⟨rfl, by decide +kernel, by decide +kernel, by decide +kernel⟩ ⟨rfl, rfl⟩ ⟨Nat.le_of_ble_eq_true rfl, Nat.le_of_ble_eq_true rfl⟩ rfl (fun Z => ⟨_, rfl⟩) [.int a1, .int a2] rfl Z1 p2 hP hD hS hl.1 (by first | exact trivial | (unfold restOK restOKn; trivial)) rfl dL_law_789 hcs hsl (fun H locs hP hD hS => ?_)
  rw [show (F_X4_many g).2.1 (.ref (g 30) :: [.int a1, .int a2]) Z1.2 = some (.int r) from q2]
  generalize (F_X4_many g).2.2 (.ref (g 30) :: [.int a1, .int a2]) Z1.2 = M2 at q3 hP hD
  refine lv_icmp_eq (tgt := 1063) hx hb dL_law_792 (by decide) (fun _ => ?_) (fun h => absurd rfl h)
  exact kk H locs (Z1.1, M2) q3 hP hD hS
theorem lwc_move {p : Program} {l : Launch} {e : Env} {s : State} {m : MethodId} {below : List Frame} {meth : Method} {c : Code} {b L : Nat} {xs : Nat → Int32} {B : Bx} {Q : State → Prop} {cells slots : Nat} {g : Nat → Nat} {LI : HS → MS → Prop} (LC : LwC p s m meth c b L xs B) (hpu : PureOK LI g) (hcs : cells ≤ room_1.cells) (hsl : slots ≤ room_1.slots) {i : Nat} (hv1 : vp_in (nI i + 1) L) (hv2 : vp_in (nI i + 2) L) (hv3 : vp_in (nI i + 3) L) {ls : Array Slot} (hl : lv_has ls 4 [(0, .ref b), (1, .ref (g 0)), (2, .ref (g 30)), (3, .int (nI i))]) (kk : ∀ (H : Heap) (locs : List Loc) (Z : LW), LI Z.1 Z.2 → va_P B.1 vwCl (encW B g Z) H → va_D (fun q : Nat => s.heap.size ≤ q) (encW B g Z) → va_S (fun q : Nat => s.heap.size ≤ q) s.heap H locs → W p l e room_1 s m #[Value.ref b] below meth c H locs cells slots Q (F0 m 1063 ls []))
    {H : Heap} {locs : List Loc} (Z : LW) (hZ : LI Z.1 Z.2) (hP : va_P B.1 vwCl (encW B g Z) H) (hD : va_D (fun q : Nat => s.heap.size ≤ q) (encW B g Z)) (hS : va_S (fun q : Nat => s.heap.size ≤ q) s.heap H locs) : W p l e room_1 s m #[Value.ref b] below meth c H locs cells slots Q (F0 m 797 ls []) := by
  obtain ⟨hx, hb, hml, hown, hts, hX, hbl, hlocks, -, hK, hE⟩ := id LC
  have hbA : ¬ (fun q : Nat => s.heap.size ≤ q) b := Nat.not_le.mpr hbl
  obtain ⟨a1, ha1⟩ : ∃ a, a = xs (nI i + 1).toNatClampNeg := ⟨_, rfl⟩
  obtain ⟨a2, ha2⟩ : ∃ a, a = xs (nI i + 2).toNatClampNeg := ⟨_, rfl⟩
  obtain ⟨p1, p2, ⟨r, q1, q2⟩, q3⟩ := (hpu.2.2.2.2.2.2.2.2.2.2.2.2.2.2.2.2.2.2.2.2.2.2.2.1 a1 a2) Z.1 Z.2 hZ
  refine lv_aload_n hx hb dL_law_797 rfl (lv_at hl 1 rfl) ?_
  refine lv_aload_n hx hb dL_law_798 rfl (lv_at hl 0 rfl) ?_
  refine lv_iload_n hx hb dL_law_799 rfl (lv_at hl 3 rfl) ?_
  refine lv_iconst (v := 1) hx hb dL_law_800 (by decide) ?_
  refine lv_iadd hx hb dL_law_801 ?_
  refine va_sld hx hb hX hbl hbA hS (hv1) dL_law_802 ?_
  rw [← ha1]
  refine lv_aload_n hx hb dL_law_803 rfl (lv_at hl 0 rfl) ?_
  refine lv_iload_n hx hb dL_law_804 rfl (lv_at hl 3 rfl) ?_
  refine lv_iconst (v := 2) hx hb dL_law_805 (by decide) ?_
  refine lv_iadd hx hb dL_law_806 ?_
  refine va_sld hx hb hX hbl hbA hS (hv2) dL_law_807 ?_
  rw [← ha2]
  refine lawV (n := 2) (b0 := g 0) (q0 := 0) (ci := 3) LC (frW_H B g) (k_X3_move B g) (lwGood gL_law_X3_move) rfl ⟨rfl, by decide +kernel, by decide +kernel, by decide +kernel⟩ ⟨rfl, rfl⟩ ⟨Nat.le_of_ble_eq_true rfl, Nat.le_of_ble_eq_true rfl⟩ rfl (fun Z => ⟨_, rfl⟩) [.int a1, .int a2] rfl Z p1 hP hD hS hl.1 (by first | exact trivial | (unfold restOK restOKn; trivial)) rfl dL_law_808 hcs hsl (fun H locs hP hD hS => ?_)
  rw [show (F_X3_move g).2.1 (.ref (g 0) :: [.int a1, .int a2]) Z.1 = some (.int r) from q1]
  generalize hS1 : (F_X3_move g).2.2 (.ref (g 0) :: [.int a1, .int a2]) Z.1 = S1 at q3 hP hD
  obtain ⟨Z1, hZ1⟩ : ∃ Z1 : LW, Z1 = (S1, Z.2) := ⟨_, rfl⟩
  have hM1 : Z1.2 = Z.2 := by rw [hZ1]
  have p2 : (F_X4_move g).1 (.ref (g 30) :: [.int a1, .int a2]) Z1.2 := by rw [hM1]; exact p2
  have q2 : (F_X4_move g).2.1 (.ref (g 30) :: [.int a1, .int a2]) Z1.2 = some (.int r) := by rw [hM1]; exact q2
  have q3 : LI Z1.1 ((F_X4_move g).2.2 (.ref (g 30) :: [.int a1, .int a2]) Z1.2) := by rw [hM1, hZ1]; exact q3
  have hP : va_P B.1 vwCl (encW B g Z1) H := by rw [hZ1]; exact hP
  have hD : va_D (fun q : Nat => s.heap.size ≤ q) (encW B g Z1) := by rw [hZ1]; exact hD
  refine lv_aload_n hx hb dL_law_811 rfl (lv_at hl 2 rfl) ?_
  refine lv_aload_n hx hb dL_law_812 rfl (lv_at hl 0 rfl) ?_
  refine lv_iload_n hx hb dL_law_813 rfl (lv_at hl 3 rfl) ?_
  refine lv_iconst (v := 1) hx hb dL_law_814 (by decide) ?_
  refine lv_iadd hx hb dL_law_815 ?_
  refine va_sld hx hb hX hbl hbA hS (hv1) dL_law_816 ?_
  rw [← ha1]
  refine lv_aload_n hx hb dL_law_817 rfl (lv_at hl 0 rfl) ?_
  refine lv_iload_n hx hb dL_law_818 rfl (lv_at hl 3 rfl) ?_
  refine lv_iconst (v := 2) hx hb dL_law_819 (by decide) ?_
  refine lv_iadd hx hb dL_law_820 ?_
  refine va_sld hx hb hX hbl hbA hS (hv2) dL_law_821 ?_
  rw [← ha2]
  refine lawV (n := 2) (b0 := g 30) (q0 := 26) (ci := 4) LC (frW_M B g) (k_X4_move B g) (lwGood gL_law_X4_move) rfl ⟨rfl, by decide +kernel, by decide +kernel, by decide +kernel⟩ ⟨rfl, rfl⟩ ⟨Nat.le_of_ble_eq_true rfl, Nat.le_of_ble_eq_true rfl⟩ rfl (fun Z => ⟨_, rfl⟩) [.int a1, .int a2] rfl Z1 p2 hP hD hS hl.1 (by first | exact trivial | (unfold restOK restOKn; trivial)) rfl dL_law_822 hcs hsl (fun H locs hP hD hS => ?_)
  rw [show (F_X4_move g).2.1 (.ref (g 30) :: [.int a1, .int a2]) Z1.2 = some (.int r) from q2]
  generalize (F_X4_move g).2.2 (.ref (g 30) :: [.int a1, .int a2]) Z1.2 = M2 at q3 hP hD
  refine lv_icmp_eq (tgt := 1063) hx hb dL_law_825 (by decide) (fun _ => ?_) (fun h => absurd rfl h)
  exact kk H locs (Z1.1, M2) q3 hP hD hS
theorem lwc_bestPlace {p : Program} {l : Launch} {e : Env} {s : State} {m : MethodId} {below : List Frame} {meth : Method} {c : Code} {b L : Nat} {xs : Nat → Int32} {B : Bx} {Q : State → Prop} {cells slots : Nat} {g : Nat → Nat} {LI : HS → MS → Prop} (LC : LwC p s m meth c b L xs B) (hpu : PureOK LI g) (hcs : cells ≤ room_1.cells) (hsl : slots ≤ room_1.slots) {i : Nat} (hv1 : vp_in (nI i + 1) L) (hv2 : vp_in (nI i + 2) L) (hv3 : vp_in (nI i + 3) L) {ls : Array Slot} (hl : lv_has ls 4 [(0, .ref b), (1, .ref (g 0)), (2, .ref (g 30)), (3, .int (nI i))]) (kk : ∀ (H : Heap) (locs : List Loc) (Z : LW), LI Z.1 Z.2 → va_P B.1 vwCl (encW B g Z) H → va_D (fun q : Nat => s.heap.size ≤ q) (encW B g Z) → va_S (fun q : Nat => s.heap.size ≤ q) s.heap H locs → W p l e room_1 s m #[Value.ref b] below meth c H locs cells slots Q (F0 m 1063 ls []))
    {H : Heap} {locs : List Loc} (Z : LW) (hZ : LI Z.1 Z.2) (hP : va_P B.1 vwCl (encW B g Z) H) (hD : va_D (fun q : Nat => s.heap.size ≤ q) (encW B g Z)) (hS : va_S (fun q : Nat => s.heap.size ≤ q) s.heap H locs) : W p l e room_1 s m #[Value.ref b] below meth c H locs cells slots Q (F0 m 830 ls []) := by
  obtain ⟨hx, hb, hml, hown, hts, hX, hbl, hlocks, -, hK, hE⟩ := id LC
  have hbA : ¬ (fun q : Nat => s.heap.size ≤ q) b := Nat.not_le.mpr hbl
  obtain ⟨a1, ha1⟩ : ∃ a, a = xs (nI i + 1).toNatClampNeg := ⟨_, rfl⟩
  obtain ⟨p1, p2, ⟨r, q1, q2⟩, q3⟩ := (hpu.2.2.2.2.2.2.2.2.2.2.2.2.2.2.2.2.2.2.2.2.2.2.2.2.1 a1) Z.1 Z.2 hZ
  refine lv_aload_n hx hb dL_law_830 rfl (lv_at hl 1 rfl) ?_
  refine lv_aload_n hx hb dL_law_831 rfl (lv_at hl 0 rfl) ?_
  refine lv_iload_n hx hb dL_law_832 rfl (lv_at hl 3 rfl) ?_
  refine lv_iconst (v := 1) hx hb dL_law_833 (by decide) ?_
  refine lv_iadd hx hb dL_law_834 ?_
  refine va_sld hx hb hX hbl hbA hS (hv1) dL_law_835 ?_
  rw [← ha1]
  refine lawV (n := 1) (b0 := g 0) (q0 := 0) (ci := 3) LC (frW_H B g) (k_X3_bestPlace B g) (lwGood gL_law_X3_bestPlace) rfl ⟨rfl, by decide +kernel, by decide +kernel, by decide +kernel⟩ ⟨rfl, rfl⟩ ⟨Nat.le_of_ble_eq_true rfl, Nat.le_of_ble_eq_true rfl⟩ rfl (fun Z => ⟨_, rfl⟩) [.int a1] rfl Z p1 hP hD hS hl.1 (by first | exact trivial | (unfold restOK restOKn; trivial)) rfl dL_law_836 hcs hsl (fun H locs hP hD hS => ?_)
  rw [show (F_X3_bestPlace g).2.1 (.ref (g 0) :: [.int a1]) Z.1 = some (.int r) from q1]
  generalize hS1 : (F_X3_bestPlace g).2.2 (.ref (g 0) :: [.int a1]) Z.1 = S1 at q3 hP hD
  obtain ⟨Z1, hZ1⟩ : ∃ Z1 : LW, Z1 = (S1, Z.2) := ⟨_, rfl⟩
  have hM1 : Z1.2 = Z.2 := by rw [hZ1]
  have p2 : (F_X4_bestPlace g).1 (.ref (g 30) :: [.int a1]) Z1.2 := by rw [hM1]; exact p2
  have q2 : (F_X4_bestPlace g).2.1 (.ref (g 30) :: [.int a1]) Z1.2 = some (.int r) := by rw [hM1]; exact q2
  have q3 : LI Z1.1 ((F_X4_bestPlace g).2.2 (.ref (g 30) :: [.int a1]) Z1.2) := by rw [hM1, hZ1]; exact q3
  have hP : va_P B.1 vwCl (encW B g Z1) H := by rw [hZ1]; exact hP
  have hD : va_D (fun q : Nat => s.heap.size ≤ q) (encW B g Z1) := by rw [hZ1]; exact hD
  refine lv_aload_n hx hb dL_law_839 rfl (lv_at hl 2 rfl) ?_
  refine lv_aload_n hx hb dL_law_840 rfl (lv_at hl 0 rfl) ?_
  refine lv_iload_n hx hb dL_law_841 rfl (lv_at hl 3 rfl) ?_
  refine lv_iconst (v := 1) hx hb dL_law_842 (by decide) ?_
  refine lv_iadd hx hb dL_law_843 ?_
  refine va_sld hx hb hX hbl hbA hS (hv1) dL_law_844 ?_
  rw [← ha1]
  refine lawV (n := 1) (b0 := g 30) (q0 := 26) (ci := 4) LC (frW_M B g) (k_X4_bestPlace B g) (lwGood gL_law_X4_bestPlace) rfl ⟨rfl, by decide +kernel, by decide +kernel, by decide +kernel⟩ ⟨rfl, rfl⟩ ⟨Nat.le_of_ble_eq_true rfl, Nat.le_of_ble_eq_true rfl⟩ rfl (fun Z => ⟨_, rfl⟩) [.int a1] rfl Z1 p2 hP hD hS hl.1 (by first | exact trivial | (unfold restOK restOKn; trivial)) rfl dL_law_845 hcs hsl (fun H locs hP hD hS => ?_)
  rw [show (F_X4_bestPlace g).2.1 (.ref (g 30) :: [.int a1]) Z1.2 = some (.int r) from q2]
  generalize (F_X4_bestPlace g).2.2 (.ref (g 30) :: [.int a1]) Z1.2 = M2 at q3 hP hD
  refine lv_icmp_eq (tgt := 1063) hx hb dL_law_848 (by decide) (fun _ => ?_) (fun h => absurd rfl h)
  exact kk H locs (Z1.1, M2) q3 hP hD hS
theorem lwc_strangers {p : Program} {l : Launch} {e : Env} {s : State} {m : MethodId} {below : List Frame} {meth : Method} {c : Code} {b L : Nat} {xs : Nat → Int32} {B : Bx} {Q : State → Prop} {cells slots : Nat} {g : Nat → Nat} {LI : HS → MS → Prop} (LC : LwC p s m meth c b L xs B) (hpu : PureOK LI g) (hcs : cells ≤ room_1.cells) (hsl : slots ≤ room_1.slots) {i : Nat} (hv1 : vp_in (nI i + 1) L) (hv2 : vp_in (nI i + 2) L) (hv3 : vp_in (nI i + 3) L) {ls : Array Slot} (hl : lv_has ls 4 [(0, .ref b), (1, .ref (g 0)), (2, .ref (g 30)), (3, .int (nI i))]) (kk : ∀ (H : Heap) (locs : List Loc) (Z : LW), LI Z.1 Z.2 → va_P B.1 vwCl (encW B g Z) H → va_D (fun q : Nat => s.heap.size ≤ q) (encW B g Z) → va_S (fun q : Nat => s.heap.size ≤ q) s.heap H locs → W p l e room_1 s m #[Value.ref b] below meth c H locs cells slots Q (F0 m 1063 ls []))
    {H : Heap} {locs : List Loc} (Z : LW) (hZ : LI Z.1 Z.2) (hP : va_P B.1 vwCl (encW B g Z) H) (hD : va_D (fun q : Nat => s.heap.size ≤ q) (encW B g Z)) (hS : va_S (fun q : Nat => s.heap.size ≤ q) s.heap H locs) : W p l e room_1 s m #[Value.ref b] below meth c H locs cells slots Q (F0 m 853 ls []) := by
  obtain ⟨hx, hb, hml, hown, hts, hX, hbl, hlocks, -, hK, hE⟩ := id LC
  have hbA : ¬ (fun q : Nat => s.heap.size ≤ q) b := Nat.not_le.mpr hbl
  obtain ⟨a1, ha1⟩ : ∃ a, a = xs (nI i + 1).toNatClampNeg := ⟨_, rfl⟩
  obtain ⟨p1, p2, ⟨r, q1, q2⟩, q3⟩ := (hpu.2.2.2.2.2.2.2.2.2.2.2.2.2.2.2.2.2.2.2.2.2.2.2.2.2.1 a1) Z.1 Z.2 hZ
  refine lv_aload_n hx hb dL_law_853 rfl (lv_at hl 1 rfl) ?_
  refine lv_aload_n hx hb dL_law_854 rfl (lv_at hl 0 rfl) ?_
  refine lv_iload_n hx hb dL_law_855 rfl (lv_at hl 3 rfl) ?_
  refine lv_iconst (v := 1) hx hb dL_law_856 (by decide) ?_
  refine lv_iadd hx hb dL_law_857 ?_
  refine va_sld hx hb hX hbl hbA hS (hv1) dL_law_858 ?_
  rw [← ha1]
  refine lawV (n := 1) (b0 := g 0) (q0 := 0) (ci := 3) LC (frW_H B g) (k_X3_strangers B g) (lwGood gL_law_X3_strangers) rfl ⟨rfl, by decide +kernel, by decide +kernel, by decide +kernel⟩ ⟨rfl, rfl⟩ ⟨Nat.le_of_ble_eq_true rfl, Nat.le_of_ble_eq_true rfl⟩ rfl (fun Z => ⟨_, rfl⟩) [.int a1] rfl Z p1 hP hD hS hl.1 (by first | exact trivial | (unfold restOK restOKn; trivial)) rfl dL_law_859 hcs hsl (fun H locs hP hD hS => ?_)
  rw [show (F_X3_strangers g).2.1 (.ref (g 0) :: [.int a1]) Z.1 = some (.int r) from q1]
  generalize hS1 : (F_X3_strangers g).2.2 (.ref (g 0) :: [.int a1]) Z.1 = S1 at q3 hP hD
  obtain ⟨Z1, hZ1⟩ : ∃ Z1 : LW, Z1 = (S1, Z.2) := ⟨_, rfl⟩
  have hM1 : Z1.2 = Z.2 := by rw [hZ1]
  have p2 : (F_X4_strangers g).1 (.ref (g 30) :: [.int a1]) Z1.2 := by rw [hM1]; exact p2
  have q2 : (F_X4_strangers g).2.1 (.ref (g 30) :: [.int a1]) Z1.2 = some (.int r) := by rw [hM1]; exact q2
  have q3 : LI Z1.1 ((F_X4_strangers g).2.2 (.ref (g 30) :: [.int a1]) Z1.2) := by rw [hM1, hZ1]; exact q3
  have hP : va_P B.1 vwCl (encW B g Z1) H := by rw [hZ1]; exact hP
  have hD : va_D (fun q : Nat => s.heap.size ≤ q) (encW B g Z1) := by rw [hZ1]; exact hD
  refine lv_aload_n hx hb dL_law_862 rfl (lv_at hl 2 rfl) ?_
  refine lv_aload_n hx hb dL_law_863 rfl (lv_at hl 0 rfl) ?_
  refine lv_iload_n hx hb dL_law_864 rfl (lv_at hl 3 rfl) ?_
  refine lv_iconst (v := 1) hx hb dL_law_865 (by decide) ?_
  refine lv_iadd hx hb dL_law_866 ?_
  refine va_sld hx hb hX hbl hbA hS (hv1) dL_law_867 ?_
  rw [← ha1]
  refine lawV (n := 1) (b0 := g 30) (q0 := 26) (ci := 4) LC (frW_M B g) (k_X4_strangers B g) (lwGood gL_law_X4_strangers) rfl ⟨rfl, by decide +kernel, by decide +kernel, by decide +kernel⟩ ⟨rfl, rfl⟩ ⟨Nat.le_of_ble_eq_true rfl, Nat.le_of_ble_eq_true rfl⟩ rfl (fun Z => ⟨_, rfl⟩) [.int a1] rfl Z1 p2 hP hD hS hl.1 (by first | exact trivial | (unfold restOK restOKn; trivial)) rfl dL_law_868 hcs hsl (fun H locs hP hD hS => ?_)
  rw [show (F_X4_strangers g).2.1 (.ref (g 30) :: [.int a1]) Z1.2 = some (.int r) from q2]
  generalize (F_X4_strangers g).2.2 (.ref (g 30) :: [.int a1]) Z1.2 = M2 at q3 hP hD
  refine lv_icmp_eq (tgt := 1063) hx hb dL_law_871 (by decide) (fun _ => ?_) (fun h => absurd rfl h)
  exact kk H locs (Z1.1, M2) q3 hP hD hS
theorem lwc_smallest {p : Program} {l : Launch} {e : Env} {s : State} {m : MethodId} {below : List Frame} {meth : Method} {c : Code} {b L : Nat} {xs : Nat → Int32} {B : Bx} {Q : State → Prop} {cells slots : Nat} {g : Nat → Nat} {LI : HS → MS → Prop} (LC : LwC p s m meth c b L xs B) (hpu : PureOK LI g) (hcs : cells ≤ room_1.cells) (hsl : slots ≤ room_1.slots) {i : Nat} (hv1 : vp_in (nI i + 1) L) (hv2 : vp_in (nI i + 2) L) (hv3 : vp_in (nI i + 3) L) {ls : Array Slot} (hl : lv_has ls 4 [(0, .ref b), (1, .ref (g 0)), (2, .ref (g 30)), (3, .int (nI i))]) (kk : ∀ (H : Heap) (locs : List Loc) (Z : LW), LI Z.1 Z.2 → va_P B.1 vwCl (encW B g Z) H → va_D (fun q : Nat => s.heap.size ≤ q) (encW B g Z) → va_S (fun q : Nat => s.heap.size ≤ q) s.heap H locs → W p l e room_1 s m #[Value.ref b] below meth c H locs cells slots Q (F0 m 1063 ls []))
    {H : Heap} {locs : List Loc} (Z : LW) (hZ : LI Z.1 Z.2) (hP : va_P B.1 vwCl (encW B g Z) H) (hD : va_D (fun q : Nat => s.heap.size ≤ q) (encW B g Z)) (hS : va_S (fun q : Nat => s.heap.size ≤ q) s.heap H locs) : W p l e room_1 s m #[Value.ref b] below meth c H locs cells slots Q (F0 m 876 ls []) := by
  obtain ⟨hx, hb, hml, hown, hts, hX, hbl, hlocks, -, hK, hE⟩ := id LC
  have hbA : ¬ (fun q : Nat => s.heap.size ≤ q) b := Nat.not_le.mpr hbl
  obtain ⟨p1, p2, ⟨r, q1, q2⟩, q3⟩ := (hpu.2.2.2.2.2.2.2.2.2.2.2.2.2.2.2.2.2.2.2.2.2.2.2.2.2.2.1) Z.1 Z.2 hZ
  refine lv_aload_n hx hb dL_law_876 rfl (lv_at hl 1 rfl) ?_
  refine lawV (n := 0) (b0 := g 0) (q0 := 0) (ci := 3) LC (frW_H B g) (k_X3_smallest B g) (lwGood gL_law_X3_smallest) rfl ⟨rfl, by decide +kernel, by decide +kernel, by decide +kernel⟩ ⟨rfl, rfl⟩ ⟨Nat.le_of_ble_eq_true rfl, Nat.le_of_ble_eq_true rfl⟩ rfl (fun Z => ⟨_, rfl⟩) [] rfl Z p1 hP hD hS hl.1 (by first | exact trivial | (unfold restOK restOKn; trivial)) rfl dL_law_877 hcs hsl (fun H locs hP hD hS => ?_)
  rw [show (F_X3_smallest g).2.1 (.ref (g 0) :: []) Z.1 = some (.int r) from q1]
  generalize hS1 : (F_X3_smallest g).2.2 (.ref (g 0) :: []) Z.1 = S1 at q3 hP hD
  obtain ⟨Z1, hZ1⟩ : ∃ Z1 : LW, Z1 = (S1, Z.2) := ⟨_, rfl⟩
  have hM1 : Z1.2 = Z.2 := by rw [hZ1]
  have p2 : (F_X4_smallest g).1 (.ref (g 30) :: []) Z1.2 := by rw [hM1]; exact p2
  have q2 : (F_X4_smallest g).2.1 (.ref (g 30) :: []) Z1.2 = some (.int r) := by rw [hM1]; exact q2
  have q3 : LI Z1.1 ((F_X4_smallest g).2.2 (.ref (g 30) :: []) Z1.2) := by rw [hM1, hZ1]; exact q3
  have hP : va_P B.1 vwCl (encW B g Z1) H := by rw [hZ1]; exact hP
  have hD : va_D (fun q : Nat => s.heap.size ≤ q) (encW B g Z1) := by rw [hZ1]; exact hD
  refine lv_aload_n hx hb dL_law_880 rfl (lv_at hl 2 rfl) ?_
  refine lawV (n := 0) (b0 := g 30) (q0 := 26) (ci := 4) LC (frW_M B g) (k_X4_smallest B g) (lwGood gL_law_X4_smallest) rfl ⟨rfl, by decide +kernel, by decide +kernel, by decide +kernel⟩ ⟨rfl, rfl⟩ ⟨Nat.le_of_ble_eq_true rfl, Nat.le_of_ble_eq_true rfl⟩ rfl (fun Z => ⟨_, rfl⟩) [] rfl Z1 p2 hP hD hS hl.1 (by first | exact trivial | (unfold restOK restOKn; trivial)) rfl dL_law_881 hcs hsl (fun H locs hP hD hS => ?_)
  rw [show (F_X4_smallest g).2.1 (.ref (g 30) :: []) Z1.2 = some (.int r) from q2]
  generalize (F_X4_smallest g).2.2 (.ref (g 30) :: []) Z1.2 = M2 at q3 hP hD
  refine lv_icmp_eq (tgt := 1063) hx hb dL_law_884 (by decide) (fun _ => ?_) (fun h => absurd rfl h)
  exact kk H locs (Z1.1, M2) q3 hP hD hS
theorem lwc_byLaw {p : Program} {l : Launch} {e : Env} {s : State} {m : MethodId} {below : List Frame} {meth : Method} {c : Code} {b L : Nat} {xs : Nat → Int32} {B : Bx} {Q : State → Prop} {cells slots : Nat} {g : Nat → Nat} {LI : HS → MS → Prop} (LC : LwC p s m meth c b L xs B) (hpu : PureOK LI g) (hcs : cells ≤ room_1.cells) (hsl : slots ≤ room_1.slots) {i : Nat} (hv1 : vp_in (nI i + 1) L) (hv2 : vp_in (nI i + 2) L) (hv3 : vp_in (nI i + 3) L) {ls : Array Slot} (hl : lv_has ls 4 [(0, .ref b), (1, .ref (g 0)), (2, .ref (g 30)), (3, .int (nI i))]) (kk : ∀ (H : Heap) (locs : List Loc) (Z : LW), LI Z.1 Z.2 → va_P B.1 vwCl (encW B g Z) H → va_D (fun q : Nat => s.heap.size ≤ q) (encW B g Z) → va_S (fun q : Nat => s.heap.size ≤ q) s.heap H locs → W p l e room_1 s m #[Value.ref b] below meth c H locs cells slots Q (F0 m 1063 ls []))
    {H : Heap} {locs : List Loc} (Z : LW) (hZ : LI Z.1 Z.2) (hP : va_P B.1 vwCl (encW B g Z) H) (hD : va_D (fun q : Nat => s.heap.size ≤ q) (encW B g Z)) (hS : va_S (fun q : Nat => s.heap.size ≤ q) s.heap H locs) : W p l e room_1 s m #[Value.ref b] below meth c H locs cells slots Q (F0 m 889 ls []) := by
  obtain ⟨hx, hb, hml, hown, hts, hX, hbl, hlocks, -, hK, hE⟩ := id LC
  have hbA : ¬ (fun q : Nat => s.heap.size ≤ q) b := Nat.not_le.mpr hbl
  obtain ⟨a1, ha1⟩ : ∃ a, a = xs (nI i + 1).toNatClampNeg := ⟨_, rfl⟩
  obtain ⟨a2, ha2⟩ : ∃ a, a = xs (nI i + 2).toNatClampNeg := ⟨_, rfl⟩
  obtain ⟨p1, p2, ⟨r, q1, q2⟩, q3⟩ := (hpu.2.2.2.2.2.2.2.2.2.2.2.2.2.2.2.2.2.2.2.2.2.2.2.2.2.2.2.1 a1 a2) Z.1 Z.2 hZ
  refine lv_aload_n hx hb dL_law_889 rfl (lv_at hl 1 rfl) ?_
  refine lv_aload_n hx hb dL_law_890 rfl (lv_at hl 0 rfl) ?_
  refine lv_iload_n hx hb dL_law_891 rfl (lv_at hl 3 rfl) ?_
  refine lv_iconst (v := 1) hx hb dL_law_892 (by decide) ?_
  refine lv_iadd hx hb dL_law_893 ?_
  refine va_sld hx hb hX hbl hbA hS (hv1) dL_law_894 ?_
  rw [← ha1]
  refine lv_aload_n hx hb dL_law_895 rfl (lv_at hl 0 rfl) ?_
  refine lv_iload_n hx hb dL_law_896 rfl (lv_at hl 3 rfl) ?_
  refine lv_iconst (v := 2) hx hb dL_law_897 (by decide) ?_
  refine lv_iadd hx hb dL_law_898 ?_
  refine va_sld hx hb hX hbl hbA hS (hv2) dL_law_899 ?_
  rw [← ha2]
  refine lawV (n := 2) (b0 := g 0) (q0 := 0) (ci := 3) LC (frW_H B g) (k_X3_byLaw B g) (lwGood gL_law_X3_byLaw) rfl ⟨rfl, by decide +kernel, by decide +kernel, by decide +kernel⟩ ⟨rfl, rfl⟩ ⟨Nat.le_of_ble_eq_true rfl, Nat.le_of_ble_eq_true rfl⟩ rfl (fun Z => ⟨_, rfl⟩) [.int a1, .int a2] rfl Z p1 hP hD hS hl.1 (by first | exact trivial | (unfold restOK restOKn; trivial)) rfl dL_law_900 hcs hsl (fun H locs hP hD hS => ?_)
  rw [show (F_X3_byLaw g).2.1 (.ref (g 0) :: [.int a1, .int a2]) Z.1 = some (.int r) from q1]
  generalize hS1 : (F_X3_byLaw g).2.2 (.ref (g 0) :: [.int a1, .int a2]) Z.1 = S1 at q3 hP hD
  obtain ⟨Z1, hZ1⟩ : ∃ Z1 : LW, Z1 = (S1, Z.2) := ⟨_, rfl⟩
  have hM1 : Z1.2 = Z.2 := by rw [hZ1]
  have p2 : (F_X4_byLaw g).1 (.ref (g 30) :: [.int a1, .int a2]) Z1.2 := by rw [hM1]; exact p2
  have q2 : (F_X4_byLaw g).2.1 (.ref (g 30) :: [.int a1, .int a2]) Z1.2 = some (.int r) := by rw [hM1]; exact q2
  have q3 : LI Z1.1 ((F_X4_byLaw g).2.2 (.ref (g 30) :: [.int a1, .int a2]) Z1.2) := by rw [hM1, hZ1]; exact q3
  have hP : va_P B.1 vwCl (encW B g Z1) H := by rw [hZ1]; exact hP
  have hD : va_D (fun q : Nat => s.heap.size ≤ q) (encW B g Z1) := by rw [hZ1]; exact hD
  refine lv_aload_n hx hb dL_law_903 rfl (lv_at hl 2 rfl) ?_
  refine lv_aload_n hx hb dL_law_904 rfl (lv_at hl 0 rfl) ?_
  refine lv_iload_n hx hb dL_law_905 rfl (lv_at hl 3 rfl) ?_
  refine lv_iconst (v := 1) hx hb dL_law_906 (by decide) ?_
  refine lv_iadd hx hb dL_law_907 ?_
  refine va_sld hx hb hX hbl hbA hS (hv1) dL_law_908 ?_
  rw [← ha1]
  refine lv_aload_n hx hb dL_law_909 rfl (lv_at hl 0 rfl) ?_
  refine lv_iload_n hx hb dL_law_910 rfl (lv_at hl 3 rfl) ?_
  refine lv_iconst (v := 2) hx hb dL_law_911 (by decide) ?_
  refine lv_iadd hx hb dL_law_912 ?_
  refine va_sld hx hb hX hbl hbA hS (hv2) dL_law_913 ?_
  rw [← ha2]
  refine lawV (n := 2) (b0 := g 30) (q0 := 26) (ci := 4) LC (frW_M B g) (k_X4_byLaw B g) (lwGood gL_law_X4_byLaw) rfl ⟨rfl, by decide +kernel, by decide +kernel, by decide +kernel⟩ ⟨rfl, rfl⟩ ⟨Nat.le_of_ble_eq_true rfl, Nat.le_of_ble_eq_true rfl⟩ rfl (fun Z => ⟨_, rfl⟩) [.int a1, .int a2] rfl Z1 p2 hP hD hS hl.1 (by first | exact trivial | (unfold restOK restOKn; trivial)) rfl dL_law_914 hcs hsl (fun H locs hP hD hS => ?_)
  rw [show (F_X4_byLaw g).2.1 (.ref (g 30) :: [.int a1, .int a2]) Z1.2 = some (.int r) from q2]
  generalize (F_X4_byLaw g).2.2 (.ref (g 30) :: [.int a1, .int a2]) Z1.2 = M2 at q3 hP hD
  refine lv_icmp_eq (tgt := 1063) hx hb dL_law_917 (by decide) (fun _ => ?_) (fun h => absurd rfl h)
  exact kk H locs (Z1.1, M2) q3 hP hD hS
theorem lwc_seeds {p : Program} {l : Launch} {e : Env} {s : State} {m : MethodId} {below : List Frame} {meth : Method} {c : Code} {b L : Nat} {xs : Nat → Int32} {B : Bx} {Q : State → Prop} {cells slots : Nat} {g : Nat → Nat} {LI : HS → MS → Prop} (LC : LwC p s m meth c b L xs B) (hpu : PureOK LI g) (hcs : cells ≤ room_1.cells) (hsl : slots ≤ room_1.slots) {i : Nat} (hv1 : vp_in (nI i + 1) L) (hv2 : vp_in (nI i + 2) L) (hv3 : vp_in (nI i + 3) L) {ls : Array Slot} (hl : lv_has ls 4 [(0, .ref b), (1, .ref (g 0)), (2, .ref (g 30)), (3, .int (nI i))]) (kk : ∀ (H : Heap) (locs : List Loc) (Z : LW), LI Z.1 Z.2 → va_P B.1 vwCl (encW B g Z) H → va_D (fun q : Nat => s.heap.size ≤ q) (encW B g Z) → va_S (fun q : Nat => s.heap.size ≤ q) s.heap H locs → W p l e room_1 s m #[Value.ref b] below meth c H locs cells slots Q (F0 m 1063 ls []))
    {H : Heap} {locs : List Loc} (Z : LW) (hZ : LI Z.1 Z.2) (hP : va_P B.1 vwCl (encW B g Z) H) (hD : va_D (fun q : Nat => s.heap.size ≤ q) (encW B g Z)) (hS : va_S (fun q : Nat => s.heap.size ≤ q) s.heap H locs) : W p l e room_1 s m #[Value.ref b] below meth c H locs cells slots Q (F0 m 922 ls []) := by
  obtain ⟨hx, hb, hml, hown, hts, hX, hbl, hlocks, -, hK, hE⟩ := id LC
  have hbA : ¬ (fun q : Nat => s.heap.size ≤ q) b := Nat.not_le.mpr hbl
  obtain ⟨a1, ha1⟩ : ∃ a, a = xs (nI i + 1).toNatClampNeg := ⟨_, rfl⟩
  obtain ⟨a2, ha2⟩ : ∃ a, a = xs (nI i + 2).toNatClampNeg := ⟨_, rfl⟩
  obtain ⟨a3, ha3⟩ : ∃ a, a = xs (nI i + 3).toNatClampNeg := ⟨_, rfl⟩
  obtain ⟨p1, p2, ⟨r, q1, q2⟩, q3⟩ := (hpu.2.2.2.2.2.2.2.2.2.2.2.2.2.2.2.2.2.2.2.2.2.2.2.2.2.2.2.2.1 a1 a2 a3) Z.1 Z.2 hZ
  refine lv_aload_n hx hb dL_law_922 rfl (lv_at hl 1 rfl) ?_
  refine lv_aload_n hx hb dL_law_923 rfl (lv_at hl 0 rfl) ?_
  refine lv_iload_n hx hb dL_law_924 rfl (lv_at hl 3 rfl) ?_
  refine lv_iconst (v := 1) hx hb dL_law_925 (by decide) ?_
  refine lv_iadd hx hb dL_law_926 ?_
  refine va_sld hx hb hX hbl hbA hS (hv1) dL_law_927 ?_
  rw [← ha1]
  refine lv_aload_n hx hb dL_law_928 rfl (lv_at hl 0 rfl) ?_
  refine lv_iload_n hx hb dL_law_929 rfl (lv_at hl 3 rfl) ?_
  refine lv_iconst (v := 2) hx hb dL_law_930 (by decide) ?_
  refine lv_iadd hx hb dL_law_931 ?_
  refine va_sld hx hb hX hbl hbA hS (hv2) dL_law_932 ?_
  rw [← ha2]
  refine lv_aload_n hx hb dL_law_933 rfl (lv_at hl 0 rfl) ?_
  refine lv_iload_n hx hb dL_law_934 rfl (lv_at hl 3 rfl) ?_
  refine lv_iconst (v := 3) hx hb dL_law_935 (by decide) ?_
  refine lv_iadd hx hb dL_law_936 ?_
  refine va_sld hx hb hX hbl hbA hS (hv3) dL_law_937 ?_
  rw [← ha3]
  refine lawV (n := 3) (b0 := g 0) (q0 := 0) (ci := 3) LC (frW_H B g) (k_X3_seeds B g) (lwGood gL_law_X3_seeds) rfl ⟨rfl, by decide +kernel, by decide +kernel, by decide +kernel⟩ ⟨rfl, rfl⟩ ⟨Nat.le_of_ble_eq_true rfl, Nat.le_of_ble_eq_true rfl⟩ rfl (fun Z => ⟨_, rfl⟩) [.int a1, .int a2, .int a3] rfl Z p1 hP hD hS hl.1 (by first | exact trivial | (unfold restOK restOKn; trivial)) rfl dL_law_938 hcs hsl (fun H locs hP hD hS => ?_)
  rw [show (F_X3_seeds g).2.1 (.ref (g 0) :: [.int a1, .int a2, .int a3]) Z.1 = some (.int r) from q1]
  generalize hS1 : (F_X3_seeds g).2.2 (.ref (g 0) :: [.int a1, .int a2, .int a3]) Z.1 = S1 at q3 hP hD
  obtain ⟨Z1, hZ1⟩ : ∃ Z1 : LW, Z1 = (S1, Z.2) := ⟨_, rfl⟩
  have hM1 : Z1.2 = Z.2 := by rw [hZ1]
  have p2 : (F_X4_seeds g).1 (.ref (g 30) :: [.int a1, .int a2, .int a3]) Z1.2 := by rw [hM1]; exact p2
  have q2 : (F_X4_seeds g).2.1 (.ref (g 30) :: [.int a1, .int a2, .int a3]) Z1.2 = some (.int r) := by rw [hM1]; exact q2
  have q3 : LI Z1.1 ((F_X4_seeds g).2.2 (.ref (g 30) :: [.int a1, .int a2, .int a3]) Z1.2) := by rw [hM1, hZ1]; exact q3
  have hP : va_P B.1 vwCl (encW B g Z1) H := by rw [hZ1]; exact hP
  have hD : va_D (fun q : Nat => s.heap.size ≤ q) (encW B g Z1) := by rw [hZ1]; exact hD
  refine lv_aload_n hx hb dL_law_941 rfl (lv_at hl 2 rfl) ?_
  refine lv_aload_n hx hb dL_law_942 rfl (lv_at hl 0 rfl) ?_
  refine lv_iload_n hx hb dL_law_943 rfl (lv_at hl 3 rfl) ?_
  refine lv_iconst (v := 1) hx hb dL_law_944 (by decide) ?_
  refine lv_iadd hx hb dL_law_945 ?_
  refine va_sld hx hb hX hbl hbA hS (hv1) dL_law_946 ?_
  rw [← ha1]
  refine lv_aload_n hx hb dL_law_947 rfl (lv_at hl 0 rfl) ?_
  refine lv_iload_n hx hb dL_law_948 rfl (lv_at hl 3 rfl) ?_
  refine lv_iconst (v := 2) hx hb dL_law_949 (by decide) ?_
  refine lv_iadd hx hb dL_law_950 ?_
  refine va_sld hx hb hX hbl hbA hS (hv2) dL_law_951 ?_
  rw [← ha2]
  refine lv_aload_n hx hb dL_law_952 rfl (lv_at hl 0 rfl) ?_
  refine lv_iload_n hx hb dL_law_953 rfl (lv_at hl 3 rfl) ?_
  refine lv_iconst (v := 3) hx hb dL_law_954 (by decide) ?_
  refine lv_iadd hx hb dL_law_955 ?_
  refine va_sld hx hb hX hbl hbA hS (hv3) dL_law_956 ?_
  rw [← ha3]
  refine lawV (n := 3) (b0 := g 30) (q0 := 26) (ci := 4) LC (frW_M B g) (k_X4_seeds B g) (lwGood gL_law_X4_seeds) rfl ⟨rfl, by decide +kernel, by decide +kernel, by decide +kernel⟩ ⟨rfl, rfl⟩ ⟨Nat.le_of_ble_eq_true rfl, Nat.le_of_ble_eq_true rfl⟩ rfl (fun Z => ⟨_, rfl⟩) [.int a1, .int a2, .int a3] rfl Z1 p2 hP hD hS hl.1 (by first | exact trivial | (unfold restOK restOKn; trivial)) rfl dL_law_957 hcs hsl (fun H locs hP hD hS => ?_)
  rw [show (F_X4_seeds g).2.1 (.ref (g 30) :: [.int a1, .int a2, .int a3]) Z1.2 = some (.int r) from q2]
  generalize (F_X4_seeds g).2.2 (.ref (g 30) :: [.int a1, .int a2, .int a3]) Z1.2 = M2 at q3 hP hD
  refine lv_icmp_eq (tgt := 1063) hx hb dL_law_960 (by decide) (fun _ => ?_) (fun h => absurd rfl h)
  exact kk H locs (Z1.1, M2) q3 hP hD hS
theorem lwc_row {p : Program} {l : Launch} {e : Env} {s : State} {m : MethodId} {below : List Frame} {meth : Method} {c : Code} {b L : Nat} {xs : Nat → Int32} {B : Bx} {Q : State → Prop} {cells slots : Nat} {g : Nat → Nat} {LI : HS → MS → Prop} (LC : LwC p s m meth c b L xs B) (hpu : PureOK LI g) (hcs : cells ≤ room_1.cells) (hsl : slots ≤ room_1.slots) {i : Nat} (hv1 : vp_in (nI i + 1) L) (hv2 : vp_in (nI i + 2) L) (hv3 : vp_in (nI i + 3) L) {ls : Array Slot} (hl : lv_has ls 4 [(0, .ref b), (1, .ref (g 0)), (2, .ref (g 30)), (3, .int (nI i))]) (kk : ∀ (H : Heap) (locs : List Loc) (Z : LW), LI Z.1 Z.2 → va_P B.1 vwCl (encW B g Z) H → va_D (fun q : Nat => s.heap.size ≤ q) (encW B g Z) → va_S (fun q : Nat => s.heap.size ≤ q) s.heap H locs → W p l e room_1 s m #[Value.ref b] below meth c H locs cells slots Q (F0 m 1063 ls []))
    {H : Heap} {locs : List Loc} (Z : LW) (hZ : LI Z.1 Z.2) (hP : va_P B.1 vwCl (encW B g Z) H) (hD : va_D (fun q : Nat => s.heap.size ≤ q) (encW B g Z)) (hS : va_S (fun q : Nat => s.heap.size ≤ q) s.heap H locs) : W p l e room_1 s m #[Value.ref b] below meth c H locs cells slots Q (F0 m 965 ls []) := by
  obtain ⟨hx, hb, hml, hown, hts, hX, hbl, hlocks, -, hK, hE⟩ := id LC
  have hbA : ¬ (fun q : Nat => s.heap.size ≤ q) b := Nat.not_le.mpr hbl
  obtain ⟨a1, ha1⟩ : ∃ a, a = xs (nI i + 1).toNatClampNeg := ⟨_, rfl⟩
  obtain ⟨p1, p2, ⟨r, q1, q2⟩, q3⟩ := (hpu.2.2.2.2.2.2.2.2.2.2.2.2.2.2.2.2.2.2.2.2.2.2.2.2.2.2.2.2.2.1 a1) Z.1 Z.2 hZ
  refine lv_aload_n hx hb dL_law_965 rfl (lv_at hl 1 rfl) ?_
  refine lv_aload_n hx hb dL_law_966 rfl (lv_at hl 0 rfl) ?_
  refine lv_iload_n hx hb dL_law_967 rfl (lv_at hl 3 rfl) ?_
  refine lv_iconst (v := 1) hx hb dL_law_968 (by decide) ?_
  refine lv_iadd hx hb dL_law_969 ?_
  refine va_sld hx hb hX hbl hbA hS (hv1) dL_law_970 ?_
  rw [← ha1]
  refine lawV (n := 1) (b0 := g 0) (q0 := 0) (ci := 3) LC (frW_H B g) (k_X3_row B g) (lwGood gL_law_X3_row) rfl ⟨rfl, by decide +kernel, by decide +kernel, by decide +kernel⟩ ⟨rfl, rfl⟩ ⟨Nat.le_of_ble_eq_true rfl, Nat.le_of_ble_eq_true rfl⟩ rfl (fun Z => ⟨_, rfl⟩) [.int a1] rfl Z p1 hP hD hS hl.1 (by first | exact trivial | (unfold restOK restOKn; trivial)) rfl dL_law_971 hcs hsl (fun H locs hP hD hS => ?_)
  rw [show (F_X3_row g).2.1 (.ref (g 0) :: [.int a1]) Z.1 = some (.int r) from q1]
  generalize hS1 : (F_X3_row g).2.2 (.ref (g 0) :: [.int a1]) Z.1 = S1 at q3 hP hD
  obtain ⟨Z1, hZ1⟩ : ∃ Z1 : LW, Z1 = (S1, Z.2) := ⟨_, rfl⟩
  have hM1 : Z1.2 = Z.2 := by rw [hZ1]
  have p2 : (F_X4_row g).1 (.ref (g 30) :: [.int a1]) Z1.2 := by rw [hM1]; exact p2
  have q2 : (F_X4_row g).2.1 (.ref (g 30) :: [.int a1]) Z1.2 = some (.int r) := by rw [hM1]; exact q2
  have q3 : LI Z1.1 ((F_X4_row g).2.2 (.ref (g 30) :: [.int a1]) Z1.2) := by rw [hM1, hZ1]; exact q3
  have hP : va_P B.1 vwCl (encW B g Z1) H := by rw [hZ1]; exact hP
  have hD : va_D (fun q : Nat => s.heap.size ≤ q) (encW B g Z1) := by rw [hZ1]; exact hD
  refine lv_aload_n hx hb dL_law_974 rfl (lv_at hl 2 rfl) ?_
  refine lv_aload_n hx hb dL_law_975 rfl (lv_at hl 0 rfl) ?_
  refine lv_iload_n hx hb dL_law_976 rfl (lv_at hl 3 rfl) ?_
  refine lv_iconst (v := 1) hx hb dL_law_977 (by decide) ?_
  refine lv_iadd hx hb dL_law_978 ?_
  refine va_sld hx hb hX hbl hbA hS (hv1) dL_law_979 ?_
  rw [← ha1]
  refine lawV (n := 1) (b0 := g 30) (q0 := 26) (ci := 4) LC (frW_M B g) (k_X4_row B g) (lwGood gL_law_X4_row) rfl ⟨rfl, by decide +kernel, by decide +kernel, by decide +kernel⟩ ⟨rfl, rfl⟩ ⟨Nat.le_of_ble_eq_true rfl, Nat.le_of_ble_eq_true rfl⟩ rfl (fun Z => ⟨_, rfl⟩) [.int a1] rfl Z1 p2 hP hD hS hl.1 (by first | exact trivial | (unfold restOK restOKn; trivial)) rfl dL_law_980 hcs hsl (fun H locs hP hD hS => ?_)
  rw [show (F_X4_row g).2.1 (.ref (g 30) :: [.int a1]) Z1.2 = some (.int r) from q2]
  generalize (F_X4_row g).2.2 (.ref (g 30) :: [.int a1]) Z1.2 = M2 at q3 hP hD
  refine lv_icmp_eq (tgt := 1063) hx hb dL_law_983 (by decide) (fun _ => ?_) (fun h => absurd rfl h)
  exact kk H locs (Z1.1, M2) q3 hP hD hS
theorem lwc_judge {p : Program} {l : Launch} {e : Env} {s : State} {m : MethodId} {below : List Frame} {meth : Method} {c : Code} {b L : Nat} {xs : Nat → Int32} {B : Bx} {Q : State → Prop} {cells slots : Nat} {g : Nat → Nat} {LI : HS → MS → Prop} (LC : LwC p s m meth c b L xs B) (hpu : PureOK LI g) (hcs : cells ≤ room_1.cells) (hsl : slots ≤ room_1.slots) {i : Nat} (hv1 : vp_in (nI i + 1) L) (hv2 : vp_in (nI i + 2) L) (hv3 : vp_in (nI i + 3) L) {ls : Array Slot} (hl : lv_has ls 4 [(0, .ref b), (1, .ref (g 0)), (2, .ref (g 30)), (3, .int (nI i))]) (kk : ∀ (H : Heap) (locs : List Loc) (Z : LW), LI Z.1 Z.2 → va_P B.1 vwCl (encW B g Z) H → va_D (fun q : Nat => s.heap.size ≤ q) (encW B g Z) → va_S (fun q : Nat => s.heap.size ≤ q) s.heap H locs → W p l e room_1 s m #[Value.ref b] below meth c H locs cells slots Q (F0 m 1063 ls []))
    {H : Heap} {locs : List Loc} (Z : LW) (hZ : LI Z.1 Z.2) (hP : va_P B.1 vwCl (encW B g Z) H) (hD : va_D (fun q : Nat => s.heap.size ≤ q) (encW B g Z)) (hS : va_S (fun q : Nat => s.heap.size ≤ q) s.heap H locs) : W p l e room_1 s m #[Value.ref b] below meth c H locs cells slots Q (F0 m 988 ls []) := by
  obtain ⟨hx, hb, hml, hown, hts, hX, hbl, hlocks, -, hK, hE⟩ := id LC
  have hbA : ¬ (fun q : Nat => s.heap.size ≤ q) b := Nat.not_le.mpr hbl
  obtain ⟨p1, p2, ⟨r, q1, q2⟩, q3⟩ := (hpu.2.2.2.2.2.2.2.2.2.2.2.2.2.2.2.2.2.2.2.2.2.2.2.2.2.2.2.2.2.2.1) Z.1 Z.2 hZ
  refine lv_aload_n hx hb dL_law_988 rfl (lv_at hl 1 rfl) ?_
  refine lawV (n := 0) (b0 := g 0) (q0 := 0) (ci := 3) LC (frW_H B g) (k_X3_judge B g) (lwGood gL_law_X3_judge) rfl ⟨rfl, by decide +kernel, by decide +kernel, by decide +kernel⟩ ⟨rfl, rfl⟩ ⟨Nat.le_of_ble_eq_true rfl, Nat.le_of_ble_eq_true rfl⟩ rfl (fun Z => ⟨_, rfl⟩) [] rfl Z p1 hP hD hS hl.1 (by first | exact trivial | (unfold restOK restOKn; trivial)) rfl dL_law_989 hcs hsl (fun H locs hP hD hS => ?_)
  rw [show (F_X3_judge g).2.1 (.ref (g 0) :: []) Z.1 = some (.int r) from q1]
  generalize hS1 : (F_X3_judge g).2.2 (.ref (g 0) :: []) Z.1 = S1 at q3 hP hD
  obtain ⟨Z1, hZ1⟩ : ∃ Z1 : LW, Z1 = (S1, Z.2) := ⟨_, rfl⟩
  have hM1 : Z1.2 = Z.2 := by rw [hZ1]
  have p2 : (F_X4_judge g).1 (.ref (g 30) :: []) Z1.2 := by rw [hM1]; exact p2
  have q2 : (F_X4_judge g).2.1 (.ref (g 30) :: []) Z1.2 = some (.int r) := by rw [hM1]; exact q2
  have q3 : LI Z1.1 ((F_X4_judge g).2.2 (.ref (g 30) :: []) Z1.2) := by rw [hM1, hZ1]; exact q3
  have hP : va_P B.1 vwCl (encW B g Z1) H := by rw [hZ1]; exact hP
  have hD : va_D (fun q : Nat => s.heap.size ≤ q) (encW B g Z1) := by rw [hZ1]; exact hD
  refine lv_aload_n hx hb dL_law_992 rfl (lv_at hl 2 rfl) ?_
  refine lawV (n := 0) (b0 := g 30) (q0 := 26) (ci := 4) LC (frW_M B g) (k_X4_judge B g) (lwGood gL_law_X4_judge) rfl ⟨rfl, by decide +kernel, by decide +kernel, by decide +kernel⟩ ⟨rfl, rfl⟩ ⟨Nat.le_of_ble_eq_true rfl, Nat.le_of_ble_eq_true rfl⟩ rfl (fun Z => ⟨_, rfl⟩) [] rfl Z1 p2 hP hD hS hl.1 (by first | exact trivial | (unfold restOK restOKn; trivial)) rfl dL_law_993 hcs hsl (fun H locs hP hD hS => ?_)
  rw [show (F_X4_judge g).2.1 (.ref (g 30) :: []) Z1.2 = some (.int r) from q2]
  generalize (F_X4_judge g).2.2 (.ref (g 30) :: []) Z1.2 = M2 at q3 hP hD
  refine lv_icmp_eq (tgt := 1063) hx hb dL_law_996 (by decide) (fun _ => ?_) (fun h => absurd rfl h)
  exact kk H locs (Z1.1, M2) q3 hP hD hS
theorem lwc_clear {p : Program} {l : Launch} {e : Env} {s : State} {m : MethodId} {below : List Frame} {meth : Method} {c : Code} {b L : Nat} {xs : Nat → Int32} {B : Bx} {Q : State → Prop} {cells slots : Nat} {g : Nat → Nat} {LI : HS → MS → Prop} (LC : LwC p s m meth c b L xs B) (hpu : PureOK LI g) (hcs : cells ≤ room_1.cells) (hsl : slots ≤ room_1.slots) {i : Nat} (hv1 : vp_in (nI i + 1) L) (hv2 : vp_in (nI i + 2) L) (hv3 : vp_in (nI i + 3) L) {ls : Array Slot} (hl : lv_has ls 4 [(0, .ref b), (1, .ref (g 0)), (2, .ref (g 30)), (3, .int (nI i))]) (kk : ∀ (H : Heap) (locs : List Loc) (Z : LW), LI Z.1 Z.2 → va_P B.1 vwCl (encW B g Z) H → va_D (fun q : Nat => s.heap.size ≤ q) (encW B g Z) → va_S (fun q : Nat => s.heap.size ≤ q) s.heap H locs → W p l e room_1 s m #[Value.ref b] below meth c H locs cells slots Q (F0 m 1063 ls []))
    {H : Heap} {locs : List Loc} (Z : LW) (hZ : LI Z.1 Z.2) (hP : va_P B.1 vwCl (encW B g Z) H) (hD : va_D (fun q : Nat => s.heap.size ≤ q) (encW B g Z)) (hS : va_S (fun q : Nat => s.heap.size ≤ q) s.heap H locs) : W p l e room_1 s m #[Value.ref b] below meth c H locs cells slots Q (F0 m 1001 ls []) := by
  obtain ⟨hx, hb, hml, hown, hts, hX, hbl, hlocks, -, hK, hE⟩ := id LC
  have hbA : ¬ (fun q : Nat => s.heap.size ≤ q) b := Nat.not_le.mpr hbl
  obtain ⟨p1, p2, ⟨r, q1, q2⟩, q3⟩ := (hpu.2.2.2.2.2.2.2.2.2.2.2.2.2.2.2.2.2.2.2.2.2.2.2.2.2.2.2.2.2.2.2.1) Z.1 Z.2 hZ
  refine lv_aload_n hx hb dL_law_1001 rfl (lv_at hl 1 rfl) ?_
  refine lawV (n := 0) (b0 := g 0) (q0 := 0) (ci := 3) LC (frW_H B g) (k_X3_clear B g) (lwGood gL_law_X3_clear) rfl ⟨rfl, by decide +kernel, by decide +kernel, by decide +kernel⟩ ⟨rfl, rfl⟩ ⟨Nat.le_of_ble_eq_true rfl, Nat.le_of_ble_eq_true rfl⟩ rfl (fun Z => ⟨_, rfl⟩) [] rfl Z p1 hP hD hS hl.1 (by first | exact trivial | (unfold restOK restOKn; trivial)) rfl dL_law_1002 hcs hsl (fun H locs hP hD hS => ?_)
  rw [show (F_X3_clear g).2.1 (.ref (g 0) :: []) Z.1 = some (.int r) from q1]
  generalize hS1 : (F_X3_clear g).2.2 (.ref (g 0) :: []) Z.1 = S1 at q3 hP hD
  obtain ⟨Z1, hZ1⟩ : ∃ Z1 : LW, Z1 = (S1, Z.2) := ⟨_, rfl⟩
  have hM1 : Z1.2 = Z.2 := by rw [hZ1]
  have p2 : (F_X4_clear g).1 (.ref (g 30) :: []) Z1.2 := by rw [hM1]; exact p2
  have q2 : (F_X4_clear g).2.1 (.ref (g 30) :: []) Z1.2 = some (.int r) := by rw [hM1]; exact q2
  have q3 : LI Z1.1 ((F_X4_clear g).2.2 (.ref (g 30) :: []) Z1.2) := by rw [hM1, hZ1]; exact q3
  have hP : va_P B.1 vwCl (encW B g Z1) H := by rw [hZ1]; exact hP
  have hD : va_D (fun q : Nat => s.heap.size ≤ q) (encW B g Z1) := by rw [hZ1]; exact hD
  refine lv_aload_n hx hb dL_law_1005 rfl (lv_at hl 2 rfl) ?_
  refine lawV (n := 0) (b0 := g 30) (q0 := 26) (ci := 4) LC (frW_M B g) (k_X4_clear B g) (lwGood gL_law_X4_clear) rfl ⟨rfl, by decide +kernel, by decide +kernel, by decide +kernel⟩ ⟨rfl, rfl⟩ ⟨Nat.le_of_ble_eq_true rfl, Nat.le_of_ble_eq_true rfl⟩ rfl (fun Z => ⟨_, rfl⟩) [] rfl Z1 p2 hP hD hS hl.1 (by first | exact trivial | (unfold restOK restOKn; trivial)) rfl dL_law_1006 hcs hsl (fun H locs hP hD hS => ?_)
  rw [show (F_X4_clear g).2.1 (.ref (g 30) :: []) Z1.2 = some (.int r) from q2]
  generalize (F_X4_clear g).2.2 (.ref (g 30) :: []) Z1.2 = M2 at q3 hP hD
  refine lv_icmp_eq (tgt := 1063) hx hb dL_law_1009 (by decide) (fun _ => ?_) (fun h => absurd rfl h)
  exact kk H locs (Z1.1, M2) q3 hP hD hS
theorem lwc_image {p : Program} {l : Launch} {e : Env} {s : State} {m : MethodId} {below : List Frame} {meth : Method} {c : Code} {b L : Nat} {xs : Nat → Int32} {B : Bx} {Q : State → Prop} {cells slots : Nat} {g : Nat → Nat} {LI : HS → MS → Prop} (LC : LwC p s m meth c b L xs B) (hpu : PureOK LI g) (hcs : cells ≤ room_1.cells) (hsl : slots ≤ room_1.slots) {i : Nat} (hv1 : vp_in (nI i + 1) L) (hv2 : vp_in (nI i + 2) L) (hv3 : vp_in (nI i + 3) L) {ls : Array Slot} (hl : lv_has ls 4 [(0, .ref b), (1, .ref (g 0)), (2, .ref (g 30)), (3, .int (nI i))]) (kk : ∀ (H : Heap) (locs : List Loc) (Z : LW), LI Z.1 Z.2 → va_P B.1 vwCl (encW B g Z) H → va_D (fun q : Nat => s.heap.size ≤ q) (encW B g Z) → va_S (fun q : Nat => s.heap.size ≤ q) s.heap H locs → W p l e room_1 s m #[Value.ref b] below meth c H locs cells slots Q (F0 m 1063 ls []))
    {H : Heap} {locs : List Loc} (Z : LW) (hZ : LI Z.1 Z.2) (hP : va_P B.1 vwCl (encW B g Z) H) (hD : va_D (fun q : Nat => s.heap.size ≤ q) (encW B g Z)) (hS : va_S (fun q : Nat => s.heap.size ≤ q) s.heap H locs) : W p l e room_1 s m #[Value.ref b] below meth c H locs cells slots Q (F0 m 1014 ls []) := by
  obtain ⟨hx, hb, hml, hown, hts, hX, hbl, hlocks, -, hK, hE⟩ := id LC
  have hbA : ¬ (fun q : Nat => s.heap.size ≤ q) b := Nat.not_le.mpr hbl
  obtain ⟨p1, p2, ⟨r, q1, q2⟩, q3⟩ := (hpu.2.2.2.2.2.2.2.2.2.2.2.2.2.2.2.2.2.2.2.2.2.2.2.2.2.2.2.2.2.2.2.2.1) Z.1 Z.2 hZ
  refine lv_aload_n hx hb dL_law_1014 rfl (lv_at hl 1 rfl) ?_
  refine lawV (n := 0) (b0 := g 0) (q0 := 0) (ci := 3) LC (frW_H B g) (k_X3_image B g) (lwGood gL_law_X3_image) rfl ⟨rfl, by decide +kernel, by decide +kernel, by decide +kernel⟩ ⟨rfl, rfl⟩ ⟨Nat.le_of_ble_eq_true rfl, Nat.le_of_ble_eq_true rfl⟩ rfl (fun Z => ⟨_, rfl⟩) [] rfl Z p1 hP hD hS hl.1 (by first | exact trivial | (unfold restOK restOKn; trivial)) rfl dL_law_1015 hcs hsl (fun H locs hP hD hS => ?_)
  rw [show (F_X3_image g).2.1 (.ref (g 0) :: []) Z.1 = some (.int r) from q1]
  generalize hS1 : (F_X3_image g).2.2 (.ref (g 0) :: []) Z.1 = S1 at q3 hP hD
  obtain ⟨Z1, hZ1⟩ : ∃ Z1 : LW, Z1 = (S1, Z.2) := ⟨_, rfl⟩
  have hM1 : Z1.2 = Z.2 := by rw [hZ1]
  have p2 : (F_X4_image g).1 (.ref (g 30) :: []) Z1.2 := by rw [hM1]; exact p2
  have q2 : (F_X4_image g).2.1 (.ref (g 30) :: []) Z1.2 = some (.int r) := by rw [hM1]; exact q2
  have q3 : LI Z1.1 ((F_X4_image g).2.2 (.ref (g 30) :: []) Z1.2) := by rw [hM1, hZ1]; exact q3
  have hP : va_P B.1 vwCl (encW B g Z1) H := by rw [hZ1]; exact hP
  have hD : va_D (fun q : Nat => s.heap.size ≤ q) (encW B g Z1) := by rw [hZ1]; exact hD
  refine lv_aload_n hx hb dL_law_1018 rfl (lv_at hl 2 rfl) ?_
  refine lawV (n := 0) (b0 := g 30) (q0 := 26) (ci := 4) LC (frW_M B g) (k_X4_image B g) (lwGood gL_law_X4_image) rfl ⟨rfl, by decide +kernel, by decide +kernel, by decide +kernel⟩ ⟨rfl, rfl⟩ ⟨Nat.le_of_ble_eq_true rfl, Nat.le_of_ble_eq_true rfl⟩ rfl (fun Z => ⟨_, rfl⟩) [] rfl Z1 p2 hP hD hS hl.1 (by first | exact trivial | (unfold restOK restOKn; trivial)) rfl dL_law_1019 hcs hsl (fun H locs hP hD hS => ?_)
  rw [show (F_X4_image g).2.1 (.ref (g 30) :: []) Z1.2 = some (.int r) from q2]
  generalize (F_X4_image g).2.2 (.ref (g 30) :: []) Z1.2 = M2 at q3 hP hD
  refine lv_icmp_eq (tgt := 1063) hx hb dL_law_1022 (by decide) (fun _ => ?_) (fun h => absurd rfl h)
  exact kk H locs (Z1.1, M2) q3 hP hD hS
theorem lwc_restore {p : Program} {l : Launch} {e : Env} {s : State} {m : MethodId} {below : List Frame} {meth : Method} {c : Code} {b L : Nat} {xs : Nat → Int32} {B : Bx} {Q : State → Prop} {cells slots : Nat} {g : Nat → Nat} {LI : HS → MS → Prop} (LC : LwC p s m meth c b L xs B) (hpu : PureOK LI g) (hcs : cells ≤ room_1.cells) (hsl : slots ≤ room_1.slots) {i : Nat} (hv1 : vp_in (nI i + 1) L) (hv2 : vp_in (nI i + 2) L) (hv3 : vp_in (nI i + 3) L) {ls : Array Slot} (hl : lv_has ls 4 [(0, .ref b), (1, .ref (g 0)), (2, .ref (g 30)), (3, .int (nI i))]) (kk : ∀ (H : Heap) (locs : List Loc) (Z : LW), LI Z.1 Z.2 → va_P B.1 vwCl (encW B g Z) H → va_D (fun q : Nat => s.heap.size ≤ q) (encW B g Z) → va_S (fun q : Nat => s.heap.size ≤ q) s.heap H locs → W p l e room_1 s m #[Value.ref b] below meth c H locs cells slots Q (F0 m 1063 ls []))
    {H : Heap} {locs : List Loc} (Z : LW) (hZ : LI Z.1 Z.2) (hP : va_P B.1 vwCl (encW B g Z) H) (hD : va_D (fun q : Nat => s.heap.size ≤ q) (encW B g Z)) (hS : va_S (fun q : Nat => s.heap.size ≤ q) s.heap H locs) : W p l e room_1 s m #[Value.ref b] below meth c H locs cells slots Q (F0 m 1027 ls []) := by
  obtain ⟨hx, hb, hml, hown, hts, hX, hbl, hlocks, -, hK, hE⟩ := id LC
  have hbA : ¬ (fun q : Nat => s.heap.size ≤ q) b := Nat.not_le.mpr hbl
  obtain ⟨p1, p2, ⟨r, q1, q2⟩, q3⟩ := (hpu.2.2.2.2.2.2.2.2.2.2.2.2.2.2.2.2.2.2.2.2.2.2.2.2.2.2.2.2.2.2.2.2.2.1) Z.1 Z.2 hZ
  refine lv_aload_n hx hb dL_law_1027 rfl (lv_at hl 1 rfl) ?_
  refine lawV (n := 0) (b0 := g 0) (q0 := 0) (ci := 3) LC (frW_H B g) (k_X3_restore B g) (lwGood gL_law_X3_restore) rfl ⟨rfl, by decide +kernel, by decide +kernel, by decide +kernel⟩ ⟨rfl, rfl⟩ ⟨Nat.le_of_ble_eq_true rfl, Nat.le_of_ble_eq_true rfl⟩ rfl (fun Z => ⟨_, rfl⟩) [] rfl Z p1 hP hD hS hl.1 (by first | exact trivial | (unfold restOK restOKn; trivial)) rfl dL_law_1028 hcs hsl (fun H locs hP hD hS => ?_)
  rw [show (F_X3_restore g).2.1 (.ref (g 0) :: []) Z.1 = some (.int r) from q1]
  generalize hS1 : (F_X3_restore g).2.2 (.ref (g 0) :: []) Z.1 = S1 at q3 hP hD
  obtain ⟨Z1, hZ1⟩ : ∃ Z1 : LW, Z1 = (S1, Z.2) := ⟨_, rfl⟩
  have hM1 : Z1.2 = Z.2 := by rw [hZ1]
  have p2 : (F_X4_restore g).1 (.ref (g 30) :: []) Z1.2 := by rw [hM1]; exact p2
  have q2 : (F_X4_restore g).2.1 (.ref (g 30) :: []) Z1.2 = some (.int r) := by rw [hM1]; exact q2
  have q3 : LI Z1.1 ((F_X4_restore g).2.2 (.ref (g 30) :: []) Z1.2) := by rw [hM1, hZ1]; exact q3
  have hP : va_P B.1 vwCl (encW B g Z1) H := by rw [hZ1]; exact hP
  have hD : va_D (fun q : Nat => s.heap.size ≤ q) (encW B g Z1) := by rw [hZ1]; exact hD
  refine lv_aload_n hx hb dL_law_1031 rfl (lv_at hl 2 rfl) ?_
  refine lawV (n := 0) (b0 := g 30) (q0 := 26) (ci := 4) LC (frW_M B g) (k_X4_restore B g) (lwGood gL_law_X4_restore) rfl ⟨rfl, by decide +kernel, by decide +kernel, by decide +kernel⟩ ⟨rfl, rfl⟩ ⟨Nat.le_of_ble_eq_true rfl, Nat.le_of_ble_eq_true rfl⟩ rfl (fun Z => ⟨_, rfl⟩) [] rfl Z1 p2 hP hD hS hl.1 (by first | exact trivial | (unfold restOK restOKn; trivial)) rfl dL_law_1032 hcs hsl (fun H locs hP hD hS => ?_)
  rw [show (F_X4_restore g).2.1 (.ref (g 30) :: []) Z1.2 = some (.int r) from q2]
  generalize (F_X4_restore g).2.2 (.ref (g 30) :: []) Z1.2 = M2 at q3 hP hD
  refine lv_icmp_eq (tgt := 1063) hx hb dL_law_1035 (by decide) (fun _ => ?_) (fun h => absurd rfl h)
  exact kk H locs (Z1.1, M2) q3 hP hD hS
theorem lwc_count {p : Program} {l : Launch} {e : Env} {s : State} {m : MethodId} {below : List Frame} {meth : Method} {c : Code} {b L : Nat} {xs : Nat → Int32} {B : Bx} {Q : State → Prop} {cells slots : Nat} {g : Nat → Nat} {LI : HS → MS → Prop} (LC : LwC p s m meth c b L xs B) (hpu : PureOK LI g) (hcs : cells ≤ room_1.cells) (hsl : slots ≤ room_1.slots) {i : Nat} (hv1 : vp_in (nI i + 1) L) (hv2 : vp_in (nI i + 2) L) (hv3 : vp_in (nI i + 3) L) {ls : Array Slot} (hl : lv_has ls 4 [(0, .ref b), (1, .ref (g 0)), (2, .ref (g 30)), (3, .int (nI i))]) (kk : ∀ (H : Heap) (locs : List Loc) (Z : LW), LI Z.1 Z.2 → va_P B.1 vwCl (encW B g Z) H → va_D (fun q : Nat => s.heap.size ≤ q) (encW B g Z) → va_S (fun q : Nat => s.heap.size ≤ q) s.heap H locs → W p l e room_1 s m #[Value.ref b] below meth c H locs cells slots Q (F0 m 1063 ls []))
    {H : Heap} {locs : List Loc} (Z : LW) (hZ : LI Z.1 Z.2) (hP : va_P B.1 vwCl (encW B g Z) H) (hD : va_D (fun q : Nat => s.heap.size ≤ q) (encW B g Z)) (hS : va_S (fun q : Nat => s.heap.size ≤ q) s.heap H locs) : W p l e room_1 s m #[Value.ref b] below meth c H locs cells slots Q (F0 m 1040 ls []) := by
  obtain ⟨hx, hb, hml, hown, hts, hX, hbl, hlocks, -, hK, hE⟩ := id LC
  have hbA : ¬ (fun q : Nat => s.heap.size ≤ q) b := Nat.not_le.mpr hbl
  obtain ⟨a1, ha1⟩ : ∃ a, a = xs (nI i + 1).toNatClampNeg := ⟨_, rfl⟩
  obtain ⟨p1, p2, ⟨r, q1, q2⟩, q3⟩ := (hpu.2.2.2.2.2.2.2.2.2.2.2.2.2.2.2.2.2.2.2.2.2.2.2.2.2.2.2.2.2.2.2.2.2.2 a1) Z.1 Z.2 hZ
  refine lv_aload_n hx hb dL_law_1040 rfl (lv_at hl 1 rfl) ?_
  refine lv_aload_n hx hb dL_law_1041 rfl (lv_at hl 0 rfl) ?_
  refine lv_iload_n hx hb dL_law_1042 rfl (lv_at hl 3 rfl) ?_
  refine lv_iconst (v := 1) hx hb dL_law_1043 (by decide) ?_
  refine lv_iadd hx hb dL_law_1044 ?_
  refine va_sld hx hb hX hbl hbA hS (hv1) dL_law_1045 ?_
  rw [← ha1]
  refine lawV (n := 1) (b0 := g 0) (q0 := 0) (ci := 3) LC (frW_H B g) (k_X3_count B g) (lwGood gL_law_X3_count) rfl ⟨rfl, by decide +kernel, by decide +kernel, by decide +kernel⟩ ⟨rfl, rfl⟩ ⟨Nat.le_of_ble_eq_true rfl, Nat.le_of_ble_eq_true rfl⟩ rfl (fun Z => ⟨_, rfl⟩) [.int a1] rfl Z p1 hP hD hS hl.1 (by first | exact trivial | (unfold restOK restOKn; trivial)) rfl dL_law_1046 hcs hsl (fun H locs hP hD hS => ?_)
  rw [show (F_X3_count g).2.1 (.ref (g 0) :: [.int a1]) Z.1 = some (.int r) from q1]
  generalize hS1 : (F_X3_count g).2.2 (.ref (g 0) :: [.int a1]) Z.1 = S1 at q3 hP hD
  obtain ⟨Z1, hZ1⟩ : ∃ Z1 : LW, Z1 = (S1, Z.2) := ⟨_, rfl⟩
  have hM1 : Z1.2 = Z.2 := by rw [hZ1]
  have p2 : (F_X4_count g).1 (.ref (g 30) :: [.int a1]) Z1.2 := by rw [hM1]; exact p2
  have q2 : (F_X4_count g).2.1 (.ref (g 30) :: [.int a1]) Z1.2 = some (.int r) := by rw [hM1]; exact q2
  have q3 : LI Z1.1 ((F_X4_count g).2.2 (.ref (g 30) :: [.int a1]) Z1.2) := by rw [hM1, hZ1]; exact q3
  have hP : va_P B.1 vwCl (encW B g Z1) H := by rw [hZ1]; exact hP
  have hD : va_D (fun q : Nat => s.heap.size ≤ q) (encW B g Z1) := by rw [hZ1]; exact hD
  refine lv_aload_n hx hb dL_law_1049 rfl (lv_at hl 2 rfl) ?_
  refine lv_aload_n hx hb dL_law_1050 rfl (lv_at hl 0 rfl) ?_
  refine lv_iload_n hx hb dL_law_1051 rfl (lv_at hl 3 rfl) ?_
  refine lv_iconst (v := 1) hx hb dL_law_1052 (by decide) ?_
  refine lv_iadd hx hb dL_law_1053 ?_
  refine va_sld hx hb hX hbl hbA hS (hv1) dL_law_1054 ?_
  rw [← ha1]
  refine lawV (n := 1) (b0 := g 30) (q0 := 26) (ci := 4) LC (frW_M B g) (k_X4_count B g) (lwGood gL_law_X4_count) rfl ⟨rfl, by decide +kernel, by decide +kernel, by decide +kernel⟩ ⟨rfl, rfl⟩ ⟨Nat.le_of_ble_eq_true rfl, Nat.le_of_ble_eq_true rfl⟩ rfl (fun Z => ⟨_, rfl⟩) [.int a1] rfl Z1 p2 hP hD hS hl.1 (by first | exact trivial | (unfold restOK restOKn; trivial)) rfl dL_law_1055 hcs hsl (fun H locs hP hD hS => ?_)
  rw [show (F_X4_count g).2.1 (.ref (g 30) :: [.int a1]) Z1.2 = some (.int r) from q2]
  generalize (F_X4_count g).2.2 (.ref (g 30) :: [.int a1]) Z1.2 = M2 at q3 hP hD
  refine lv_icmp_eq (tgt := 1063) hx hb dL_law_1058 (by decide) (fun _ => ?_) (fun h => absurd rfl h)
  exact kk H locs (Z1.1, M2) q3 hP hD hS
end
