noncomputable section
theorem town_pre {S : HS} {M : MS} (h : LI S M) : ∃ k, k ≤ 64 ∧ lLn (hL S) = nI k := by
  obtain ⟨t, t1, t2, -, -⟩ := h.2.2.2.1
  exact ⟨t, t1, t2⟩
theorem pure_ok (g : Nat → Nat) (ht : ∀ S M, LI S M → PV (r_town S) (v_town M)) : PureOK LI g := by
  refine ⟨?_, ?_, ?_, ?_, ?_, ?_, ?_, ?_, ?_, ?_, ?_, ?_, ?_, ?_, ?_, ?_, ?_, ?_, ?_, ?_, ?_, ?_, ?_, ?_, ?_, ?_, ?_, ?_, ?_, ?_, ?_, ?_, ?_, ?_, ?_⟩
  · exact pf_RI (f := r_feed) (q := v_feed) (fun S M x h => ⟨trivial, (LI_pub h).2.2.2.2, pv_feed h x⟩)
  · exact pf_R (f := r_town) (q := v_town) (fun S M h => ⟨town_pre h, LI_pub h, ht S M h⟩)
  · exact pf_RII (f := r_person) (q := v_person) (fun S M x y h => ⟨trivial, LI_pub h, pv_person h x y⟩)
  · exact pf_RII (f := r_need) (q := v_need) (fun S M x y h => ⟨trivial, LI_pub h, pv_need h x y⟩)
  · exact pf_RII (f := r_set) (q := v_set) (fun S M x y h => ⟨trivial, trivial, pv_set h x y⟩)
  · exact pf_RII (f := r_minutes) (q := v_minutes) (fun S M x y h => ⟨trivial, LI_pub h, pv_minutes h x y⟩)
  · exact pf_RII (f := r_spent) (q := v_spent) (fun S M x y h => ⟨trivial, LI_pub h, pv_spent h x y⟩)
  · exact pf_RII (f := r_may) (q := v_may) (fun S M x y h => ⟨trivial, LI_pub h, pv_may h x y⟩)
  · exact pf_RII (f := r_good) (q := v_good) (fun S M x y h => ⟨trivial, LI_pub h, pv_good h x y⟩)
  · exact pf_RII (f := r_help) (q := v_help) (fun S M x y h => ⟨trivial, LI_pub h, pv_help h x y⟩)
  · exact pf_R (f := r_back) (q := v_back) (fun S M h => ⟨trivial, LI_pub h, pv_back h⟩)
  · exact pf_R (f := r_year) (q := v_year) (fun S M h => ⟨trivial, trivial, pv_year h⟩)
  · exact pf_RII (f := r_chosen) (q := v_chosen) (fun S M x y h => ⟨trivial, LI_pub h, pv_chosen h x y⟩)
  · exact pf_RII (f := r_loss) (q := v_loss) (fun S M x y h => ⟨trivial, LI_pub h, pv_loss h x y⟩)
  · exact pf_RI (f := r_run) (q := v_run) (fun S M x h => ⟨LI_hYr h, mPub_rn (LI_pub h), pv_run h x⟩)
  · exact pf_RI (f := r_without) (q := v_without) (fun S M x h => ⟨LI_hYr h, mPub_rn (LI_pub h), pv_without h x⟩)
  · exact pf_R (f := r_most) (q := v_most) (fun S M h => ⟨LI_hYr h, pre_fm h, pv_most h⟩)
  · exact pf_R (f := r_first) (q := v_first) (fun S M h => ⟨LI_hYr h, pre_fm h, pv_first h⟩)
  · exact pf_RI (f := r_gap) (q := v_gap) (fun S M x h => ⟨LI_hYr h, ⟨pre_fm h, (pv_gap h x).1⟩, (pv_gap h x).2⟩)
  · exact pf_RII (f := r_worth) (q := v_worth) (fun S M x y h => ⟨LI_hYr h, ⟨pre_fm h, (pv_worth h x y).1⟩, (pv_worth h x y).2⟩)
  · exact pf_RI (f := r_keeps) (q := v_keeps) (fun S M x h => ⟨LI_hYr h, ⟨pre_fm h, (pv_keeps h x).1⟩, (pv_keeps h x).2⟩)
  · exact pf_RII (f := r_lasts) (q := v_lasts) (fun S M x y h => ⟨trivial, LI_pub h, pv_lasts h x y⟩)
  · exact pf_RII (f := r_many) (q := v_many) (fun S M x y h => ⟨trivial, trivial, pv_many h x y⟩)
  · exact pf_RII (f := r_move) (q := v_move) (fun S M x y h => ⟨trivial, LI_pub h, pv_move h x y⟩)
  · exact pf_RI (f := r_bestPlace) (q := v_bestPlace) (fun S M x h => ⟨LI_hYr h, LI_pub h, pv_bestPlace h x⟩)
  · exact pf_RI (f := r_strangers) (q := v_strangers) (fun S M x h => ⟨LI_hYr h, mPub_rn (LI_pub h), pv_strangers h x⟩)
  · exact pf_R (f := fun S => ((hSmall S).1, hsMind S (hSmall S).2)) (q := v_smallest) (fun S M h => ⟨LI_hYr h, LI_pub h, pv_smallest h⟩)
  · exact pf_RII (f := r_byLaw) (q := v_byLaw) (fun S M x y h => ⟨LI_hYr h, mPub_rn (LI_pub h), pv_byLaw h x y⟩)
  · exact pf_RIII (f := r_seeds) (q := v_seeds) (fun S M x y z h => ⟨trivial, LI_pub h, pv_seeds h x y z⟩)
  · exact pf_RI (f := r_row) (q := v_row) (fun S M x h => ⟨trivial, LI_pub h, pv_row h x⟩)
  · exact pf_R (f := r_judge) (q := v_judge) (fun S M h => ⟨trivial, LI_pub h, pv_judge h⟩)
  · exact pf_R (f := r_clear) (q := v_clear) (fun S M h => ⟨trivial, trivial, pv_clear h⟩)
  · exact pf_R (f := r_image) (q := v_image) (fun S M h => ⟨trivial, trivial, pv_image h⟩)
  · exact pf_R (f := r_restore) (q := v_restore) (fun S M h => ⟨trivial, trivial, pv_restore h⟩)
  · exact pf_RI (f := fun S x => (r_count S x, S)) (q := fun M x => (v_count M x, M)) (fun S M x h => ⟨trivial, LI_pub h, pv_count h x, h⟩)
theorem LI_0 : LI lwS0 lwM0 := by
  have e : ∀ i k, mA i lwM0 k = 0 := fun _ _ => rfl
  have eN : uNeeds lwM0 = 0 := rfl
  have eH : uHelps lwM0 = 0 := rfl
  have hnw : nwB lwM0 := fun n _ => ⟨⟨0, by omega, rfl⟩, ⟨0, by omega, rfl⟩⟩
  have hha : haB lwM0 := fun n _ => ⟨⟨0, by omega, rfl⟩, ⟨0, by omega, rfl⟩⟩
  refine ⟨⟨⟨⟨⟨fun p _ => ⟨rfl, rfl, fun _ _ => rfl⟩, rfl, rfl, ⟨rfl, rfl, rfl, rfl⟩, ⟨0, by omega, rfl⟩⟩, ⟨rfl, ⟨0, by omega, rfl⟩, fun k hk => absurd hk (by rw [eH]; omega)⟩, hha⟩, ⟨rfl, ⟨0, by omega, rfl⟩⟩, fun n hn => ⟨⟨hn, by omega⟩, ⟨rfl, rfl, rfl, rfl, rfl⟩, hnw n (by omega), 0, by omega, rfl, rfl, fun p hp => ?_⟩, fun n hn => absurd hn (by rw [eN]; omega), ⟨fun k hk => absurd hk (by rw [eH]; omega), fun k j _ hk => absurd hk (by rw [eH]; omega)⟩⟩, fun n hn => absurd hn (by rw [eN]; omega), ⟨fun p _ => ⟨0, by omega, rfl⟩, fun j _ => ⟨0, by omega, rfl⟩⟩, fun n hn => absurd hn (by rw [eN]; omega), ⟨0, by omega, rfl⟩, ⟨0, by omega, rfl⟩, fun k hk => absurd hk (by rw [eH]; omega)⟩, hnw, ⟨rfl, ⟨0, by omega, rfl⟩, fun k hk => absurd hk (Nat.not_lt_zero k)⟩, ⟨0, by omega, rfl, rfl, fun j hj => absurd hj (Nat.not_lt_zero j)⟩, fun _ _ => rfl, ⟨rfl, fun h0 => absurd rfl h0⟩⟩
  have : hsF lwM0 n p = false := by
    unfold hsF uHas
    rw [eH]
    simp
  rw [this]
  exact Nat.zero_testBit p
end
