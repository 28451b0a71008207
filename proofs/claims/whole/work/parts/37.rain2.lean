/-! ===== rain falls on both sides ===== -/
theorem mn_lt {u : Nat → Bool} {sh : Nat → Nat} {pe : Nat} (hsh : ∀ p, p < pe → sh p < 1000) (hc : ¬ cntS u pe < 2) : mn u sh pe < 1000 := by
  have h0 := div_le9 (sumS_le (u := u) (w := fun p => sh p / 100) (c := 9) (n := pe) (fun p hp => by have := hsh p hp; show sh p / 100 ≤ 9; omega) pe (by omega)) (by omega)
  have h1 := div_le9 (sumS_le (u := u) (w := fun p => sh p / 10 % 10) (c := 9) (n := pe) (fun p hp => by show sh p / 10 % 10 ≤ 9; omega) pe (by omega)) (by omega)
  have h2 := div_le9 (sumS_le (u := u) (w := fun p => sh p % 10) (c := 9) (n := pe) (fun p hp => by show sh p % 10 ≤ 9; omega) pe (by omega)) (by omega)
  unfold mn
  omega
theorem mean_R {N t pe Y : Nat} {D D' : z_Dat} (hN : 100 < N) (hpe : pe ≤ 8) (hT : TR pe Y (D (t + 1)) (D' 58)) (h20 : D' 40 20 = nn pe) :
    z_R (F_X9_rainShade N t (nn pe) D) (F_X11_meanShade N D') (fun a b => a = b ∧ (a = -nn 1 ∨ ∃ v, v < 1000 ∧ a = nn v)) := by
  obtain ⟨sh, hs⟩ := TR_sh hT
  have h1 := rainShade_P (N := N) (t := t) (pe := pe) (D := D) (sh := sh) hN hpe (fun p hp => ⟨(hs p hp).1, (hs p hp).2.1⟩)
  have h2 := meanShade_P (N := N) (pe := pe) (D' := D') (u := uS (D (t + 1))) (sh := sh) hN hpe h20 (fun p hp => by
    obtain ⟨n, hn, q0, q, q4, q5, q6, q7⟩ := hT.1 p hp
    unfold uS
    rw [q5]) (fun p hp => ⟨(hs p hp).1, (hs p hp).2.2⟩)
  refine z_R_mono (z_R_P h1 h2) (fun a b hab => ?_)
  obtain ⟨rfl, rfl⟩ := hab
  refine ⟨rfl, ?_⟩
  by_cases hc : cntS (uS (D (t + 1))) pe < 2
  · rw [if_pos hc]
    exact Or.inl rfl
  · rw [if_neg hc]
    exact Or.inr ⟨_, mn_lt (fun p hp => (hs p hp).1) hc, rfl⟩
set_option maxHeartbeats 4000000 in
theorem rain_R {N t pe Y : Nat} {D D' : z_Dat} (hN : 100 < N) (hpe : pe ≤ 8) (hT : TR pe Y (D (t + 1)) (D' 58)) (h20 : D' 40 20 = nn pe) :
    z_R (F_X9_rain N t (nn pe) D) (F_X11_rains N D') (QT pe Y t D D') := by
  unfold F_X9_rain F_X11_rains
  refine z_R_bd (z_R_mono (mean_R hN hpe hT h20) (fun a b hab => ?_))
  obtain ⟨rfl, h⟩ := hab
  rcases h with rfl | ⟨v, hv, rfl⟩
  · have hm : (-nn 1 : Int32) = -1 := rfl
    rw [if_pos hm, if_pos hm, z_R_some]
    exact ⟨rfl, Or.inl rfl, hT, Fr.rf, Fr.rf⟩
  · have hne : ¬ nn v = -1 := by
      show ¬ nn v = -nn 1
      rw [nn_eqM (by omega)]
      exact id
    rw [if_neg hne, if_neg hne]
    refine z_R_loop (fun k s s' => ∃ p, p + k = pe ∧ s.1 = nn p ∧ s'.1 = nn p ∧ TR pe Y (s.2 (t + 1)) (s'.2 58) ∧ Fr (t + 1) D s.2 ∧ Fr 58 D' s'.2) ?_ pe N N _ _ (by omega) (by omega) ⟨0, by omega, rfl, rfl, hT, Fr.rf, Fr.rf⟩
    rintro k ⟨v', E⟩ ⟨w', E'⟩ kc kc' ⟨p, hk, rfl, rfl, hT, hF, hF'⟩ ih
    dsimp only at hT hF hF' ⊢
    have e20 : E' 40 20 = nn pe := by rw [hF' 40 (by decide)]; exact h20
    by_cases hlt : p < pe
    · obtain ⟨n, hn, q0, ⟨q1, q2, q3⟩, q4, q5, q6, q7⟩ := hT.1 p hlt
      by_cases hs : E' 58 (24 + p) = nn 0
      · simp (disch := omega) only [F_X9_rain_L15, F_X11_rains_L14, F_X9_has, F_X9_set, e20, q5, hs, shades_e, z_bd, z_let, nn_lit, nn_add, nn_mul, nn_sub, nn_addM, nn_div, nn_rem, nn_min, nn_max, nn_abs, nn_lt, nn_le, nn_eq, nn_eqM, nn_Meq, nn_ltM, nn_Mlt, nn_leM, nn_Mle, z_ix_nn, z_inb_nn, F_at_nn, F_put_nn, Nat.zero_add, Nat.add_zero, z_P_some, z_R_some, z_P_bd, if_true, if_false, if_pos, if_neg]
        refine ih (k - 1) _ _ (by omega) ⟨p + 1, by omega, rfl, rfl, TR_person hT hpe hlt (fun j hj => by simp (disch := omega) only [z_up_i]) (fun j h1 h2 h3 h4 h5 h6 h7 => by simp (disch := omega) only [z_up_i]) ⟨v, hv, ?_, ⟨?_, ?_, ?_⟩, ?_, ?_, ?_, ?_⟩, hF.up, hF'.up.up.up⟩ <;> simp (disch := omega) only [z_up_at, z_up_i, q4, q5, q6, q7]
      · simp (disch := omega) only [F_X9_rain_L15, F_X11_rains_L14, F_X9_has, F_X9_set, e20, q5, hs, z_let, nn_lit, nn_add, nn_mul, nn_sub, nn_addM, nn_div, nn_rem, nn_min, nn_max, nn_abs, nn_lt, nn_le, nn_eq, nn_eqM, nn_Meq, nn_ltM, nn_Mlt, nn_leM, nn_Mle, z_ix_nn, z_inb_nn, F_at_nn, F_put_nn, Nat.zero_add, Nat.add_zero, z_P_some, z_R_some, z_P_bd, if_true, if_false, if_pos, if_neg]
        exact ih (k - 1) _ _ (by omega) ⟨p + 1, by omega, rfl, rfl, hT, hF, hF'⟩
    · simp (disch := omega) only [F_X9_rain_L15, F_X11_rains_L14, e20, z_let, nn_lit, nn_add, nn_mul, nn_sub, nn_addM, nn_div, nn_rem, nn_min, nn_max, nn_abs, nn_lt, nn_le, nn_eq, nn_eqM, nn_Meq, nn_ltM, nn_Mlt, nn_leM, nn_Mle, z_ix_nn, z_inb_nn, F_at_nn, F_put_nn, Nat.zero_add, Nat.add_zero, z_P_some, z_R_some, z_P_bd, if_true, if_false, if_pos, if_neg]
      exact ⟨rfl, Or.inr rfl, hT, hF, hF'⟩
