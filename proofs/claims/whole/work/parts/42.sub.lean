/-! ===== what the small questions count ===== -/
set_option maxHeartbeats 4000000 in
theorem unlike_R {N t pe Y : Nat} {D D' : z_Dat} (hN : 200 < N) (hpe : pe ≤ 8) (h20 : D' 40 20 = nn pe) (hT : TR pe Y (D (t + 1)) (D' 58)) :
    z_R (F_X9_unlikeShades N t (nn pe) D) (F_X11_unlikeShades N D') (fun a c => a = c ∧ ∃ q, q ≤ pe ∧ a = nn q) := by
  unfold F_X9_unlikeShades F_X11_unlikeShades
  refine z_R_loop (fun k s s' => ∃ p q, p + k = pe ∧ q ≤ p ∧ s.1 = nn q ∧ s'.1 = nn q ∧ s.2 = nn p ∧ s'.2 = nn p) ?_ pe N N _ _ (by omega) (by omega) ⟨0, 0, by omega, by omega, rfl, rfl, rfl, rfl⟩
  rintro k ⟨v1, v2⟩ ⟨w1, w2⟩ kc kc' ⟨p, q, hk, hq, rfl, rfl, rfl, rfl⟩ ih
  dsimp only
  by_cases hp : p < pe
  · obtain ⟨n, hn, q0, ⟨q1, q2, q3⟩, -⟩ := hT.1 p hp
    have eS : F_X11_shadeOf (nn p) D' = some (nn n) := shadeOf_e (by omega) q1 q2 q3
    simp (disch := omega) only [F_X9_unlikeShades_L4, F_X11_unlikeShades_L4, h20, ↓reduceIte, ↓z_letE, ↓z_bdE, nn_l2, nn_add, nn_mul, nn_sub, nn_addM, nn_div, nn_rem, nn_min, nn_max, nn_abs, nn_ltT, nn_ltF, nn_leT, nn_leF, nn_eqT, nn_eqF, nn_eqM, nn_Meq, nn_ltM, nn_Mlt, nn_leM, nn_Mle, z_ix_nn, z_inb_nn, F_at_nn, F_put_nn, Nat.zero_add, Nat.add_zero, z_P_some, z_R_some, z_P_bd]
    refine z_R_loop (fun j s s' => ∃ i, i + j = p ∧ s.1 = s'.1 ∧ (s.1 = nn 0 ∨ s.1 = nn 1) ∧ s.2 = nn i ∧ s'.2 = nn i) ?_ p N N _ _ (by omega) (by omega) ⟨0, by omega, rfl, Or.inr rfl, rfl, rfl⟩
    rintro j ⟨v5, v6⟩ ⟨w5, w6⟩ kd kd' ⟨i, hi, rfl, hv, rfl, rfl⟩ ih2
    dsimp only at hv ⊢
    by_cases hip : i < p
    · obtain ⟨m, hm, r0, ⟨r1, r2, r3⟩, -⟩ := hT.1 i (by omega)
      have eI : F_X11_shadeOf (nn i) D' = some (nn m) := shadeOf_e (by omega) r1 r2 r3
      rcases hv with rfl | rfl
      · by_cases hmn : m = n
        · simp (disch := omega) only [F_X9_unlikeShades_L15, F_X11_unlikeShades_L17, F_X9_has, q0, r0, ↓reduceIte, ↓z_letE, ↓z_bdE, nn_l2, nn_add, nn_mul, nn_sub, nn_addM, nn_div, nn_rem, nn_min, nn_max, nn_abs, nn_ltT, nn_ltF, nn_leT, nn_leF, nn_eqT, nn_eqF, nn_eqM, nn_Meq, nn_ltM, nn_Mlt, nn_leM, nn_Mle, z_ix_nn, z_inb_nn, F_at_nn, F_put_nn, Nat.zero_add, Nat.add_zero, z_P_some, z_R_some, z_P_bd]
          exact ih2 (j - 1) _ _ (by omega) ⟨i + 1, by omega, rfl, Or.inl rfl, rfl, rfl⟩
        · simp (disch := omega) only [F_X9_unlikeShades_L15, F_X11_unlikeShades_L17, F_X9_has, q0, r0, ↓reduceIte, ↓z_letE, ↓z_bdE, nn_l2, nn_add, nn_mul, nn_sub, nn_addM, nn_div, nn_rem, nn_min, nn_max, nn_abs, nn_ltT, nn_ltF, nn_leT, nn_leF, nn_eqT, nn_eqF, nn_eqM, nn_Meq, nn_ltM, nn_Mlt, nn_leM, nn_Mle, z_ix_nn, z_inb_nn, F_at_nn, F_put_nn, Nat.zero_add, Nat.add_zero, z_P_some, z_R_some, z_P_bd]
          exact ih2 (j - 1) _ _ (by omega) ⟨i + 1, by omega, rfl, Or.inl rfl, rfl, rfl⟩
      · by_cases hmn : m = n
        · simp (disch := omega) only [F_X9_unlikeShades_L15, F_X11_unlikeShades_L17, F_X9_has, q0, r0, eS, eI, ↓reduceIte, ↓z_letE, ↓z_bdE, nn_l2, nn_add, nn_mul, nn_sub, nn_addM, nn_div, nn_rem, nn_min, nn_max, nn_abs, nn_ltT, nn_ltF, nn_leT, nn_leF, nn_eqT, nn_eqF, nn_eqM, nn_Meq, nn_ltM, nn_Mlt, nn_leM, nn_Mle, z_ix_nn, z_inb_nn, F_at_nn, F_put_nn, Nat.zero_add, Nat.add_zero, z_P_some, z_R_some, z_P_bd]
          exact ih2 (j - 1) _ _ (by omega) ⟨i + 1, by omega, rfl, Or.inl rfl, rfl, rfl⟩
        · simp (disch := omega) only [F_X9_unlikeShades_L15, F_X11_unlikeShades_L17, F_X9_has, q0, r0, eS, eI, ↓reduceIte, ↓z_letE, ↓z_bdE, nn_l2, nn_add, nn_mul, nn_sub, nn_addM, nn_div, nn_rem, nn_min, nn_max, nn_abs, nn_ltT, nn_ltF, nn_leT, nn_leF, nn_eqT, nn_eqF, nn_eqM, nn_Meq, nn_ltM, nn_Mlt, nn_leM, nn_Mle, z_ix_nn, z_inb_nn, F_at_nn, F_put_nn, Nat.zero_add, Nat.add_zero, z_P_some, z_R_some, z_P_bd]
          exact ih2 (j - 1) _ _ (by omega) ⟨i + 1, by omega, rfl, Or.inr rfl, rfl, rfl⟩
    · rcases hv with rfl | rfl
      · simp (disch := omega) only [F_X9_unlikeShades_L15, F_X11_unlikeShades_L17, ↓reduceIte, ↓z_letE, ↓z_bdE, nn_l2, nn_add, nn_mul, nn_sub, nn_addM, nn_div, nn_rem, nn_min, nn_max, nn_abs, nn_ltT, nn_ltF, nn_leT, nn_leF, nn_eqT, nn_eqF, nn_eqM, nn_Meq, nn_ltM, nn_Mlt, nn_leM, nn_Mle, z_ix_nn, z_inb_nn, F_at_nn, F_put_nn, Nat.zero_add, Nat.add_zero, z_P_some, z_R_some, z_P_bd]
        exact ih (k - 1) _ _ (by omega) ⟨p + 1, q, by omega, by omega, rfl, rfl, rfl, rfl⟩
      · simp (disch := omega) only [F_X9_unlikeShades_L15, F_X11_unlikeShades_L17, ↓reduceIte, ↓z_letE, ↓z_bdE, nn_l2, nn_add, nn_mul, nn_sub, nn_addM, nn_div, nn_rem, nn_min, nn_max, nn_abs, nn_ltT, nn_ltF, nn_leT, nn_leF, nn_eqT, nn_eqF, nn_eqM, nn_Meq, nn_ltM, nn_Mlt, nn_leM, nn_Mle, z_ix_nn, z_inb_nn, F_at_nn, F_put_nn, Nat.zero_add, Nat.add_zero, z_P_some, z_R_some, z_P_bd]
        exact ih (k - 1) _ _ (by omega) ⟨p + 1, q + 1, by omega, by omega, rfl, rfl, rfl, rfl⟩
  · simp (disch := omega) only [F_X9_unlikeShades_L4, F_X11_unlikeShades_L4, h20, ↓reduceIte, ↓z_letE, ↓z_bdE, nn_l2, nn_add, nn_mul, nn_sub, nn_addM, nn_div, nn_rem, nn_min, nn_max, nn_abs, nn_ltT, nn_ltF, nn_leT, nn_leF, nn_eqT, nn_eqF, nn_eqM, nn_Meq, nn_ltM, nn_Mlt, nn_leM, nn_Mle, z_ix_nn, z_inb_nn, F_at_nn, F_put_nn, Nat.zero_add, Nat.add_zero, z_P_some, z_R_some, z_P_bd]
    exact ⟨trivial, q, by omega, rfl⟩
set_option maxHeartbeats 4000000 in
theorem married_R {N t pe Y : Nat} {D D' : z_Dat} (hN : 200 < N) (hpe : pe ≤ 8) (h20 : D' 40 20 = nn pe) (hT : TR pe Y (D (t + 1)) (D' 58)) :
    z_R (F_X9_married N t (nn pe) D) (F_X11_many N (nn 32) (-nn 1) D') (fun a c => a = c) := by
  unfold F_X9_married F_X11_many
  refine z_R_loop (fun k s s' => ∃ p q, p + k = pe ∧ s.1 = nn q ∧ s'.1 = nn q ∧ s.2 = nn p ∧ s'.2 = nn p) ?_ pe N N _ _ (by omega) (by omega) ⟨0, 0, by omega, rfl, rfl, rfl, rfl⟩
  rintro k ⟨v1, v2⟩ ⟨w1, w2⟩ kc kc' ⟨p, q, hk, rfl, rfl, rfl, rfl⟩ ih
  dsimp only
  by_cases hp : p < pe
  · obtain ⟨n, hn, q0, q1, q4, q5, q6, q7⟩ := hT.1 p hp
    by_cases hs : D' 58 (32 + p) = -nn 1
    · simp (disch := omega) only [F_X9_married_L4, F_X11_many_L5, F_X9_has, h20, q6, hs, ↓reduceIte, ↓z_letE, ↓z_bdE, nn_l2, nn_add, nn_mul, nn_sub, nn_addM, nn_div, nn_rem, nn_min, nn_max, nn_abs, nn_ltT, nn_ltF, nn_leT, nn_leF, nn_eqT, nn_eqF, nn_eqM, nn_Meq, nn_ltM, nn_Mlt, nn_leM, nn_Mle, z_ix_nn, z_inb_nn, F_at_nn, F_put_nn, Nat.zero_add, Nat.add_zero, z_P_some, z_R_some, z_P_bd]
      exact ih (k - 1) _ _ (by omega) ⟨p + 1, q, by omega, rfl, rfl, rfl, rfl⟩
    · simp (disch := omega) only [F_X9_married_L4, F_X11_many_L5, F_X9_has, h20, q6, hs, ↓reduceIte, ↓z_letE, ↓z_bdE, nn_l2, nn_add, nn_mul, nn_sub, nn_addM, nn_div, nn_rem, nn_min, nn_max, nn_abs, nn_ltT, nn_ltF, nn_leT, nn_leF, nn_eqT, nn_eqF, nn_eqM, nn_Meq, nn_ltM, nn_Mlt, nn_leM, nn_Mle, z_ix_nn, z_inb_nn, F_at_nn, F_put_nn, Nat.zero_add, Nat.add_zero, z_P_some, z_R_some, z_P_bd]
      exact ih (k - 1) _ _ (by omega) ⟨p + 1, q + 1, by omega, rfl, rfl, rfl, rfl⟩
  · simp (disch := omega) only [F_X9_married_L4, F_X11_many_L5, h20, ↓reduceIte, ↓z_letE, ↓z_bdE, nn_l2, nn_add, nn_mul, nn_sub, nn_addM, nn_div, nn_rem, nn_min, nn_max, nn_abs, nn_ltT, nn_ltF, nn_leT, nn_leF, nn_eqT, nn_eqF, nn_eqM, nn_Meq, nn_ltM, nn_Mlt, nn_leM, nn_Mle, z_ix_nn, z_inb_nn, F_at_nn, F_put_nn, Nat.zero_add, Nat.add_zero, z_P_some, z_R_some, z_P_bd]
theorem salted_P {N pe : Nat} {D' : z_Dat} {u : Nat → Bool} (hN : 200 < N) (hpe : pe ≤ 8) (h20 : D' 40 20 = nn pe) (hu : ∀ p, p < pe → u p = decide (D' 58 (24 + p) = nn 0)) : z_P (F_X11_many N (nn 24) (nn 0) D') (fun a => a = nn (pe - cntS u pe)) := by
  unfold F_X11_many
  refine z_P_loop (fun k s => ∃ p, p + k = pe ∧ s.1 = nn (p - cntS u p) ∧ s.2 = nn p) ?_ pe N _ (by omega) ⟨0, by omega, rfl, rfl⟩
  rintro k ⟨v1, v2⟩ kc ⟨p, hk, rfl, rfl⟩ ih
  dsimp only
  have hc := cntS_le u p
  by_cases hp : p < pe
  · by_cases hs : D' 58 (24 + p) = nn 0
    · simp (disch := omega) only [F_X11_many_L5, h20, hs, ↓reduceIte, ↓z_letE, ↓z_bdE, nn_l2, nn_add, nn_mul, nn_sub, nn_addM, nn_div, nn_rem, nn_min, nn_max, nn_abs, nn_ltT, nn_ltF, nn_leT, nn_leF, nn_eqT, nn_eqF, nn_eqM, nn_Meq, nn_ltM, nn_Mlt, nn_leM, nn_Mle, z_ix_nn, z_inb_nn, F_at_nn, F_put_nn, Nat.zero_add, Nat.add_zero, z_P_some, z_R_some, z_P_bd]
      exact ih (k - 1) _ (by omega) ⟨p + 1, by omega, by rw [cntS_t (by rw [hu p hp]; simp [hs])]; exact congrArg nn (by omega), rfl⟩
    · simp (disch := omega) only [F_X11_many_L5, h20, hs, ↓reduceIte, ↓z_letE, ↓z_bdE, nn_l2, nn_add, nn_mul, nn_sub, nn_addM, nn_div, nn_rem, nn_min, nn_max, nn_abs, nn_ltT, nn_ltF, nn_leT, nn_leF, nn_eqT, nn_eqF, nn_eqM, nn_Meq, nn_ltM, nn_Mlt, nn_leM, nn_Mle, z_ix_nn, z_inb_nn, F_at_nn, F_put_nn, Nat.zero_add, Nat.add_zero, z_P_some, z_R_some, z_P_bd]
      exact ih (k - 1) _ (by omega) ⟨p + 1, by omega, by rw [cntS_f (by rw [hu p hp]; simp [hs])]; exact congrArg nn (by omega), rfl⟩
  · have hpp : p = pe := by omega
    subst hpp
    simp (disch := omega) only [F_X11_many_L5, h20, ↓reduceIte, ↓z_letE, ↓z_bdE, nn_l2, nn_add, nn_mul, nn_sub, nn_addM, nn_div, nn_rem, nn_min, nn_max, nn_abs, nn_ltT, nn_ltF, nn_leT, nn_leF, nn_eqT, nn_eqF, nn_eqM, nn_Meq, nn_ltM, nn_Mlt, nn_leM, nn_Mle, z_ix_nn, z_inb_nn, F_at_nn, F_put_nn, Nat.zero_add, Nat.add_zero, z_P_some, z_R_some, z_P_bd]
set_option maxHeartbeats 4000000 in
theorem dyes_R {N t pe Y : Nat} {D D' : z_Dat} (hN : 200 < N) (hpe : pe ≤ 8) (hT : TR pe Y (D (t + 1)) (D' 58)) : ∃ q, F_X9_allDyes N t (nn pe) D = some (nn q) ∧ q ≤ 27 * pe ∧ ∃ w : Nat → Nat, (∀ p, p < pe → D' 58 (3 * p) = nn (w p / 100) ∧ D' 58 (3 * p + 1) = nn (w p / 10 % 10) ∧ D' 58 (3 * p + 2) = nn (w p % 10)) ∧ q = sumS (fun _ => true) (fun p => w p / 100 + w p / 10 % 10 + w p % 10) pe := by
  obtain ⟨sh, hs⟩ := TR_sh hT
  have key : z_P (F_X9_allDyes N t (nn pe) D) (fun a => a = nn (sumS (fun _ => true) (fun p => sh p / 100 + sh p / 10 % 10 + sh p % 10) pe)) := by
    unfold F_X9_allDyes
    refine z_P_loop (fun k s => ∃ p, p + k = pe ∧ s.1 = nn (sumS (fun _ => true) (fun p => sh p / 100 + sh p / 10 % 10 + sh p % 10) p) ∧ s.2 = nn p) ?_ pe N _ (by omega) ⟨0, by omega, rfl, rfl⟩
    rintro k ⟨v1, v2⟩ kc ⟨p, hk, rfl, rfl⟩ ih
    dsimp only
    by_cases hp : p < pe
    · obtain ⟨h1, h2, -⟩ := hs p hp
      simp (disch := omega) only [F_X9_allDyes_L4, F_X9_has, h2, darkness_10, ↓reduceIte, ↓z_letE, ↓z_bdE, nn_l2, nn_add, nn_mul, nn_sub, nn_addM, nn_div, nn_rem, nn_min, nn_max, nn_abs, nn_ltT, nn_ltF, nn_leT, nn_leF, nn_eqT, nn_eqF, nn_eqM, nn_Meq, nn_ltM, nn_Mlt, nn_leM, nn_Mle, z_ix_nn, z_inb_nn, F_at_nn, F_put_nn, Nat.zero_add, Nat.add_zero, z_P_some, z_R_some, z_P_bd]
      exact ih (k - 1) _ (by omega) ⟨p + 1, by omega, by rw [sumS_t rfl], rfl⟩
    · have hpp : p = pe := by omega
      subst hpp
      simp (disch := omega) only [F_X9_allDyes_L4, ↓reduceIte, ↓z_letE, ↓z_bdE, nn_l2, nn_add, nn_mul, nn_sub, nn_addM, nn_div, nn_rem, nn_min, nn_max, nn_abs, nn_ltT, nn_ltF, nn_leT, nn_leF, nn_eqT, nn_eqF, nn_eqM, nn_Meq, nn_ltM, nn_Mlt, nn_leM, nn_Mle, z_ix_nn, z_inb_nn, F_at_nn, F_put_nn, Nat.zero_add, Nat.add_zero, z_P_some, z_R_some, z_P_bd]
  obtain ⟨a, h1, h2⟩ := key
  subst h2
  refine ⟨_, h1, ?_, sh, fun p hp => (hs p hp).2.2, rfl⟩
  have h3 := sumS_le (u := fun _ => true) (w := fun p => sh p / 100 + sh p / 10 % 10 + sh p % 10) (c := 27) (n := pe) (fun p hp => by have := (hs p hp).1; show sh p / 100 + sh p / 10 % 10 + sh p % 10 ≤ 27; omega) pe (by omega)
  have h4 := cntS_le (fun _ => true) pe
  have h5 : 27 * cntS (fun _ => true) pe ≤ 27 * pe := Nat.mul_le_mul_left _ h4
  omega
