/-! ===== who is to marry whom: summed up ===== -/
set_option maxHeartbeats 4000000 in
theorem sumUp_P {N pe : Nat} {D : z_Dat} {sh p : Nat → Nat} (hN : 200 < N) (hpe : pe ≤ 8) (h4 : ∀ q, q < pe → sh q < 1000 ∧ D 4 (q * 5) = nn (sh q)) (h31 : ∀ c, c < pe → D 31 c = cd (p c)) (hp : ∀ c, c < pe → p c ≤ pe) :
    z_P (F_X2_sumUp N 3 (nn pe) D) (fun E => Fr 28 D E ∧ E 28 3 = nn (cntS (uP p) pe) ∧ E 28 4 = nn (sumS (uP p) (fun c => ap (sh c) (sh (p c - 1))) pe)) := by
  unfold F_X2_sumUp
  simp (disch := omega) only [↓reduceIte, ↓z_letE, ↓z_bdE, nn_l2, nn_add, nn_mul, nn_sub, nn_addM, nn_div, nn_rem, nn_min, nn_max, nn_abs, nn_ltT, nn_ltF, nn_leT, nn_leF, nn_eqT, nn_eqF, nn_eqM, nn_Meq, nn_ltM, nn_Mlt, nn_leM, nn_Mle, z_ix_nn, z_inb_nn, F_at_nn, F_put_nn, Nat.zero_add, Nat.add_zero, z_P_some, z_R_some, z_P_bd]
  refine z_P_loop (fun k t => ∃ c, c + k = pe ∧ t.1 = nn c ∧ Fr 28 D t.2 ∧ t.2 28 3 = nn (cntS (uP p) c) ∧ t.2 28 4 = nn (sumS (uP p) (fun c => ap (sh c) (sh (p c - 1))) c) ∧ sumS (uP p) (fun c => ap (sh c) (sh (p c - 1))) c ≤ 27 * c) ?_ pe N _ (by omega) ⟨0, by omega, rfl, (Fr.rf.up).up, by simp (disch := omega) only [z_up_at, z_up_i]; rfl, by simp (disch := omega) only [z_up_at]; rfl, Nat.le_refl _⟩
  rintro k ⟨v, E⟩ kc ⟨c, hk, rfl, hF, e3, e4, hs⟩ ih
  dsimp only at hF e3 e4 hs ⊢
  have hcn := cntS_le (uP p) c
  by_cases hc : c < pe
  · have e31 : E 31 c = cd (p c) := by rw [hF 31 (by decide)]; exact h31 c hc
    have hpc := hp c hc
    have h4E : ∀ q, q < pe → E 4 (q * 5) = nn (sh q) := fun q hq => by rw [hF 4 (by decide)]; exact (h4 q hq).2
    by_cases hu : c + 1 < p c
    · obtain ⟨b, hb⟩ : ∃ b, p c = b + 1 := ⟨p c - 1, by omega⟩
      have ht : uP p c = true := decide_eq_true hu
      rw [hb] at e31
      have e31 : E 31 c = nn b := e31
      have x1 := h4E c hc
      have x2 := h4E b (by omega)
      have s1 := (h4 c hc).1
      have s2 := (h4 b (by omega)).1
      have hap := ap_le s1 s2
      simp (disch := omega) only [F_X2_sumUp_L12, F_X2_partnerOf, e31, e3, e4, F_X9_has, z_up_at, z_up_i, z_up_r, x1, x2, apart_10, ↓reduceIte, ↓z_letE, ↓z_bdE, nn_l2, nn_add, nn_mul, nn_sub, nn_addM, nn_div, nn_rem, nn_min, nn_max, nn_abs, nn_ltT, nn_ltF, nn_leT, nn_leF, nn_eqT, nn_eqF, nn_eqM, nn_Meq, nn_ltM, nn_Mlt, nn_leM, nn_Mle, z_ix_nn, z_inb_nn, F_at_nn, F_put_nn, Nat.zero_add, Nat.add_zero, z_P_some, z_R_some, z_P_bd]
      refine ih (k - 1) _ (by omega) ⟨c + 1, by omega, rfl, hF.up.up, ?_, ?_, ?_⟩
      · simp (disch := omega) only [z_up_at, z_up_i]
        rw [cntS_t ht]
      · simp (disch := omega) only [z_up_at]
        rw [sumS_t ht, hb]
        rfl
      · rw [sumS_t ht, hb, Nat.add_sub_cancel]
        omega
    · have hf : uP p c = false := decide_eq_false hu
      have next : z_P (kc (nn (c + 1), E)) (fun E => Fr 28 D E ∧ E 28 3 = nn (cntS (uP p) pe) ∧ E 28 4 = nn (sumS (uP p) (fun c => ap (sh c) (sh (p c - 1))) pe)) := ih (k - 1) _ (by omega) ⟨c + 1, by omega, rfl, hF, by rw [cntS_f hf]; exact e3, by rw [sumS_f hf]; exact e4, by rw [sumS_f hf]; omega⟩
      cases hb : p c with
      | zero =>
        rw [hb] at e31
        have e31 : E 31 c = -nn 1 := e31
        simp (disch := omega) only [F_X2_sumUp_L12, F_X2_partnerOf, e31, ↓reduceIte, ↓z_letE, ↓z_bdE, nn_l2, nn_add, nn_mul, nn_sub, nn_addM, nn_div, nn_rem, nn_min, nn_max, nn_abs, nn_ltT, nn_ltF, nn_leT, nn_leF, nn_eqT, nn_eqF, nn_eqM, nn_Meq, nn_ltM, nn_Mlt, nn_leM, nn_Mle, z_ix_nn, z_inb_nn, F_at_nn, F_put_nn, Nat.zero_add, Nat.add_zero, z_P_some, z_R_some, z_P_bd]
        exact next
      | succ b =>
        rw [hb] at e31 hu
        have e31 : E 31 c = nn b := e31
        simp (disch := omega) only [F_X2_sumUp_L12, F_X2_partnerOf, e31, ↓reduceIte, ↓z_letE, ↓z_bdE, nn_l2, nn_add, nn_mul, nn_sub, nn_addM, nn_div, nn_rem, nn_min, nn_max, nn_abs, nn_ltT, nn_ltF, nn_leT, nn_leF, nn_eqT, nn_eqF, nn_eqM, nn_Meq, nn_ltM, nn_Mlt, nn_leM, nn_Mle, z_ix_nn, z_inb_nn, F_at_nn, F_put_nn, Nat.zero_add, Nat.add_zero, z_P_some, z_R_some, z_P_bd]
        exact next
  · have e : c = pe := by omega
    subst e
    simp (disch := omega) only [F_X2_sumUp_L12, ↓reduceIte, ↓z_letE, ↓z_bdE, nn_l2, nn_add, nn_mul, nn_sub, nn_addM, nn_div, nn_rem, nn_min, nn_max, nn_abs, nn_ltT, nn_ltF, nn_leT, nn_leF, nn_eqT, nn_eqF, nn_eqM, nn_Meq, nn_ltM, nn_Mlt, nn_leM, nn_Mle, z_ix_nn, z_inb_nn, F_at_nn, F_put_nn, Nat.zero_add, Nat.add_zero, z_P_some, z_R_some, z_P_bd]
    exact ⟨hF, e3, e4⟩
