/-! ===== who is to marry whom: the model's L145 ===== -/
theorem mclear_P {N pe : Nat} {full : Int32} {E0 : z_Dat} {Q : z_Dat → Prop} (hN : 200 < N) (hpe : pe ≤ 8) (k20 : E0 40 20 = nn pe) (hQ : ∀ F, Fr 65 E0 F → (∀ c, c < pe → F 65 c = -nn 1) → z_P (z_loop (fun kc16 s => F_X11_findMatch_L168 N full kc16 s.1 s.2) N (nn 0, F)) Q) :
    z_P (z_loop (fun kc12 s => F_X11_findMatch_L145 N full kc12 s.1 s.2) N (nn 0, E0)) Q := by
  refine z_P_loop (fun k t => ∃ c, c + k = pe ∧ t.1 = nn c ∧ Fr 65 E0 t.2 ∧ ∀ i, i < c → t.2 65 i = -nn 1) ?_ pe N _ (by omega) ⟨0, by omega, rfl, Fr.rf, fun i h => by omega⟩
  rintro k ⟨v, E⟩ kc ⟨c, hk, rfl, hF, hE⟩ ih
  dsimp only at hF hE ⊢
  have e20 : E 40 20 = nn pe := by rw [hF 40 (by decide)]; exact k20
  by_cases hc : c < pe
  · simp (disch := omega) only [F_X11_findMatch_L145, e20, ↓reduceIte, ↓z_letE, ↓z_bdE, nn_l2, nn_add, nn_mul, nn_sub, nn_addM, nn_div, nn_rem, nn_min, nn_max, nn_abs, nn_ltT, nn_ltF, nn_leT, nn_leF, nn_eqT, nn_eqF, nn_eqM, nn_Meq, nn_ltM, nn_Mlt, nn_leM, nn_Mle, z_ix_nn, z_inb_nn, F_at_nn, F_put_nn, Nat.zero_add, Nat.add_zero, z_P_some, z_R_some, z_P_bd]
    refine ih (k - 1) _ (by omega) ⟨c + 1, by omega, rfl, hF.up, fun i hi => ?_⟩
    dsimp only
    by_cases e : i = c
    · subst e
      exact z_up_at rfl rfl
    · rw [z_up_i e]
      exact hE i (by omega)
  · have e : c = pe := by omega
    subst e
    have hh := hQ E hF hE
    simp (disch := omega) only [F_X11_findMatch_L145, e20, ↓reduceIte, ↓z_letE, ↓z_bdE, nn_l2, nn_add, nn_mul, nn_sub, nn_addM, nn_div, nn_rem, nn_min, nn_max, nn_abs, nn_ltT, nn_ltF, nn_leT, nn_leF, nn_eqT, nn_eqF, nn_eqM, nn_Meq, nn_ltM, nn_Mlt, nn_leM, nn_Mle, z_ix_nn, z_inb_nn, F_at_nn, F_put_nn, Nat.zero_add, Nat.add_zero, z_P_some, z_R_some, z_P_bd]
    exact hh
theorem CH_0 {pe : Nat} {K X : Nat → Nat} {w : Nat → Nat → Nat} : CH pe (2 ^ pe - 1) 0 (2 ^ pe - 1) K X w (fun _ => 0) := ⟨Nat.zero_add _, Nat.zero_add _, fun c h => by omega, fun c _ => Nat.zero_le _, fun c _ _ => ⟨fun _ => rfl, fun _ => Nat.zero_le _⟩⟩
