/-! ===== a new city: what is set up, and the start of a text ===== -/
set_option maxHeartbeats 1000000 in
theorem settle_P {N n pe : Nat} {D : z_Dat} (hN : 2000 < N) (hn : 68 ≤ n) (hpe : pe ≤ 8) (d6 : D n 6 = nn pe) : z_P (F_X9_settle N 3 n D) (fun E => Fr 4 D E ∧ (∀ p, p < pe → E 4 (p * 5) = nn 0 ∧ E 4 (p * 5 + 1) = D (n + 4) p ∧ E 4 (p * 5 + 2) = nn 0 ∧ E 4 (p * 5 + 3) = -nn 1 ∧ E 4 (p * 5 + 4) = nn 0) ∧ (∀ d, d < 3 → E 4 (40 + d) = D (n + 5) d) ∧ E 4 43 = nn 0) := by
  unfold F_X9_settle
  rw [z_P_bd]
  refine z_P_mono (fill_P (n := 44) (by omega) (by decide)) (fun E1 h1 => ?_)
  obtain ⟨h1, h2⟩ := h1
  refine z_P_loop (fun q t => ∃ p, p + q = pe ∧ t.1 = nn p ∧ Fr 4 D t.2 ∧ (∀ x, x < p → t.2 4 (x * 5) = nn 0 ∧ t.2 4 (x * 5 + 1) = D (n + 4) x ∧ t.2 4 (x * 5 + 2) = nn 0 ∧ t.2 4 (x * 5 + 3) = -nn 1 ∧ t.2 4 (x * 5 + 4) = nn 0) ∧ (∀ j, p * 5 ≤ j → j < 44 → t.2 4 j = nn 0)) ?_ pe N _ (by omega) ⟨0, by omega, rfl, h1, fun x hx => absurd hx (by omega), fun j _ hj => h2 j hj⟩
  rintro q ⟨v, E⟩ kc ⟨p, hq, rfl, hF, hA, hB⟩ ih
  dsimp only at hF hA hB ⊢
  have e6 : E n 6 = nn pe := by rw [hF n (by omega)]; exact d6
  by_cases hp : p < pe
  · simp (disch := omega) only [F_X9_settle_L10, F_X9_set, e6, ↓reduceIte, ↓z_letE, ↓z_bdE, nn_l2, nn_add, nn_mul, nn_sub, nn_addM, nn_div, nn_rem, nn_min, nn_max, nn_abs, nn_ltT, nn_ltF, nn_leT, nn_leF, nn_eqT, nn_eqF, nn_eqM, nn_Meq, nn_ltM, nn_Mlt, nn_leM, nn_Mle, z_ix_nn, z_inb_nn, F_at_nn, F_put_nn, Nat.zero_add, Nat.add_zero, z_P_some, z_R_some, z_P_bd]
    refine ih (q - 1) _ (by omega) ⟨p + 1, by omega, rfl, hF.up.up, fun x hx => ?_, fun j h3 h4 => ?_⟩
    · by_cases hxp : x = p
      · subst hxp
        refine ⟨?_, ?_, ?_, ?_, ?_⟩
        · simp (disch := omega) only [z_up_i, hB]
        · simp (disch := omega) only [z_up_i, z_up_at]
          rw [hF (n + 4) (by omega)]
        · simp (disch := omega) only [z_up_i, hB]
        · simp (disch := omega) only [z_up_at]
        · simp (disch := omega) only [z_up_i, hB]
      · obtain ⟨x1, x2, x3, x4, x5⟩ := hA x (by omega)
        exact ⟨by simp (disch := omega) only [z_up_i, x1], by simp (disch := omega) only [z_up_i, x2], by simp (disch := omega) only [z_up_i, x3], by simp (disch := omega) only [z_up_i, x4], by simp (disch := omega) only [z_up_i, x5]⟩
    · simp (disch := omega) only [z_up_i, hB]
  · obtain rfl : p = pe := by omega
    have hc := copy_P (N := N) (r0 := n + 5) (n0 := 3) (r1 := 3 + 1) (n1 := 44) (a := 0) (b := 40) (m := 3) (D := E) (by omega) (by decide) (by decide) (by decide) (by decide) (by omega)
    simp (disch := omega) only [F_X9_settle_L10, nn_l2, e6, nn_leT, ↓reduceIte, z_P_bd, z_P_some]
    refine z_P_mono hc (fun F hF2 => ?_)
    obtain ⟨f1, f2, f3⟩ := hF2
    refine ⟨fun r hr => (f1 r hr).trans (hF r hr), fun x hx => ?_, fun d hd => ?_, ?_⟩
    · obtain ⟨x1, x2, x3, x4, x5⟩ := hA x hx
      exact ⟨by rw [f3 _ (Or.inl (by omega))]; exact x1, by rw [f3 _ (Or.inl (by omega))]; exact x2, by rw [f3 _ (Or.inl (by omega))]; exact x3, by rw [f3 _ (Or.inl (by omega))]; exact x4, by rw [f3 _ (Or.inl (by omega))]; exact x5⟩
    · rw [f2 d hd, Nat.zero_add, hF (n + 5) (by omega)]
    · rw [f3 43 (Or.inr (by decide))]
      exact hB 43 (by omega) (by decide)
def SX (F S : z_Dat) : Prop := ∀ r, r ≠ 40 → r ≠ 47 → r ≠ 48 → r ≠ 57 → r ≠ 61 → S r = F r
set_option maxHeartbeats 2000000 in
theorem sets_P {N ns pe rv : Nat} {F : z_Dat} (hN : 2000 < N) (hpe : pe ≤ 8) (c16 : F 40 16 = nn ns) (c17 : F 40 17 = nn pe) (c18 : F 40 18 = nn rv) : z_P (F_X11_sets N F) (fun S => SX F S ∧ (S 40 19 = nn ns ∧ S 40 20 = nn pe ∧ S 40 21 = nn rv ∧ S 40 28 = nn 0 ∧ S 40 43 = nn 0 ∧ S 40 33 = nn 0 ∧ S 40 54 = nn 0 ∧ S 40 34 = nn 0) ∧ (∀ j, j < 19 → S 40 j = F 40 j) ∧ (∀ j, j < 24 → S 47 j = F 43 j) ∧ (∀ j, j < 8 → S 48 j = F 44 j) ∧ (∀ p, p < 8 → S 57 (32 + p) = -nn 1 ∧ S 57 (48 + p) = if p < pe then F 45 p else nn 0) ∧ (∀ d, d < 3 → S 57 (56 + d) = F 46 d) ∧ (∀ j, (j < 32 ∨ (40 ≤ j ∧ j < 48) ∨ j = 59) → S 57 j = nn 0) ∧ ∀ d, d < 3 → S 61 d = -nn 1) := by
  unfold F_X11_sets
  simp (disch := omega) only [c16, c17, c18, z_up_i, z_up_at, ↓reduceIte, ↓z_letE, ↓z_bdE, nn_l2, nn_add, nn_mul, nn_sub, nn_addM, nn_div, nn_rem, nn_min, nn_max, nn_abs, nn_ltT, nn_ltF, nn_leT, nn_leF, nn_eqT, nn_eqF, nn_eqM, nn_Meq, nn_ltM, nn_Mlt, nn_leM, nn_Mle, z_ix_nn, z_inb_nn, F_at_nn, F_put_nn, Nat.zero_add, Nat.add_zero, z_P_some, z_R_some, z_P_bd]
  refine z_P_mono (copies_P (N := N) (r0 := 43) (n0 := 24) (r1 := 47) (n1 := 24) (m := 24) (by decide) (by decide) (by decide) (by decide) (by omega)) (fun G1 a1 => ?_)
  obtain ⟨a1, a2, -⟩ := a1
  refine z_P_mono (copies_P (N := N) (r0 := 44) (n0 := 8) (r1 := 48) (n1 := 8) (m := 8) (by decide) (by decide) (by decide) (by decide) (by omega)) (fun G2 b1 => ?_)
  obtain ⟨b1, b2, -⟩ := b1
  generalize hG3 : z_up (z_up (z_up (z_up (z_up G2 40 28 (nn 0)) 40 43 (nn 0)) 40 33 (nn 0)) 40 54 (nn 0)) 40 34 (nn 0) = G3
  have c3 : ∀ r, r ≠ 40 → G3 r = G2 r := fun r hr => by rw [← hG3]; simp (disch := omega) only [z_up_ne hr]
  have c4 : G3 40 28 = nn 0 ∧ G3 40 43 = nn 0 ∧ G3 40 33 = nn 0 ∧ G3 40 54 = nn 0 ∧ G3 40 34 = nn 0 := by
    rw [← hG3]
    exact ⟨by simp (disch := omega) only [z_up_i, z_up_at], by simp (disch := omega) only [z_up_i, z_up_at], by simp (disch := omega) only [z_up_i, z_up_at], by simp (disch := omega) only [z_up_i, z_up_at], by simp (disch := omega) only [z_up_at]⟩
  have c5 : ∀ j, j < 22 → G3 40 j = G2 40 j := fun j hj => by rw [← hG3]; simp (disch := omega) only [z_up_i]
  have c6 : ∀ j, G2 40 j = G1 40 j := fun j => by rw [b1 40 (by decide)]
  have c7 : ∀ j, G1 40 j = z_up (z_up (z_up F 40 19 (nn ns)) 40 20 (nn pe)) 40 21 (nn rv) 40 j := fun j => by rw [a1 40 (by decide)]
  have k19 : G3 40 19 = nn ns := by rw [c5 19 (by decide), c6, c7]; simp (disch := omega) only [z_up_i, z_up_at]
  have k20 : G3 40 20 = nn pe := by rw [c5 20 (by decide), c6, c7]; simp (disch := omega) only [z_up_i, z_up_at]
  have k21 : G3 40 21 = nn rv := by rw [c5 21 (by decide), c6, c7]; simp (disch := omega) only [z_up_at]
  have kj : ∀ j, j < 19 → G3 40 j = F 40 j := fun j hj => by rw [c5 j (by omega), c6, c7]; simp (disch := omega) only [z_up_i]
  have cr : ∀ r, r ≠ 40 → r ≠ 47 → r ≠ 48 → G3 r = F r := fun r h1 h2 h3 => by rw [c3 r h1, b1 r h3, a1 r h2, z_up_ne h1, z_up_ne h1, z_up_ne h1]
  have k47 : ∀ j, j < 24 → G3 47 j = F 43 j := fun j hj => by
    rw [c3 47 (by decide), b1 47 (by decide), a2 j hj]
    simp (disch := omega) only [z_up_r]
  have k48 : ∀ j, j < 8 → G3 48 j = F 44 j := fun j hj => by
    rw [c3 48 (by decide), b2 j hj, a1 44 (by decide)]
    simp (disch := omega) only [z_up_r]
  clear hG3 a1 a2 b1 b2 c3 c5 c6 c7
  obtain ⟨c28, c43, c33, c54, c34⟩ := c4
  refine z_P_loop (fun q t => ∃ v, v + q = 60 ∧ t.1 = nn v ∧ Fr 57 G3 t.2 ∧ ∀ j, j < v → t.2 57 j = nn 0) ?_ 60 N _ (by omega) ⟨0, by omega, rfl, Fr.rf, fun j hj => absurd hj (by omega)⟩
  rintro q ⟨v1, E⟩ kc ⟨v, hq, rfl, hF, hA⟩ ih
  dsimp only at hF hA ⊢
  by_cases hv : v < 60
  · simp (disch := omega) only [F_X11_sets_L79, ↓reduceIte, ↓z_letE, ↓z_bdE, nn_l2, nn_add, nn_mul, nn_sub, nn_addM, nn_div, nn_rem, nn_min, nn_max, nn_abs, nn_ltT, nn_ltF, nn_leT, nn_leF, nn_eqT, nn_eqF, nn_eqM, nn_Meq, nn_ltM, nn_Mlt, nn_leM, nn_Mle, z_ix_nn, z_inb_nn, F_at_nn, F_put_nn, Nat.zero_add, Nat.add_zero, z_P_some, z_R_some, z_P_bd]
    refine ih (q - 1) _ (by omega) ⟨v + 1, by omega, rfl, hF.up, fun j hj => ?_⟩
    by_cases hjv : j = v
    · simp (disch := omega) only [z_up_at]
    · simp (disch := omega) only [z_up_i, hA]
  obtain rfl : v = 60 := by omega
  clear ih
  simp (disch := omega) only [F_X11_sets_L79, ↓reduceIte, ↓z_letE, ↓z_bdE, nn_l2, nn_add, nn_mul, nn_sub, nn_addM, nn_div, nn_rem, nn_min, nn_max, nn_abs, nn_ltT, nn_ltF, nn_leT, nn_leF, nn_eqT, nn_eqF, nn_eqM, nn_Meq, nn_ltM, nn_Mlt, nn_leM, nn_Mle, z_ix_nn, z_inb_nn, F_at_nn, F_put_nn, Nat.zero_add, Nat.add_zero, z_P_some, z_R_some, z_P_bd]
  refine z_P_loop (fun q t => ∃ v, v + q = 8 ∧ t.1 = nn v ∧ Fr 57 G3 t.2 ∧ (∀ p, p < v → t.2 57 (32 + p) = -nn 1 ∧ t.2 57 (48 + p) = if p < pe then F 45 p else nn 0) ∧ (∀ j, (j < 32 ∨ (40 ≤ j ∧ j < 48) ∨ j = 59) → t.2 57 j = nn 0)) ?_ 8 N _ (by omega) ⟨0, by omega, rfl, hF, fun p hp => absurd hp (by omega), fun j hj => hA j (by omega)⟩
  clear hF hA E
  rintro q ⟨v1, E⟩ kc ⟨v, hq, rfl, hF, hA, hB⟩ ih
  dsimp only at hF hA hB ⊢
  have e20 : E 40 20 = nn pe := by rw [hF 40 (by decide)]; exact k20
  have e45 : E 45 = F 45 := by rw [hF 45 (by decide)]; exact cr 45 (by decide) (by decide) (by decide)
  have e46 : E 46 = F 46 := by rw [hF 46 (by decide)]; exact cr 46 (by decide) (by decide) (by decide)
  by_cases hv : v < 8
  · by_cases hvp : v < pe
    · simp (disch := omega) only [F_X11_sets_L100, e20, e45, z_up_r, ↓reduceIte, ↓z_letE, ↓z_bdE, nn_l2, nn_add, nn_mul, nn_sub, nn_addM, nn_div, nn_rem, nn_min, nn_max, nn_abs, nn_ltT, nn_ltF, nn_leT, nn_leF, nn_eqT, nn_eqF, nn_eqM, nn_Meq, nn_ltM, nn_Mlt, nn_leM, nn_Mle, z_ix_nn, z_inb_nn, F_at_nn, F_put_nn, Nat.zero_add, Nat.add_zero, z_P_some, z_R_some, z_P_bd]
      refine ih (q - 1) _ (by omega) ⟨v + 1, by omega, rfl, hF.up.up, fun p hp => ?_, fun j hj => ?_⟩
      · by_cases hpv : p = v
        · subst hpv
          rw [if_pos hvp]
          exact ⟨by simp (disch := omega) only [z_up_i, z_up_at], by simp (disch := omega) only [z_up_at, z_up_r, e45]⟩
        · obtain ⟨x1, x2⟩ := hA p (by omega)
          exact ⟨by simp (disch := omega) only [z_up_i, x1], by simp (disch := omega) only [z_up_i, x2]⟩
      · have := hB j hj
        simp (disch := omega) only [z_up_i, this]
    · simp (disch := omega) only [F_X11_sets_L100, e20, z_up_r, ↓reduceIte, ↓z_letE, ↓z_bdE, nn_l2, nn_add, nn_mul, nn_sub, nn_addM, nn_div, nn_rem, nn_min, nn_max, nn_abs, nn_ltT, nn_ltF, nn_leT, nn_leF, nn_eqT, nn_eqF, nn_eqM, nn_Meq, nn_ltM, nn_Mlt, nn_leM, nn_Mle, z_ix_nn, z_inb_nn, F_at_nn, F_put_nn, Nat.zero_add, Nat.add_zero, z_P_some, z_R_some, z_P_bd]
      refine ih (q - 1) _ (by omega) ⟨v + 1, by omega, rfl, hF.up.up, fun p hp => ?_, fun j hj => ?_⟩
      · by_cases hpv : p = v
        · subst hpv
          rw [if_neg hvp]
          exact ⟨by simp (disch := omega) only [z_up_i, z_up_at], by simp (disch := omega) only [z_up_at]⟩
        · obtain ⟨x1, x2⟩ := hA p (by omega)
          exact ⟨by simp (disch := omega) only [z_up_i, x1], by simp (disch := omega) only [z_up_i, x2]⟩
      · have := hB j hj
        simp (disch := omega) only [z_up_i, this]
  · obtain rfl : v = 8 := by omega
    simp (disch := omega) only [F_X11_sets_L100, F_X11_sets_J151xxx, F_X11_sets_J151xx, F_X11_sets_J151x, F_X11_sets_J151, F_X11_sets_J179xxx, F_X11_sets_J179xx, F_X11_sets_J179x, F_X11_sets_J179, e46, z_up_r, ↓reduceIte, ↓z_letE, ↓z_bdE, nn_l2, nn_add, nn_mul, nn_sub, nn_addM, nn_div, nn_rem, nn_min, nn_max, nn_abs, nn_ltT, nn_ltF, nn_leT, nn_leF, nn_eqT, nn_eqF, nn_eqM, nn_Meq, nn_ltM, nn_Mlt, nn_leM, nn_Mle, z_ix_nn, z_inb_nn, F_at_nn, F_put_nn, Nat.zero_add, Nat.add_zero, z_P_some, z_R_some, z_P_bd]
    have hx : ∀ r, r ≠ 57 → r ≠ 61 → z_up (z_up (z_up (z_up (z_up (z_up E 57 56 (F 46 0)) 57 57 (F 46 1)) 57 58 (F 46 2)) 61 0 (-nn 1)) 61 1 (-nn 1)) 61 2 (-nn 1) r = G3 r := fun r h1 h2 => by
      rw [z_up_ne h2, z_up_ne h2, z_up_ne h2, z_up_ne h1, z_up_ne h1, z_up_ne h1, hF r h1]
    refine ⟨fun r r1 r2 r3 r4 r5 => by rw [hx r r4 r5, cr r r1 r2 r3], ?_, fun j hj => by rw [hF 40 (by decide), kj j hj], fun j hj => by rw [hF 47 (by decide), k47 j hj], fun j hj => by rw [hF 48 (by decide), k48 j hj], fun p hp => ?_, fun d hd => ?_, fun j hj => ?_, fun d hd => ?_⟩
    · rw [hF 40 (by decide)]
      exact ⟨k19, k20, k21, c28, c43, c33, c54, c34⟩
    · obtain ⟨x1, x2⟩ := hA p hp
      exact ⟨by simp (disch := omega) only [z_up_r, z_up_i, x1], by simp (disch := omega) only [z_up_r, z_up_i, x2]⟩
    · rcases (show d = 0 ∨ d = 1 ∨ d = 2 by omega) with rfl | rfl | rfl
      · simp (disch := omega) only [z_up_r, z_up_i, z_up_at]
      · simp (disch := omega) only [z_up_r, z_up_i, z_up_at]
      · simp (disch := omega) only [z_up_r, z_up_at]
    · have := hB j hj
      simp (disch := omega) only [z_up_r, z_up_i, this]
    · rcases (show d = 0 ∨ d = 1 ∨ d = 2 by omega) with rfl | rfl | rfl
      · simp (disch := omega) only [z_up_i, z_up_at]
      · simp (disch := omega) only [z_up_i, z_up_at]
      · simp (disch := omega) only [z_up_at]
theorem z_new_n {D : z_Dat} {n : Nat} : z_new D n n = fun _ => 0 := by
  funext j
  exact if_pos rfl
theorem z_new_ne {D : z_Dat} {n r : Nat} (h : r ≠ n) : z_new D n r = D r := by
  funext j
  exact if_neg h
theorem z_new_at {D : z_Dat} {n j : Nat} : z_new D n n j = nn 0 := if_pos rfl
theorem begin_C {N L : Nat} {D : z_Dat} (hN : 2000 < N) (hX : TX D) (hL : L ≤ 600) : ∃ t E, (∀ j, j < 600 → t j < 256 ∧ D 2 j = nn (t j) ∧ D 42 j = nn (t j)) ∧ F_X8_open N (nn L) D = some E ∧ (∀ r, r ≠ 1 → E r = D r) ∧ E 1 1 = nn 0 ∧ OK E ∧ ∀ G, G 42 = D 42 → RC t L 0 E (F_X11_begins (nn L) G) := by
  obtain ⟨-, hx, -⟩ := hX
  have hc : ∀ j : Nat, ∃ b : Nat, j < 600 → b < 256 ∧ D 2 j = nn b ∧ D 42 j = nn b := fun j => by
    by_cases hj : j < 600
    · obtain ⟨b, h⟩ := hx j hj
      exact ⟨b, fun _ => h⟩
    · exact ⟨0, fun h => absurd h hj⟩
  obtain ⟨t, ht⟩ := Classical.axiomOfChoice hc
  generalize hD1 : z_up (z_up (z_up (z_up (z_up D 1 2 (nn L)) 1 1 (nn 0)) 1 3 (nn 0)) 1 5 (nn 0)) 1 6 (-nn 1) = D1
  have e : ∀ r, r ≠ 1 → D1 r = D r := fun r hr => by rw [← hD1]; simp (disch := omega) only [z_up_ne hr]
  have e1 : D1 1 1 = nn 0 := by rw [← hD1]; simp (disch := omega) only [z_up_i, z_up_at]
  have e2 : D1 1 2 = nn L := by rw [← hD1]; simp (disch := omega) only [z_up_i, z_up_at]
  have e3 : D1 1 3 = nn 0 := by rw [← hD1]; simp (disch := omega) only [z_up_i, z_up_at]
  have e5 : D1 1 5 = nn 0 := by rw [← hD1]; simp (disch := omega) only [z_up_i, z_up_at]
  have e6 : D1 1 6 = -nn 1 := by rw [← hD1]; simp (disch := omega) only [z_up_at]
  have hb : ∀ G, F_X11_begins (nn L) G = z_up (z_up (z_up (z_up (z_up (z_up G 40 2 (nn 0)) 40 8 (-nn 1)) 40 3 (nn L)) 40 4 (nn 0)) 40 5 (-nn 1)) 40 7 (nn 0) := fun G => rfl
  have hTP : ∀ G, G 42 = D 42 → TP t L D1 (F_X11_begins (nn L) G) := fun G hG => ⟨hL, fun j hj => ⟨(ht j hj).1, by rw [e 2 (by decide)]; exact (ht j hj).2.1, by rw [hb, z_up_ne (by decide), z_up_ne (by decide), z_up_ne (by decide), z_up_ne (by decide), z_up_ne (by decide), z_up_ne (by decide), hG]; exact (ht j hj).2.2⟩, e2, by rw [hb]; simp (disch := omega) only [z_up_i, z_up_at]⟩
  obtain ⟨E, m1, m2, m3, m4, m5, h, m6, m7, m8, m9, m10⟩ := pass_P (m := 0) hN (hTP D rfl) e3 (by omega)
  refine ⟨t, E, ht, ?_, fun r hr => (m2.1 r hr).trans (e r hr), by rw [m2.2 1 (by decide)]; exact e1, by unfold OK; rw [m3]; exact e5, fun G hG => ⟨(hTP G hG).keep m2 RM.rf, Or.inl ⟨h, 0, by omega, ⟨by omega, m7, fun j j1 j2 => m8 j (by omega) j2, m9⟩, m10, by rw [m3]; exact e5, by rw [m4]; exact e6, ?_, ?_⟩⟩⟩
  · unfold F_X8_open
    simp (disch := omega) only [↓reduceIte, ↓z_letE, ↓z_bdE, nn_l2, nn_add, nn_mul, nn_sub, nn_addM, nn_div, nn_rem, nn_min, nn_max, nn_abs, nn_ltT, nn_ltF, nn_leT, nn_leF, nn_eqT, nn_eqF, nn_eqM, nn_Meq, nn_ltM, nn_Mlt, nn_leM, nn_Mle, z_ix_nn, z_inb_nn, F_at_nn, F_put_nn, Nat.zero_add, Nat.add_zero, z_P_some, z_R_some, z_P_bd]
    rw [hD1, m1]
    rfl
  · rw [hb]; simp (disch := omega) only [z_up_i, z_up_at]
  · rw [hb]; simp (disch := omega) only [z_up_i, z_up_at]
