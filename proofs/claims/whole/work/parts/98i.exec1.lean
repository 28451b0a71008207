/-! ===== work: one step is done ===== -/
def CV (o ns pe rv : Nat) (D G : z_Dat) : Prop := (D o 5 = nn ns ∧ D o 6 = nn pe ∧ D o 7 = nn rv) ∧ (G 40 20 = nn pe ∧ G 40 21 = nn rv) ∧ ∀ b, b < ns → ∃ v, v < 1000 ∧ D (o + 1) b = nn v ∧ (G 47 (4 * b) = nn (v / 100) ∧ G 47 (4 * b + 1) = nn (v / 10 % 10) ∧ G 47 (4 * b + 2) = nn (v % 10))
set_option maxHeartbeats 1000000 in
theorem try_R {N o ns pe rv k c a b : Nat} {D G : z_Dat} (hN : 2000 < N) (ho : o = 34 ∨ 68 ≤ o) (hns : ns ≤ 6) (hpe : pe ≤ 8) (hrv : rv ≤ 20) (hC : CV o ns pe rv D G) (hT : TR pe 300 (D 4) (G 58)) (hk : k < 37) (hc : c ≤ 5) (d16 : D 16 k = nn c) (d17 : D 17 k = nn a) (d18 : D 18 k = nn b) (v0 : c = 0 → a < pe ∧ b < ns) (v1 : c = 1 → a < pe) (v2 : c = 2 → a < pe) (v4 : c = 4 → a < pe ∧ b < pe ∧ a ≠ b) :
    z_R (F_X7_tried N o 3 (nn k) D) (F_X11_goes N (nn c) (nn a) (nn b) G) (QT pe 300 3 D G) := by
  obtain ⟨⟨o5, o6, o7⟩, ⟨g20, g21⟩, hV⟩ := hC
  have hT' : TR pe 300 (D (3 + 1)) (G 58) := hT
  rcases (show c = 0 ∨ c = 1 ∨ c = 2 ∨ c = 3 ∨ c = 4 ∨ c = 5 by omega) with rfl | rfl | rfl | rfl | rfl | rfl
  · obtain ⟨ha, hb⟩ := v0 rfl
    obtain ⟨v, hv, w0, w1, w2, w3⟩ := hV b hb
    obtain ⟨x, y, h1, h2, h3⟩ := dip_R (t := 3) hpe ha (show b < 6 by omega) hv hT' w1 w2 w3
    cases h1
    have hvat : F_X1_vatOf o (nn b) D = nn v := by simp (disch := omega) only [F_X1_vatOf, w0, ↓reduceIte, ↓z_letE, ↓z_bdE, nn_l2, nn_add, nn_mul, nn_sub, nn_addM, nn_div, nn_rem, nn_min, nn_max, nn_abs, nn_ltT, nn_ltF, nn_leT, nn_leF, nn_eqT, nn_eqF, nn_eqM, nn_Meq, nn_ltM, nn_Mlt, nn_leM, nn_Mle, z_ix_nn, z_inb_nn, F_at_nn, F_put_nn, Nat.zero_add, Nat.add_zero, z_P_some, z_R_some, z_P_bd]
    simp (disch := omega) only [F_X7_tried, d16, d17, d18, hvat, F_X11_goes, h2, ↓reduceIte, ↓z_letE, ↓z_bdE, nn_l2, nn_add, nn_mul, nn_sub, nn_addM, nn_div, nn_rem, nn_min, nn_max, nn_abs, nn_ltT, nn_ltF, nn_leT, nn_leF, nn_eqT, nn_eqF, nn_eqM, nn_Meq, nn_ltM, nn_Mlt, nn_leM, nn_Mle, z_ix_nn, z_inb_nn, F_at_nn, F_put_nn, Nat.zero_add, Nat.add_zero, z_P_some, z_R_some, z_P_bd]
    exact h3
  · obtain ⟨x, y, h1, h2, h3⟩ := wash_R (t := 3) hpe (v1 rfl) hT'
    cases h1
    simp (disch := omega) only [F_X7_tried, d16, d17, d18, F_X11_goes, h2, ↓reduceIte, ↓z_letE, ↓z_bdE, nn_l2, nn_add, nn_mul, nn_sub, nn_addM, nn_div, nn_rem, nn_min, nn_max, nn_abs, nn_ltT, nn_ltF, nn_leT, nn_leF, nn_eqT, nn_eqF, nn_eqM, nn_Meq, nn_ltM, nn_Mlt, nn_leM, nn_Mle, z_ix_nn, z_inb_nn, F_at_nn, F_put_nn, Nat.zero_add, Nat.add_zero, z_P_some, z_R_some, z_P_bd]
    exact h3
  · have ha := v2 rfl
    have h1 := salt_R (t := 3) hpe ha hT'
    obtain ⟨x, y, h1, h2, h3⟩ := h1
    cases h1
    have hg : F_X11_goes N (nn 2) (nn a) (nn b) G = some y := by
      rw [← h2]
      unfold mSalt
      by_cases hs : G 58 (24 + a) = nn 1
      · rw [if_pos hs]
        simp (disch := omega) only [F_X11_goes, hs, ↓reduceIte, ↓z_letE, ↓z_bdE, nn_l2, nn_add, nn_mul, nn_sub, nn_addM, nn_div, nn_rem, nn_min, nn_max, nn_abs, nn_ltT, nn_ltF, nn_leT, nn_leF, nn_eqT, nn_eqF, nn_eqM, nn_Meq, nn_ltM, nn_Mlt, nn_leM, nn_Mle, z_ix_nn, z_inb_nn, F_at_nn, F_put_nn, Nat.zero_add, Nat.add_zero, z_P_some, z_R_some, z_P_bd]
      · rw [if_neg hs]
        simp (disch := omega) only [F_X11_goes, hs, ↓reduceIte, ↓z_letE, ↓z_bdE, nn_l2, nn_add, nn_mul, nn_sub, nn_addM, nn_div, nn_rem, nn_min, nn_max, nn_abs, nn_ltT, nn_ltF, nn_leT, nn_leF, nn_eqT, nn_eqF, nn_eqM, nn_Meq, nn_ltM, nn_Mlt, nn_leM, nn_Mle, z_ix_nn, z_inb_nn, F_at_nn, F_put_nn, Nat.zero_add, Nat.add_zero, z_P_some, z_R_some, z_P_bd]
    simp (disch := omega) only [F_X7_tried, d16, d17, d18, hg, ↓reduceIte, ↓z_letE, ↓z_bdE, nn_l2, nn_add, nn_mul, nn_sub, nn_addM, nn_div, nn_rem, nn_min, nn_max, nn_abs, nn_ltT, nn_ltF, nn_leT, nn_leF, nn_eqT, nn_eqF, nn_eqM, nn_Meq, nn_ltM, nn_Mlt, nn_leM, nn_Mle, z_ix_nn, z_inb_nn, F_at_nn, F_put_nn, Nat.zero_add, Nat.add_zero, z_P_some, z_R_some, z_P_bd]
    exact h3
  · obtain ⟨x, y, h1, h2, h3⟩ := rain_R (N := N) (t := 3) (by omega) hpe hT' g20
    simp (disch := omega) only [F_X7_tried, d16, d17, d18, o6, h1, F_X11_goes, h2, ↓reduceIte, ↓z_letE, ↓z_bdE, nn_l2, nn_add, nn_mul, nn_sub, nn_addM, nn_div, nn_rem, nn_min, nn_max, nn_abs, nn_ltT, nn_ltF, nn_leT, nn_leF, nn_eqT, nn_eqF, nn_eqM, nn_Meq, nn_ltM, nn_Mlt, nn_leM, nn_Mle, z_ix_nn, z_inb_nn, F_at_nn, F_put_nn, Nat.zero_add, Nat.add_zero, z_P_some, z_R_some, z_P_bd]
    exact h3
  · obtain ⟨ha, hb, hne⟩ := v4 rfl
    obtain ⟨x, y, h1, h2, h3⟩ := marry_R (t := 3) hpe ha hb hne hT'
    cases h1
    simp (disch := omega) only [F_X7_tried, d16, d17, d18, F_X11_goes, h2, ↓reduceIte, ↓z_letE, ↓z_bdE, nn_l2, nn_add, nn_mul, nn_sub, nn_addM, nn_div, nn_rem, nn_min, nn_max, nn_abs, nn_ltT, nn_ltF, nn_leT, nn_leF, nn_eqT, nn_eqF, nn_eqM, nn_Meq, nn_ltM, nn_Mlt, nn_leM, nn_Mle, z_ix_nn, z_inb_nn, F_at_nn, F_put_nn, Nat.zero_add, Nat.add_zero, z_P_some, z_R_some, z_P_bd]
    exact h3
  · obtain ⟨y, hy, y1, y2⟩ := hT.2.2
    have y1' : D (3 + 1) 43 = nn y := y1
    by_cases h300 : y < 300
    · have hT2 : TR pe 299 (D (3 + 1)) (G 58) := ⟨hT.1, hT.2.1, y, by omega, y1, y2⟩
      obtain ⟨x, z, h1, h2, h3, h4, h5⟩ := passes_R (N := N) (t := 3) (by omega) hpe hrv (by decide) hT2 g20 g21
      simp (disch := omega) only [F_X7_tried, d16, d17, d18, F_X7_lived, F_X9_year, y1', o6, o7, h1, F_X11_goes, y2, h2, ↓reduceIte, ↓z_letE, ↓z_bdE, nn_l2, nn_add, nn_mul, nn_sub, nn_addM, nn_div, nn_rem, nn_min, nn_max, nn_abs, nn_ltT, nn_ltF, nn_leT, nn_leF, nn_eqT, nn_eqF, nn_eqM, nn_Meq, nn_ltM, nn_Mlt, nn_leM, nn_Mle, z_ix_nn, z_inb_nn, F_at_nn, F_put_nn, Nat.zero_add, Nat.add_zero, z_P_some, z_R_some, z_P_bd]
      exact ⟨rfl, Or.inr rfl, h3, h4, h5⟩
    · have e : y = 300 := by omega
      subst e
      simp (disch := omega) only [F_X7_tried, d16, d17, d18, F_X7_lived, F_X9_year, y1', F_X11_goes, y2, ↓reduceIte, ↓z_letE, ↓z_bdE, nn_l2, nn_add, nn_mul, nn_sub, nn_addM, nn_div, nn_rem, nn_min, nn_max, nn_abs, nn_ltT, nn_ltF, nn_leT, nn_leF, nn_eqT, nn_eqF, nn_eqM, nn_Meq, nn_ltM, nn_Mlt, nn_leM, nn_Mle, z_ix_nn, z_inb_nn, F_at_nn, F_put_nn, Nat.zero_add, Nat.add_zero, z_P_some, z_R_some, z_P_bd]
      exact ⟨rfl, Or.inl rfl, hT', Fr.rf, Fr.rf⟩
