/-! ===== who is to marry whom: two who may ===== -/
def okm (h m : Nat → Int32) (sh : Nat → Nat) (a b : Nat) : Bool := decide (ap (sh a) (sh b) ≤ 6) && (decide (h a ≠ h b) && (decide (m a = -nn 1) && decide (m b = -nn 1)))
theorem okm_t {h m : Nat → Int32} {sh : Nat → Nat} {a b : Nat} : okm h m sh a b = true ↔ (ap (sh a) (sh b) ≤ 6 ∧ h a ≠ h b ∧ m a = -nn 1 ∧ m b = -nn 1) := by
  unfold okm
  simp only [Bool.and_eq_true, decide_eq_true_eq]
theorem gain_e {o ns pe rv a b : Nat} {D E G2 : z_Dat} {sh : Nat → Nat} (hC : CR o ns pe rv D G2) (hpe : pe ≤ 8) (ha : a < pe) (hb : b < pe) (e4 : E 4 = D 4) (eh : E (o + 3) = D (o + 3)) (hT : TR pe 300 (D 4) (G2 58)) (hsh : ∀ p, p < pe → sh p < 1000 ∧ D 4 (p * 5) = nn (sh p)) :
    F_X2_gainOf o 3 (nn a) (nn b) E = nn (if okm (fun p => G2 48 p) (fun p => G2 58 (32 + p)) sh a b then 100 - ap (sh a) (sh b) else 0) := by
  obtain ⟨s1, s2⟩ := hsh a ha
  obtain ⟨t1, t2⟩ := hsh b hb
  obtain ⟨n1, -, -, -, -, -, w1, -⟩ := hT.1 a ha
  obtain ⟨n2, -, -, -, -, -, w2, -⟩ := hT.1 b hb
  have h1 := hC.2.2.2.2 a ha
  have h2 := hC.2.2.2.2 b hb
  have x1 : F_X9_has 3 (nn a) (nn 0) E = nn (sh a) := by simp (disch := omega) only [F_X9_has, e4, s2, ↓reduceIte, ↓z_letE, ↓z_bdE, nn_l2, nn_add, nn_mul, nn_sub, nn_addM, nn_div, nn_rem, nn_min, nn_max, nn_abs, nn_ltT, nn_ltF, nn_leT, nn_leF, nn_eqT, nn_eqF, nn_eqM, nn_Meq, nn_ltM, nn_Mlt, nn_leM, nn_Mle, z_ix_nn, z_inb_nn, F_at_nn, F_put_nn, Nat.zero_add, Nat.add_zero, z_P_some, z_R_some, z_P_bd]
  have x2 : F_X9_has 3 (nn b) (nn 0) E = nn (sh b) := by simp (disch := omega) only [F_X9_has, e4, t2, ↓reduceIte, ↓z_letE, ↓z_bdE, nn_l2, nn_add, nn_mul, nn_sub, nn_addM, nn_div, nn_rem, nn_min, nn_max, nn_abs, nn_ltT, nn_ltF, nn_leT, nn_leF, nn_eqT, nn_eqF, nn_eqM, nn_Meq, nn_ltM, nn_Mlt, nn_leM, nn_Mle, z_ix_nn, z_inb_nn, F_at_nn, F_put_nn, Nat.zero_add, Nat.add_zero, z_P_some, z_R_some, z_P_bd]
  have x3 : F_X9_has 3 (nn a) (nn 3) E = G2 58 (32 + a) := by simp (disch := omega) only [F_X9_has, e4, ↓reduceIte, ↓z_letE, ↓z_bdE, nn_l2, nn_add, nn_mul, nn_sub, nn_addM, nn_div, nn_rem, nn_min, nn_max, nn_abs, nn_ltT, nn_ltF, nn_leT, nn_leF, nn_eqT, nn_eqF, nn_eqM, nn_Meq, nn_ltM, nn_Mlt, nn_leM, nn_Mle, z_ix_nn, z_inb_nn, F_at_nn, F_put_nn, Nat.zero_add, Nat.add_zero, z_P_some, z_R_some, z_P_bd]; exact w1
  have x4 : F_X9_has 3 (nn b) (nn 3) E = G2 58 (32 + b) := by simp (disch := omega) only [F_X9_has, e4, ↓reduceIte, ↓z_letE, ↓z_bdE, nn_l2, nn_add, nn_mul, nn_sub, nn_addM, nn_div, nn_rem, nn_min, nn_max, nn_abs, nn_ltT, nn_ltF, nn_leT, nn_leF, nn_eqT, nn_eqF, nn_eqM, nn_Meq, nn_ltM, nn_Mlt, nn_leM, nn_Mle, z_ix_nn, z_inb_nn, F_at_nn, F_put_nn, Nat.zero_add, Nat.add_zero, z_P_some, z_R_some, z_P_bd]; exact w2
  have x5 : F_X1_homeOf o (nn a) E = G2 48 a := by simp (disch := omega) only [F_X1_homeOf, eh, h1, ↓reduceIte, ↓z_letE, ↓z_bdE, nn_l2, nn_add, nn_mul, nn_sub, nn_addM, nn_div, nn_rem, nn_min, nn_max, nn_abs, nn_ltT, nn_ltF, nn_leT, nn_leF, nn_eqT, nn_eqF, nn_eqM, nn_Meq, nn_ltM, nn_Mlt, nn_leM, nn_Mle, z_ix_nn, z_inb_nn, F_at_nn, F_put_nn, Nat.zero_add, Nat.add_zero, z_P_some, z_R_some, z_P_bd]
  have x6 : F_X1_homeOf o (nn b) E = G2 48 b := by simp (disch := omega) only [F_X1_homeOf, eh, h2, ↓reduceIte, ↓z_letE, ↓z_bdE, nn_l2, nn_add, nn_mul, nn_sub, nn_addM, nn_div, nn_rem, nn_min, nn_max, nn_abs, nn_ltT, nn_ltF, nn_leT, nn_leF, nn_eqT, nn_eqF, nn_eqM, nn_Meq, nn_ltM, nn_Mlt, nn_leM, nn_Mle, z_ix_nn, z_inb_nn, F_at_nn, F_put_nn, Nat.zero_add, Nat.add_zero, z_P_some, z_R_some, z_P_bd]
  have hap := ap_le s1 t1
  have hk := @okm_t (fun p => G2 48 p) (fun p => G2 58 (32 + p)) sh a b
  by_cases l1 : ap (sh a) (sh b) ≤ 6
  · by_cases l2 : G2 48 a = G2 48 b
    · rw [if_neg (fun h => (hk.mp h).2.1 l2)]
      simp (disch := omega) only [F_X2_gainOf, F_X2_gainOf_J61, F_X2_gainOf_J62, x1, x2, x5, x6, l2, apart_10, ↓reduceIte, ↓z_letE, ↓z_bdE, nn_l2, nn_add, nn_mul, nn_sub, nn_addM, nn_div, nn_rem, nn_min, nn_max, nn_abs, nn_ltT, nn_ltF, nn_leT, nn_leF, nn_eqT, nn_eqF, nn_eqM, nn_Meq, nn_ltM, nn_Mlt, nn_leM, nn_Mle, z_ix_nn, z_inb_nn, F_at_nn, F_put_nn, Nat.zero_add, Nat.add_zero, z_P_some, z_R_some, z_P_bd]
    · by_cases l3 : G2 58 (32 + a) = -nn 1
      · by_cases l4 : G2 58 (32 + b) = -nn 1
        · rw [if_pos (hk.mpr ⟨l1, l2, l3, l4⟩)]
          simp (disch := omega) only [F_X2_gainOf, F_X2_gainOf_J62x, x1, x2, x3, x4, x5, x6, l2, l3, l4, apart_10, ↓reduceIte, ↓z_letE, ↓z_bdE, nn_l2, nn_add, nn_mul, nn_sub, nn_addM, nn_div, nn_rem, nn_min, nn_max, nn_abs, nn_ltT, nn_ltF, nn_leT, nn_leF, nn_eqT, nn_eqF, nn_eqM, nn_Meq, nn_ltM, nn_Mlt, nn_leM, nn_Mle, z_ix_nn, z_inb_nn, F_at_nn, F_put_nn, Nat.zero_add, Nat.add_zero, z_P_some, z_R_some, z_P_bd]
        · rw [if_neg (fun h => l4 (hk.mp h).2.2.2)]
          simp (disch := omega) only [F_X2_gainOf, F_X2_gainOf_J61, F_X2_gainOf_J62, x1, x2, x3, x4, x5, x6, l2, l3, l4, apart_10, ↓reduceIte, ↓z_letE, ↓z_bdE, nn_l2, nn_add, nn_mul, nn_sub, nn_addM, nn_div, nn_rem, nn_min, nn_max, nn_abs, nn_ltT, nn_ltF, nn_leT, nn_leF, nn_eqT, nn_eqF, nn_eqM, nn_Meq, nn_ltM, nn_Mlt, nn_leM, nn_Mle, z_ix_nn, z_inb_nn, F_at_nn, F_put_nn, Nat.zero_add, Nat.add_zero, z_P_some, z_R_some, z_P_bd]
      · rw [if_neg (fun h => l3 (hk.mp h).2.2.1)]
        simp (disch := omega) only [F_X2_gainOf, F_X2_gainOf_J61, F_X2_gainOf_J62, x1, x2, x3, x5, x6, l2, l3, apart_10, ↓reduceIte, ↓z_letE, ↓z_bdE, nn_l2, nn_add, nn_mul, nn_sub, nn_addM, nn_div, nn_rem, nn_min, nn_max, nn_abs, nn_ltT, nn_ltF, nn_leT, nn_leF, nn_eqT, nn_eqF, nn_eqM, nn_Meq, nn_ltM, nn_Mlt, nn_leM, nn_Mle, z_ix_nn, z_inb_nn, F_at_nn, F_put_nn, Nat.zero_add, Nat.add_zero, z_P_some, z_R_some, z_P_bd]
  · rw [if_neg (fun h => l1 (hk.mp h).1)]
    simp (disch := omega) only [F_X2_gainOf, F_X2_gainOf_J61, F_X2_gainOf_J62, x1, x2, apart_10, ↓reduceIte, ↓z_letE, ↓z_bdE, nn_l2, nn_add, nn_mul, nn_sub, nn_addM, nn_div, nn_rem, nn_min, nn_max, nn_abs, nn_ltT, nn_ltF, nn_leT, nn_leF, nn_eqT, nn_eqF, nn_eqM, nn_Meq, nn_ltM, nn_Mlt, nn_leM, nn_Mle, z_ix_nn, z_inb_nn, F_at_nn, F_put_nn, Nat.zero_add, Nat.add_zero, z_P_some, z_R_some, z_P_bd]
theorem may_m {pe a b : Nat} {D G2 E' : z_Dat} {sh : Nat → Nat} (hpe : pe ≤ 8) (ha : a < pe) (hb : b < pe) (e48 : E' 48 = G2 48) (e58 : E' 58 = G2 58) (hsh : ∀ p, p < pe → sh p < 1000 ∧ (G2 58 (3 * p) = nn (sh p / 100) ∧ G2 58 (3 * p + 1) = nn (sh p / 10 % 10) ∧ G2 58 (3 * p + 2) = nn (sh p % 10))) :
    F_X11_mayMatch (nn a) (nn b) E' = some (nn (if okm (fun p => G2 48 p) (fun p => G2 58 (32 + p)) sh a b then 1 else 0)) ∧ F_X11_worthOf (nn a) (nn b) E' = some (nn (1000 - ap (sh a) (sh b))) := by
  obtain ⟨s1, a1, a2, a3⟩ := hsh a ha
  obtain ⟨t1, b1, b2, b3⟩ := hsh b hb
  have y1 : F_X11_shadeOf (nn a) E' = some (nn (sh a)) := shadeOf_e (by omega) (by rw [e58]; exact a1) (by rw [e58]; exact a2) (by rw [e58]; exact a3)
  have y2 : F_X11_shadeOf (nn b) E' = some (nn (sh b)) := shadeOf_e (by omega) (by rw [e58]; exact b1) (by rw [e58]; exact b2) (by rw [e58]; exact b3)
  have hap := ap_le s1 t1
  have hk := @okm_t (fun p => G2 48 p) (fun p => G2 58 (32 + p)) sh a b
  refine ⟨?_, by simp (disch := omega) only [F_X11_worthOf, y1, y2, apart_11, ↓reduceIte, ↓z_letE, ↓z_bdE, nn_l2, nn_add, nn_mul, nn_sub, nn_addM, nn_div, nn_rem, nn_min, nn_max, nn_abs, nn_ltT, nn_ltF, nn_leT, nn_leF, nn_eqT, nn_eqF, nn_eqM, nn_Meq, nn_ltM, nn_Mlt, nn_leM, nn_Mle, z_ix_nn, z_inb_nn, F_at_nn, F_put_nn, Nat.zero_add, Nat.add_zero, z_P_some, z_R_some, z_P_bd]⟩
  by_cases l3 : G2 58 (32 + a) = -nn 1
  · by_cases l4 : G2 58 (32 + b) = -nn 1
    · by_cases l2 : G2 48 a = G2 48 b
      · rw [if_neg (fun h => (hk.mp h).2.1 l2)]
        simp (disch := omega) only [F_X11_mayMatch, e58, e48, l3, l4, l2, ↓reduceIte, ↓z_letE, ↓z_bdE, nn_l2, nn_add, nn_mul, nn_sub, nn_addM, nn_div, nn_rem, nn_min, nn_max, nn_abs, nn_ltT, nn_ltF, nn_leT, nn_leF, nn_eqT, nn_eqF, nn_eqM, nn_Meq, nn_ltM, nn_Mlt, nn_leM, nn_Mle, z_ix_nn, z_inb_nn, F_at_nn, F_put_nn, Nat.zero_add, Nat.add_zero, z_P_some, z_R_some, z_P_bd]
      · by_cases l1 : ap (sh a) (sh b) ≤ 6
        · rw [if_pos (hk.mpr ⟨l1, l2, l3, l4⟩)]
          simp (disch := omega) only [F_X11_mayMatch, e58, e48, l3, l4, l2, y1, y2, apart_11, ↓reduceIte, ↓z_letE, ↓z_bdE, nn_l2, nn_add, nn_mul, nn_sub, nn_addM, nn_div, nn_rem, nn_min, nn_max, nn_abs, nn_ltT, nn_ltF, nn_leT, nn_leF, nn_eqT, nn_eqF, nn_eqM, nn_Meq, nn_ltM, nn_Mlt, nn_leM, nn_Mle, z_ix_nn, z_inb_nn, F_at_nn, F_put_nn, Nat.zero_add, Nat.add_zero, z_P_some, z_R_some, z_P_bd]
        · rw [if_neg (fun h => l1 (hk.mp h).1)]
          simp (disch := omega) only [F_X11_mayMatch, e58, e48, l3, l4, l2, y1, y2, apart_11, ↓reduceIte, ↓z_letE, ↓z_bdE, nn_l2, nn_add, nn_mul, nn_sub, nn_addM, nn_div, nn_rem, nn_min, nn_max, nn_abs, nn_ltT, nn_ltF, nn_leT, nn_leF, nn_eqT, nn_eqF, nn_eqM, nn_Meq, nn_ltM, nn_Mlt, nn_leM, nn_Mle, z_ix_nn, z_inb_nn, F_at_nn, F_put_nn, Nat.zero_add, Nat.add_zero, z_P_some, z_R_some, z_P_bd]
    · rw [if_neg (fun h => l4 (hk.mp h).2.2.2)]
      simp (disch := omega) only [F_X11_mayMatch, e58, e48, l3, l4, ↓reduceIte, ↓z_letE, ↓z_bdE, nn_l2, nn_add, nn_mul, nn_sub, nn_addM, nn_div, nn_rem, nn_min, nn_max, nn_abs, nn_ltT, nn_ltF, nn_leT, nn_leF, nn_eqT, nn_eqF, nn_eqM, nn_Meq, nn_ltM, nn_Mlt, nn_leM, nn_Mle, z_ix_nn, z_inb_nn, F_at_nn, F_put_nn, Nat.zero_add, Nat.add_zero, z_P_some, z_R_some, z_P_bd]
  · rw [if_neg (fun h => l3 (hk.mp h).2.2.1)]
    simp (disch := omega) only [F_X11_mayMatch, e58, e48, l3, ↓reduceIte, ↓z_letE, ↓z_bdE, nn_l2, nn_add, nn_mul, nn_sub, nn_addM, nn_div, nn_rem, nn_min, nn_max, nn_abs, nn_ltT, nn_ltF, nn_leT, nn_leF, nn_eqT, nn_eqF, nn_eqM, nn_Meq, nn_ltM, nn_Mlt, nn_leM, nn_Mle, z_ix_nn, z_inb_nn, F_at_nn, F_put_nn, Nat.zero_add, Nat.add_zero, z_P_some, z_R_some, z_P_bd]
