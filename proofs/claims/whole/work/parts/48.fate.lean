/-! ===== ages by a seed, on both sides ===== -/
theorem draw_e {m : Nat} {E : z_Dat} (hm : 0 < m) (hm2 : m < 1000) : F_X3_draw (nn m) E = some (nn (dv (E 32 0 * nn 1103515245 + nn 12345) % m), z_up E 32 0 (E 32 0 * nn 1103515245 + nn 12345)) := by
  have h := dv_lt (E 32 0 * nn 1103515245 + nn 12345)
  simp (disch := omega) only [F_X3_draw, z_up_at, ushr_v, ↓reduceIte, ↓z_letE, ↓z_bdE, nn_l2, nn_add, nn_mul, nn_sub, nn_addM, nn_div, nn_rem, nn_min, nn_max, nn_abs, nn_ltT, nn_ltF, nn_leT, nn_leF, nn_eqT, nn_eqF, nn_eqM, nn_Meq, nn_ltM, nn_Mlt, nn_leM, nn_Mle, z_ix_nn, z_inb_nn, F_at_nn, F_put_nn, Nat.zero_add, Nat.add_zero, z_P_some, z_R_some, z_P_bd]
theorem draws_e {m : Nat} {E : z_Dat} (hm : 0 < m) (hm2 : m < 1000) : F_X11_draws (nn m) E = some (nn (dv (E 40 50 * nn 1103515245 + nn 12345) % m), z_up E 40 50 (E 40 50 * nn 1103515245 + nn 12345)) := by
  have h := dv_lt (E 40 50 * nn 1103515245 + nn 12345)
  simp (disch := omega) only [F_X11_draws, z_up_at, shr_v, ↓reduceIte, ↓z_letE, ↓z_bdE, nn_l2, nn_add, nn_mul, nn_sub, nn_addM, nn_div, nn_rem, nn_min, nn_max, nn_abs, nn_ltT, nn_ltF, nn_leT, nn_leF, nn_eqT, nn_eqF, nn_eqM, nn_Meq, nn_ltM, nn_Mlt, nn_leM, nn_Mle, z_ix_nn, z_inb_nn, F_at_nn, F_put_nn, Nat.zero_add, Nat.add_zero, z_P_some, z_R_some, z_P_bd]
def LVS (o ns pe rv : Nat) (D G : z_Dat) (Y : Nat) (E E' : z_Dat) : Prop := YS o ns pe rv D G Y E E' ∧ E 32 0 = E' 40 50 ∧ E 32 1 = E' 40 51 ∧ E 32 2 = E' 40 52
theorem YS_upl {o ns pe rv Y i : Nat} {x : Int32} {D G E E' : z_Dat} (ho : o = 34 ∨ 68 ≤ o) (h : YS o ns pe rv D G Y E E') : YS o ns pe rv D G Y (z_up E 32 i x) E' := by
  have g1 : KA E (z_up E 32 i x) := KA.rf.up (Or.inl (by unfold SC; omega))
  obtain ⟨q1, q2⟩ := h.cr ho g1 KA.rf
  exact ⟨h.1.tr g1, q1, q2, by rw [z_up_ne (by decide)]; exact h.2.2.2.1, h.2.2.2.2⟩
theorem YS_upr {o ns pe rv Y i : Nat} {x : Int32} {D G E E' : z_Dat} (ho : o = 34 ∨ 68 ≤ o) (hi : 50 ≤ i ∧ i ≤ 52) (h : YS o ns pe rv D G Y E E') : YS o ns pe rv D G Y E (z_up E' 40 i x) := by
  have g1 : KA E' (z_up E' 40 i x) := KA.rf.up (Or.inr ⟨rfl, by unfold KK; omega⟩)
  obtain ⟨q1, q2⟩ := h.cr ho KA.rf g1
  exact ⟨h.1, q1, q2, by rw [z_up_ne (by decide)]; exact h.2.2.2.1, by rw [z_up_i (by omega)]; exact h.2.2.2.2.1, by rw [z_up_ne (by decide)]; exact h.2.2.2.2.2.1, h.2.2.2.2.2.2.tr g1⟩
theorem YS_t {o ns pe rv Y Y' : Nat} {D G E E' F F' : z_Dat} (ho : o = 34 ∨ 68 ≤ o) (h : YS o ns pe rv D G Y E E') (hT : TR pe Y' (F (5 + 1)) (F' 58)) (f2 : Fr (5 + 1) E F) (f3 : Fr 58 E' F') : YS o ns pe rv D G Y' F F' := by
  have g1 : KA E F := KA.fr f2 (by unfold SC; omega)
  have g2 : KA E' F' := KA.fr f3 (by unfold SC; omega)
  obtain ⟨q1, q2⟩ := h.cr ho g1 g2
  exact ⟨h.1.tr g1, q1, q2, hT, by rw [f3 40 (by decide)]; exact h.2.2.2.2.1, by rw [f3 67 (by decide)]; exact h.2.2.2.2.2.1, h.2.2.2.2.2.2.tr g2⟩
theorem LVS_pass {N o ns pe rv Y : Nat} {D G E E' : z_Dat} {α β : Type} {f : z_Dat → Option α} {g : z_Dat → Option β} {Q : α → β → Prop} (hN : 200 < N) (ho : o = 34 ∨ 68 ≤ o) (hY : Y < 1000000) (h : LVS o ns pe rv D G Y E E') (k : ∀ F F', LVS o ns pe rv D G (Y + 1) F F' → z_R (f F) (g F') Q) : z_R (z_bd (F_X9_passYear N 5 (E o 6) (E o 7) E) f) (z_bd (F_X11_passes N E') g) Q := by
  obtain ⟨hS, s0, s1, s2⟩ := h
  obtain ⟨hK, hC, hL, hT, h0, h67, hG⟩ := id hS
  obtain ⟨⟨hns, hpe, hrv⟩, ⟨c5, c6, c7⟩, ⟨k19, k20, k21⟩, hV, hH⟩ := id hC
  rw [c6, c7]
  refine z_R_bd (z_R_mono (passes_R (t := 5) (by omega) hpe hrv hY hT k20 k21) (fun F F' hF => k F F' ?_))
  obtain ⟨f1, f2, f3⟩ := hF
  exact ⟨YS_t ho hS f1 f2 f3, by rw [f2 32 (by decide), f3 40 (by decide)]; exact s0, by rw [f2 32 (by decide), f3 40 (by decide)]; exact s1, by rw [f2 32 (by decide), f3 40 (by decide)]; exact s2⟩
set_option maxHeartbeats 4000000 in
theorem live_J {N o ns pe rv Y y : Nat} {D G E E' : z_Dat} {kc : Int32 × z_Dat → Option z_Dat} {kc' : Int32 × z_Dat → Option z_Dat} {Q : z_Dat → z_Dat → Prop} (hN : 200 < N) (ho : o = 34 ∨ 68 ≤ o) (hY : Y < 1000000) (h : LVS o ns pe rv D G Y E E') (k : ∀ F F', LVS o ns pe rv D G (Y + 1) F F' → z_R (kc (nn (y + 1), F)) (kc' (nn (y + 1), F')) Q) : z_R (F_X3_live_J57 N o 5 kc (nn y) E) (F_X11_agesGo_J59 N kc' (nn y) E') Q := by
  obtain ⟨hS, s0, s1, s2⟩ := id h
  obtain ⟨hK, hC, hL, hT, h0, h67, hG⟩ := id hS
  obtain ⟨⟨hns, hpe, hrv⟩, ⟨c5, c6, c7⟩, ⟨k19, k20, k21⟩, hV, hH⟩ := id hC
  have pass : ∀ F F', LVS o ns pe rv D G Y F F' → z_R (z_bd (F_X9_passYear N 5 (F o 6) (F o 7) F) (fun a_17 => kc (nn (y + 1), a_17))) (z_bd (F_X11_passes N F') (fun a_17 => kc' (nn (y + 1), a_17))) Q := fun F F' hF => LVS_pass hN ho hY hF k
  by_cases hp : pe = 0
  · subst hp
    have p0 := pass E E' h
    simp (disch := omega) only [F_X3_live_J57, F_X3_live_J116, F_X11_agesGo_J59, c6, k20, ↓reduceIte, ↓z_letE, ↓z_bdE, nn_l2, nn_add, nn_mul, nn_sub, nn_addM, nn_div, nn_rem, nn_min, nn_max, nn_abs, nn_ltT, nn_ltF, nn_leT, nn_leF, nn_eqT, nn_eqF, nn_eqM, nn_Meq, nn_ltM, nn_Mlt, nn_leM, nn_Mle, z_ix_nn, z_inb_nn, F_at_nn, F_put_nn, Nat.zero_add, Nat.add_zero, z_P_some, z_R_some, z_P_bd]
    rw [c6] at p0
    exact p0
  · by_cases hs : ns = 0
    · subst hs
      have p0 := pass E E' h
      simp (disch := omega) only [F_X3_live_J57, F_X3_live_J116, F_X11_agesGo_J59, c5, c6, k19, k20, ↓reduceIte, ↓z_letE, ↓z_bdE, nn_l2, nn_add, nn_mul, nn_sub, nn_addM, nn_div, nn_rem, nn_min, nn_max, nn_abs, nn_ltT, nn_ltF, nn_leT, nn_leF, nn_eqT, nn_eqF, nn_eqM, nn_Meq, nn_ltM, nn_Mlt, nn_leM, nn_Mle, z_ix_nn, z_inb_nn, F_at_nn, F_put_nn, Nat.zero_add, Nat.add_zero, z_P_some, z_R_some, z_P_bd]
      rw [c6] at p0
      exact p0
    · have oo : o ≠ 32 := by omega
      obtain ⟨p, hpv⟩ : ∃ p, p = dv (E' 40 50 * nn 1103515245 + nn 12345) % pe := ⟨_, rfl⟩
      have hpl : p < pe := by rw [hpv]; exact Nat.mod_lt _ (by omega)
      obtain ⟨x, hx⟩ : ∃ x, x = E' 40 50 * nn 1103515245 + nn 12345 := ⟨_, rfl⟩
      obtain ⟨b, hbv⟩ : ∃ b, b = dv (x * nn 1103515245 + nn 12345) % ns := ⟨_, rfl⟩
      have hbl : b < ns := by rw [hbv]; exact Nat.mod_lt _ (by omega)
      have d1 : F_X3_draw (nn pe) E = some (nn p, z_up E 32 0 x) := by rw [draw_e (by omega) (by omega), s0, ← hx, hpv, ← hx]
      have d2 : F_X11_draws (nn pe) E' = some (nn p, z_up E' 40 50 x) := by rw [draws_e (by omega) (by omega), ← hx, hpv, ← hx]
      have d3 : F_X3_draw (nn ns) (z_up E 32 0 x) = some (nn b, z_up (z_up E 32 0 x) 32 0 (x * nn 1103515245 + nn 12345)) := by rw [draw_e (by omega) (by omega), z_up_at rfl rfl, hbv]
      have d4 : F_X11_draws (nn ns) (z_up E' 40 50 x) = some (nn b, z_up (z_up E' 40 50 x) 40 50 (x * nn 1103515245 + nn 12345)) := by rw [draws_e (by omega) (by omega), z_up_at rfl rfl, hbv]
      have hS2 : YS o ns pe rv D G Y (z_up (z_up E 32 0 x) 32 0 (x * nn 1103515245 + nn 12345)) (z_up (z_up E' 40 50 x) 40 50 (x * nn 1103515245 + nn 12345)) := YS_upl ho (YS_upl ho (YS_upr ho (by omega) (YS_upr ho (by omega) hS)))
      obtain ⟨F, hF⟩ : ∃ F, F = z_up (z_up E 32 0 x) 32 0 (x * nn 1103515245 + nn 12345) := ⟨_, rfl⟩
      obtain ⟨F', hF'⟩ : ∃ F', F' = z_up (z_up E' 40 50 x) 40 50 (x * nn 1103515245 + nn 12345) := ⟨_, rfl⟩
      have m0 : F 32 0 = F' 40 50 := by rw [hF, hF']; simp (disch := omega) only [z_up_at]
      have m1 : F 32 1 = F' 40 51 := by rw [hF, hF']; simp (disch := omega) only [z_up_i]; exact s1
      have m2 : F 32 2 = F' 40 52 := by rw [hF, hF']; simp (disch := omega) only [z_up_i]; exact s2
      have m3 : (z_up E' 40 50 x) 40 51 = F' 40 51 := by rw [hF']; simp (disch := omega) only [z_up_i]
      rw [← hF] at d3 hS2
      rw [← hF'] at d4 hS2
      obtain ⟨v, hv, v0, ⟨v1, v2, v3⟩, v4⟩ := hS2.2.1.2.2.2.1 b hbl
      have q5 : (z_up E 32 0 x) o 5 = nn ns := by rw [z_up_ne oo]; exact c5
      have q19 : (z_up E' 40 50 x) 40 19 = nn ns := by rw [z_up_i (by decide)]; exact k19
      simp (disch := omega) only [F_X3_live_J57, F_X11_agesGo_J59, c5, c6, k19, k20, d1, d2, q5, q19, d3, d4, F_X1_vatOf, v0, ↓reduceIte, ↓z_letE, ↓z_bdE, nn_l2, nn_add, nn_mul, nn_sub, nn_addM, nn_div, nn_rem, nn_min, nn_max, nn_abs, nn_ltT, nn_ltF, nn_leT, nn_leF, nn_eqT, nn_eqF, nn_eqM, nn_Meq, nn_ltM, nn_Mlt, nn_leM, nn_Mle, z_ix_nn, z_inb_nn, F_at_nn, F_put_nn, Nat.zero_add, Nat.add_zero, z_P_some, z_R_some, z_P_bd]
      have hd := dip_R (t := 5) hpe hpl (by omega) hv hS2.2.2.2.1 v1 v2 v3
      rw [z_R_tk] at hd
      rw [z_R_r]
      refine z_P_mono hd (fun c hc => ?_)
      obtain ⟨w1, w2, w3, w4, w5⟩ := hc
      have hS3 := YS_t ho hS2 w3 w4 w5
      obtain ⟨P, hP⟩ : ∃ P, P = F_X9_dip 5 (nn p) (nn v) F := ⟨_, rfl⟩
      rw [← hP] at w1 w2 w3 w4 hS3 ⊢
      rw [← w1]
      have n0 : P.2 32 0 = c.2 40 50 := by rw [w4 32 (by decide), w5 40 (by decide)]; exact m0
      have n1 : P.2 32 1 = F' 40 51 := by rw [w4 32 (by decide)]; exact m1
      have n2 : P.2 32 2 = c.2 40 52 := by rw [w4 32 (by decide), w5 40 (by decide)]; exact m2
      rcases w2 with w2 | w2
      · have p0 := pass P.2 (z_up c.2 40 51 (F' 40 51 + nn 0)) ⟨YS_upr ho (by omega) hS3, by rw [z_up_i (by decide)]; exact n0, by rw [z_up_at rfl rfl, n1]; exact (Int32.add_zero _).symm, by rw [z_up_i (by decide)]; exact n2⟩
        simp (disch := omega) only [w2, F_X3_live_J116, m3, ↓reduceIte, ↓z_letE, ↓z_bdE, nn_l2, nn_add, nn_mul, nn_sub, nn_addM, nn_div, nn_rem, nn_min, nn_max, nn_abs, nn_ltT, nn_ltF, nn_leT, nn_leF, nn_eqT, nn_eqF, nn_eqM, nn_Meq, nn_ltM, nn_Mlt, nn_leM, nn_Mle, z_ix_nn, z_inb_nn, F_at_nn, F_put_nn, Nat.zero_add, Nat.add_zero, z_P_some, z_R_some, z_P_bd]
        exact p0
      · have p0 := pass (z_up P.2 32 1 (P.2 32 1 + nn 1)) (z_up c.2 40 51 (F' 40 51 + nn 1)) ⟨YS_upl ho (YS_upr ho (by omega) hS3), by rw [z_up_i (by decide), z_up_i (by decide)]; exact n0, by rw [z_up_at rfl rfl, z_up_at rfl rfl, n1], by rw [z_up_i (by decide), z_up_i (by decide)]; exact n2⟩
        simp (disch := omega) only [w2, F_X3_live_J116, m3, ↓reduceIte, ↓z_letE, ↓z_bdE, nn_l2, nn_add, nn_mul, nn_sub, nn_addM, nn_div, nn_rem, nn_min, nn_max, nn_abs, nn_ltT, nn_ltF, nn_leT, nn_leF, nn_eqT, nn_eqF, nn_eqM, nn_Meq, nn_ltM, nn_Mlt, nn_leM, nn_Mle, z_ix_nn, z_inb_nn, F_at_nn, F_put_nn, Nat.zero_add, Nat.add_zero, z_P_some, z_R_some, z_P_bd]
        exact p0
