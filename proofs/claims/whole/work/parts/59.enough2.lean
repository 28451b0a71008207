/-! ===== enough ===== -/
set_option maxHeartbeats 4000000 in
theorem stock_P {N pe rv y : Nat} {s : Nat → Nat} {E' : z_Dat} (hN : 200 < N) (hpe : pe ≤ 8) (hrv : rv ≤ 20) (hy : y < 1000000) (k20 : E' 40 20 = nn pe) (k21 : E' 40 21 = nn rv) (hy0 : E' 58 59 = nn y) (hs : ∀ d, d < 3 → s d ≤ 200 ∧ E' 58 (56 + d) = nn (s d)) :
    z_P (F_X11_passes N E') (fun F => Fr 58 E' F ∧ F 58 59 = nn (y + 1) ∧ ∀ d, d < 3 → F 58 (56 + d) = nn (min 200 (s d + rv))) := by
  unfold F_X11_passes
  simp (disch := omega) only [hy0, ↓reduceIte, ↓z_letE, ↓z_bdE, nn_l2, nn_add, nn_mul, nn_sub, nn_addM, nn_div, nn_rem, nn_min, nn_max, nn_abs, nn_ltT, nn_ltF, nn_leT, nn_leF, nn_eqT, nn_eqF, nn_eqM, nn_Meq, nn_ltM, nn_Mlt, nn_leM, nn_Mle, z_ix_nn, z_inb_nn, F_at_nn, F_put_nn, Nat.zero_add, Nat.add_zero, z_P_some, z_R_some, z_P_bd]
  have hd : y % 3 < 3 := Nat.mod_lt _ (by decide)
  generalize y % 3 = d at hd
  refine z_P_loop (fun k t => ∃ p, p + k = pe ∧ t.1 = nn p ∧ Fr 58 E' t.2 ∧ ∀ j, 56 ≤ j → t.2 58 j = E' 58 j) ?_ pe N _ (by omega) ⟨0, by omega, rfl, Fr.rf, fun _ _ => rfl⟩
  rintro k ⟨v, E⟩ kc ⟨p, hk, rfl, hF, hE⟩ ih
  dsimp only at hF hE ⊢
  have e20 : E 40 20 = nn pe := by rw [hF 40 (by decide)]; exact k20
  have e21 : E 40 21 = nn rv := by rw [hF 40 (by decide)]; exact k21
  by_cases hp : p < pe
  · by_cases hz : E 58 (24 + p) = nn 0
    · by_cases h0 : E 58 (3 * p + d) ≤ nn 0
      · simp (disch := omega) only [F_X11_passes_L12, F_X11_passes_J59, hz, h0, e20, ↓reduceIte, ↓z_letE, ↓z_bdE, nn_l2, nn_add, nn_mul, nn_sub, nn_addM, nn_div, nn_rem, nn_min, nn_max, nn_abs, nn_ltT, nn_ltF, nn_leT, nn_leF, nn_eqT, nn_eqF, nn_eqM, nn_Meq, nn_ltM, nn_Mlt, nn_leM, nn_Mle, z_ix_nn, z_inb_nn, F_at_nn, F_put_nn, Nat.zero_add, Nat.add_zero, z_P_some, z_R_some, z_P_bd]
        exact ih (k - 1) _ (by omega) ⟨p + 1, by omega, rfl, by repeat (first | exact hF | refine Fr.up ?_), fun j hj => by simp (disch := omega) only [z_up_i, hE j hj]⟩
      · simp (disch := omega) only [F_X11_passes_L12, F_X11_passes_J59, hz, h0, e20, ↓reduceIte, ↓z_letE, ↓z_bdE, nn_l2, nn_add, nn_mul, nn_sub, nn_addM, nn_div, nn_rem, nn_min, nn_max, nn_abs, nn_ltT, nn_ltF, nn_leT, nn_leF, nn_eqT, nn_eqF, nn_eqM, nn_Meq, nn_ltM, nn_Mlt, nn_leM, nn_Mle, z_ix_nn, z_inb_nn, F_at_nn, F_put_nn, Nat.zero_add, Nat.add_zero, z_P_some, z_R_some, z_P_bd]
        exact ih (k - 1) _ (by omega) ⟨p + 1, by omega, rfl, by repeat (first | exact hF | refine Fr.up ?_), fun j hj => by simp (disch := omega) only [z_up_i, hE j hj]⟩
    · simp (disch := omega) only [F_X11_passes_L12, F_X11_passes_J59, hz, e20, ↓reduceIte, ↓z_letE, ↓z_bdE, nn_l2, nn_add, nn_mul, nn_sub, nn_addM, nn_div, nn_rem, nn_min, nn_max, nn_abs, nn_ltT, nn_ltF, nn_leT, nn_leF, nn_eqT, nn_eqF, nn_eqM, nn_Meq, nn_ltM, nn_Mlt, nn_leM, nn_Mle, z_ix_nn, z_inb_nn, F_at_nn, F_put_nn, Nat.zero_add, Nat.add_zero, z_P_some, z_R_some, z_P_bd]
      exact ih (k - 1) _ (by omega) ⟨p + 1, by omega, rfl, by repeat (first | exact hF | refine Fr.up ?_), fun j hj => by simp (disch := omega) only [z_up_i, hE j hj]⟩
  have hpp : p = pe := by omega
  subst hpp
  clear ih
  obtain ⟨t0, x0⟩ := hs 0 (by decide)
  obtain ⟨t1, x1⟩ := hs 1 (by decide)
  obtain ⟨t2, x2⟩ := hs 2 (by decide)
  have x0' : E 58 56 = nn (s 0) := by rw [hE 56 (by decide)]; exact x0
  have x1' : E 58 57 = nn (s 1) := by rw [hE 57 (by decide)]; exact x1
  have x2' : E 58 58 = nn (s 2) := by rw [hE 58 (by decide)]; exact x2
  have y0' : E 58 59 = nn y := by rw [hE 59 (by decide)]; exact hy0
  by_cases q0 : s 0 + rv ≤ 200 <;> by_cases q1 : s 1 + rv ≤ 200 <;> by_cases q2 : s 2 + rv ≤ 200
  all_goals
    simp (disch := omega) only [F_X11_passes_L12, F_X11_passes_J90, F_X11_passes_J90x, F_X11_passes_J90xx, F_X11_passes_J90xxx, F_X11_passes_J143, F_X11_passes_J143x, F_X11_passes_J143xx, F_X11_passes_J143xxx, F_X11_passes_J143xxxx, F_X11_passes_J143xxxxx, e20, e21, x0', x1', x2', y0', z_up_at, z_up_i, z_up_r, ↓reduceIte, ↓z_letE, ↓z_bdE, nn_l2, nn_add, nn_mul, nn_sub, nn_addM, nn_div, nn_rem, nn_min, nn_max, nn_abs, nn_ltT, nn_ltF, nn_leT, nn_leF, nn_eqT, nn_eqF, nn_eqM, nn_Meq, nn_ltM, nn_Mlt, nn_leM, nn_Mle, z_ix_nn, z_inb_nn, F_at_nn, F_put_nn, Nat.zero_add, Nat.add_zero, z_P_some, z_R_some, z_P_bd]
    refine ⟨by repeat (first | exact hF | refine Fr.up ?_), trivial, fun d hd => ?_⟩
    have h3 : d = 0 ∨ d = 1 ∨ d = 2 := by omega
    rcases h3 with rfl | rfl | rfl <;> simp (disch := omega) only [Nat.reduceAdd, z_up_at, z_up_i] <;> congr 1 <;> omega
set_option maxHeartbeats 4000000 in
theorem T_enough {N o n : Nat} {a : Int32} {D : z_Dat} (hN : 200 < N) (hJ : J o n D) : TOP (F_L_enough N o a D) (F_X11_enough N a) (J o n) := by
  obtain ⟨ho, ns, pe, rv, hB⟩ := id hJ
  obtain ⟨hC, hT, -⟩ := id hB
  obtain ⟨⟨hns, hpe, hrv⟩, ⟨c5, c6, c7⟩, ⟨k19, k20, k21⟩, hV, hH⟩ := id hC
  have e2 : z_shl (nn 1) (nn ns) = nn (2 ^ ns) := shl_e ns (by omega)
  have hpow : 2 ^ ns ≤ 64 := Nat.le_trans (Nat.pow_le_pow_right (by decide) hns) (by decide)
  rcases lt_or (m := 2 ^ ns) (by omega) a with ⟨st, hst, rfl⟩ | hout
  · refine TOP_r hJ rfl (fun G hK => ?_)
    have g19 : G 40 19 = nn ns := by rw [hK.2.1 19 (by unfold KK; omega)]; exact k19
    simp (disch := omega) only [F_X10_enough, F_X11_enough, F_X11_enough_J25x, c5, g19, e2, dem_ok, dem_no, demT_ok, demT_no, z_bt_l, z_bt_r, z_try_l, z_try_r, nl_I, nl_N, nl_IN, nl_NI, may_okU, may_noU, z_up_at, z_up_i, z_up_r, ↓reduceIte, ↓z_letE, ↓z_bdE, nn_l2, nn_add, nn_mul, nn_sub, nn_addM, nn_div, nn_rem, nn_min, nn_max, nn_abs, nn_ltT, nn_ltF, nn_leT, nn_leF, nn_eqT, nn_eqF, nn_eqM, nn_Meq, nn_ltM, nn_Mlt, nn_leM, nn_Mle, z_ix_nn, z_inb_nn, F_at_nn, F_put_nn, Nat.zero_add, Nat.add_zero, z_P_some, z_R_some, z_P_bd]
    refine z_R_take hN hB hK (fun G2 hA => ?_)
    obtain ⟨A1, A2, A3, A4, A5, A6⟩ := hA
    obtain ⟨vt, hvt⟩ := CR_vt A1
    have hT3 : ∀ d : Nat, ∃ s : Nat, d < 3 → s ≤ 200 ∧ D 4 (40 + d) = nn s ∧ G2 58 (56 + d) = nn s := fun d => by
      by_cases hd : d < 3
      · obtain ⟨s, h1, h2⟩ := A2.2.1 d hd
        exact ⟨s, fun _ => ⟨h1, h2⟩⟩
      · exact ⟨0, fun h => absurd h hd⟩
    obtain ⟨s, hs⟩ := Classical.axiomOfChoice hT3
    obtain ⟨y0, hy0, -, hy2⟩ := A2.2.2
    obtain ⟨-, -, ⟨m19, m20, m21⟩, -, -⟩ := id A1
    have hstk : ∀ d, d < 3 → s d ≤ 200 := fun d hd => (hs d hd).1
    refine z_R_loop (fun k t t' => ∃ y, y + k = 101 ∧ t = nn y ∧ t'.1 = nn y ∧ Fr 58 G2 t'.2 ∧ t'.2 58 59 = nn (y0 + y) ∧ ∀ d, d < 3 → t'.2 58 (56 + d) = nn (min 200 (s d + y * rv))) ?_ 101 N N _ _ (by omega) (by omega) ⟨0, by omega, rfl, rfl, Fr.rf, hy2, fun d hd => by
      obtain ⟨h1, h2, h3⟩ := hs d hd
      show G2 58 (56 + d) = _
      rw [h3]; congr 1; omega⟩
    rintro k v ⟨v', E⟩ kc kc' ⟨y, hk, rfl, rfl, hF, hY, hS⟩ ih
    dsimp only at hF hY hS ⊢
    have e19 : E 40 19 = nn ns := by rw [hF 40 (by decide)]; exact m19
    have e20 : E 40 20 = nn pe := by rw [hF 40 (by decide)]; exact m20
    have e21 : E 40 21 = nn rv := by rw [hF 40 (by decide)]; exact m21
    have e0 : E 40 0 = nn 0 := by rw [hF 40 (by decide)]; exact A4
    have e67 : E 67 = G 67 := by rw [hF 67 (by decide)]; exact A5
    have eK : KA G E := A6.tr (KA.fr hF (by unfold SC; omega))
    by_cases hy : y ≤ 100
    rotate_left
    · simp (disch := omega) only [F_X10_enough_L28xx, F_X11_enough_L41x, ↓reduceIte, ↓z_letE, ↓z_bdE, nn_l2, nn_add, nn_mul, nn_sub, nn_addM, nn_div, nn_rem, nn_min, nn_max, nn_abs, nn_ltT, nn_ltF, nn_leT, nn_leF, nn_eqT, nn_eqF, nn_eqM, nn_Meq, nn_ltM, nn_Mlt, nn_leM, nn_Mle, z_ix_nn, z_inb_nn, F_at_nn, F_put_nn, Nat.zero_add, Nat.add_zero, z_P_some, z_R_some, z_P_bd]
      exact ⟨_, _, rfl, KA.rf, rfl, e0, e67, eK⟩
    have h47 : ∀ b, b < ns → vt b < 1000 ∧ (E 47 (4 * b) = nn (vt b / 100) ∧ E 47 (4 * b + 1) = nn (vt b / 10 % 10) ∧ E 47 (4 * b + 2) = nn (vt b % 10)) := fun b hb => by
      rw [hF 47 (by decide)]
      exact ⟨(hvt b hb).1, (hvt b hb).2.2⟩
    have hyr : y * rv ≤ 2000 := Nat.le_trans (Nat.mul_le_mul hy hrv) (by decide)
    have hsum : ∀ d, sumS (ub st) (fun b => dg (vt b) d) ns ≤ 54 := fun d => by
      have h1 := sumS_le (u := ub st) (w := fun b => dg (vt b) d) (c := 9) (n := ns) (fun p hp => dg_le (hvt p hp).1) ns (Nat.le_refl _)
      have h2 := cntS_le (ub st) ns
      omega
    have hA3 : ∀ d, d < 3 → s d ≤ 200 ∧ D (3 + 1) (40 + d) = nn (s d) := fun d hd => ⟨(hs d hd).1, (hs d hd).2.1⟩
    obtain ⟨r, hr, hr2⟩ := suff_P (y := y) (st := st) hN hns (by omega) hy hrv c5 c7 (fun b hb => ⟨(hvt b hb).1, (hvt b hb).2.1⟩) hA3
    obtain ⟨n0, w0, rfl⟩ := need_P (N := N) (st := st) (d := 0) hN hns (by decide) (by omega) e19 h47
    obtain ⟨n1, w1, rfl⟩ := need_P (N := N) (st := st) (d := 1) hN hns (by decide) (by omega) e19 h47
    obtain ⟨n2, w2, rfl⟩ := need_P (N := N) (st := st) (d := 2) hN hns (by decide) (by omega) e19 h47
    have l0 := hsum 0
    have l1 := hsum 1
    have l2 := hsum 2
    have z0 : E 58 56 = nn (min 200 (s 0 + y * rv)) := hS 0 (by decide)
    have z1 : E 58 57 = nn (min 200 (s 1 + y * rv)) := hS 1 (by decide)
    have z2 : E 58 58 = nn (min 200 (s 2 + y * rv)) := hS 2 (by decide)
    unfold sfc at hr2
    have next : z_R (kc (nn (y + 1))) (z_bd (F_X11_passes N E) (fun a => kc' (nn (y + 1), a))) (RQ D G) := by
      rw [z_R_r]
      refine z_P_mono (stock_P (y := y0 + y) (s := fun d => min 200 (s d + y * rv)) hN hpe hrv (by omega) e20 e21 hY (fun d hd => ⟨Nat.min_le_left _ _, hS d hd⟩)) (fun F hF2 => ?_)
      obtain ⟨f1, f2, f3⟩ := hF2
      refine ih (k - 1) _ _ (by omega) ⟨y + 1, by omega, rfl, rfl, fun r hr => (f1 r hr).trans (hF r hr), f2, fun d hd => ?_⟩
      show F 58 (56 + d) = _
      rw [f3 d hd]
      congr 1
      rw [Nat.add_mul]
      omega
    by_cases q0 : sumS (ub st) (fun b => dg (vt b) 0) ns ≤ min 200 (s 0 + y * rv)
    rotate_left
    · rcases hr2 with ⟨rfl, hr3⟩ | ⟨rfl, -⟩
      · exact absurd (hr3 0 (by decide)) q0
      · simp (disch := omega) only [F_X10_enough_L28xx, F_X11_enough_L41x, hr, w0, z0, ↓reduceIte, ↓z_letE, ↓z_bdE, nn_l2, nn_add, nn_mul, nn_sub, nn_addM, nn_div, nn_rem, nn_min, nn_max, nn_abs, nn_ltT, nn_ltF, nn_leT, nn_leF, nn_eqT, nn_eqF, nn_eqM, nn_Meq, nn_ltM, nn_Mlt, nn_leM, nn_Mle, z_ix_nn, z_inb_nn, F_at_nn, F_put_nn, Nat.zero_add, Nat.add_zero, z_P_some, z_R_some, z_P_bd]
        exact next
    by_cases q1 : sumS (ub st) (fun b => dg (vt b) 1) ns ≤ min 200 (s 1 + y * rv)
    rotate_left
    · rcases hr2 with ⟨rfl, hr3⟩ | ⟨rfl, -⟩
      · exact absurd (hr3 1 (by decide)) q1
      · simp (disch := omega) only [F_X10_enough_L28xx, F_X11_enough_L41x, hr, w0, z0, w1, z1, ↓reduceIte, ↓z_letE, ↓z_bdE, nn_l2, nn_add, nn_mul, nn_sub, nn_addM, nn_div, nn_rem, nn_min, nn_max, nn_abs, nn_ltT, nn_ltF, nn_leT, nn_leF, nn_eqT, nn_eqF, nn_eqM, nn_Meq, nn_ltM, nn_Mlt, nn_leM, nn_Mle, z_ix_nn, z_inb_nn, F_at_nn, F_put_nn, Nat.zero_add, Nat.add_zero, z_P_some, z_R_some, z_P_bd]
        exact next
    by_cases q2 : sumS (ub st) (fun b => dg (vt b) 2) ns ≤ min 200 (s 2 + y * rv)
    rotate_left
    · rcases hr2 with ⟨rfl, hr3⟩ | ⟨rfl, -⟩
      · exact absurd (hr3 2 (by decide)) q2
      · simp (disch := omega) only [F_X10_enough_L28xx, F_X11_enough_L41x, hr, w0, z0, w1, z1, w2, z2, ↓reduceIte, ↓z_letE, ↓z_bdE, nn_l2, nn_add, nn_mul, nn_sub, nn_addM, nn_div, nn_rem, nn_min, nn_max, nn_abs, nn_ltT, nn_ltF, nn_leT, nn_leF, nn_eqT, nn_eqF, nn_eqM, nn_Meq, nn_ltM, nn_Mlt, nn_leM, nn_Mle, z_ix_nn, z_inb_nn, F_at_nn, F_put_nn, Nat.zero_add, Nat.add_zero, z_P_some, z_R_some, z_P_bd]
        exact next
    rcases hr2 with ⟨rfl, -⟩ | ⟨rfl, hr3⟩
    · simp (disch := omega) only [F_X10_enough_L28xx, F_X11_enough_L41x, hr, w0, z0, w1, z1, w2, z2, ↓reduceIte, ↓z_letE, ↓z_bdE, nn_l2, nn_add, nn_mul, nn_sub, nn_addM, nn_div, nn_rem, nn_min, nn_max, nn_abs, nn_ltT, nn_ltF, nn_leT, nn_leF, nn_eqT, nn_eqF, nn_eqM, nn_Meq, nn_ltM, nn_Mlt, nn_leM, nn_Mle, z_ix_nn, z_inb_nn, F_at_nn, F_put_nn, Nat.zero_add, Nat.add_zero, z_P_some, z_R_some, z_P_bd]
      exact ⟨_, _, rfl, KA.rf, rfl, e0, e67, eK⟩
    · exact absurd (fun d hd => by
        have h3 : d = 0 ∨ d = 1 ∨ d = 2 := by omega
        rcases h3 with rfl | rfl | rfl
        · exact q0
        · exact q1
        · exact q2) hr3
  · refine TOP_t (c := 1) (k := 1) hJ (by decide) (by decide) (by decide) ?_ (fun G hG => ?_)
    · rcases hout with h | h
      · simp (disch := omega) only [F_L_enough, F_X10_enough, h, dem_ok, dem_no, demT_ok, demT_no, z_bt_l, z_bt_r, z_try_l, z_try_r, nl_I, nl_N, nl_IN, nl_NI, may_okU, may_noU, z_up_at, z_up_i, z_up_r, ↓reduceIte, ↓z_letE, ↓z_bdE, nn_l2, nn_add, nn_mul, nn_sub, nn_addM, nn_div, nn_rem, nn_min, nn_max, nn_abs, nn_ltT, nn_ltF, nn_leT, nn_leF, nn_eqT, nn_eqF, nn_eqM, nn_Meq, nn_ltM, nn_Mlt, nn_leM, nn_Mle, z_ix_nn, z_inb_nn, F_at_nn, F_put_nn, Nat.zero_add, Nat.add_zero, z_P_some, z_R_some, z_P_bd]
      · simp (disch := omega) only [F_L_enough, F_X10_enough, c5, e2, h.1, h.2, dem_ok, dem_no, demT_ok, demT_no, z_bt_l, z_bt_r, z_try_l, z_try_r, nl_I, nl_N, nl_IN, nl_NI, may_okU, may_noU, z_up_at, z_up_i, z_up_r, ↓reduceIte, ↓z_letE, ↓z_bdE, nn_l2, nn_add, nn_mul, nn_sub, nn_addM, nn_div, nn_rem, nn_min, nn_max, nn_abs, nn_ltT, nn_ltF, nn_leT, nn_leF, nn_eqT, nn_eqF, nn_eqM, nn_Meq, nn_ltM, nn_Mlt, nn_leM, nn_Mle, z_ix_nn, z_inb_nn, F_at_nn, F_put_nn, Nat.zero_add, Nat.add_zero, z_P_some, z_R_some, z_P_bd]
    · have g19 : G 40 19 = nn ns := by rw [hG 40 (by decide)]; exact k19
      rcases hout with h | h
      · simp (disch := omega) only [F_X11_enough, F_X11_enough_J24, F_X11_enough_J25, h, dem_ok, dem_no, demT_ok, demT_no, z_bt_l, z_bt_r, z_try_l, z_try_r, nl_I, nl_N, nl_IN, nl_NI, may_okU, may_noU, z_up_at, z_up_i, z_up_r, ↓reduceIte, ↓z_letE, ↓z_bdE, nn_l2, nn_add, nn_mul, nn_sub, nn_addM, nn_div, nn_rem, nn_min, nn_max, nn_abs, nn_ltT, nn_ltF, nn_leT, nn_leF, nn_eqT, nn_eqF, nn_eqM, nn_Meq, nn_ltM, nn_Mlt, nn_leM, nn_Mle, z_ix_nn, z_inb_nn, F_at_nn, F_put_nn, Nat.zero_add, Nat.add_zero, z_P_some, z_R_some, z_P_bd]
      · simp (disch := omega) only [F_X11_enough, F_X11_enough_J24, F_X11_enough_J25, g19, e2, h.1, h.2, dem_ok, dem_no, demT_ok, demT_no, z_bt_l, z_bt_r, z_try_l, z_try_r, nl_I, nl_N, nl_IN, nl_NI, may_okU, may_noU, z_up_at, z_up_i, z_up_r, ↓reduceIte, ↓z_letE, ↓z_bdE, nn_l2, nn_add, nn_mul, nn_sub, nn_addM, nn_div, nn_rem, nn_min, nn_max, nn_abs, nn_ltT, nn_ltF, nn_leT, nn_leF, nn_eqT, nn_eqF, nn_eqM, nn_Meq, nn_ltM, nn_Mlt, nn_leM, nn_Mle, z_ix_nn, z_inb_nn, F_at_nn, F_put_nn, Nat.zero_add, Nat.add_zero, z_P_some, z_R_some, z_P_bd]
