/-! ===== images ===== -/
theorem keep1_P {N r0 n0 q sz : Nat} {E : z_Dat} (hN : sz < N) (hr : r0 ≠ 66) (h0 : sz ≤ n0) (h1 : q + sz ≤ 3063) : z_P (F_X11_keepsRow N r0 n0 (nn q) (nn sz) (nn 1) E) (fun c => c.1 = nn (q + sz) ∧ Fr 66 E c.2 ∧ (∀ j, j < sz → c.2 66 (q + j) = E r0 j) ∧ ∀ j, (j < q ∨ q + sz ≤ j) → c.2 66 j = E 66 j) := by
  unfold F_X11_keepsRow
  refine z_P_loop (fun k s => ∃ i, i + k = sz ∧ s.1 = nn i ∧ Fr 66 E s.2 ∧ (∀ j, j < i → s.2 66 (q + j) = E r0 j) ∧ ∀ j, (j < q ∨ q + i ≤ j) → s.2 66 j = E 66 j) ?_ sz N _ (by omega) ⟨0, by omega, rfl, Fr.rf, fun j hj => absurd hj (by omega), fun _ _ => rfl⟩
  rintro k ⟨v, F⟩ kc ⟨i, hk, rfl, hF, hA, hB⟩ ih
  dsimp only at hF hA hB ⊢
  by_cases hi : i < sz
  · simp (disch := omega) only [F_X11_keepsRow_L3, ↓reduceIte, ↓z_letE, ↓z_bdE, nn_l2, nn_add, nn_mul, nn_sub, nn_addM, nn_div, nn_rem, nn_min, nn_max, nn_abs, nn_ltT, nn_ltF, nn_leT, nn_leF, nn_eqT, nn_eqF, nn_eqM, nn_Meq, nn_ltM, nn_Mlt, nn_leM, nn_Mle, z_ix_nn, z_inb_nn, F_at_nn, F_put_nn, Nat.zero_add, Nat.add_zero, z_P_some, z_R_some, z_P_bd]
    refine ih (k - 1) _ (by omega) ⟨i + 1, by omega, rfl, hF.up, fun j hj => ?_, fun j hj => ?_⟩
    · by_cases hj2 : j = i
      · subst hj2
        simp (disch := omega) only [z_up_at]
        rw [hF r0 hr]
      · simp (disch := omega) only [z_up_i]
        exact hA j (by omega)
    · simp (disch := omega) only [z_up_i]
      exact hB j (by omega)
  · have hii : i = sz := by omega
    subst hii
    simp (disch := omega) only [F_X11_keepsRow_L3, ↓reduceIte, ↓z_letE, ↓z_bdE, nn_l2, nn_add, nn_mul, nn_sub, nn_addM, nn_div, nn_rem, nn_min, nn_max, nn_abs, nn_ltT, nn_ltF, nn_leT, nn_leF, nn_eqT, nn_eqF, nn_eqM, nn_Meq, nn_ltM, nn_Mlt, nn_leM, nn_Mle, z_ix_nn, z_inb_nn, F_at_nn, F_put_nn, Nat.zero_add, Nat.add_zero, z_P_some, z_R_some, z_P_bd]
    first | exact ⟨trivial, hF, hA, hB⟩ | exact ⟨rfl, hF, hA, hB⟩
theorem keep0_P {N r0 n0 q sz : Nat} {E : z_Dat} (hN : sz < N) (hr : r0 ≠ 66) (h0 : sz ≤ n0) (hn : n0 < 1000000) (h1 : q + sz ≤ 3063) : z_P (F_X11_keepsRow N r0 n0 (nn q) (nn sz) (nn 0) E) (fun c => c.1 = nn (q + sz) ∧ Fr r0 E c.2 ∧ (∀ j, j < sz → c.2 r0 j = E 66 (q + j))) := by
  unfold F_X11_keepsRow
  refine z_P_loop (fun k s => ∃ i, i + k = sz ∧ s.1 = nn i ∧ Fr r0 E s.2 ∧ (∀ j, j < i → s.2 r0 j = E 66 (q + j))) ?_ sz N _ (by omega) ⟨0, by omega, rfl, Fr.rf, fun j hj => absurd hj (by omega)⟩
  rintro k ⟨v, F⟩ kc ⟨i, hk, rfl, hF, hA⟩ ih
  dsimp only at hF hA ⊢
  by_cases hi : i < sz
  · simp (disch := omega) only [F_X11_keepsRow_L3, ↓reduceIte, ↓z_letE, ↓z_bdE, nn_l2, nn_add, nn_mul, nn_sub, nn_addM, nn_div, nn_rem, nn_min, nn_max, nn_abs, nn_ltT, nn_ltF, nn_leT, nn_leF, nn_eqT, nn_eqF, nn_eqM, nn_Meq, nn_ltM, nn_Mlt, nn_leM, nn_Mle, z_ix_nn, z_inb_nn, F_at_nn, F_put_nn, Nat.zero_add, Nat.add_zero, z_P_some, z_R_some, z_P_bd]
    refine ih (k - 1) _ (by omega) ⟨i + 1, by omega, rfl, hF.up, fun j hj => ?_⟩
    by_cases hj2 : j = i
    · subst hj2
      simp (disch := omega) only [z_up_at]
      rw [hF 66 (Ne.symm hr)]
    · simp (disch := omega) only [z_up_i]
      exact hA j (by omega)
  · have hii : i = sz := by omega
    subst hii
    simp (disch := omega) only [F_X11_keepsRow_L3, ↓reduceIte, ↓z_letE, ↓z_bdE, nn_l2, nn_add, nn_mul, nn_sub, nn_addM, nn_div, nn_rem, nn_min, nn_max, nn_abs, nn_ltT, nn_ltF, nn_leT, nn_leF, nn_eqT, nn_eqF, nn_eqM, nn_Meq, nn_ltM, nn_Mlt, nn_leM, nn_Mle, z_ix_nn, z_inb_nn, F_at_nn, F_put_nn, Nat.zero_add, Nat.add_zero, z_P_some, z_R_some, z_P_bd]
    first | exact ⟨trivial, hF, hA⟩ | exact ⟨rfl, hF, hA⟩
set_option maxHeartbeats 4000000 in
theorem T_image {N o n : Nat} {D : z_Dat} (hN : 2000 < N) (hJ : J o n D) : ∃ r1 : Int32, ∃ r2 : Int32, ∃ D1 : z_Dat, ∃ D2 : z_Dat, (F_X10_image N D = some (r1, D1)) ∧ (F_X11_image N D1 = some (r2, D2)) ∧ (r1 = r2) ∧ J o n D2 := by
  obtain ⟨ho, ns, pe, rv, hB⟩ := id hJ
  obtain ⟨hC, hT, hL, hBk, ⟨w, hw, p1, p2, hP⟩, ⟨m, hm, i1, i2, hI⟩, hX, hMI⟩ := id hB
  have hoo := hJ.ho
  by_cases h3 : m = 3
  · subst h3
    refine ⟨-nn 1, -nn 1, D, z_up D 40 0 (nn 0), by simp (disch := omega) only [F_X10_image, i1, dem_ok, dem_no, demT_ok, demT_no, z_bt_l, z_bt_r, z_try_l, z_try_r, nl_I, nl_N, nl_IN, nl_NI, may_okU, may_noU, z_up_at, z_up_i, z_up_r, ↓reduceIte, ↓z_letE, ↓z_bdE, nn_l2, nn_add, nn_mul, nn_sub, nn_addM, nn_div, nn_rem, nn_min, nn_max, nn_abs, nn_ltT, nn_ltF, nn_leT, nn_leF, nn_eqT, nn_eqF, nn_eqM, nn_Meq, nn_ltM, nn_Mlt, nn_leM, nn_Mle, z_ix_nn, z_inb_nn, F_at_nn, F_put_nn, Nat.zero_add, Nat.add_zero, z_P_some, z_R_some, z_P_bd], by simp (disch := omega) only [F_X11_image, i2, dem_ok, dem_no, demT_ok, demT_no, z_bt_l, z_bt_r, z_try_l, z_try_r, nl_I, nl_N, nl_IN, nl_NI, may_okU, may_noU, z_up_at, z_up_i, z_up_r, ↓reduceIte, ↓z_letE, ↓z_bdE, nn_l2, nn_add, nn_mul, nn_sub, nn_addM, nn_div, nn_rem, nn_min, nn_max, nn_abs, nn_ltT, nn_ltF, nn_leT, nn_leF, nn_eqT, nn_eqF, nn_eqM, nn_Meq, nn_ltM, nn_Mlt, nn_leM, nn_Mle, z_ix_nn, z_inb_nn, F_at_nn, F_put_nn, Nat.zero_add, Nat.add_zero, z_P_some, z_R_some, z_P_bd], rfl, hJ.keep upK⟩
  · have hcl : z_P (F_X10_image N D) (fun a => a.1 = nn (m + 1) ∧ (∀ r, r ≠ 21 → r ≠ 23 → r ≠ 24 → a.2 r = D r) ∧ a.2 21 4 = nn (m + 1) ∧ (∀ j, j ≠ 4 → a.2 21 j = D 21 j) ∧ a.2 24 m = nn w ∧ (∀ j, j ≠ m → a.2 24 j = D 24 j) ∧ (∀ j, j < 44 → a.2 23 (748 * m + j) = D 4 j) ∧ (∀ j, j < 44 * w → a.2 23 (748 * m + 44 + j) = D 22 j) ∧ ∀ j, j < 748 * m → a.2 23 j = D 23 j) := by
      simp (disch := omega) only [F_X10_image, F_X4_keepImage, F_X9_saveTo, i1, dem_ok, dem_no, demT_ok, demT_no, z_bt_l, z_bt_r, z_try_l, z_try_r, nl_I, nl_N, nl_IN, nl_NI, may_okU, may_noU, z_up_at, z_up_i, z_up_r, ↓reduceIte, ↓z_letE, ↓z_bdE, nn_l2, nn_add, nn_mul, nn_sub, nn_addM, nn_div, nn_rem, nn_min, nn_max, nn_abs, nn_ltT, nn_ltF, nn_leT, nn_leF, nn_eqT, nn_eqF, nn_eqM, nn_Meq, nn_ltM, nn_Mlt, nn_leM, nn_Mle, z_ix_nn, z_inb_nn, F_at_nn, F_put_nn, Nat.zero_add, Nat.add_zero, z_P_some, z_R_some, z_P_bd]
      refine z_P_mono (copy_P (a := 0) (b := m * 748) (m := 44) (by decide) (by decide) (by omega) (by decide) (by decide) (by omega)) (fun E hE => ?_)
      obtain ⟨e1, e2, e3⟩ := hE
      have e21 : E 21 3 = nn w := by rw [e1 21 (by decide)]; exact p1
      have e24 : E 21 4 = nn m := by rw [e1 21 (by decide)]; exact i1
      simp (disch := omega) only [e21, ↓reduceIte, ↓z_letE, ↓z_bdE, nn_l2, nn_add, nn_mul, nn_sub, nn_addM, nn_div, nn_rem, nn_min, nn_max, nn_abs, nn_ltT, nn_ltF, nn_leT, nn_leF, nn_eqT, nn_eqF, nn_eqM, nn_Meq, nn_ltM, nn_Mlt, nn_leM, nn_Mle, z_ix_nn, z_inb_nn, F_at_nn, F_put_nn, Nat.zero_add, Nat.add_zero, z_P_some, z_R_some, z_P_bd]
      refine z_P_mono (copy_P (a := 0) (b := m * 748 + 44) (m := w * 44) (by decide) (by omega) (by omega) (by decide) (by decide) (by omega)) (fun F hF => ?_)
      obtain ⟨f1, f2, f3⟩ := hF
      have f21 : F 21 3 = nn w := by rw [f1 21 (by decide)]; exact e21
      have f24 : F 21 4 = nn m := by rw [f1 21 (by decide)]; exact e24
      simp (disch := omega) only [f21, f24, dem_ok, dem_no, demT_ok, demT_no, z_bt_l, z_bt_r, z_try_l, z_try_r, nl_I, nl_N, nl_IN, nl_NI, may_okU, may_noU, z_up_at, z_up_i, z_up_r, ↓reduceIte, ↓z_letE, ↓z_bdE, nn_l2, nn_add, nn_mul, nn_sub, nn_addM, nn_div, nn_rem, nn_min, nn_max, nn_abs, nn_ltT, nn_ltF, nn_leT, nn_leF, nn_eqT, nn_eqF, nn_eqM, nn_Meq, nn_ltM, nn_Mlt, nn_leM, nn_Mle, z_ix_nn, z_inb_nn, F_at_nn, F_put_nn, Nat.zero_add, Nat.add_zero, z_P_some, z_R_some, z_P_bd]
      refine ⟨?_, fun r h1 h2 h3 => ?_, ?_, fun j hj => ?_, ?_, fun j hj => ?_, fun j hj => ?_, fun j hj => ?_, fun j hj => ?_⟩
      · first | exact trivial | rfl
      · rw [z_up_ne h1, z_up_ne h3, f1 r h2, e1 r h2]
      · first | exact trivial | exact z_up_at rfl rfl
      · (try simp (disch := omega) only [z_up_at, z_up_i, z_up_r]); rw [f1 21 (by decide), e1 21 (by decide)]
      · first | exact trivial | exact z_up_at rfl rfl | (rw [z_up_r (by decide)]; exact z_up_at rfl rfl)
      · (try simp (disch := omega) only [z_up_at, z_up_i, z_up_r]); rw [f1 24 (by decide), e1 24 (by decide)]
      · (try simp (disch := omega) only [z_up_at, z_up_i, z_up_r]); rw [f3 _ (by omega), show 748 * m + j = m * 748 + j by omega, e2 j hj, Nat.zero_add]
      · have := f2 j (by omega)
        rw [Nat.zero_add, e1 22 (by decide)] at this
        (try simp (disch := omega) only [z_up_at, z_up_i, z_up_r]); rw [show 748 * m + 44 + j = m * 748 + 44 + j by omega]
        exact this
      · (try simp (disch := omega) only [z_up_at, z_up_i, z_up_r]); rw [f3 _ (by omega), e3 _ (by omega)]
    obtain ⟨⟨r, E⟩, m1, q1, q2, q3, q4, q5, q6, q7, q8, q9⟩ := hcl
    have q1 : r = nn (m + 1) := q1
    subst q1
    dsimp only at q2 q3 q4 q5 q6 q7 q8 q9
    have g54 : E 40 54 = nn m := by rw [q2 40 (by decide) (by decide) (by decide)]; exact i2
    have g33 : E 40 33 = nn w := by rw [q2 40 (by decide) (by decide) (by decide)]; exact p2
    have hmo : z_P (F_X11_image N E) (fun c => c.1 = nn (m + 1) ∧ (∀ r, r ≠ 40 → r ≠ 66 → c.2 r = E r) ∧ (∀ j, j ≠ 0 → j ≠ 54 → c.2 40 j = E 40 j) ∧ c.2 40 54 = nn (m + 1) ∧ (∀ j, j < 60 → c.2 66 (1021 * m + j) = E 57 j) ∧ (∀ j, j < 960 → c.2 66 (1021 * m + 60 + j) = E 59 j) ∧ c.2 66 (1021 * m + 1020) = nn w ∧ ∀ j, j < 1021 * m → c.2 66 j = E 66 j) := by
      have hne3 : ¬ nn m = nn 3 := by rw [nn_eqF h3 (by omega) (by omega)]; exact id
      simp (disch := omega) only [F_X11_image, F_X11_keepsAll, g54, hne3, dem_ok, dem_no, demT_ok, demT_no, z_bt_l, z_bt_r, z_try_l, z_try_r, nl_I, nl_N, nl_IN, nl_NI, may_okU, may_noU, z_up_at, z_up_i, z_up_r, ↓reduceIte, ↓z_letE, ↓z_bdE, nn_l2, nn_add, nn_mul, nn_sub, nn_addM, nn_div, nn_rem, nn_min, nn_max, nn_abs, nn_ltT, nn_ltF, nn_leT, nn_leF, nn_eqT, nn_eqF, nn_eqM, nn_Meq, nn_ltM, nn_Mlt, nn_leM, nn_Mle, z_ix_nn, z_inb_nn, F_at_nn, F_put_nn, Nat.zero_add, Nat.add_zero, z_P_some, z_R_some, z_P_bd]
      refine z_P_mono (keep1_P (q := 1021 * m) (sz := 60) (by omega) (by decide) (by decide) (by omega)) (fun c hc => ?_)
      obtain ⟨c1, c2, c3, c4⟩ := hc
      rw [c1]
      refine z_P_mono (keep1_P (q := 1021 * m + 60) (sz := 960) (by omega) (by decide) (by decide) (by omega)) (fun d hd => ?_)
      obtain ⟨d1, d2, d3, d4⟩ := hd
      have x33 : d.2 40 33 = nn w := by rw [d2 40 (by decide), c2 40 (by decide), z_up_i (by decide)]; exact g33
      have x54 : d.2 40 54 = nn m := by rw [d2 40 (by decide), c2 40 (by decide), z_up_i (by decide)]; exact g54
      simp (disch := omega) only [d1, x33, x54, dem_ok, dem_no, demT_ok, demT_no, z_bt_l, z_bt_r, z_try_l, z_try_r, nl_I, nl_N, nl_IN, nl_NI, may_okU, may_noU, z_up_at, z_up_i, z_up_r, ↓reduceIte, ↓z_letE, ↓z_bdE, nn_l2, nn_add, nn_mul, nn_sub, nn_addM, nn_div, nn_rem, nn_min, nn_max, nn_abs, nn_ltT, nn_ltF, nn_leT, nn_leF, nn_eqT, nn_eqF, nn_eqM, nn_Meq, nn_ltM, nn_Mlt, nn_leM, nn_Mle, z_ix_nn, z_inb_nn, F_at_nn, F_put_nn, Nat.zero_add, Nat.add_zero, z_P_some, z_R_some, z_P_bd]
      refine ⟨?_, fun r h1 h2 => ?_, fun j h1 h2 => ?_, ?_, fun j hj => ?_, fun j hj => ?_, ?_, fun j hj => ?_⟩
      · first | exact trivial | rfl
      · rw [z_up_ne h1, z_up_ne h2, d2 r h2, c2 r h2, z_up_ne h1]
      · (try simp (disch := omega) only [z_up_at, z_up_i, z_up_r]); rw [d2 40 (by decide), c2 40 (by decide), z_up_i h1]
      · first | exact trivial | exact z_up_at rfl rfl
      · (try simp (disch := omega) only [z_up_at, z_up_i, z_up_r]); rw [d4 _ (by omega), c3 j hj, z_up_r (by decide)]
      · (try simp (disch := omega) only [z_up_at, z_up_i, z_up_r]); rw [d3 j hj, c2 59 (by decide), z_up_r (by decide)]
      · first | exact trivial | (simp (disch := omega) only [z_up_at, z_up_r])
      · (try simp (disch := omega) only [z_up_at, z_up_i, z_up_r]); rw [d4 _ (by omega), c4 _ (by omega), z_up_r (by decide)]
    obtain ⟨⟨r2, D2⟩, m2, y1, y2, y3, y4, y5, y6, y7, y8⟩ := hmo
    have y1 : r2 = nn (m + 1) := y1
    subst y1
    dsimp only at y2 y3 y4 y5 y6 y7 y8
    refine ⟨nn (m + 1), nn (m + 1), E, D2, m1, m2, rfl, ho, ns, pe, rv, ?_⟩
    have fr : ∀ r, r ≠ 21 → r ≠ 23 → r ≠ 24 → r ≠ 40 → r ≠ 66 → D2 r = D r := fun r h1 h2 h3 h4 h5 => (y2 r h4 h5).trans (q2 r h1 h2 h3)
    have sl : ∀ j, j ≠ 0 → j ≠ 54 → D2 40 j = D 40 j := fun j h1 h2 => (y3 j h1 h2).trans (by rw [q2 40 (by decide) (by decide) (by decide)])
    have e21 : ∀ j, j ≠ 4 → D2 21 j = D 21 j := fun j hj => by rw [y2 21 (by decide) (by decide)]; exact q4 j hj
    refine ⟨hC.keep (fr o (by omega) (by omega) (by omega) (by omega) (by omega)) (fr _ (by omega) (by omega) (by omega) (by omega) (by omega)) (fr _ (by omega) (by omega) (by omega) (by omega) (by omega)) (fr _ (by omega) (by omega) (by omega) (by omega) (by omega)) (sl 19 (by decide) (by decide)) (sl 20 (by decide) (by decide)) (sl 21 (by decide) (by decide)) (fr 47 (by decide) (by decide) (by decide) (by decide) (by decide)) (fr 48 (by decide) (by decide) (by decide) (by decide) (by decide)), ?_, hL.keep (fr 7 (by decide) (by decide) (by decide) (by decide) (by decide)) (fr 8 (by decide) (by decide) (by decide) (by decide) (by decide)) (sl 28 (by decide) (by decide)) (fr 51 (by decide) (by decide) (by decide) (by decide) (by decide)) (fr 52 (by decide) (by decide) (by decide) (by decide) (by decide)), ?_, ?_, ?_, ?_, ?_⟩
    · rw [fr 4 (by decide) (by decide) (by decide) (by decide) (by decide), fr 57 (by decide) (by decide) (by decide) (by decide) (by decide)]
      exact hT
    · unfold BR
      rw [fr 13 (by decide) (by decide) (by decide) (by decide) (by decide), fr 61 (by decide) (by decide) (by decide) (by decide) (by decide), fr 12 (by decide) (by decide) (by decide) (by decide) (by decide), fr 29 (by decide) (by decide) (by decide) (by decide) (by decide), sl 43 (by decide) (by decide)]
      exact hBk
    · refine ⟨w, hw, by rw [e21 3 (by decide)]; exact p1, by rw [sl 33 (by decide) (by decide)]; exact p2, fun k hk => ?_⟩
      rw [fr 22 (by decide) (by decide) (by decide) (by decide) (by decide), fr 59 (by decide) (by decide) (by decide) (by decide) (by decide)]
      exact hP k hk
    · refine ⟨m + 1, by omega, by rw [y2 21 (by decide) (by decide)]; exact q3, y4, fun i hi => ?_⟩
      rw [y2 23 (by decide) (by decide), y2 24 (by decide) (by decide)]
      by_cases him : i = m
      · subst him
        refine ⟨TR_eq hT hC.1.2.1 (fun j hj => q7 j hj) (fun j hj => ?_), w, hw, q5, y7, fun k hk => TR_eq (hP k hk) hC.1.2.1 (fun j hj => ?_) (fun j hj => ?_)⟩
        · show D2 66 _ = _
          rw [y5 j hj, q2 57 (by decide) (by decide) (by decide)]
        · exact q8 _ (by omega)
        · show D2 66 _ = _
          rw [y6 _ (by omega), q2 59 (by decide) (by decide) (by decide)]
      · obtain ⟨h1, w', h2, h3, h4, h5⟩ := hI i (by omega)
        refine ⟨TR_eq h1 hC.1.2.1 (fun j hj => q9 _ (by omega)) (fun j hj => ?_), w', h2, by rw [q6 i him]; exact h3, ?_, fun k hk => TR_eq (h5 k hk) hC.1.2.1 (fun j hj => q9 _ (by omega)) (fun j hj => ?_)⟩
        · show D2 66 _ = _
          rw [y8 _ (by omega), q2 66 (by decide) (by decide) (by decide)]
        · rw [y8 _ (by omega), q2 66 (by decide) (by decide) (by decide)]
          exact h4
        · show D2 66 _ = _
          rw [y8 _ (by omega), q2 66 (by decide) (by decide) (by decide)]
    · unfold TX
      rw [fr 1 (by decide) (by decide) (by decide) (by decide) (by decide), fr 2 (by decide) (by decide) (by decide) (by decide) (by decide), fr 42 (by decide) (by decide) (by decide) (by decide) (by decide), sl 2 (by decide) (by decide), sl 8 (by decide) (by decide)]
      exact hX
    · unfold MI
      rw [fr 0 (by decide) (by decide) (by decide) (by decide) (by decide), fr 41 (by decide) (by decide) (by decide) (by decide) (by decide), sl 34 (by decide) (by decide)]
      exact hMI
