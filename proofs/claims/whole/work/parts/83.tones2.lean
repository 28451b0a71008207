/-! ===== tones: the reference's queue; the question ===== -/
def FTq (D E : z_Dat) : Prop := ∀ r, r ≠ 62 → r ≠ 63 → E r = D r
theorem FTq.up2 {D E : z_Dat} {i : Nat} {x : Int32} (h : FTq D E) : FTq D (z_up E 62 i x) := fun r h1 h2 => by rw [z_up_ne h1]; exact h r h1 h2
theorem FTq.up3 {D E : z_Dat} {i : Nat} {x : Int32} (h : FTq D E) : FTq D (z_up E 63 i x) := fun r h1 h2 => by rw [z_up_ne h2]; exact h r h1 h2
set_option maxHeartbeats 4000000 in
theorem queue_P {N ns a : Nat} {vt : Nat → Nat} {D : z_Dat} (hN : 2000 < N) (hns : ns ≤ 6) (ha : a < 1000) (k19 : D 40 19 = nn ns) (hv : V47 ns vt D) : z_P (z_loop (fun kc8 s => F_X11_tones_L22 N (nn a) kc8 s.1 s.2) N (nn 0, D)) (fun t => FTq D t.2 ∧ ∃ u, t.1 = nn (cntS u 1000) ∧ ∀ x, x < 1000 → (u x = true ↔ Rc ns vt a x)) := by
  refine z_P_loop (fun q t => ∃ s, s + q = 1000 ∧ t.1 = nn s ∧ FTq D t.2 ∧ ∀ x, x < s → t.2 62 x = -nn 1) ?_ 1000 N _ (by omega) ⟨0, by omega, rfl, fun _ _ _ => rfl, fun x hx => absurd hx (by omega)⟩
  rintro q ⟨v1, E⟩ kc ⟨s, hq, rfl, hF, hT⟩ ih
  dsimp only at hF hT ⊢
  by_cases hs : s < 1000
  · simp (disch := omega) only [F_X11_tones_L22, ↓reduceIte, ↓z_letE, ↓z_bdE, nn_l2, nn_add, nn_mul, nn_sub, nn_addM, nn_div, nn_rem, nn_min, nn_max, nn_abs, nn_ltT, nn_ltF, nn_leT, nn_leF, nn_eqT, nn_eqF, nn_eqM, nn_Meq, nn_ltM, nn_Mlt, nn_leM, nn_Mle, z_ix_nn, z_inb_nn, F_at_nn, F_put_nn, Nat.zero_add, Nat.add_zero, z_P_some, z_R_some, z_P_bd]
    refine ih (q - 1) _ (by omega) ⟨s + 1, by omega, rfl, hF.up2, fun x hx => ?_⟩
    dsimp only
    by_cases hxs : x = s
    · subst hxs
      rw [z_up_at rfl rfl]
    · rw [z_up_i hxs]
      exact hT x (by omega)
  obtain rfl : s = 1000 := by omega
  clear ih
  simp (disch := omega) only [F_X11_tones_L22, ↓reduceIte, ↓z_letE, ↓z_bdE, nn_l2, nn_add, nn_mul, nn_sub, nn_addM, nn_div, nn_rem, nn_min, nn_max, nn_abs, nn_ltT, nn_ltF, nn_leT, nn_leF, nn_eqT, nn_eqF, nn_eqM, nn_Meq, nn_ltM, nn_Mlt, nn_leM, nn_Mle, z_ix_nn, z_inb_nn, F_at_nn, F_put_nn, Nat.zero_add, Nat.add_zero, z_P_some, z_R_some, z_P_bd]
  refine z_P_loop (fun q t => ∃ h c u, h + q = 1001 ∧ h ≤ c ∧ c = cntS u 1000 ∧ t.1 = nn c ∧ t.2.1 = nn h ∧ FTq D t.2.2 ∧ (∀ x, x < 1000 → t.2.2 62 x = if u x then nn 0 else -nn 1) ∧ (∀ j, j < c → ∃ x, x < 1000 ∧ t.2.2 63 j = nn x) ∧ (∀ j, j < c → ∀ x, x < 1000 → t.2.2 63 j = nn x → u x = true) ∧ (∀ x, u x = true → x < 1000 ∧ Rc ns vt a x ∧ ∃ j, j < c ∧ t.2.2 63 j = nn x) ∧ u a = true ∧ ∀ j, j < h → ∀ x, x < 1000 → t.2.2 63 j = nn x → ∀ b, b < ns → u (dp x (vt b)) = true) ?_ 1001 N _ (by omega) ⟨0, 1, ut (fun _ => false) a, by omega, by omega, ?_, rfl, rfl, hF.up3.up2, fun x hx => ?_, fun j hj => ⟨a, ha, ?_⟩, fun j hj x hx e => ?_, fun x hx => ?_, ut_at, fun j hj => absurd hj (by omega)⟩
  rotate_left
  · rw [cnt_ut (u := fun _ => false) rfl 1000 ha, cnt_0 1000 (fun _ _ => rfl)]
  · dsimp only
    by_cases hxa : x = a
    · subst hxa
      rw [z_up_at rfl rfl, ut_at]
      rfl
    · rw [z_up_i hxa, z_up_r (by decide), ut_ne hxa]
      exact hT x hx
  · dsimp only
    obtain rfl : j = 0 := by omega
    rw [z_up_r (by decide), z_up_at rfl rfl]
  · dsimp only at e
    obtain rfl : j = 0 := by omega
    rw [z_up_r (by decide), z_up_at rfl rfl] at e
    have := nn_inj (by omega) (by omega) e
    subst this
    exact ut_at
  · by_cases hxa : x = a
    · subst hxa
      exact ⟨ha, Rc.rf, 0, by omega, by dsimp only; rw [z_up_r (by decide), z_up_at rfl rfl]⟩
    · rw [ut_ne hxa] at hx
      exact absurd hx (by decide)
  clear hT hF E
  rintro q ⟨v1, v2, E⟩ kc ⟨h, c, u, hq, hhc, hcu, rfl, rfl, hF, hT, hQ, hQu, hU, hua, hcl⟩ ih
  dsimp only at hF hT hQ hQu hU hcl ⊢
  have hc1 := cntS_le u 1000
  by_cases hh : h < c
  rotate_left
  · obtain rfl : h = c := by omega
    simp (disch := omega) only [F_X11_tones_L60, ↓reduceIte, ↓z_letE, ↓z_bdE, nn_l2, nn_add, nn_mul, nn_sub, nn_addM, nn_div, nn_rem, nn_min, nn_max, nn_abs, nn_ltT, nn_ltF, nn_leT, nn_leF, nn_eqT, nn_eqF, nn_eqM, nn_Meq, nn_ltM, nn_Mlt, nn_leM, nn_Mle, z_ix_nn, z_inb_nn, F_at_nn, F_put_nn, Nat.zero_add, Nat.add_zero, z_P_some, z_R_some, z_P_bd]
    refine ⟨hF, u, by rw [hcu], fun x hx => ⟨fun e => (hU x e).2.1, fun e => ?_⟩⟩
    exact e (fun y => u y = true) hua (fun y b hb hy => by
      obtain ⟨y1, -, j, j1, j2⟩ := hU y hy
      exact hcl j j1 y y1 j2 b hb)
  obtain ⟨x, hx, ex⟩ := hQ h hh
  have hux := hQu h hh x hx ex
  simp (disch := omega) only [F_X11_tones_L60, ↓reduceIte, ↓z_letE, ↓z_bdE, nn_l2, nn_add, nn_mul, nn_sub, nn_addM, nn_div, nn_rem, nn_min, nn_max, nn_abs, nn_ltT, nn_ltF, nn_leT, nn_leF, nn_eqT, nn_eqF, nn_eqM, nn_Meq, nn_ltM, nn_Mlt, nn_leM, nn_Mle, z_ix_nn, z_inb_nn, F_at_nn, F_put_nn, Nat.zero_add, Nat.add_zero, z_P_some, z_R_some, z_P_bd]
  refine z_P_loop (fun k t => ∃ b c' u', b + k = ns ∧ c ≤ c' ∧ c' = cntS u' 1000 ∧ t.1 = nn c' ∧ t.2.1 = nn b ∧ FTq D t.2.2 ∧ (∀ x, x < 1000 → t.2.2 62 x = if u' x then nn 0 else -nn 1) ∧ (∀ j, j < c → t.2.2 63 j = E 63 j) ∧ (∀ j, j < c' → ∃ x, x < 1000 ∧ t.2.2 63 j = nn x) ∧ (∀ j, j < c' → ∀ x, x < 1000 → t.2.2 63 j = nn x → u' x = true) ∧ (∀ x, u' x = true → x < 1000 ∧ Rc ns vt a x ∧ ∃ j, j < c' ∧ t.2.2 63 j = nn x) ∧ (∀ y, u y = true → u' y = true) ∧ ∀ e, e < b → u' (dp x (vt e)) = true) ?_ ns N _ (by omega) ⟨0, c, u, by omega, by omega, hcu, rfl, rfl, hF, hT, fun _ _ => rfl, hQ, hQu, hU, fun _ h => h, fun e he => absurd he (by omega)⟩
  rintro k ⟨v3, v4, F⟩ kc2 ⟨b, c', u', hk, hcc, hcu', rfl, rfl, hF2, hT2, hP2, hQ2, hQu2, hU2, hup, hcl2⟩ ih2
  dsimp only at hF2 hT2 hP2 hQ2 hQu2 hU2 ⊢
  have hc2 := cntS_le u' 1000
  have e19 : F 40 19 = nn ns := by rw [hF2 40 (by decide) (by decide)]; exact k19
  have e63 : F 63 h = nn x := by rw [hP2 h hh]; exact ex
  by_cases hb : b < ns
  · obtain ⟨v0, w0, w1, w2⟩ := hv b hb
    have h3 : dp x (vt b) < 1000 := dp_lt
    have ed := dippedIn_e (D' := F) hx (show b < 6 by omega) v0 (by rw [hF2 47 (by decide) (by decide)]; exact w0) (by rw [hF2 47 (by decide) (by decide)]; exact w1) (by rw [hF2 47 (by decide) (by decide)]; exact w2)
    have ht := hT2 _ h3
    cases hud : u' (dp x (vt b))
    · rw [hud] at ht
      simp only [if_false, Bool.false_eq_true] at ht
      have hlt := cnt_lt hud 1000 h3
      simp (disch := omega) only [F_X11_tones_L68, e19, e63, ed, ht, ↓reduceIte, ↓z_letE, ↓z_bdE, nn_l2, nn_add, nn_mul, nn_sub, nn_addM, nn_div, nn_rem, nn_min, nn_max, nn_abs, nn_ltT, nn_ltF, nn_leT, nn_leF, nn_eqT, nn_eqF, nn_eqM, nn_Meq, nn_ltM, nn_Mlt, nn_leM, nn_Mle, z_ix_nn, z_inb_nn, F_at_nn, F_put_nn, Nat.zero_add, Nat.add_zero, z_P_some, z_R_some, z_P_bd]
      refine ih2 (k - 1) _ (by omega) ⟨b + 1, c' + 1, ut u' (dp x (vt b)), by omega, by omega, by rw [cnt_ut hud 1000 h3, hcu'], rfl, rfl, hF2.up2.up3, fun y hy => ?_, fun j hj => ?_, fun j hj => ?_, fun j hj y hy e => ?_, fun y hy => ?_, fun y hy => ut_up (hup y hy), fun e he => ?_⟩
      · dsimp only
        by_cases hyd : y = dp x (vt b)
        · rw [hyd, z_up_r (by decide), z_up_at rfl rfl, ut_at]
          rfl
        · rw [z_up_r (by decide), z_up_i hyd, ut_ne hyd]
          exact hT2 y hy
      · dsimp only
        rw [z_up_i (by omega), z_up_r (by decide)]
        exact hP2 j hj
      · dsimp only
        by_cases hjc : j = c'
        · exact ⟨_, h3, by rw [hjc, z_up_at rfl rfl]⟩
        · rw [z_up_i hjc, z_up_r (by decide)]
          exact hQ2 j (by omega)
      · dsimp only at e
        by_cases hjc : j = c'
        · rw [hjc, z_up_at rfl rfl] at e
          have := nn_inj (by omega) (by omega) e
          rw [← this]
          exact ut_at
        · rw [z_up_i hjc, z_up_r (by decide)] at e
          exact ut_up (hQu2 j (by omega) y hy e)
      · dsimp only
        by_cases hyd : y = dp x (vt b)
        · subst hyd
          exact ⟨h3, (hU x hux).2.1.st hb, c', by omega, by rw [z_up_at rfl rfl]⟩
        · rw [ut_ne hyd] at hy
          obtain ⟨y1, y2, j, y3, y4⟩ := hU2 y hy
          exact ⟨y1, y2, j, by omega, by rw [z_up_i (by omega), z_up_r (by decide)]; exact y4⟩
      · by_cases heb : e = b
        · subst heb
          exact ut_at
        · exact ut_up (hcl2 e (by omega))
    · rw [hud] at ht
      simp only [if_true] at ht
      simp (disch := omega) only [F_X11_tones_L68, e19, e63, ed, ht, ↓reduceIte, ↓z_letE, ↓z_bdE, nn_l2, nn_add, nn_mul, nn_sub, nn_addM, nn_div, nn_rem, nn_min, nn_max, nn_abs, nn_ltT, nn_ltF, nn_leT, nn_leF, nn_eqT, nn_eqF, nn_eqM, nn_Meq, nn_ltM, nn_Mlt, nn_leM, nn_Mle, z_ix_nn, z_inb_nn, F_at_nn, F_put_nn, Nat.zero_add, Nat.add_zero, z_P_some, z_R_some, z_P_bd]
      refine ih2 (k - 1) _ (by omega) ⟨b + 1, c', u', by omega, hcc, hcu', rfl, rfl, hF2, hT2, hP2, hQ2, hQu2, hU2, hup, fun e he => ?_⟩
      by_cases heb : e = b
      · subst heb
        exact hud
      · exact hcl2 e (by omega)
  · have hbb : b = ns := by omega
    subst hbb
    simp (disch := omega) only [F_X11_tones_L68, e19, ↓reduceIte, ↓z_letE, ↓z_bdE, nn_l2, nn_add, nn_mul, nn_sub, nn_addM, nn_div, nn_rem, nn_min, nn_max, nn_abs, nn_ltT, nn_ltF, nn_leT, nn_leF, nn_eqT, nn_eqF, nn_eqM, nn_Meq, nn_ltM, nn_Mlt, nn_leM, nn_Mle, z_ix_nn, z_inb_nn, F_at_nn, F_put_nn, Nat.zero_add, Nat.add_zero, z_P_some, z_R_some, z_P_bd]
    refine ih (q - 1) _ (by omega) ⟨h + 1, c', u', by omega, by omega, hcu', rfl, rfl, hF2, hT2, hQ2, hQu2, hU2, hup a hua, fun j hj y hy e => ?_⟩
    dsimp only at e
    by_cases hjh : j = h
    · rw [hjh, e63] at e
      have := nn_inj (by omega) (by omega) e
      subst this
      exact hcl2
    · rw [hP2 j (by omega)] at e
      exact fun b hb => hup _ (hcl j (by omega) y hy e b hb)
set_option maxHeartbeats 4000000 in
theorem T_tones {N o n : Nat} {a1 : Int32} {D : z_Dat} (hN : 2000 < N) (hJ : J o n D) : TOP (F_L_tones N o a1 D) (F_X11_tones N a1) (J o n) := by
  obtain ⟨ho, ns, pe, rv, hB⟩ := id hJ
  obtain ⟨⟨hns, hpe, hrv⟩, ⟨c5, c6, c7⟩, ⟨k19, k20, k21⟩, hV, hH⟩ := id hB.1
  rcases shade_or a1 with ⟨s, hs, rfl, e1, e2⟩ | ⟨e1, e2⟩
  · refine TOP_r hJ rfl (fun G hK => ?_)
    have hU := (upC hB hK).1
    obtain ⟨vt, hvt⟩ := CR_vt hU
    obtain ⟨⟨r, E⟩, m1, m2, u, m3, m4⟩ := reach_P (N := N) hN hJ.ho hns hs c5 (fun b hb => ⟨(hvt b hb).1, (hvt b hb).2.1⟩)
    obtain ⟨⟨r', F⟩, f1, f2, u', f3, f4⟩ := queue_P (N := N) hN hns hs hU.2.2.1.1 (fun b hb => ⟨(hvt b hb).1, (hvt b hb).2.2⟩)
    dsimp only at m2 m3 f2 f3
    subst m3
    subst f3
    have ec : cntS u' 1000 = cntS u 1000 := cntS_eq 1000 (fun c hc => by rw [Bool.eq_iff_iff, m4 c hc, f4 c hc])
    have hF0 : F 40 0 = nn 0 := by rw [f2 40 (by decide) (by decide), z_up_at rfl rfl]
    have hF67 : F 67 = G 67 := by rw [f2 67 (by decide) (by decide), z_up_ne (by decide)]
    have hKF : KA G F := ⟨fun r h1 h2 => by rw [f2 r (fun q => h1 (by unfold SC; omega)) (fun q => h1 (by unfold SC; omega)), z_up_ne h2.1], fun j hj => by
      unfold KK at hj
      rw [f2 40 (by decide) (by decide), z_up_i (by omega)], by rw [f2 29 (by decide) (by decide), z_up_r (by decide)]⟩
    simp (disch := omega) only [F_X10_tones, F_X11_tones, e1, e2, m1, f1, dem_ok, dem_no, demT_ok, demT_no, z_bt_l, z_bt_r, z_try_l, z_try_r, nl_I, nl_N, nl_IN, nl_NI, may_okU, may_noU, z_up_at, z_up_i, z_up_r, ↓reduceIte, ↓z_letE, ↓z_bdE, nn_l2, nn_add, nn_mul, nn_sub, nn_addM, nn_div, nn_rem, nn_min, nn_max, nn_abs, nn_ltT, nn_ltF, nn_leT, nn_leF, nn_eqT, nn_eqF, nn_eqM, nn_Meq, nn_ltM, nn_Mlt, nn_leM, nn_Mle, z_ix_nn, z_inb_nn, F_at_nn, F_put_nn, Nat.zero_add, Nat.add_zero, z_P_some, z_R_some, z_P_bd]
    exact ⟨_, _, rfl, KA.fr m2 (by unfold SC; omega), by rw [ec], hF0, hF67, hKF⟩
  · refine TOP_t (c := 1) (k := 1) hJ (by decide) (by decide) (by decide) ?_ (fun G hG => ?_)
    · simp (disch := omega) only [F_L_tones, F_X10_tones, e1, dem_ok, dem_no, demT_ok, demT_no, z_bt_l, z_bt_r, z_try_l, z_try_r, nl_I, nl_N, nl_IN, nl_NI, may_okU, may_noU, z_up_at, z_up_i, z_up_r, ↓reduceIte, ↓z_letE, ↓z_bdE, nn_l2, nn_add, nn_mul, nn_sub, nn_addM, nn_div, nn_rem, nn_min, nn_max, nn_abs, nn_ltT, nn_ltF, nn_leT, nn_leF, nn_eqT, nn_eqF, nn_eqM, nn_Meq, nn_ltM, nn_Mlt, nn_leM, nn_Mle, z_ix_nn, z_inb_nn, F_at_nn, F_put_nn, Nat.zero_add, Nat.add_zero, z_P_some, z_R_some, z_P_bd]
    · simp (disch := omega) only [F_X11_tones, e2, dem_ok, dem_no, demT_ok, demT_no, z_bt_l, z_bt_r, z_try_l, z_try_r, nl_I, nl_N, nl_IN, nl_NI, may_okU, may_noU, z_up_at, z_up_i, z_up_r, ↓reduceIte, ↓z_letE, ↓z_bdE, nn_l2, nn_add, nn_mul, nn_sub, nn_addM, nn_div, nn_rem, nn_min, nn_max, nn_abs, nn_ltT, nn_ltF, nn_leT, nn_leF, nn_eqT, nn_eqF, nn_eqM, nn_Meq, nn_ltM, nn_Mlt, nn_leM, nn_Mle, z_ix_nn, z_inb_nn, F_at_nn, F_put_nn, Nat.zero_add, Nat.add_zero, z_P_some, z_R_some, z_P_bd]
