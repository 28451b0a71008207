/-! ===== way and step answer alike ===== -/
theorem nonneg_n {a : Int32} (h : ¬ a < nn 0) : ∃ k, k < 2147483648 ∧ a = nn k := by
  obtain ⟨k, hk, rfl⟩ := n_of (a := a) (b := 2147483647) h (fun q => by
    have h1 := Int32.lt_iff_toInt_lt.mp q
    rw [nn_toInt (by decide)] at h1
    have h2 := Int32.toInt_lt a
    omega) (by decide)
  exact ⟨k, by omega, rfl⟩
theorem least {P : Nat → Prop} : ∀ n, (∃ b, b < n ∧ P b) → ∃ b, b < n ∧ P b ∧ ∀ c, c < b → ¬ P c
  | 0, ⟨b, h, _⟩ => by omega
  | n + 1, ⟨b, h, hb⟩ => by
    by_cases e : ∃ c, c < n ∧ P c
    · obtain ⟨c, h1, h2⟩ := least n e
      exact ⟨c, by omega, h2⟩
    · have e2 : b = n := by
        by_cases q : b < n
        · exact absurd ⟨b, q, hb⟩ e
        · omega
      subst e2
      exact ⟨b, by omega, hb, fun c hc hP => e ⟨c, hc, hP⟩⟩
theorem find_loop {α : Type} {body : (Int32 → Option α) → Int32 → Option α} {b0 : Nat} {R : Option α} (h1 : ∀ kc b, b < b0 → body kc (nn b) = kc (nn (b + 1))) (h2 : ∀ kc, body kc (nn b0) = R) : ∀ k b n, b + k = b0 → k < n → z_loop body n (nn b) = R
  | 0, b, n + 1, hk, _ => by
    have e : b = b0 := by omega
    subst e
    exact h2 _
  | k + 1, b, n + 1, hk, hn => by
    show body (z_loop body n) _ = _
    rw [h1 _ b (by omega)]
    exact find_loop h1 h2 k (b + 1) n (by omega) (by omega)
theorem RQ_fr {a b : Nat} {D E G F : z_Dat} {x : Int32} (hE : Fr a D E) (hF : Fr b (z_up G 40 0 (nn 0)) F) (ha : SC a) (hb : SC b) (hb67 : b ≠ 67) : RQ D G (.inl (x, E)) (x, F) := by
  have h40 : F 40 = (z_up G 40 0 (nn 0)) 40 := hF 40 (fun q => by subst q; unfold SC at hb; omega)
  have h67 : F 67 = (z_up G 40 0 (nn 0)) 67 := hF 67 (fun q => hb67 q.symm)
  have g40 : F 40 0 = nn 0 := by rw [h40]; exact z_up_at rfl rfl
  have g67 : F 67 = G 67 := by rw [h67]; exact up67
  exact ⟨_, _, rfl, KA.fr hE ha, rfl, g40, g67, upK.tr (KA.fr hF hb)⟩
set_option maxHeartbeats 4000000 in
theorem T_way {N o n : Nat} {a1 a2 : Int32} {D : z_Dat} (hN : 2000 < N) (hJ : J o n D) : TOP (F_L_way N o a1 a2 D) (F_X11_way N a1 a2) (J o n) := by
  obtain ⟨ho, ns, pe, rv, hB⟩ := id hJ
  obtain ⟨⟨hns, hpe, hrv⟩, ⟨c5, c6, c7⟩, ⟨k19, k20, k21⟩, hV, hH⟩ := id hB.1
  rcases shade_or a1 with ⟨s, hs, rfl, e1, e2⟩ | ⟨e1, e2⟩
  · rcases shade_or a2 with ⟨u, hu, rfl, f1, f2⟩ | ⟨f1, f2⟩
    · refine TOP_r hJ rfl (fun G hK => ?_)
      have hC2 := (upC hB hK).1
      obtain ⟨vt, hvt⟩ := CR_vt hC2
      obtain ⟨T, hT⟩ := TW_ex ns u vt
      obtain ⟨⟨r, E⟩, m1, m3, m4, -⟩ := fewest_P (N := N) (a0 := s) (a1 := u) hN hJ.ho hns hs hu hT c5 (fun b hb => ⟨(hvt b hb).1, (hvt b hb).2.1⟩)
      obtain ⟨F, n1, n2, n3⟩ := layTo_P (N := N) (a1 := u) hN hns hu hT hC2.2.2.1.1 (fun b hb => ⟨(hvt b hb).1, (hvt b hb).2.2⟩)
      have m4 : r = cd (T s) := m4
      subst m4
      have n3s := n3 s hs
      simp (disch := omega) only [F_X10_way, F_X10_way_J20x, e1, f1, m1, F_X11_way, F_X11_way_J25x, e2, f2, n1, n3s, dem_ok, dem_no, demT_ok, demT_no, z_bt_l, z_bt_r, z_try_l, z_try_r, nl_I, nl_N, nl_IN, nl_NI, may_okU, may_noU, z_up_at, z_up_i, z_up_r, ↓reduceIte, ↓z_letE, ↓z_bdE, nn_l2, nn_add, nn_mul, nn_sub, nn_addM, nn_div, nn_rem, nn_min, nn_max, nn_abs, nn_ltT, nn_ltF, nn_leT, nn_leF, nn_eqT, nn_eqF, nn_eqM, nn_Meq, nn_ltM, nn_Mlt, nn_leM, nn_Mle, z_ix_nn, z_inb_nn, F_at_nn, F_put_nn, Nat.zero_add, Nat.add_zero, z_P_some, z_R_some, z_P_bd]
      exact RQ_fr m3 n2 (by unfold SC; omega) (by unfold SC; omega) (by decide)
    · refine TOP_t (c := 1) (k := 1) hJ (by decide) (by decide) (by decide) ?_ (fun G hG => ?_)
      · simp (disch := omega) only [F_L_way, F_X10_way, F_X10_way_J19, F_X10_way_J20, e1, f1, dem_ok, dem_no, demT_ok, demT_no, z_bt_l, z_bt_r, z_try_l, z_try_r, nl_I, nl_N, nl_IN, nl_NI, may_okU, may_noU, z_up_at, z_up_i, z_up_r, ↓reduceIte, ↓z_letE, ↓z_bdE, nn_l2, nn_add, nn_mul, nn_sub, nn_addM, nn_div, nn_rem, nn_min, nn_max, nn_abs, nn_ltT, nn_ltF, nn_leT, nn_leF, nn_eqT, nn_eqF, nn_eqM, nn_Meq, nn_ltM, nn_Mlt, nn_leM, nn_Mle, z_ix_nn, z_inb_nn, F_at_nn, F_put_nn, Nat.zero_add, Nat.add_zero, z_P_some, z_R_some, z_P_bd]
      · simp (disch := omega) only [F_X11_way, F_X11_way_J24, F_X11_way_J25, e2, f2, dem_ok, dem_no, demT_ok, demT_no, z_bt_l, z_bt_r, z_try_l, z_try_r, nl_I, nl_N, nl_IN, nl_NI, may_okU, may_noU, z_up_at, z_up_i, z_up_r, ↓reduceIte, ↓z_letE, ↓z_bdE, nn_l2, nn_add, nn_mul, nn_sub, nn_addM, nn_div, nn_rem, nn_min, nn_max, nn_abs, nn_ltT, nn_ltF, nn_leT, nn_leF, nn_eqT, nn_eqF, nn_eqM, nn_Meq, nn_ltM, nn_Mlt, nn_leM, nn_Mle, z_ix_nn, z_inb_nn, F_at_nn, F_put_nn, Nat.zero_add, Nat.add_zero, z_P_some, z_R_some, z_P_bd]
  · refine TOP_t (c := 1) (k := 1) hJ (by decide) (by decide) (by decide) ?_ (fun G hG => ?_)
    · simp (disch := omega) only [F_L_way, F_X10_way, F_X10_way_J19, F_X10_way_J20, e1, dem_ok, dem_no, demT_ok, demT_no, z_bt_l, z_bt_r, z_try_l, z_try_r, nl_I, nl_N, nl_IN, nl_NI, may_okU, may_noU, z_up_at, z_up_i, z_up_r, ↓reduceIte, ↓z_letE, ↓z_bdE, nn_l2, nn_add, nn_mul, nn_sub, nn_addM, nn_div, nn_rem, nn_min, nn_max, nn_abs, nn_ltT, nn_ltF, nn_leT, nn_leF, nn_eqT, nn_eqF, nn_eqM, nn_Meq, nn_ltM, nn_Mlt, nn_leM, nn_Mle, z_ix_nn, z_inb_nn, F_at_nn, F_put_nn, Nat.zero_add, Nat.add_zero, z_P_some, z_R_some, z_P_bd]
    · simp (disch := omega) only [F_X11_way, F_X11_way_J24, F_X11_way_J25, e2, dem_ok, dem_no, demT_ok, demT_no, z_bt_l, z_bt_r, z_try_l, z_try_r, nl_I, nl_N, nl_IN, nl_NI, may_okU, may_noU, z_up_at, z_up_i, z_up_r, ↓reduceIte, ↓z_letE, ↓z_bdE, nn_l2, nn_add, nn_mul, nn_sub, nn_addM, nn_div, nn_rem, nn_min, nn_max, nn_abs, nn_ltT, nn_ltF, nn_leT, nn_leF, nn_eqT, nn_eqF, nn_eqM, nn_Meq, nn_ltM, nn_Mlt, nn_leM, nn_Mle, z_ix_nn, z_inb_nn, F_at_nn, F_put_nn, Nat.zero_add, Nat.add_zero, z_P_some, z_R_some, z_P_bd]
set_option maxHeartbeats 8000000 in
theorem T_step {N o n : Nat} {a1 a2 a3 : Int32} {D : z_Dat} (hN : 2000 < N) (hJ : J o n D) : TOP (F_L_step N o a1 a2 a3 D) (F_X11_step N a1 a2 a3) (J o n) := by
  obtain ⟨ho, ns, pe, rv, hB⟩ := id hJ
  obtain ⟨⟨hns, hpe, hrv⟩, ⟨c5, c6, c7⟩, ⟨k19, k20, k21⟩, hV, hH⟩ := id hB.1
  rcases shade_or a1 with ⟨s, hs, rfl, e1, e2⟩ | ⟨e1, e2⟩
  · rcases shade_or a2 with ⟨u, hu, rfl, f1, f2⟩ | ⟨f1, f2⟩
    · by_cases h3 : a3 < nn 0
      · refine TOP_t (c := 1) (k := 1) hJ (by decide) (by decide) (by decide) ?_ (fun G hG => ?_)
        · simp (disch := omega) only [F_L_step, F_X10_step, F_X10_step_J23, F_X10_step_J24, e1, f1, h3, dem_ok, dem_no, demT_ok, demT_no, z_bt_l, z_bt_r, z_try_l, z_try_r, nl_I, nl_N, nl_IN, nl_NI, may_okU, may_noU, z_up_at, z_up_i, z_up_r, ↓reduceIte, ↓z_letE, ↓z_bdE, nn_l2, nn_add, nn_mul, nn_sub, nn_addM, nn_div, nn_rem, nn_min, nn_max, nn_abs, nn_ltT, nn_ltF, nn_leT, nn_leF, nn_eqT, nn_eqF, nn_eqM, nn_Meq, nn_ltM, nn_Mlt, nn_leM, nn_Mle, z_ix_nn, z_inb_nn, F_at_nn, F_put_nn, Nat.zero_add, Nat.add_zero, z_P_some, z_R_some, z_P_bd]
        · simp (disch := omega) only [F_X11_step, F_X11_step_J28, F_X11_step_J29, e2, f2, h3, dem_ok, dem_no, demT_ok, demT_no, z_bt_l, z_bt_r, z_try_l, z_try_r, nl_I, nl_N, nl_IN, nl_NI, may_okU, may_noU, z_up_at, z_up_i, z_up_r, ↓reduceIte, ↓z_letE, ↓z_bdE, nn_l2, nn_add, nn_mul, nn_sub, nn_addM, nn_div, nn_rem, nn_min, nn_max, nn_abs, nn_ltT, nn_ltF, nn_leT, nn_leF, nn_eqT, nn_eqF, nn_eqM, nn_Meq, nn_ltM, nn_Mlt, nn_leM, nn_Mle, z_ix_nn, z_inb_nn, F_at_nn, F_put_nn, Nat.zero_add, Nat.add_zero, z_P_some, z_R_some, z_P_bd]
      obtain ⟨k, hk, rfl⟩ := nonneg_n h3
      clear h3
      refine TOP_r hJ rfl (fun G hK => ?_)
      have hC2 := (upC hB hK).1
      obtain ⟨vt, hvt⟩ := CR_vt hC2
      obtain ⟨T, hT⟩ := TW_ex ns u vt
      obtain ⟨⟨r, E⟩, m1, m3, m4, m5⟩ := fewest_P (N := N) (a0 := s) (a1 := u) hN hJ.ho hns hs hu hT c5 (fun b hb => ⟨(hvt b hb).1, (hvt b hb).2.1⟩)
      obtain ⟨F, n1, n2, n3⟩ := layTo_P (N := N) (a1 := u) hN hns hu hT hC2.2.2.1.1 (fun b hb => ⟨(hvt b hb).1, (hvt b hb).2.2⟩)
      have m4 : r = cd (T s) := m4
      subst m4
      dsimp only at m3 m5
      have fin : ∀ x : Int32, RQ D G (.inl (x, E)) (x, F) := fun x => RQ_fr m3 n2 (by unfold SC; omega) (by unfold SC; omega) (by decide)
      have n3s := n3 s hs
      have hle := TW_le hu hT
      cases ht : T s with
      | zero =>
        rw [ht] at m1 n3s
        have ec : cd 0 = -nn 1 := rfl
        rw [ec] at m1 n3s
        simp (disch := omega) only [F_X10_step, F_X10_step_J24x, F_X6_dipOnTheWay, e1, f1, m1, F_X11_step, F_X11_step_J29x, e2, f2, n1, n3s, dem_ok, dem_no, demT_ok, demT_no, z_bt_l, z_bt_r, z_try_l, z_try_r, nl_I, nl_N, nl_IN, nl_NI, may_okU, may_noU, z_up_at, z_up_i, z_up_r, ↓reduceIte, ↓z_letE, ↓z_bdE, nn_l2, nn_add, nn_mul, nn_sub, nn_addM, nn_div, nn_rem, nn_min, nn_max, nn_abs, nn_ltT, nn_ltF, nn_leT, nn_leF, nn_eqT, nn_eqF, nn_eqM, nn_Meq, nn_ltM, nn_Mlt, nn_leM, nn_Mle, z_ix_nn, z_inb_nn, F_at_nn, F_put_nn, Nat.zero_add, Nat.add_zero, z_P_some, z_R_some, z_P_bd]
        exact fin _
      | succ t =>
        rw [ht] at m1 n3s
        have ec : cd (t + 1) = nn t := rfl
        rw [ec] at m1 n3s
        have hlt := hle s
        by_cases hkt : k < t
        rotate_left
        · simp (disch := omega) only [F_X10_step, F_X10_step_J24x, F_X6_dipOnTheWay, e1, f1, m1, F_X11_step, F_X11_step_J29x, e2, f2, n1, n3s, dem_ok, dem_no, demT_ok, demT_no, z_bt_l, z_bt_r, z_try_l, z_try_r, nl_I, nl_N, nl_IN, nl_NI, may_okU, may_noU, z_up_at, z_up_i, z_up_r, ↓reduceIte, ↓z_letE, ↓z_bdE, nn_l2, nn_add, nn_mul, nn_sub, nn_addM, nn_div, nn_rem, nn_min, nn_max, nn_abs, nn_ltT, nn_ltF, nn_leT, nn_leF, nn_eqT, nn_eqF, nn_eqM, nn_Meq, nn_ltM, nn_Mlt, nn_leM, nn_Mle, z_ix_nn, z_inb_nn, F_at_nn, F_put_nn, Nat.zero_add, Nat.add_zero, z_P_some, z_R_some, z_P_bd]
          exact fin _
        have key : z_R (z_loop (fun kc6 s => F_X6_dipOnTheWay_L24 N o (nn u) (nn k) (nn t, E) kc6 s.1 s.2) N (nn s, nn 0)) (z_loop (fun kc41 s => F_X11_step_L72x N (nn k) F kc41 s.1 s.2) N (nn s, nn 0)) (fun a c => a.2 = E ∧ c.2 = F ∧ a.1 = c.1) := by
          refine z_R_loop (fun j p q => ∃ v i, i + j = k ∧ p.1 = nn v ∧ p.2 = nn i ∧ q.1 = nn v ∧ q.2 = nn i ∧ v < 1000 ∧ s ≤ v ∧ T v + i = t + 1) ?_ k N N _ _ (by omega) (by omega) ⟨s, 0, by omega, rfl, rfl, rfl, rfl, hs, Nat.le_refl _, ht⟩
          rintro j ⟨p1, p2⟩ ⟨q1, q2⟩ kc kc' ⟨v, i, hj, rfl, rfl, rfl, rfl, hv, hsv, hTv⟩ ih
          dsimp only
          have hvu : v < u := by
            by_cases h : u < v
            · have := hT.2.1 v h
              omega
            · by_cases h2 : v = u
              · subst h2
                have := hT.1
                omega
              · omega
          have hlv := hle v
          have hex : ∃ b, b < ns ∧ T (dp v (vt b)) + 1 = T v := by
            have h := hT.2.2 v hvu
            obtain ⟨b, h1, -, -, h4⟩ := bst_by (T := T) (vt := vt) (v := v) ns (by omega)
            exact ⟨b, h1, by omega⟩
          obtain ⟨b0, hb0, hg, hng⟩ := least ns hex
          have d1 : ∀ b, b < ns → F_X10_deeper (nn v) (nn (vt b)) = nn (dp v (vt b)) := fun b hb => deeper_10 hv (hvt b hb).1
          have d2 : ∀ b, b < ns → F_X11_dippedIn (nn v) (nn b) F = some (nn (dp v (vt b))) := fun b hb => by
            obtain ⟨h1, -, h2, h3, h4⟩ := hvt b hb
            exact dippedIn_e hv (by omega) h1 (by rw [n2 47 (by decide)]; exact h2) (by rw [n2 47 (by decide)]; exact h3) (by rw [n2 47 (by decide)]; exact h4)
          have x5 : E o 5 = nn ns := by rw [m3 o (by have := hJ.ho; omega)]; exact c5
          have xv : ∀ b, b < ns → E (o + 1) b = nn (vt b) := fun b hb => by rw [m3 _ (by have := hJ.ho; omega)]; exact (hvt b hb).2.1
          obtain ⟨w, hw⟩ : ∃ w, T v = w + 2 := ⟨T v - 2, by omega⟩
          have xE : E 26 v = nn (w + 1) := by rw [m5 v hsv (by omega), hw]; rfl
          have xF : F 62 v = nn (w + 1) := by rw [n3 v hv, hw]; rfl
          have hd : ∀ b, dp v (vt b) < 1000 := fun b => dp_lt
          have hge : ∀ b, v ≤ dp v (vt b) := fun b => dp_ge hv
          have fd : F_X6_firstDip N o (nn v) (nn u) E = some (nn b0) := by
            unfold F_X6_firstDip
            refine find_loop (b0 := b0) (fun kc b hb => ?_) (fun kc => ?_) b0 0 N (by omega) (by omega)
            · have hn := hng b hb
              have y1 := xv b (by omega)
              have y2 := d1 b (by omega)
              have y3 := hd b
              by_cases l1 : dp v (vt b) ≤ v
              · simp (disch := omega) only [F_X6_firstDip_L3, F_X1_vatOf, x5, y1, y2, ↓reduceIte, ↓z_letE, ↓z_bdE, nn_l2, nn_add, nn_mul, nn_sub, nn_addM, nn_div, nn_rem, nn_min, nn_max, nn_abs, nn_ltT, nn_ltF, nn_leT, nn_leF, nn_eqT, nn_eqF, nn_eqM, nn_Meq, nn_ltM, nn_Mlt, nn_leM, nn_Mle, z_ix_nn, z_inb_nn, F_at_nn, F_put_nn, Nat.zero_add, Nat.add_zero, z_P_some, z_R_some, z_P_bd]
              · by_cases l2 : u < dp v (vt b)
                · simp (disch := omega) only [F_X6_firstDip_L3, F_X1_vatOf, x5, y1, y2, ↓reduceIte, ↓z_letE, ↓z_bdE, nn_l2, nn_add, nn_mul, nn_sub, nn_addM, nn_div, nn_rem, nn_min, nn_max, nn_abs, nn_ltT, nn_ltF, nn_leT, nn_leF, nn_eqT, nn_eqF, nn_eqM, nn_Meq, nn_ltM, nn_Mlt, nn_leM, nn_Mle, z_ix_nn, z_inb_nn, F_at_nn, F_put_nn, Nat.zero_add, Nat.add_zero, z_P_some, z_R_some, z_P_bd]
                · have y4 := m5 (dp v (vt b)) (by omega) (by omega)
                  have hld := hle (dp v (vt b))
                  cases hz : T (dp v (vt b)) with
                  | zero =>
                    rw [hz] at y4
                    have y4 : E 26 (dp v (vt b)) = -nn 1 := y4
                    simp (disch := omega) only [F_X6_firstDip_L3, F_X1_vatOf, x5, y1, y2, xE, y4, ↓reduceIte, ↓z_letE, ↓z_bdE, nn_l2, nn_add, nn_mul, nn_sub, nn_addM, nn_div, nn_rem, nn_min, nn_max, nn_abs, nn_ltT, nn_ltF, nn_leT, nn_leF, nn_eqT, nn_eqF, nn_eqM, nn_Meq, nn_ltM, nn_Mlt, nn_leM, nn_Mle, z_ix_nn, z_inb_nn, F_at_nn, F_put_nn, Nat.zero_add, Nat.add_zero, z_P_some, z_R_some, z_P_bd]
                  | succ z =>
                    rw [hz] at y4 hn hld
                    have y4 : E 26 (dp v (vt b)) = nn z := y4
                    simp (disch := omega) only [F_X6_firstDip_L3, F_X1_vatOf, x5, y1, y2, xE, y4, ↓reduceIte, ↓z_letE, ↓z_bdE, nn_l2, nn_add, nn_mul, nn_sub, nn_addM, nn_div, nn_rem, nn_min, nn_max, nn_abs, nn_ltT, nn_ltF, nn_leT, nn_leF, nn_eqT, nn_eqF, nn_eqM, nn_Meq, nn_ltM, nn_Mlt, nn_leM, nn_Mle, z_ix_nn, z_inb_nn, F_at_nn, F_put_nn, Nat.zero_add, Nat.add_zero, z_P_some, z_R_some, z_P_bd]
            · have y1 := xv b0 hb0
              have y2 := d1 b0 hb0
              have y3 := hd b0
              have l1 : v < dp v (vt b0) := by
                have h1 := hge b0
                by_cases e : dp v (vt b0) = v
                · rw [e] at hg
                  omega
                · omega
              have l2 : dp v (vt b0) ≤ u := by
                by_cases h : u < dp v (vt b0)
                · have := hT.2.1 _ h
                  omega
                · omega
              have y4 := m5 (dp v (vt b0)) (by omega) (by omega)
              rw [show T (dp v (vt b0)) = w + 1 from by omega] at y4
              have y4 : E 26 (dp v (vt b0)) = nn w := y4
              simp (disch := omega) only [F_X6_firstDip_L3, F_X1_vatOf, x5, y1, y2, xE, y4, Nat.add_sub_cancel, ↓reduceIte, ↓z_letE, ↓z_bdE, nn_l2, nn_add, nn_mul, nn_sub, nn_addM, nn_div, nn_rem, nn_min, nn_max, nn_abs, nn_ltT, nn_ltF, nn_leT, nn_leF, nn_eqT, nn_eqF, nn_eqM, nn_Meq, nn_ltM, nn_Mlt, nn_leM, nn_Mle, z_ix_nn, z_inb_nn, F_at_nn, F_put_nn, Nat.zero_add, Nat.add_zero, z_P_some, z_R_some, z_P_bd]
          have y1 := xv b0 hb0
          have y2 := d1 b0 hb0
          have y2' := d2 b0 hb0
          have y3 := hd b0
          have fl : z_loop (fun kc43 s => F_X11_step_L75x kc' (nn k) F (nn v) (nn i) kc43 s) N (nn 0) = if i = k then some (nn b0, F) else kc' (nn (dp v (vt b0)), nn (i + 1)) := by
            refine find_loop (b0 := b0) (fun kc b hb => ?_) (fun kc => ?_) b0 0 N (by omega) (by omega)
            · have hn := hng b hb
              have y2 := d2 b (by omega)
              have y3 := hd b
              have y4 := n3 _ y3
              have hld := hle (dp v (vt b))
              cases hz : T (dp v (vt b)) with
              | zero =>
                rw [hz] at y4
                have y4 : F 62 (dp v (vt b)) = -nn 1 := y4
                simp (disch := omega) only [F_X11_step_L75x, y2, xF, y4, ↓reduceIte, ↓z_letE, ↓z_bdE, nn_l2, nn_add, nn_mul, nn_sub, nn_addM, nn_div, nn_rem, nn_min, nn_max, nn_abs, nn_ltT, nn_ltF, nn_leT, nn_leF, nn_eqT, nn_eqF, nn_eqM, nn_Meq, nn_ltM, nn_Mlt, nn_leM, nn_Mle, z_ix_nn, z_inb_nn, F_at_nn, F_put_nn, Nat.zero_add, Nat.add_zero, z_P_some, z_R_some, z_P_bd]
              | succ z =>
                rw [hz] at y4 hn hld
                have y4 : F 62 (dp v (vt b)) = nn z := y4
                simp (disch := omega) only [F_X11_step_L75x, y2, xF, y4, ↓reduceIte, ↓z_letE, ↓z_bdE, nn_l2, nn_add, nn_mul, nn_sub, nn_addM, nn_div, nn_rem, nn_min, nn_max, nn_abs, nn_ltT, nn_ltF, nn_leT, nn_leF, nn_eqT, nn_eqF, nn_eqM, nn_Meq, nn_ltM, nn_Mlt, nn_leM, nn_Mle, z_ix_nn, z_inb_nn, F_at_nn, F_put_nn, Nat.zero_add, Nat.add_zero, z_P_some, z_R_some, z_P_bd]
            · have y4 := n3 _ y3
              rw [show T (dp v (vt b0)) = w + 1 from by omega] at y4
              have y4 : F 62 (dp v (vt b0)) = nn w := y4
              by_cases hik : i = k
              · subst hik
                simp (disch := omega) only [F_X11_step_L75x, y2', xF, y4, Nat.add_sub_cancel, ↓reduceIte, ↓z_letE, ↓z_bdE, nn_l2, nn_add, nn_mul, nn_sub, nn_addM, nn_div, nn_rem, nn_min, nn_max, nn_abs, nn_ltT, nn_ltF, nn_leT, nn_leF, nn_eqT, nn_eqF, nn_eqM, nn_Meq, nn_ltM, nn_Mlt, nn_leM, nn_Mle, z_ix_nn, z_inb_nn, F_at_nn, F_put_nn, Nat.zero_add, Nat.add_zero, z_P_some, z_R_some, z_P_bd]
              · simp (disch := omega) only [F_X11_step_L75x, y2', xF, y4, Nat.add_sub_cancel, hik, ↓reduceIte, ↓z_letE, ↓z_bdE, nn_l2, nn_add, nn_mul, nn_sub, nn_addM, nn_div, nn_rem, nn_min, nn_max, nn_abs, nn_ltT, nn_ltF, nn_leT, nn_leF, nn_eqT, nn_eqF, nn_eqM, nn_Meq, nn_ltM, nn_Mlt, nn_leM, nn_Mle, z_ix_nn, z_inb_nn, F_at_nn, F_put_nn, Nat.zero_add, Nat.add_zero, z_P_some, z_R_some, z_P_bd]
          by_cases hik : i = k
          · subst hik
            rw [if_pos rfl] at fl
            simp (disch := omega) only [F_X6_dipOnTheWay_L24, F_X11_step_L72x, fd, fl, ↓reduceIte, ↓z_letE, ↓z_bdE, nn_l2, nn_add, nn_mul, nn_sub, nn_addM, nn_div, nn_rem, nn_min, nn_max, nn_abs, nn_ltT, nn_ltF, nn_leT, nn_leF, nn_eqT, nn_eqF, nn_eqM, nn_Meq, nn_ltM, nn_Mlt, nn_leM, nn_Mle, z_ix_nn, z_inb_nn, F_at_nn, F_put_nn, Nat.zero_add, Nat.add_zero, z_P_some, z_R_some, z_P_bd]
            exact ⟨trivial, trivial, trivial⟩
          · rw [if_neg hik] at fl
            simp (disch := omega) only [F_X6_dipOnTheWay_L24, F_X11_step_L72x, fd, fl, F_X1_vatOf, y1, y2, ↓reduceIte, ↓z_letE, ↓z_bdE, nn_l2, nn_add, nn_mul, nn_sub, nn_addM, nn_div, nn_rem, nn_min, nn_max, nn_abs, nn_ltT, nn_ltF, nn_leT, nn_leF, nn_eqT, nn_eqF, nn_eqM, nn_Meq, nn_ltM, nn_Mlt, nn_leM, nn_Mle, z_ix_nn, z_inb_nn, F_at_nn, F_put_nn, Nat.zero_add, Nat.add_zero, z_P_some, z_R_some, z_P_bd]
            exact ih (j - 1) _ _ (by omega) ⟨_, i + 1, by omega, rfl, rfl, rfl, rfl, y3, Nat.le_trans hsv (hge b0), by omega⟩
        obtain ⟨⟨a, E1⟩, ⟨c, F1⟩, w1, w2, z1, z2, z3⟩ := key
        have z1 : E1 = E := z1
        have z2 : F1 = F := z2
        have z3 : a = c := z3
        subst z1 z2 z3
        simp (disch := omega) only [F_X10_step, F_X10_step_J24x, F_X6_dipOnTheWay, e1, f1, m1, F_X11_step, F_X11_step_J29x, e2, f2, n1, n3s, w1, w2, dem_ok, dem_no, demT_ok, demT_no, z_bt_l, z_bt_r, z_try_l, z_try_r, nl_I, nl_N, nl_IN, nl_NI, may_okU, may_noU, z_up_at, z_up_i, z_up_r, ↓reduceIte, ↓z_letE, ↓z_bdE, nn_l2, nn_add, nn_mul, nn_sub, nn_addM, nn_div, nn_rem, nn_min, nn_max, nn_abs, nn_ltT, nn_ltF, nn_leT, nn_leF, nn_eqT, nn_eqF, nn_eqM, nn_Meq, nn_ltM, nn_Mlt, nn_leM, nn_Mle, z_ix_nn, z_inb_nn, F_at_nn, F_put_nn, Nat.zero_add, Nat.add_zero, z_P_some, z_R_some, z_P_bd]
        exact fin _
    · refine TOP_t (c := 1) (k := 1) hJ (by decide) (by decide) (by decide) ?_ (fun G hG => ?_)
      · simp (disch := omega) only [F_L_step, F_X10_step, F_X10_step_J23, F_X10_step_J24, e1, f1, dem_ok, dem_no, demT_ok, demT_no, z_bt_l, z_bt_r, z_try_l, z_try_r, nl_I, nl_N, nl_IN, nl_NI, may_okU, may_noU, z_up_at, z_up_i, z_up_r, ↓reduceIte, ↓z_letE, ↓z_bdE, nn_l2, nn_add, nn_mul, nn_sub, nn_addM, nn_div, nn_rem, nn_min, nn_max, nn_abs, nn_ltT, nn_ltF, nn_leT, nn_leF, nn_eqT, nn_eqF, nn_eqM, nn_Meq, nn_ltM, nn_Mlt, nn_leM, nn_Mle, z_ix_nn, z_inb_nn, F_at_nn, F_put_nn, Nat.zero_add, Nat.add_zero, z_P_some, z_R_some, z_P_bd]
      · simp (disch := omega) only [F_X11_step, F_X11_step_J28, F_X11_step_J29, e2, f2, dem_ok, dem_no, demT_ok, demT_no, z_bt_l, z_bt_r, z_try_l, z_try_r, nl_I, nl_N, nl_IN, nl_NI, may_okU, may_noU, z_up_at, z_up_i, z_up_r, ↓reduceIte, ↓z_letE, ↓z_bdE, nn_l2, nn_add, nn_mul, nn_sub, nn_addM, nn_div, nn_rem, nn_min, nn_max, nn_abs, nn_ltT, nn_ltF, nn_leT, nn_leF, nn_eqT, nn_eqF, nn_eqM, nn_Meq, nn_ltM, nn_Mlt, nn_leM, nn_Mle, z_ix_nn, z_inb_nn, F_at_nn, F_put_nn, Nat.zero_add, Nat.add_zero, z_P_some, z_R_some, z_P_bd]
  · refine TOP_t (c := 1) (k := 1) hJ (by decide) (by decide) (by decide) ?_ (fun G hG => ?_)
    · simp (disch := omega) only [F_L_step, F_X10_step, F_X10_step_J23, F_X10_step_J24, e1, dem_ok, dem_no, demT_ok, demT_no, z_bt_l, z_bt_r, z_try_l, z_try_r, nl_I, nl_N, nl_IN, nl_NI, may_okU, may_noU, z_up_at, z_up_i, z_up_r, ↓reduceIte, ↓z_letE, ↓z_bdE, nn_l2, nn_add, nn_mul, nn_sub, nn_addM, nn_div, nn_rem, nn_min, nn_max, nn_abs, nn_ltT, nn_ltF, nn_leT, nn_leF, nn_eqT, nn_eqF, nn_eqM, nn_Meq, nn_ltM, nn_Mlt, nn_leM, nn_Mle, z_ix_nn, z_inb_nn, F_at_nn, F_put_nn, Nat.zero_add, Nat.add_zero, z_P_some, z_R_some, z_P_bd]
    · simp (disch := omega) only [F_X11_step, F_X11_step_J28, F_X11_step_J29, e2, dem_ok, dem_no, demT_ok, demT_no, z_bt_l, z_bt_r, z_try_l, z_try_r, nl_I, nl_N, nl_IN, nl_NI, may_okU, may_noU, z_up_at, z_up_i, z_up_r, ↓reduceIte, ↓z_letE, ↓z_bdE, nn_l2, nn_add, nn_mul, nn_sub, nn_addM, nn_div, nn_rem, nn_min, nn_max, nn_abs, nn_ltT, nn_ltF, nn_leT, nn_leF, nn_eqT, nn_eqF, nn_eqM, nn_Meq, nn_ltM, nn_Mlt, nn_leM, nn_Mle, z_ix_nn, z_inb_nn, F_at_nn, F_put_nn, Nat.zero_add, Nat.add_zero, z_P_some, z_R_some, z_P_bd]
