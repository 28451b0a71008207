/-! ===== work: the whole text is read ===== -/
theorem L206_A {N : Nat} {slf : z_Dat → Option z_Dat} {v : Int32} {E F : z_Dat} {k pl nM : Nat} (hA : FA k pl E F) (hn : 1 ≤ nM) : z_loop (fun kc86 s => F_X11_readStep_L206 N slf v kc86 s) nM F = some (z_up F 40 7 (F 40 7 - nn 1)) ∧ FA k pl E (z_up F 40 7 (F 40 7 - nn 1)) := by
  have hA2 : FA k pl E (z_up F 40 7 (F 40 7 - nn 1)) := by
    obtain ⟨k1, k2, k3, k4, k5, k6, k7⟩ := hA
    exact ⟨k1, k2, k3, k4, k5, by rw [z_up_i (by decide)]; exact k6, by rw [z_up_i (by decide)]; exact k7⟩
  refine ⟨?_, hA2⟩
  cases nM with
  | zero => omega
  | succ nM =>
    show F_X11_readStep_L206 N slf v _ F = _
    have x2 := hA.T.2
    have g1 := (sign_A (N := N) (c := 93) hA).2
    have g2 := (sign_A (N := N) (c := 59) hA2).2
    have g3 := hA2.T.2
    simp only [F_X11_readStep_L206, nn_l2, x2, ↓reduceIte, F_X11_readStep_J229, g1, ↓z_bdE, ↓z_letE, g3, g2]
theorem again_P {N d ne : Nat} {E : z_Dat} {tm : Int32} (w1 : E 15 5 = nn ne) (w2 : E 15 6 = nn d) (hd : d < 6) (hne : ne < 37) : z_let (F_X10_put 19 6 (E 15 6) (E 15 5) E) (fun a_7 => z_let (z_up a_7 15 6 ((a_7 15 6) + 1)) (fun D8 => z_let (F_X7_write 6 tm 0 D8) (fun a_10 => some a_10))) = some (z_up (z_up (z_up (z_up (z_up (z_up E 19 d (nn ne)) 15 6 (nn (d + 1))) 16 ne (nn 6)) 17 ne tm) 18 ne (nn 0)) 15 5 (nn (ne + 1))) := by
  have hw := wwrite_e (a := nn 6) (b := tm) (c := nn 0) (D := z_up (z_up E 19 d (nn ne)) 15 6 (nn (d + 1))) (ne := ne) (by rw [z_up_i (by decide), z_up_r (by decide)]; exact w1) hne
  rw [← hw]
  simp (disch := omega) only [w1, w2, z_up_r, ↓reduceIte, ↓z_letE, ↓z_bdE, nn_l2, nn_add, nn_mul, nn_sub, nn_addM, nn_div, nn_rem, nn_min, nn_max, nn_abs, nn_ltT, nn_ltF, nn_leT, nn_leF, nn_eqT, nn_eqF, nn_eqM, nn_Meq, nn_ltM, nn_Mlt, nn_leM, nn_Mle, z_ix_nn, z_inb_nn, F_at_nn, F_put_nn, Nat.zero_add, Nat.add_zero, z_P_some, z_R_some, z_P_bd]
theorem again_W {E : z_Dat} {tm : Int32} : WPr E (F_X7_write 6 tm 0 (z_up (F_X10_put 19 6 (E 15 6) (E 15 5) E) 15 6 ((F_X10_put 19 6 (E 15 6) (E 15 5) E) 15 6 + 1))) ∧ (F_X7_write 6 tm 0 (z_up (F_X10_put 19 6 (E 15 6) (E 15 5) E) 15 6 ((F_X10_put 19 6 (E 15 6) (E 15 5) E) 15 6 + 1))) 1 = E 1 ∧ (F_X7_write 6 tm 0 (z_up (F_X10_put 19 6 (E 15 6) (E 15 5) E) 15 6 ((F_X10_put 19 6 (E 15 6) (E 15 5) E) 15 6 + 1))) 2 = E 2 := by
  have h : ∀ r, (r < 15 ∨ 19 < r) → (F_X7_write 6 tm 0 (z_up (F_X10_put 19 6 (E 15 6) (E 15 5) E) 15 6 ((F_X10_put 19 6 (E 15 6) (E 15 5) E) 15 6 + 1))) r = E r := fun r hr => by
    rw [wwrite_r r (by omega), z_up_ne (by omega), put_any r (by omega)]
  exact ⟨⟨fun r _ h2 => h r h2, fun j _ => by rw [h 1 (by decide)]⟩, h 1 (by decide), h 2 (by decide)⟩
set_option maxHeartbeats 2000000 in
theorem spec_K {t : Nat → Nat} {N L o ns pe : Nat} (hN : 2000 < N) (hL : L ≤ 150) (ho : o = 34 ∨ 68 ≤ o) (hns : ns ≤ 6) (hpe : pe ≤ 8) : ∀ K d, d ≤ 6 → 8 ≤ K + d → SPEC t L o ns pe N d (F_X11_readStep N K) := by
  intro K
  induction K with
  | zero => intro d h1 h2; omega
  | succ K ih =>
    intro d hd hKd m ne ni k n h D G hW hn hI h0 h1
    show OUTg t L m d ne ni k o ns pe N n D G (F_X11_readStep_B N (F_X11_readStep N K) G) ∨ OUTb t L k o N n D G (F_X11_readStep_B N (F_X11_readStep N K) G)
    have hk : k ≤ 75 := by
      obtain ⟨hC, hok, -, -, ⟨w5, w6, w7⟩, -⟩ := id hW
      obtain ⟨h', p', hm, hI'⟩ := hC.fi hok
      have := hI'.1.2.1
      omega
    obtain ⟨n', rfl⟩ : ∃ x, n = x + 1 := ⟨n - 1, by omega⟩
    have hPL := PL_step (n := n') hN hL hW hI h0 h1 hd
    rcases step_R (N := N) (k := k) hN hL ho hns hpe hW with ⟨E', F', a1, a2, a3, a4, a5, a6⟩ | ⟨h2, h', E, F, b1, b2, b3, b4, b5, b6, b7, b8, b9, b10, b11, b12⟩
    · rw [a1, z_bdE] at hPL
      by_cases hok : OK E'
      · left
        obtain ⟨m', c1, c2, c3, c4, c5, c6⟩ := a6 hok
        exact ⟨k + 1, n', m', ne + 1, ni + 1, E', F', 2, hPL, a2 _, by omega, c1, a3, a4, c2, Or.inr (Or.inl ⟨c3, Or.inl ⟨rfl, rfl⟩⟩), c4, c5, fun i hi => by rw [c6]⟩
      · right
        exact ⟨E', F', by rw [hPL, PL_fail (a5.nf hok).1 (by omega) (by omega)], a2 _, a3, a4, a5, hok⟩
    · -- an again
      obtain ⟨hC, hok, ⟨w1, w2⟩, ⟨w3, w4⟩, ⟨w5, w6, w7⟩, ⟨w8, w9⟩, ⟨w10, w11⟩⟩ := id hW
      have hrs := rs_23 (slf := F_X11_readStep N K) hN b6
      have e15 : E 15 = D 15 := b9.1 15 (by decide)
      have e1 : E 15 5 = nn ne := by rw [e15]; exact w1
      have e2 : E 15 6 = nn d := by rw [e15]; exact w2
      have f7 : F 40 7 = nn d := by rw [b10.2 7 (by omega)]; exact w4
      have f32 : F 40 32 = nn (3 * ni) := by rw [b10.2 32 (by omega)]; exact w3
      have hTF : TP t L E F := by
        have := hC.1.keep b9 b10
        exact this
      have hrd : F_X7_readStep N o D = F_X7_readAgain N E := by
        unfold F_X7_readStep
        rw [b3, z_bdE]
        dsimp only
        have c6 : (nn 6 : Int32) = 6 := rfl
        rw [if_pos c6]
        exact z_bd_id
      have hL2 := b12.1.2.1
      by_cases hd6 : d = 6
      · subst hd6
        right
        have eo := opens_6 (r := 5) (by omega) b8 f7 b7
        obtain ⟨a1, a2, a3⟩ := fail_X (k := 3) (pl := h2) b5 b8 (by decide) (by decide) (by omega)
        have hA1 : FA 3 h2 (F_X8_fail (nn 3) (nn h2) E) (z_up (F_X11_wrong (nn 3) (nn h2) F) 40 7 (nn 7)) := by
          obtain ⟨k1, k2, k3, k4, k5, k6, k7⟩ := a1
          exact ⟨k1, k2, k3, k4, k5, by rw [z_up_i (by decide)]; exact k6, by rw [z_up_i (by decide)]; exact k7⟩
        have g60 := (num_A (N := N) (q := nn 60) hA1).2
        have g91 := (sign_A (N := N) (c := 91) hA1).2
        have gf := hA1.T.2
        obtain ⟨gl, hA2⟩ := L206_A (N := N) (slf := F_X11_readStep N K) (v := z_up (F_X11_wrong (nn 3) (nn h2) F) 40 7 (nn 7) 40 32) (nM := N) hA1 (by omega)
        have hpr : F_X7_readAgain N E = some (F_X8_fail (nn 3) (nn h2) E) := by simp (disch := omega) only [F_X7_readAgain, e2, b4, ↓reduceIte, ↓z_letE, ↓z_bdE, nn_l2, nn_add, nn_mul, nn_sub, nn_addM, nn_div, nn_rem, nn_min, nn_max, nn_abs, nn_ltT, nn_ltF, nn_leT, nn_leF, nn_eqT, nn_eqF, nn_eqM, nn_Meq, nn_ltM, nn_Mlt, nn_leM, nn_Mle, z_ix_nn, z_inb_nn, F_at_nn, F_put_nn, Nat.zero_add, Nat.add_zero, z_P_some, z_R_some, z_P_bd]
        rw [hrd, hpr, z_bdE] at hPL
        refine ⟨F_X8_fail (nn 3) (nn h2) E, z_up (z_up (F_X11_wrong (nn 3) (nn h2) F) 40 7 (nn 7)) 40 7 (z_up (F_X11_wrong (nn 3) (nn h2) F) 40 7 (nn 7) 40 7 - nn 1), by rw [hPL, PL_fail a1.T.1 (by omega) (by omega)], ?_, (WPr.rp b9).tr (WPr.rp a2), ?_, ?_, a1.no⟩
        · rw [hrs]
          simp only [nn_l2, eo, ↓z_letE, g60, ↓z_bdE, g91, F_X11_tellsStep, gf, ↓reduceIte]
          exact gl
        · exact ((WMr.rm b10).tr (WMr.rm a3)).tr ⟨fun r h1 h2 => by rw [z_up_ne h1, z_up_ne h1], fun j hj => by rw [z_up_i (by omega), z_up_i (by omega)]⟩
        · have hb : RC t L 0 (F_X8_fail (nn 3) (nn h2) E) (F_X11_wrong (nn 3) (nn h2) F) := ⟨hTF.keep a2 a3, Or.inr ⟨3, h2, a1⟩⟩
          exact (hb.upM (a := 40) (i := 7) (Or.inr (Or.inl (by decide))) (by decide)).upM (a := 40) (i := 7) (Or.inr (Or.inl (by decide))) (by decide)
      · have hd' : d < 6 := by omega
        have eo := opens_ok (r := 5) hd' b8 f7 b7
        have hC1 : RC t L (m + 5) E (z_up (z_up F 40 4 (nn (h2 + 5))) 40 7 (nn (d + 1))) := (RC.upM ⟨hTF.keep RP.rf (RM.rf.up (by decide) (by decide)), Or.inl ⟨h', h2 + 5, by omega, b12⟩⟩ (Or.inr (Or.inl (by decide))) (by decide))
        have hF1r : ∀ r, r ≠ 40 → z_up (z_up F 40 4 (nn (h2 + 5))) 40 7 (nn (d + 1)) r = G r := fun r hr => by rw [z_up_ne hr, z_up_ne hr, b10.1 r hr]
        have hF1c : ∀ j, (j < 4 ∨ 7 < j) → z_up (z_up F 40 4 (nn (h2 + 5))) 40 7 (nn (d + 1)) 40 j = G 40 j := fun j hj => by rw [z_up_i (by omega), z_up_i (by omega), b10.2 j (by omega)]
        have hF17 : z_up (z_up F 40 4 (nn (h2 + 5))) 40 7 (nn (d + 1)) 40 7 = nn (d + 1) := z_up_at rfl rfl
        generalize z_up (z_up F 40 4 (nn (h2 + 5))) 40 7 (nn (d + 1)) = F1 at eo hC1 hF1r hF1c hF17
        obtain ⟨⟨tm, E1⟩, ⟨c, F2⟩, n1, n2, n3, n4, n5, n6⟩ := num_C (N := N) (q := nn 60) hN hC1 q61 (by decide)
        dsimp only at n3 n4 n5 n6
        obtain ⟨E2, F3, s1, s2, s3, s4, s5, s6⟩ := sign_C (N := N) (c := 91) hN n5 (by decide) (by decide)
        have c0 : ∀ r, r ≠ 1 → E2 r = D r := fun r hr => by rw [s3.1 r hr, n3.1 r hr, b9.1 r hr]
        have x5 : E2 15 5 = nn ne := by rw [c0 15 (by decide)]; exact w1
        have x6 : E2 15 6 = nn d := by rw [c0 15 (by decide)]; exact w2
        have g0 : ∀ r, r ≠ 40 → F3 r = G r := fun r hr => by rw [s4.1 r hr, n4.1 r hr, hF1r r hr]
        have gc : ∀ j, (j < 4 ∨ 7 < j) → F3 40 j = G 40 j := fun j hj => by rw [s4.2 j (by omega), n4.2 j (by omega), hF1c j hj]
        have g7 : F3 40 7 = nn (d + 1) := by rw [s4.2 7 (by omega), n4.2 7 (by omega)]; exact hF17
        have g32 : F3 40 32 = nn (3 * ni) := by rw [gc 32 (by omega)]; exact w3
        have hpr0 : F_X7_readAgain N E = some (F_X7_write 6 tm 0 (z_up (F_X10_put 19 6 (E2 15 6) (E2 15 5) E2) 15 6 ((F_X10_put 19 6 (E2 15 6) (E2 15 5) E2) 15 6 + 1))) := by
          have lt6 : E 15 6 < 6 := by
            rw [e2]
            show nn d < nn 6
            rw [nn_lt (by omega) (by decide)]
            exact hd'
          unfold F_X7_readAgain
          rw [if_pos lt6]
          show z_bd (F_X8_needNumber N (nn 60) E) _ = _
          rw [n1, z_bdE]
          show z_bd (F_X8_needSign N (nn 91) E1) _ = _
          rw [s1, z_bdE]
          rfl
        obtain ⟨aw1, aw2, aw3⟩ := again_W (E := E2) (tm := tm)
        by_cases hok2 : OK E2
        rotate_left
        · right
          obtain ⟨kk, pl, hA⟩ := s5.fa hok2
          have gf := hA.T.2
          obtain ⟨gl, hA2⟩ := L206_A (N := N) (slf := F_X11_readStep N K) (v := F3 40 32) (nM := N) hA (by omega)
          rw [hrd, hpr0, z_bdE] at hPL
          generalize F_X7_write 6 tm 0 (z_up (F_X10_put 19 6 (E2 15 6) (E2 15 5) E2) 15 6 ((F_X10_put 19 6 (E2 15 6) (E2 15 5) E2) 15 6 + 1)) = E3 at hPL aw1 aw2 aw3
          have hf3 : F_X8_failed E3 = nn 1 := by
            have := hA.T.1
            unfold F_X8_failed at this ⊢
            rw [aw2]
            exact this
          refine ⟨E3, z_up F3 40 7 (F3 40 7 - nn 1), by rw [hPL, PL_fail hf3 (by omega) (by omega)], ?_, ⟨fun r h1 h2 => (aw1.1 r h1 h2).trans (c0 r h1), fun j hj => by rw [aw1.2 j hj, s3.2 j hj, n3.2 j hj, b9.2 j hj]⟩, ⟨fun r h1 h2 => by rw [z_up_ne h1, g0 r h1], fun j hj => by rw [z_up_i (by omega), gc j (by omega)]⟩, ?_, ?_⟩
          · rw [hrs]
            simp only [nn_l2, eo, ↓z_letE, n2, ↓z_bdE, s2, F_X11_tellsStep, gf, ↓reduceIte]
            exact gl
          · exact (s5.cg aw2 aw3 rfl (fun _ _ _ => rfl)).upM (Or.inr (Or.inl (by decide))) (by decide) |>.le (by omega)
          · unfold OK
            rw [aw2]
            exact hok2
        · obtain ⟨o1, s7⟩ := s6 hok2
          obtain ⟨-, n7, v, hv, rfl, rfl⟩ := n6 o1
          have s8 : RC t L (m + 7) E2 F3 := by
            obtain ⟨hx, px, hx1, hx2⟩ := n7.fi o1
            have hsi := sign_I (N := N) (c := 91) hN n7.1 hx2 (by decide) (by decide)
            obtain ⟨E2', F3', z1, z2, -, -, z5⟩ := hsi
            rw [s1] at z1
            rw [s2] at z2
            cases z1
            cases z2
            rcases z5 with ⟨-, -, hz, hz1, hz2, -⟩ | hA
            · exact ⟨s7.1, Or.inl ⟨hz, hx + 1, by omega, hz2⟩⟩
            · exact absurd hok2 hA.no
          have hm150 : m + 7 ≤ 150 := by
            obtain ⟨hx, px, hx1, hx2⟩ := s8.fi hok2
            have := hx2.1.2.1
            omega
          have hne37 : ne < 37 := by omega
          have hap := again_P (N := N) (tm := nn v) x5 x6 hd' hne37
          have hap2 : some (F_X7_write 6 (nn v) 0 (z_up (F_X10_put 19 6 (E2 15 6) (E2 15 5) E2) 15 6 ((F_X10_put 19 6 (E2 15 6) (E2 15 5) E2) 15 6 + 1))) = some (z_up (z_up (z_up (z_up (z_up (z_up E2 19 d (nn ne)) 15 6 (nn (d + 1))) 16 ne (nn 6)) 17 ne (nn v)) 18 ne (nn 0)) 15 5 (nn (ne + 1))) := hap
          rw [hap2] at hpr0
          rw [Option.some.inj hap2] at aw1 aw2 aw3
          generalize hE3 : z_up (z_up (z_up (z_up (z_up (z_up E2 19 d (nn ne)) 15 6 (nn (d + 1))) 16 ne (nn 6)) 17 ne (nn v)) 18 ne (nn 0)) 15 5 (nn (ne + 1)) = E3 at hpr0 aw1 aw2 aw3
          have hE3' := hE3.symm
          rw [hrd, hpr0, z_bdE] at hPL
          have gf := (s5.ff hok2).2
          generalize hF4 : z_up (z_up (z_up (z_up F3 55 (3 * ni) (nn 6)) 55 (3 * ni + 1) (nn v)) 55 (3 * ni + 2) (nn 0)) 40 32 (nn (3 * ni + 3)) = F4
          have hF4' := hF4.symm
          have hts : F_X11_tellsStep (nn 6) (nn v) (nn 0) F3 = some F4 := by
            simp (disch := omega) only [F_X11_tellsStep, gf, g32, z_up_r, ↓reduceIte, ↓z_letE, ↓z_bdE, nn_l2, nn_add, nn_mul, nn_sub, nn_addM, nn_div, nn_rem, nn_min, nn_max, nn_abs, nn_ltT, nn_ltF, nn_leT, nn_leF, nn_eqT, nn_eqF, nn_eqM, nn_Meq, nn_ltM, nn_Mlt, nn_leM, nn_Mle, z_ix_nn, z_inb_nn, F_at_nn, F_put_nn, Nat.zero_add, Nat.add_zero, z_P_some, z_R_some, z_P_bd]
            exact congrArg some hF4
          have hW4 : WS t L (m + 7) (d + 1) (ne + 1) (ni + 1) (k + 1) o ns pe E3 F4 := by
            refine ⟨?_, by unfold OK; rw [aw2]; exact hok2, ⟨?_, ?_⟩, ⟨?_, ?_⟩, ⟨by omega, by omega, by omega⟩, ⟨?_, ?_⟩, ⟨?_, ?_⟩⟩
            · rw [hF4']
              exact (((((s8.cg aw2 aw3 rfl (fun _ _ _ => rfl)).upM (Or.inl (by decide)) (by decide)).upM (Or.inl (by decide)) (by decide)).upM (Or.inl (by decide)) (by decide)).upM (Or.inr (Or.inl (by decide))) (by decide))
            · rw [hE3', z_up_at rfl rfl]
            · rw [hE3']; simp (disch := omega) only [z_up_r, z_up_i, z_up_at]
            · rw [hF4', z_up_at rfl rfl]; rfl
            · rw [hF4', z_up_i (by decide), z_up_r (by decide), z_up_r (by decide), z_up_r (by decide)]; exact g7
            · by_cases ho4 : o = 34
              · rw [aw1.1 o (by omega) (by omega), c0 o (by omega)]; exact w8
              · rw [aw1.1 o (by omega) (by omega), c0 o (by omega)]; exact w8
            · rw [aw1.1 o (by omega) (by omega), c0 o (by omega)]; exact w9
            · rw [hF4', z_up_i (by decide), z_up_r (by decide), z_up_r (by decide), z_up_r (by decide), gc 19 (by omega)]; exact w10
            · rw [hF4', z_up_i (by decide), z_up_r (by decide), z_up_r (by decide), z_up_r (by decide), gc 20 (by omega)]; exact w11
          have h19 : E3 19 d = nn ne := by rw [hE3']; simp (disch := omega) only [z_up_r, z_up_at]
          have hX : F_X11_readStep_B N (F_X11_readStep N K) G = z_loop (fun kc86 s => F_X11_readStep_L206 N (F_X11_readStep N K) (nn (3 * ni)) kc86 s) N F4 := by
            rw [hrs]
            simp only [nn_l2, eo, ↓z_letE, n2, ↓z_bdE, s2, g32, hts]
          rw [hX]
          have wpD : WPr D E3 := ⟨fun r h1 h2 => (aw1.1 r h1 h2).trans (c0 r h1), fun j hj => by rw [aw1.2 j hj, s3.2 j hj, n3.2 j hj, b9.2 j hj]⟩
          have wmG : WMr G F4 := ⟨fun r h1 h2 => by rw [hF4', z_up_ne h1, z_up_ne h2, z_up_ne h2, z_up_ne h2, g0 r h1], fun j hj => by rw [hF4', z_up_i (by omega), z_up_r (by decide), z_up_r (by decide), z_up_r (by decide), gc j (by omega)]⟩
          have row : ∀ x, x < ne → E3 16 x = D 16 x ∧ E3 17 x = D 17 x ∧ E3 18 x = D 18 x := fun x hx => by
            rw [hE3']
            refine ⟨?_, ?_, ?_⟩
            · simp (disch := omega) only [z_up_r, z_up_i]; rw [c0 16 (by decide)]
            · simp (disch := omega) only [z_up_r, z_up_i]; rw [c0 17 (by decide)]
            · simp (disch := omega) only [z_up_r, z_up_i]; rw [c0 18 (by decide)]
          have own : E3 16 ne = nn 6 ∧ E3 17 ne = nn v := by
            rw [hE3']
            exact ⟨by simp (disch := omega) only [z_up_r, z_up_at], by simp (disch := omega) only [z_up_r, z_up_at]⟩
          have mown : F4 55 (3 * ni) = nn 6 ∧ F4 55 (3 * ni + 1) = nn v ∧ ∀ y, y < 3 * ni → F4 55 y = G 55 y := by
            rw [hF4']
            exact ⟨by simp (disch := omega) only [z_up_r, z_up_i, z_up_at], by simp (disch := omega) only [z_up_r, z_up_i, z_up_at], fun y hy => by simp (disch := omega) only [z_up_r, z_up_i]; rw [g0 55 (by decide)]⟩
          rcases again_L (N := N) (o := o) (ns := ns) (pe := pe) (d := d) (s := ne) (i0 := ni) (slf := F_X11_readStep N K) hN hL ho hd' (ih (d + 1) (by omega) (by omega)) (200 - (m + 7)) (m + 7) (ne + 1) (ni + 1) (k + 1) n' N E3 F4 (by omega) hW4 (by omega) (by omega) h19 (by omega) (by omega) with ⟨k2, n2', m2, ne2, ni2, E9, F9, fu, y1, y2, y3, y4, y5, y6, y7, y8, ⟨y9, y10, y11⟩, y12, y13, y14, y15⟩ | ⟨E9, F9, y1, y2, y3, y4, y5, y6⟩
          · left
            have lb := y8.le
            obtain ⟨z1, z2, -⟩ := y13 ne (by omega)
            refine ⟨k2, n2', m2, ne2 + 1, ni2, E9, F9, fu + 1 + 1, hPL.trans y1, y2, by omega, by omega, wpD.tr y5, wmG.tr y6, y7, Or.inr (Or.inr ⟨v, ne2, ni2, ⟨by omega, by omega⟩, ⟨z1.trans own.1, z2.trans own.2, y11⟩, ⟨(y14 _ (by omega) (by omega)).trans mown.1, (y14 _ (by omega) (by omega)).trans mown.2.1, y12⟩, (show 6 - (d + 1) = 6 - d - 1 by omega) ▸ y8.mono _ _ _ _ _ _ _ (by omega), ⟨y9, y10⟩, Or.inl ⟨rfl, rfl⟩⟩), fun x hx => ?_, fun y hy => (y14 y (by omega) (by omega)).trans (mown.2.2 y hy), fun i hi => ?_⟩
            · obtain ⟨q1, q2, q3⟩ := y13 x (by omega)
              obtain ⟨r1, r2, r3⟩ := row x hx
              exact ⟨q1.trans r1, q2.trans r2, (q3 (by omega)).trans r3⟩
            · rw [y15 i hi, hE3']
              simp (disch := omega) only [z_up_r, z_up_i]
              rw [c0 19 (by decide)]
          · right
            exact ⟨E9, F9, hPL.trans y1, y2, wpD.tr y3, wmG.tr y4, y5, y6⟩
