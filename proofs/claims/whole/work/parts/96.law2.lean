/-! ===== reading a law: a number, a fact, what stands in brackets ===== -/
theorem comes_A {N w : Nat} {s e : Nat} {D : z_Dat} (hN : 2000 < N) (hs : s ≤ e) (he : e ≤ 60) (hf : F_X8_failed D = nn 1) (hw : w < 3) (hel : e < wl w) : F_X8_comesNext N w (nn s) (nn e) D = some (nn 0) := by
  have esl : z_slg w = nn (wl w) := rfl
  have ein : z_slen.getD w 0 = wl w := rfl
  have hwl : wl w ≤ 60 := (ws_end w hw).2.2
  have h : z_P (F_X8_comesNext N w (nn s) (nn e) D) (fun x => x = nn 0) := by
    unfold F_X8_comesNext
    refine z_P_loop (fun q v => ∃ i, i + q = e ∧ s ≤ i ∧ v = nn i) ?_ (e - s) N _ (by omega) ⟨s, by omega, Nat.le_refl _, rfl⟩
    rintro q v kc ⟨i, hq, hsi, rfl⟩ ih
    by_cases hi : i < e
    · obtain ⟨v, hv⟩ := byteAt_T (k := D 1 3 + nn i - nn s) (D := D)
      by_cases hc : v = z_chr w (nn i)
      · simp (disch := omega) only [F_X8_comesNext_L3, esl, ein, hv, hc, ↓reduceIte, ↓z_letE, ↓z_bdE, nn_l2, nn_add, nn_mul, nn_sub, nn_addM, nn_div, nn_rem, nn_min, nn_max, nn_abs, nn_ltT, nn_ltF, nn_leT, nn_leF, nn_eqT, nn_eqF, nn_eqM, nn_Meq, nn_ltM, nn_Mlt, nn_leM, nn_Mle, z_ix_nn, z_inb_nn, F_at_nn, F_put_nn, Nat.zero_add, Nat.add_zero, z_P_some, z_R_some, z_P_bd]
        exact ih (q - 1) _ (by omega) ⟨i + 1, by omega, by omega, rfl⟩
      · simp (disch := omega) only [F_X8_comesNext_L3, esl, ein, hv, hc, ↓reduceIte, ↓z_letE, ↓z_bdE, nn_l2, nn_add, nn_mul, nn_sub, nn_addM, nn_div, nn_rem, nn_min, nn_max, nn_abs, nn_ltT, nn_ltF, nn_leT, nn_leF, nn_eqT, nn_eqF, nn_eqM, nn_Meq, nn_ltM, nn_Mlt, nn_leM, nn_Mle, z_ix_nn, z_inb_nn, F_at_nn, F_put_nn, Nat.zero_add, Nat.add_zero, z_P_some, z_R_some, z_P_bd]
    · obtain rfl : i = e := by omega
      simp (disch := omega) only [F_X8_comesNext_L3, F_X8_comesNext_J53, hf, ↓reduceIte, ↓z_letE, ↓z_bdE, nn_l2, nn_add, nn_mul, nn_sub, nn_addM, nn_div, nn_rem, nn_min, nn_max, nn_abs, nn_ltT, nn_ltF, nn_leT, nn_leF, nn_eqT, nn_eqF, nn_eqM, nn_Meq, nn_ltM, nn_Mlt, nn_leM, nn_Mle, z_ix_nn, z_inb_nn, F_at_nn, F_put_nn, Nat.zero_add, Nat.add_zero, z_P_some, z_R_some, z_P_bd]
  obtain ⟨x, h1, h2⟩ := h
  rw [h1, h2]
theorem takes_A {N w : Nat} {D : z_Dat} (hN : 2000 < N) (hf : F_X8_failed D = nn 1) (hw : w < 3) : F_X8_takesWordOf N w D = some (-nn 1, D) := by
  have esl : z_slg w = nn (wl w) := rfl
  have ein : z_slen.getD w 0 = wl w := rfl
  have hwl : wl w ≤ 60 := (ws_end w hw).2.2
  have h : z_P (F_X8_takesWordOf N w D) (fun a => a = (-nn 1, D)) := by
    unfold F_X8_takesWordOf
    refine z_P_loop (fun q s => ∃ a i k, k + q = wl w ∧ i ≤ k ∧ s.1 = nn a ∧ s.2.1 = nn i ∧ s.2.2 = nn k) ?_ (wl w) N _ (by omega) ⟨0, 0, 0, by omega, by omega, rfl, rfl, rfl⟩
    rintro q ⟨v1, v2, v3⟩ kc ⟨a, i, k, hq, hik, rfl, rfl, rfl⟩ ih
    dsimp only
    by_cases hk : k < wl w
    · by_cases hc : z_chr w (nn k) = nn 32
      · have hca := comes_A (N := N) (s := i) (e := k) hN hik (by omega) hf hw hk
        simp (disch := omega) only [F_X8_takesWordOf_L7, esl, ein, hc, hca, ↓reduceIte, ↓z_letE, ↓z_bdE, nn_l2, nn_add, nn_mul, nn_sub, nn_addM, nn_div, nn_rem, nn_min, nn_max, nn_abs, nn_ltT, nn_ltF, nn_leT, nn_leF, nn_eqT, nn_eqF, nn_eqM, nn_Meq, nn_ltM, nn_Mlt, nn_leM, nn_Mle, z_ix_nn, z_inb_nn, F_at_nn, F_put_nn, Nat.zero_add, Nat.add_zero, z_P_some, z_R_some, z_P_bd]
        exact ih (q - 1) _ (by omega) ⟨a + 1, k + 1, k + 1, by omega, by omega, rfl, rfl, rfl⟩
      · simp (disch := omega) only [F_X8_takesWordOf_L7, esl, ein, hc, ↓reduceIte, ↓z_letE, ↓z_bdE, nn_l2, nn_add, nn_mul, nn_sub, nn_addM, nn_div, nn_rem, nn_min, nn_max, nn_abs, nn_ltT, nn_ltF, nn_leT, nn_leF, nn_eqT, nn_eqF, nn_eqM, nn_Meq, nn_ltM, nn_Mlt, nn_leM, nn_Mle, z_ix_nn, z_inb_nn, F_at_nn, F_put_nn, Nat.zero_add, Nat.add_zero, z_P_some, z_R_some, z_P_bd]
        exact ih (q - 1) _ (by omega) ⟨a, i, k + 1, by omega, by omega, rfl, rfl, rfl⟩
    · obtain rfl : k = wl w := by omega
      simp (disch := omega) only [F_X8_takesWordOf_L7, esl, ↓reduceIte, ↓z_letE, ↓z_bdE, nn_l2, nn_add, nn_mul, nn_sub, nn_addM, nn_div, nn_rem, nn_min, nn_max, nn_abs, nn_ltT, nn_ltF, nn_leT, nn_leF, nn_eqT, nn_eqF, nn_eqM, nn_Meq, nn_ltM, nn_Mlt, nn_leM, nn_Mle, z_ix_nn, z_inb_nn, F_at_nn, F_put_nn, Nat.zero_add, Nat.add_zero, z_P_some, z_R_some, z_P_bd]
  obtain ⟨x, h1, h2⟩ := h
  rw [h1, h2]
theorem num_AP {N : Nat} {q : Int32} {D : z_Dat} (hf : F_X8_failed D = nn 1) : F_X8_needNumber N q D = some (nn 0, D) := by
  have e : F_X8_fail (nn 1) (D 1 3) D = D := by
    unfold F_X8_failed at hf
    unfold F_X8_fail
    by_cases h5 : D 1 5 = 0
    · rw [if_pos h5] at hf
      exact absurd hf (by decide)
    · rw [if_neg h5]
  simp (disch := omega) only [F_X8_needNumber, hf, e, ↓reduceIte, ↓z_letE, ↓z_bdE, nn_l2, nn_add, nn_mul, nn_sub, nn_addM, nn_div, nn_rem, nn_min, nn_max, nn_abs, nn_ltT, nn_ltF, nn_leT, nn_leF, nn_eqT, nn_eqF, nn_eqM, nn_Meq, nn_ltM, nn_Mlt, nn_leM, nn_Mle, z_ix_nn, z_inb_nn, F_at_nn, F_put_nn, Nat.zero_add, Nat.add_zero, z_P_some, z_R_some, z_P_bd]
theorem fail_AP {x y : Int32} {D : z_Dat} (hf : F_X8_failed D = nn 1) : F_X8_fail x y D = D := by
  unfold F_X8_failed at hf
  unfold F_X8_fail
  by_cases h5 : D 1 5 = 0
  · rw [if_pos h5] at hf
    exact absurd hf (by decide)
  · rw [if_neg h5]
theorem unit_A {N : Nat} {slf : Int32 → z_Dat → Option z_Dat} {a : Int32} {D : z_Dat} (hN : 2000 < N) (hf : F_X8_failed D = nn 1) : z_P (F_X5_readUnit N slf a D) (fun E => LPq D E ∧ E 1 = D 1) := by
  obtain ⟨v, hv⟩ := byteAt_T (k := D 1 3) (D := D)
  have hn : F_X8_next D = some v := by
    unfold F_X8_next
    rw [hv, z_bdE]
  by_cases hd : F_X10_isDigit v = nn 0
  · have h1 : F_X8_takesSign N (nn 40) D = some (nn 0, D) := by simp (disch := omega) only [F_X8_takesSign, hf, ↓reduceIte, ↓z_letE, ↓z_bdE, nn_l2, nn_add, nn_mul, nn_sub, nn_addM, nn_div, nn_rem, nn_min, nn_max, nn_abs, nn_ltT, nn_ltF, nn_leT, nn_leF, nn_eqT, nn_eqF, nn_eqM, nn_Meq, nn_ltM, nn_Mlt, nn_leM, nn_Mle, z_ix_nn, z_inb_nn, F_at_nn, F_put_nn, Nat.zero_add, Nat.add_zero, z_P_some, z_R_some, z_P_bd]
    have h2 := takes_A (N := N) (w := 1) hN hf (by decide)
    have h3 := fail_AP (x := nn 1) (y := D 1 3) hf
    simp (disch := omega) only [F_X5_readUnit, hn, hd, h1, h2, h3, ↓reduceIte, ↓z_letE, ↓z_bdE, nn_l2, nn_add, nn_mul, nn_sub, nn_addM, nn_div, nn_rem, nn_min, nn_max, nn_abs, nn_ltT, nn_ltF, nn_leT, nn_leF, nn_eqT, nn_eqF, nn_eqM, nn_Meq, nn_ltM, nn_Mlt, nn_leM, nn_Mle, z_ix_nn, z_inb_nn, F_at_nn, F_put_nn, Nat.zero_add, Nat.add_zero, z_P_some, z_R_some, z_P_bd]
    exact ⟨LPq.rf, by first | rfl | trivial⟩
  · have h1 := num_AP (N := N) (q := nn 999) hf
    simp (disch := omega) only [F_X5_readUnit, hn, hd, h1, ↓reduceIte, ↓z_letE, ↓z_bdE, nn_l2, nn_add, nn_mul, nn_sub, nn_addM, nn_div, nn_rem, nn_min, nn_max, nn_abs, nn_ltT, nn_ltF, nn_leT, nn_leF, nn_eqT, nn_eqF, nn_eqM, nn_Meq, nn_ltM, nn_Mlt, nn_leM, nn_Mle, z_ix_nn, z_inb_nn, F_at_nn, F_put_nn, Nat.zero_add, Nat.add_zero, z_P_some, z_R_some, z_P_bd]
    exact ⟨write_LP, write_r.1 1 (by decide) (by decide)⟩
theorem opens_6 {F : z_Dat} {h r : Nat} (hh : h ≤ 600) (h5 : F 40 5 = -nn 1) (h7 : F 40 7 = nn 6) (h4 : F 40 4 = nn h) : F_X11_opensOne (nn r) F = z_up (F_X11_wrong (nn 3) (nn h) F) 40 7 (nn 7) := by
  have g : F_X11_wrong (nn 3) (nn h) F = z_up (z_up F 40 5 (nn h)) 40 6 (nn 3) := by simp (disch := omega) only [F_X11_wrong, h5, ↓reduceIte, ↓z_letE, ↓z_bdE, nn_l2, nn_add, nn_mul, nn_sub, nn_addM, nn_div, nn_rem, nn_min, nn_max, nn_abs, nn_ltT, nn_ltF, nn_leT, nn_leF, nn_eqT, nn_eqF, nn_eqM, nn_Meq, nn_ltM, nn_Mlt, nn_leM, nn_Mle, z_ix_nn, z_inb_nn, F_at_nn, F_put_nn, Nat.zero_add, Nat.add_zero, z_P_some, z_R_some, z_P_bd]
  simp (disch := omega) only [F_X11_opensOne, F_X11_opensOne_J25, F_X11_fine, h5, h7, h4, g, z_up_i, z_up_at, ↓reduceIte, ↓z_letE, ↓z_bdE, nn_l2, nn_add, nn_mul, nn_sub, nn_addM, nn_div, nn_rem, nn_min, nn_max, nn_abs, nn_ltT, nn_ltF, nn_leT, nn_leF, nn_eqT, nn_eqF, nn_eqM, nn_Meq, nn_ltM, nn_Mlt, nn_leM, nn_Mle, z_ix_nn, z_inb_nn, F_at_nn, F_put_nn, Nat.zero_add, Nat.add_zero, z_P_some, z_R_some, z_P_bd]
theorem opens_ok {F : z_Dat} {h r op : Nat} (hop : op < 6) (h5 : F 40 5 = -nn 1) (h7 : F 40 7 = nn op) (h4 : F 40 4 = nn h) : F_X11_opensOne (nn r) F = z_up (z_up F 40 4 (nn (h + r))) 40 7 (nn (op + 1)) := by
  simp (disch := omega) only [F_X11_opensOne, F_X11_opensOne_J25, F_X11_fine, h5, h7, h4, z_up_i, z_up_at, ↓reduceIte, ↓z_letE, ↓z_bdE, nn_l2, nn_add, nn_mul, nn_sub, nn_addM, nn_div, nn_rem, nn_min, nn_max, nn_abs, nn_ltT, nn_ltF, nn_leT, nn_leF, nn_eqT, nn_eqF, nn_eqM, nn_Meq, nn_ltM, nn_Mlt, nn_leM, nn_Mle, z_ix_nn, z_inb_nn, F_at_nn, F_put_nn, Nat.zero_add, Nat.add_zero, z_P_some, z_R_some, z_P_bd]
def UP (t : Nat → Nat) (L m e op x : Nat) (D G : z_Dat) (E F : z_Dat) : Prop := LPq D E ∧ LMq G F ∧ ∃ m', m ≤ m' ∧ LSm t L m' e op (x + 1) E F
set_option maxHeartbeats 1000000 in
theorem two_R {t : Nat → Nat} {N L m e op x h h' r s : Nat} {E F : z_Dat} {slfP : Int32 → z_Dat → Option z_Dat} {slfM : z_Dat → Option z_Dat} (hN : 2000 < N) (hL : L ≤ 150) (hop : op ≤ 6) (hsg : s < 6)
    (hs : op < 6 → ∀ m e x D G, LSm t L m e (op + 1) x D G → z_R (slfP (nn (op + 1)) D) (slfM G) (UP t L m e (op + 1) x D G))
    (hA : ∀ G, F_X11_fine G = nn 0 → slfM G = some G) (hh : h ≤ 600)
    (e4 : E 1 4 = nn h) (f4 : F 40 4 = nn h) (f5 : F 40 5 = -nn 1) (f7 : F 40 7 = nn op) (hE : OK E) (hS : LSm t L m (e + 1) op x E (z_up F 40 4 (nn (h + r)))) : z_R (F_X5_readTwo N slfP (nn op) (nn (2000 + s)) E) (F_X11_readTwo N slfM (nn r) (nn (opm s)) F) (UP t L m e op x E F) := by
  by_cases h6 : op = 6
  · subst h6
    have eo := opens_6 (r := r) hh f5 f7 f4
    obtain ⟨a1, a2, a3⟩ := fail_X (k := 3) (pl := h) hE f5 (by decide) (by decide) hh
    have hA1 : FA 3 h (F_X8_fail (nn 3) (nn h) E) (z_up (F_X11_wrong (nn 3) (nn h) F) 40 7 (nn 7)) := by
      obtain ⟨k1, k2, k3, k4, k5, k6, k7⟩ := a1
      exact ⟨k1, k2, k3, k4, k5, by rw [z_up_i (by decide)]; exact k6, by rw [z_up_i (by decide)]; exact k7⟩
    have g91 := (sign_A (N := N) (c := 91) hA1).2
    have g44 := (sign_A (N := N) (c := 44) hA1).2
    have g93 := (sign_A (N := N) (c := 93) hA1).2
    have gs := hA _ hA1.T.2
    have gf : F_X11_fine (z_up (z_up (F_X11_wrong (nn 3) (nn h) F) 40 7 (nn 7)) 40 7 (nn 6)) = nn 0 := by
      have := hA1.T.2
      unfold F_X11_fine at this ⊢
      rw [z_up_i (by decide)]
      exact this
    simp (disch := omega) only [F_X5_readTwo, F_X5_isDeepest, e4, F_X11_readTwo, eo, g91, g44, g93, gs, z_up_at, F_X11_emit, gf, ↓reduceIte, ↓z_letE, ↓z_bdE, nn_l2, nn_add, nn_mul, nn_sub, nn_addM, nn_div, nn_rem, nn_min, nn_max, nn_abs, nn_ltT, nn_ltF, nn_leT, nn_leF, nn_eqT, nn_eqF, nn_eqM, nn_Meq, nn_ltM, nn_Mlt, nn_leM, nn_Mle, z_ix_nn, z_inb_nn, F_at_nn, F_put_nn, Nat.zero_add, Nat.add_zero, z_P_some, z_R_some, z_P_bd]
    refine ⟨LPq.rp a2, ((LMq.rm a3).tr ⟨fun r h1 h2 h3 => by rw [z_up_ne h1, z_up_ne h1], fun j hj => by rw [z_up_i (by omega), z_up_i (by omega)]⟩), m, Nat.le_refl _, LSm.no (m := m) ?_ a1.no⟩
    have hT : TP t L E F := by
      have := hS.1.1
      exact ⟨this.1, fun j hj => ⟨(this.2.1 j hj).1, (this.2.1 j hj).2.1, by have := (this.2.1 j hj).2.2; rw [z_up_ne (by decide)] at this; exact this⟩, this.2.2.1, by have := this.2.2.2; rw [z_up_i (by decide)] at this; exact this⟩
    exact (RC.upM (RC.upM ⟨hT.keep a2 a3, Or.inr ⟨3, h, a1⟩⟩ (Or.inr (Or.inl (by decide))) (by decide)) (Or.inr (Or.inl (by decide))) (by decide))
  have h6' : op < 6 := by omega
  have eo := opens_ok (r := r) h6' f5 f7 f4
  have hS2 : LSm t L m (e + 1) (op + 1) x E (z_up (z_up F 40 4 (nn (h + r))) 40 7 (nn (op + 1))) := ⟨hS.1.upM (Or.inr (Or.inl (by decide))) (by decide), fun q => by
    obtain ⟨nd, b1, b2, b3, b4, b5⟩ := hS.2 q
    exact ⟨nd, b1, b2, by rw [z_up_i (by decide)]; exact b3, by rw [z_up_at rfl rfl], b5.keep rfl (z_up_ne (by decide)) (z_up_ne (by decide))⟩⟩
  have hLM : LMq F (z_up (z_up F 40 4 (nn (h + r))) 40 7 (nn (op + 1))) := ⟨fun r h1 h2 h3 => by rw [z_up_ne h1, z_up_ne h1], fun j hj => by rw [z_up_i (by omega), z_up_i (by omega)]⟩
  generalize z_up (z_up F 40 4 (nn (h + r))) 40 7 (nn (op + 1)) = F1 at eo hS2 hLM
  simp (disch := omega) only [F_X5_readTwo, F_X5_isDeepest, F_X11_readTwo, eo, ↓reduceIte, ↓z_letE, ↓z_bdE, nn_l2, nn_add, nn_mul, nn_sub, nn_addM, nn_div, nn_rem, nn_min, nn_max, nn_abs, nn_ltT, nn_ltF, nn_leT, nn_leF, nn_eqT, nn_eqF, nn_eqM, nn_Meq, nn_ltM, nn_Mlt, nn_leM, nn_Mle, z_ix_nn, z_inb_nn, F_at_nn, F_put_nn, Nat.zero_add, Nat.add_zero, z_P_some, z_R_some, z_P_bd]
  refine z_R_bd (z_R_mono (sign_C (c := 91) hN hS2.1 (by decide) (by decide)) (fun E1 F2 hEF => ?_))
  obtain ⟨a1, a2, a3, a4⟩ := hEF
  have hS3 := hS2.rp (d := 0) a1 a2 a3 (fun q => ⟨(a4 q).1, by omega⟩)
  refine z_R_bd (z_R_mono (hs h6' _ _ _ _ _ hS3) (fun E2 F3 hEF => ?_))
  obtain ⟨b1, b2, m2, b3, hS4⟩ := hEF
  refine z_R_bd (z_R_mono (sign_C (c := 44) hN hS4.1 (by decide) (by decide)) (fun E3 F4 hEF => ?_))
  obtain ⟨c1, c2, c3, c4⟩ := hEF
  have hS5 := hS4.rp (d := 0) c1 c2 c3 (fun q => ⟨(c4 q).1, by omega⟩)
  refine z_R_bd (z_R_mono (hs h6' _ _ _ _ _ hS5) (fun E4 F5 hEF => ?_))
  obtain ⟨d1, d2, m3, d3, hS6⟩ := hEF
  refine z_R_bd (z_R_mono (sign_C (c := 93) hN hS6.1 (by decide) (by decide)) (fun E5 F6 hEF => ?_))
  obtain ⟨u1, u2, u3, u4⟩ := hEF
  have hS7 := hS6.rp (d := 0) u1 u2 u3 (fun q => ⟨(u4 q).1, by omega⟩)
  have hS8 : LSm t L m3 (e + 1) op (x + 1 + 1) E5 (z_up F6 40 7 (F6 40 7 - nn 1)) := ⟨hS7.1.upM (Or.inr (Or.inl (by decide))) (by decide), fun q => by
    obtain ⟨nd, b1, b2, b3, b4, b5⟩ := hS7.2 q
    refine ⟨nd, by omega, b2, by rw [z_up_i (by decide)]; exact b3, ?_, b5.keep rfl (z_up_ne (by decide)) (z_up_ne (by decide))⟩
    rw [z_up_at rfl rfl, b4, nn_sub (by omega)]
    rfl⟩
  obtain ⟨F7, v1, v2, v3⟩ := emit_C (a := nn (2000 + s)) (c := nn (opm s)) (v := nn 0) (x' := x + 1) hL hS8 (fun _ => Or.inr (Or.inr ⟨s, hsg, rfl, rfl, by omega, by omega⟩))
  have hLM2 : LMq F6 (z_up F6 40 7 (F6 40 7 - nn 1)) := ⟨fun r h1 h2 h3 => by rw [z_up_ne h1], fun j hj => by rw [z_up_i (by omega)]⟩
  simp (disch := omega) only [v1, ↓reduceIte, ↓z_letE, ↓z_bdE, nn_l2, nn_add, nn_mul, nn_sub, nn_addM, nn_div, nn_rem, nn_min, nn_max, nn_abs, nn_ltT, nn_ltF, nn_leT, nn_leF, nn_eqT, nn_eqF, nn_eqM, nn_Meq, nn_ltM, nn_Mlt, nn_leM, nn_Mle, z_ix_nn, z_inb_nn, F_at_nn, F_put_nn, Nat.zero_add, Nat.add_zero, z_P_some, z_R_some, z_P_bd]
  exact ⟨(LPq.rp a1).tr (b1.tr ((LPq.rp c1).tr (d1.tr ((LPq.rp u1).tr write_LP)))), hLM.tr ((LMq.rm a2).tr (b2.tr ((LMq.rm c2).tr (d2.tr ((LMq.rm u2).tr (hLM2.tr v2)))))), m3, by omega, v3⟩
