/-! ===== reading a law: products and sums ===== -/
set_option maxHeartbeats 1000000 in
theorem prod_R {t : Nat → Nat} {N L m e op x : Nat} {D G : z_Dat} {slfP : Int32 → z_Dat → Option z_Dat} {slfM : z_Dat → Option z_Dat} (hN : 2000 < N) (hL : L ≤ 150)
    (hU : ∀ m e x D G, LSm t L m e op x D G → z_R (F_X5_readUnit N slfP (nn op) D) (F_X11_readUnit N slfM G) (UP t L m e op x D G)) (hS : LSm t L m e op x D G) : z_R (F_X5_readProduct N slfP (nn op) D) (F_X11_readProduct N slfM G) (UP t L m e op x D G) := by
  unfold F_X5_readProduct F_X11_readProduct
  refine z_R_bd (z_R_mono (hU m e x D G hS) (fun D1 G1 hDG => ?_))
  obtain ⟨a1, a2, m1, a3, a4⟩ := hDG
  refine z_R_loop (fun q s u => ∃ k m', m' + q = 150 ∧ k ≤ m' ∧ s.1 = nn k ∧ LPq D s.2 ∧ LMq G u ∧ (OK s.2 → m ≤ m') ∧ LSm t L m' e op (x + 1) s.2 u) ?_ (150 - min m1 150) N N _ _ (by omega) (by omega) ⟨0, min m1 150, by omega, by omega, rfl, a1, a2, fun ho => ?_, a4.cap hL⟩
  rotate_left
  · obtain ⟨h, p, h1, hI⟩ := a4.1.fi ho
    have h2 := hI.1.2.1
    omega
  rintro q ⟨v, D2⟩ G2 kc kc' ⟨k, m', hq, hk, rfl, hP, hM, hmm, hS2⟩ ih
  dsimp only at hP hmm hS2 ⊢
  by_cases ho : OK D2
  rotate_left
  · obtain ⟨f1, f2⟩ := hS2.1.nf ho
    have fin : UP t L m e op x D G D2 G2 := ⟨hP, hM, m, Nat.le_refl _, hS2.any ho⟩
    by_cases hk2 : 150 ≤ k
    · simp (disch := omega) only [F_X5_readProduct_L8, F_X11_readProduct_L4, f2, ↓reduceIte, ↓z_letE, ↓z_bdE, nn_l2, nn_add, nn_mul, nn_sub, nn_addM, nn_div, nn_rem, nn_min, nn_max, nn_abs, nn_ltT, nn_ltF, nn_leT, nn_leF, nn_eqT, nn_eqF, nn_eqM, nn_Meq, nn_ltM, nn_Mlt, nn_leM, nn_Mle, z_ix_nn, z_inb_nn, F_at_nn, F_put_nn, Nat.zero_add, Nat.add_zero, z_P_some, z_R_some, z_P_bd]
      exact fin
    · simp (disch := omega) only [F_X5_readProduct_L8, F_X11_readProduct_L4, f1, f2, ↓reduceIte, ↓z_letE, ↓z_bdE, nn_l2, nn_add, nn_mul, nn_sub, nn_addM, nn_div, nn_rem, nn_min, nn_max, nn_abs, nn_ltT, nn_ltF, nn_leT, nn_leF, nn_eqT, nn_eqF, nn_eqM, nn_Meq, nn_ltM, nn_Mlt, nn_leM, nn_Mle, z_ix_nn, z_inb_nn, F_at_nn, F_put_nn, Nat.zero_add, Nat.add_zero, z_P_some, z_R_some, z_P_bd]
      exact fin
  obtain ⟨f1, f2⟩ := hS2.1.ff ho
  obtain ⟨h, F, hmh, hRM, hI, hRC, n1, n2, n3, -, n4⟩ := next_C (N := N) hN hS2.1 ho
  have hT1 := hRC.1
  have hhL := hI.1.2.1
  have hid := here_id (N := N) hN hT1 hhL hI.1.2.2.2 n4
  have hSF := hS2.rp (d := 0) RP.rf hRM (hRC.le hmh) (fun q => ⟨q, by omega⟩)
  have stop : UP t L m e op x D G D2 F := ⟨hP, hM.tr (LMq.rm hRM), m', hmm ho, hSF⟩
  by_cases hk2 : 150 ≤ k
  · have c1 : cvt t L h ≠ nn 42 := by
      unfold cvt
      rw [if_neg (by omega)]
      decide
    have c2 : cvt t L h ≠ nn 47 := by
      unfold cvt
      rw [if_neg (by omega)]
      decide
    simp (disch := omega) only [F_X5_readProduct_L8, F_X11_readProduct_L4, f2, n2, hid, c1, c2, ↓reduceIte, ↓z_letE, ↓z_bdE, nn_l2, nn_add, nn_mul, nn_sub, nn_addM, nn_div, nn_rem, nn_min, nn_max, nn_abs, nn_ltT, nn_ltF, nn_leT, nn_leF, nn_eqT, nn_eqF, nn_eqM, nn_Meq, nn_ltM, nn_Mlt, nn_leM, nn_Mle, z_ix_nn, z_inb_nn, F_at_nn, F_put_nn, Nat.zero_add, Nat.add_zero, z_P_some, z_R_some, z_P_bd]
    exact stop
  rcases takesS (N := N) (c := 42) hN hT1 hI (by decide) (by decide) with ⟨hh, hc, hcv, E, m1, m2, m3, h', m4, m5⟩ | ⟨hno, hcv, m1⟩
  · have hTE : TP t L E (z_up F 40 4 (nn (h + 1))) := hT1.keep m2 (RM.rf.up (by decide) (by decide))
    have hSE : LSm t L (m' + 1) (e + 1) op (x + 1) E (z_up F 40 4 (nn (h + 1))) := hSF.rp (d := 1) m2 (RM.rf.up (by decide) (by decide)) ⟨hTE, Or.inl ⟨h', h + 1, by omega, m5⟩⟩ (fun _ => ⟨ho, by omega⟩)
    rw [hcv] at n2 hid
    simp (disch := omega) only [F_X5_readProduct_L8, f1, m1, F_X11_readProduct_L4, f2, n2, F_X11_readProduct_J29, hid, F_X11_readProduct_J43, n4, ↓reduceIte, ↓z_letE, ↓z_bdE, nn_l2, nn_add, nn_mul, nn_sub, nn_addM, nn_div, nn_rem, nn_min, nn_max, nn_abs, nn_ltT, nn_ltF, nn_leT, nn_leF, nn_eqT, nn_eqF, nn_eqM, nn_Meq, nn_ltM, nn_Mlt, nn_leM, nn_Mle, z_ix_nn, z_inb_nn, F_at_nn, F_put_nn, Nat.zero_add, Nat.add_zero, z_P_some, z_R_some, z_P_bd]
    refine z_R_bd (z_R_mono (hU _ _ _ _ _ hSE) (fun E1 F1 hEF => ?_))
    obtain ⟨u1, u2, m2', u3, u4⟩ := hEF
    obtain ⟨F2, v1, v2, v3⟩ := emit_C (a := nn (2000 + 4)) (c := nn 4) (v := nn 0) (x' := x + 1) hL u4 (fun _ => Or.inr (Or.inr ⟨4, by decide, rfl, rfl, by omega, by omega⟩))
    simp (disch := omega) only [v1, ↓reduceIte, ↓z_letE, ↓z_bdE, nn_l2, nn_add, nn_mul, nn_sub, nn_addM, nn_div, nn_rem, nn_min, nn_max, nn_abs, nn_ltT, nn_ltF, nn_leT, nn_leF, nn_eqT, nn_eqF, nn_eqM, nn_Meq, nn_ltM, nn_Mlt, nn_leM, nn_Mle, z_ix_nn, z_inb_nn, F_at_nn, F_put_nn, Nat.zero_add, Nat.add_zero, z_P_some, z_R_some, z_P_bd]
    exact ih (150 - min m2' 150) _ _ (by omega) ⟨k + 1, min m2' 150, by omega, by omega, rfl, hP.tr ((LPq.rp m2).tr (u1.tr write_LP)), hM.tr ((LMq.rm hRM).tr ((LMq.rm (RM.rf.up (by decide) (by decide))).tr (u2.tr v2))), fun _ => by have := hmm ho; omega, v3.cap hL⟩
  · rcases takesS (N := N) (c := 47) hN hT1 hI (by decide) (by decide) with ⟨hh, hc, hcv2, E, r1, r2, r3, h', r4, r5⟩ | ⟨hno2, hcv2, r1⟩
    · have hTE : TP t L E (z_up F 40 4 (nn (h + 1))) := hT1.keep r2 (RM.rf.up (by decide) (by decide))
      have hSE : LSm t L (m' + 1) (e + 1) op (x + 1) E (z_up F 40 4 (nn (h + 1))) := hSF.rp (d := 1) r2 (RM.rf.up (by decide) (by decide)) ⟨hTE, Or.inl ⟨h', h + 1, by omega, r5⟩⟩ (fun _ => ⟨ho, by omega⟩)
      rw [hcv2] at n2 hid
      simp (disch := omega) only [F_X5_readProduct_L8, f1, m1, r1, F_X11_readProduct_L4, f2, n2, F_X11_readProduct_J29, hid, F_X11_readProduct_J43x, n4, ↓reduceIte, ↓z_letE, ↓z_bdE, nn_l2, nn_add, nn_mul, nn_sub, nn_addM, nn_div, nn_rem, nn_min, nn_max, nn_abs, nn_ltT, nn_ltF, nn_leT, nn_leF, nn_eqT, nn_eqF, nn_eqM, nn_Meq, nn_ltM, nn_Mlt, nn_leM, nn_Mle, z_ix_nn, z_inb_nn, F_at_nn, F_put_nn, Nat.zero_add, Nat.add_zero, z_P_some, z_R_some, z_P_bd]
      refine z_R_bd (z_R_mono (hU _ _ _ _ _ hSE) (fun E1 F1 hEF => ?_))
      obtain ⟨u1, u2, m2', u3, u4⟩ := hEF
      obtain ⟨F2, v1, v2, v3⟩ := emit_C (a := nn (2000 + 5)) (c := nn 5) (v := nn 0) (x' := x + 1) hL u4 (fun _ => Or.inr (Or.inr ⟨5, by decide, rfl, rfl, by omega, by omega⟩))
      simp (disch := omega) only [v1, ↓reduceIte, ↓z_letE, ↓z_bdE, nn_l2, nn_add, nn_mul, nn_sub, nn_addM, nn_div, nn_rem, nn_min, nn_max, nn_abs, nn_ltT, nn_ltF, nn_leT, nn_leF, nn_eqT, nn_eqF, nn_eqM, nn_Meq, nn_ltM, nn_Mlt, nn_leM, nn_Mle, z_ix_nn, z_inb_nn, F_at_nn, F_put_nn, Nat.zero_add, Nat.add_zero, z_P_some, z_R_some, z_P_bd]
      exact ih (150 - min m2' 150) _ _ (by omega) ⟨k + 1, min m2' 150, by omega, by omega, rfl, hP.tr ((LPq.rp r2).tr (u1.tr write_LP)), hM.tr ((LMq.rm hRM).tr ((LMq.rm (RM.rf.up (by decide) (by decide))).tr (u2.tr v2))), fun _ => by have := hmm ho; omega, v3.cap hL⟩
    · simp (disch := omega) only [F_X5_readProduct_L8, f1, m1, r1, F_X11_readProduct_L4, f2, n2, hid, hcv, hcv2, ↓reduceIte, ↓z_letE, ↓z_bdE, nn_l2, nn_add, nn_mul, nn_sub, nn_addM, nn_div, nn_rem, nn_min, nn_max, nn_abs, nn_ltT, nn_ltF, nn_leT, nn_leF, nn_eqT, nn_eqF, nn_eqM, nn_Meq, nn_ltM, nn_Mlt, nn_leM, nn_Mle, z_ix_nn, z_inb_nn, F_at_nn, F_put_nn, Nat.zero_add, Nat.add_zero, z_P_some, z_R_some, z_P_bd]
      exact stop
set_option maxHeartbeats 1000000 in
theorem sumB_R {t : Nat → Nat} {N L m e op x : Nat} {D G : z_Dat} {slfP : Int32 → z_Dat → Option z_Dat} {slfM : z_Dat → Option z_Dat} (hN : 2000 < N) (hL : L ≤ 150)
    (hU : ∀ m e x D G, LSm t L m e op x D G → z_R (F_X5_readProduct N slfP (nn op) D) (F_X11_readProduct N slfM G) (UP t L m e op x D G)) (hS : LSm t L m e op x D G) : z_R (F_X5_readSum_B N slfP (nn op) D) (F_X11_readSum_B N slfM G) (UP t L m e op x D G) := by
  unfold F_X5_readSum_B F_X11_readSum_B
  refine z_R_bd (z_R_mono (hU m e x D G hS) (fun D1 G1 hDG => ?_))
  obtain ⟨a1, a2, m1, a3, a4⟩ := hDG
  refine z_R_loop (fun q s u => ∃ k m', m' + q = 150 ∧ k ≤ m' ∧ s.1 = nn k ∧ LPq D s.2 ∧ LMq G u ∧ (OK s.2 → m ≤ m') ∧ LSm t L m' e op (x + 1) s.2 u) ?_ (150 - min m1 150) N N _ _ (by omega) (by omega) ⟨0, min m1 150, by omega, by omega, rfl, a1, a2, fun ho => ?_, a4.cap hL⟩
  rotate_left
  · obtain ⟨h, p, h1, hI⟩ := a4.1.fi ho
    have h2 := hI.1.2.1
    omega
  rintro q ⟨v, D2⟩ G2 kc kc' ⟨k, m', hq, hk, rfl, hP, hM, hmm, hS2⟩ ih
  dsimp only at hP hmm hS2 ⊢
  by_cases ho : OK D2
  rotate_left
  · obtain ⟨f1, f2⟩ := hS2.1.nf ho
    have fin : UP t L m e op x D G D2 G2 := ⟨hP, hM, m, Nat.le_refl _, hS2.any ho⟩
    by_cases hk2 : 150 ≤ k
    · simp (disch := omega) only [F_X5_readSum_L8, F_X11_readSum_L4, f2, ↓reduceIte, ↓z_letE, ↓z_bdE, nn_l2, nn_add, nn_mul, nn_sub, nn_addM, nn_div, nn_rem, nn_min, nn_max, nn_abs, nn_ltT, nn_ltF, nn_leT, nn_leF, nn_eqT, nn_eqF, nn_eqM, nn_Meq, nn_ltM, nn_Mlt, nn_leM, nn_Mle, z_ix_nn, z_inb_nn, F_at_nn, F_put_nn, Nat.zero_add, Nat.add_zero, z_P_some, z_R_some, z_P_bd]
      exact fin
    · simp (disch := omega) only [F_X5_readSum_L8, F_X11_readSum_L4, f1, f2, ↓reduceIte, ↓z_letE, ↓z_bdE, nn_l2, nn_add, nn_mul, nn_sub, nn_addM, nn_div, nn_rem, nn_min, nn_max, nn_abs, nn_ltT, nn_ltF, nn_leT, nn_leF, nn_eqT, nn_eqF, nn_eqM, nn_Meq, nn_ltM, nn_Mlt, nn_leM, nn_Mle, z_ix_nn, z_inb_nn, F_at_nn, F_put_nn, Nat.zero_add, Nat.add_zero, z_P_some, z_R_some, z_P_bd]
      exact fin
  obtain ⟨f1, f2⟩ := hS2.1.ff ho
  obtain ⟨h, F, hmh, hRM, hI, hRC, n1, n2, n3, -, n4⟩ := next_C (N := N) hN hS2.1 ho
  have hT1 := hRC.1
  have hhL := hI.1.2.1
  have hid := here_id (N := N) hN hT1 hhL hI.1.2.2.2 n4
  have hSF := hS2.rp (d := 0) RP.rf hRM (hRC.le hmh) (fun q => ⟨q, by omega⟩)
  have stop : UP t L m e op x D G D2 F := ⟨hP, hM.tr (LMq.rm hRM), m', hmm ho, hSF⟩
  by_cases hk2 : 150 ≤ k
  · have c1 : cvt t L h ≠ nn 43 := by
      unfold cvt
      rw [if_neg (by omega)]
      decide
    have c2 : cvt t L h ≠ nn 45 := by
      unfold cvt
      rw [if_neg (by omega)]
      decide
    simp (disch := omega) only [F_X5_readSum_L8, F_X11_readSum_L4, f2, n2, hid, c1, c2, ↓reduceIte, ↓z_letE, ↓z_bdE, nn_l2, nn_add, nn_mul, nn_sub, nn_addM, nn_div, nn_rem, nn_min, nn_max, nn_abs, nn_ltT, nn_ltF, nn_leT, nn_leF, nn_eqT, nn_eqF, nn_eqM, nn_Meq, nn_ltM, nn_Mlt, nn_leM, nn_Mle, z_ix_nn, z_inb_nn, F_at_nn, F_put_nn, Nat.zero_add, Nat.add_zero, z_P_some, z_R_some, z_P_bd]
    exact stop
  rcases takesS (N := N) (c := 43) hN hT1 hI (by decide) (by decide) with ⟨hh, hc, hcv, E, m1, m2, m3, h', m4, m5⟩ | ⟨hno, hcv, m1⟩
  · have hTE : TP t L E (z_up F 40 4 (nn (h + 1))) := hT1.keep m2 (RM.rf.up (by decide) (by decide))
    have hSE : LSm t L (m' + 1) (e + 1) op (x + 1) E (z_up F 40 4 (nn (h + 1))) := hSF.rp (d := 1) m2 (RM.rf.up (by decide) (by decide)) ⟨hTE, Or.inl ⟨h', h + 1, by omega, m5⟩⟩ (fun _ => ⟨ho, by omega⟩)
    rw [hcv] at n2 hid
    simp (disch := omega) only [F_X5_readSum_L8, f1, m1, F_X11_readSum_L4, f2, n2, F_X11_readSum_J29, hid, F_X11_readSum_J43, n4, ↓reduceIte, ↓z_letE, ↓z_bdE, nn_l2, nn_add, nn_mul, nn_sub, nn_addM, nn_div, nn_rem, nn_min, nn_max, nn_abs, nn_ltT, nn_ltF, nn_leT, nn_leF, nn_eqT, nn_eqF, nn_eqM, nn_Meq, nn_ltM, nn_Mlt, nn_leM, nn_Mle, z_ix_nn, z_inb_nn, F_at_nn, F_put_nn, Nat.zero_add, Nat.add_zero, z_P_some, z_R_some, z_P_bd]
    refine z_R_bd (z_R_mono (hU _ _ _ _ _ hSE) (fun E1 F1 hEF => ?_))
    obtain ⟨u1, u2, m2', u3, u4⟩ := hEF
    obtain ⟨F2, v1, v2, v3⟩ := emit_C (a := nn (2000 + 2)) (c := nn 2) (v := nn 0) (x' := x + 1) hL u4 (fun _ => Or.inr (Or.inr ⟨2, by decide, rfl, rfl, by omega, by omega⟩))
    simp (disch := omega) only [v1, ↓reduceIte, ↓z_letE, ↓z_bdE, nn_l2, nn_add, nn_mul, nn_sub, nn_addM, nn_div, nn_rem, nn_min, nn_max, nn_abs, nn_ltT, nn_ltF, nn_leT, nn_leF, nn_eqT, nn_eqF, nn_eqM, nn_Meq, nn_ltM, nn_Mlt, nn_leM, nn_Mle, z_ix_nn, z_inb_nn, F_at_nn, F_put_nn, Nat.zero_add, Nat.add_zero, z_P_some, z_R_some, z_P_bd]
    exact ih (150 - min m2' 150) _ _ (by omega) ⟨k + 1, min m2' 150, by omega, by omega, rfl, hP.tr ((LPq.rp m2).tr (u1.tr write_LP)), hM.tr ((LMq.rm hRM).tr ((LMq.rm (RM.rf.up (by decide) (by decide))).tr (u2.tr v2))), fun _ => by have := hmm ho; omega, v3.cap hL⟩
  · rcases takesS (N := N) (c := 45) hN hT1 hI (by decide) (by decide) with ⟨hh, hc, hcv2, E, r1, r2, r3, h', r4, r5⟩ | ⟨hno2, hcv2, r1⟩
    · have hTE : TP t L E (z_up F 40 4 (nn (h + 1))) := hT1.keep r2 (RM.rf.up (by decide) (by decide))
      have hSE : LSm t L (m' + 1) (e + 1) op (x + 1) E (z_up F 40 4 (nn (h + 1))) := hSF.rp (d := 1) r2 (RM.rf.up (by decide) (by decide)) ⟨hTE, Or.inl ⟨h', h + 1, by omega, r5⟩⟩ (fun _ => ⟨ho, by omega⟩)
      rw [hcv2] at n2 hid
      simp (disch := omega) only [F_X5_readSum_L8, f1, m1, r1, F_X11_readSum_L4, f2, n2, F_X11_readSum_J29, hid, F_X11_readSum_J43x, n4, ↓reduceIte, ↓z_letE, ↓z_bdE, nn_l2, nn_add, nn_mul, nn_sub, nn_addM, nn_div, nn_rem, nn_min, nn_max, nn_abs, nn_ltT, nn_ltF, nn_leT, nn_leF, nn_eqT, nn_eqF, nn_eqM, nn_Meq, nn_ltM, nn_Mlt, nn_leM, nn_Mle, z_ix_nn, z_inb_nn, F_at_nn, F_put_nn, Nat.zero_add, Nat.add_zero, z_P_some, z_R_some, z_P_bd]
      refine z_R_bd (z_R_mono (hU _ _ _ _ _ hSE) (fun E1 F1 hEF => ?_))
      obtain ⟨u1, u2, m2', u3, u4⟩ := hEF
      obtain ⟨F2, v1, v2, v3⟩ := emit_C (a := nn (2000 + 3)) (c := nn 3) (v := nn 0) (x' := x + 1) hL u4 (fun _ => Or.inr (Or.inr ⟨3, by decide, rfl, rfl, by omega, by omega⟩))
      simp (disch := omega) only [v1, ↓reduceIte, ↓z_letE, ↓z_bdE, nn_l2, nn_add, nn_mul, nn_sub, nn_addM, nn_div, nn_rem, nn_min, nn_max, nn_abs, nn_ltT, nn_ltF, nn_leT, nn_leF, nn_eqT, nn_eqF, nn_eqM, nn_Meq, nn_ltM, nn_Mlt, nn_leM, nn_Mle, z_ix_nn, z_inb_nn, F_at_nn, F_put_nn, Nat.zero_add, Nat.add_zero, z_P_some, z_R_some, z_P_bd]
      exact ih (150 - min m2' 150) _ _ (by omega) ⟨k + 1, min m2' 150, by omega, by omega, rfl, hP.tr ((LPq.rp r2).tr (u1.tr write_LP)), hM.tr ((LMq.rm hRM).tr ((LMq.rm (RM.rf.up (by decide) (by decide))).tr (u2.tr v2))), fun _ => by have := hmm ho; omega, v3.cap hL⟩
    · simp (disch := omega) only [F_X5_readSum_L8, f1, m1, r1, F_X11_readSum_L4, f2, n2, hid, hcv, hcv2, ↓reduceIte, ↓z_letE, ↓z_bdE, nn_l2, nn_add, nn_mul, nn_sub, nn_addM, nn_div, nn_rem, nn_min, nn_max, nn_abs, nn_ltT, nn_ltF, nn_leT, nn_leF, nn_eqT, nn_eqF, nn_eqM, nn_Meq, nn_ltM, nn_Mlt, nn_leM, nn_Mle, z_ix_nn, z_inb_nn, F_at_nn, F_put_nn, Nat.zero_add, Nat.add_zero, z_P_some, z_R_some, z_P_bd]
      exact stop
theorem unitM_A {N : Nat} {slf : z_Dat → Option z_Dat} {G : z_Dat} (h : F_X11_fine G = nn 0) : F_X11_readUnit N slf G = some G := by simp (disch := omega) only [F_X11_readUnit, h, ↓reduceIte, ↓z_letE, ↓z_bdE, nn_l2, nn_add, nn_mul, nn_sub, nn_addM, nn_div, nn_rem, nn_min, nn_max, nn_abs, nn_ltT, nn_ltF, nn_leT, nn_leF, nn_eqT, nn_eqF, nn_eqM, nn_Meq, nn_ltM, nn_Mlt, nn_leM, nn_Mle, z_ix_nn, z_inb_nn, F_at_nn, F_put_nn, Nat.zero_add, Nat.add_zero, z_P_some, z_R_some, z_P_bd]
theorem prodM_A {N : Nat} {slf : z_Dat → Option z_Dat} {G : z_Dat} (hN : 2000 < N) (h : F_X11_fine G = nn 0) : F_X11_readProduct N slf G = some G := by
  unfold F_X11_readProduct
  rw [unitM_A h, z_bdE]
  cases N with
  | zero => omega
  | succ N =>
    show F_X11_readProduct_L4 _ slf _ G = _
    simp (disch := omega) only [F_X11_readProduct_L4, h, ↓reduceIte, ↓z_letE, ↓z_bdE, nn_l2, nn_add, nn_mul, nn_sub, nn_addM, nn_div, nn_rem, nn_min, nn_max, nn_abs, nn_ltT, nn_ltF, nn_leT, nn_leF, nn_eqT, nn_eqF, nn_eqM, nn_Meq, nn_ltM, nn_Mlt, nn_leM, nn_Mle, z_ix_nn, z_inb_nn, F_at_nn, F_put_nn, Nat.zero_add, Nat.add_zero, z_P_some, z_R_some, z_P_bd]
theorem sumM_A {N K : Nat} {G : z_Dat} (hN : 2000 < N) (h : F_X11_fine G = nn 0) : F_X11_readSum N (K + 1) G = some G := by
  show F_X11_readSum_B N _ G = _
  unfold F_X11_readSum_B
  rw [prodM_A hN h, z_bdE]
  cases N with
  | zero => omega
  | succ N =>
    show F_X11_readSum_L4 _ _ _ G = _
    simp (disch := omega) only [F_X11_readSum_L4, h, ↓reduceIte, ↓z_letE, ↓z_bdE, nn_l2, nn_add, nn_mul, nn_sub, nn_addM, nn_div, nn_rem, nn_min, nn_max, nn_abs, nn_ltT, nn_ltF, nn_leT, nn_leF, nn_eqT, nn_eqF, nn_eqM, nn_Meq, nn_ltM, nn_Mlt, nn_leM, nn_Mle, z_ix_nn, z_inb_nn, F_at_nn, F_put_nn, Nat.zero_add, Nat.add_zero, z_P_some, z_R_some, z_P_bd]
theorem sum_R {t : Nat → Nat} {N L : Nat} (hN : 2000 < N) (hL : L ≤ 150) : ∀ (K op m e x : Nat) (D G : z_Dat), op ≤ 6 → 8 ≤ K + op → LSm t L m e op x D G → z_R (F_X5_readSum N K (nn op) D) (F_X11_readSum N K G) (UP t L m e op x D G) := by
  intro K
  induction K with
  | zero => intro op m e x D G h1 h2; omega
  | succ K ih =>
    intro op m e x D G h1 h2 hS
    show z_R (F_X5_readSum_B N (F_X5_readSum N K) (nn op) D) (F_X11_readSum_B N (F_X11_readSum N K) G) _
    refine sumB_R hN hL (fun m e x D G hS => prod_R hN hL (fun m e x D G hS => unit_R hN hL h1 (fun h6 m e x D G hS => ih (op + 1) m e x D G (by omega) (by omega) hS) (fun G hG => ?_) hS) hS) hS
    cases K with
    | zero => omega
    | succ K => exact sumM_A hN hG
