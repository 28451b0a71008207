/-! ===== reading a law: one unit ===== -/
theorem factHere_e {t : Nat → Nat} {N L h r : Nat} {F : z_Dat} (hN : 2000 < N) (hw : F_X11_word N F = some (nn (cdr t h r), F)) (hr : LR_ t L h r) : (∀ j, j < 9 → WM t h r (wid 1 j) → F_X11_factHere N F = some (nn j, F)) ∧ ((∀ j, j < 9 → ¬ WM t h r (wid 1 j)) → F_X11_factHere N F = some (-nn 1, F)) := by
  have hb := cdr_b hr
  have o : ∀ j, j < 9 → F_X11_of N (9 + j) = some (nn (wcd (9 + j))) := fun j hj => of_e hN (by omega) (by omega)
  have b : ∀ j, j < 9 → wcd (9 + j) < 1073741824 := fun j hj => wcd_b (9 + j) (by omega) (by omega)
  have w : ∀ j, j < 9 → wid 1 j = 9 + j := by decide
  have c : ∀ j, j < 9 → (WM t h r (wid 1 j) ↔ cdr t h r = wcd (9 + j)) := fun j hj => by rw [w j hj]; exact WM_c hr (by omega) (by omega)
  have inj : ∀ i, i < 9 → ∀ j, j < 9 → wcd (9 + i) = wcd (9 + j) → i = j := fun i hi j hj q => by
    have := wcd_inj (9 + i) (by omega) (by omega) (9 + j) (by omega) (by omega) q
    omega
  generalize cdr t h r = C at *
  have o0 : F_X11_of N 9 = some (nn (wcd 9)) := o 0 (by decide)
  have o1 : F_X11_of N 10 = some (nn (wcd 10)) := o 1 (by decide)
  have o2 : F_X11_of N 11 = some (nn (wcd 11)) := o 2 (by decide)
  have o3 : F_X11_of N 12 = some (nn (wcd 12)) := o 3 (by decide)
  have o4 : F_X11_of N 13 = some (nn (wcd 13)) := o 4 (by decide)
  have o5 : F_X11_of N 14 = some (nn (wcd 14)) := o 5 (by decide)
  have o6 : F_X11_of N 15 = some (nn (wcd 15)) := o 6 (by decide)
  have o7 : F_X11_of N 16 = some (nn (wcd 16)) := o 7 (by decide)
  have o8 : F_X11_of N 17 = some (nn (wcd 17)) := o 8 (by decide)
  have t_ : ∀ i, i < 9 → (nn C = nn (wcd (9 + i))) = (C = wcd (9 + i)) := fun i hi => nn_eq (by omega) (by have := b i hi; omega)
  have t0 : (nn C = nn (wcd 9)) = (C = wcd (9 + 0)) := t_ 0 (by decide)
  have t1 : (nn C = nn (wcd 10)) = (C = wcd (9 + 1)) := t_ 1 (by decide)
  have t2 : (nn C = nn (wcd 11)) = (C = wcd (9 + 2)) := t_ 2 (by decide)
  have t3 : (nn C = nn (wcd 12)) = (C = wcd (9 + 3)) := t_ 3 (by decide)
  have t4 : (nn C = nn (wcd 13)) = (C = wcd (9 + 4)) := t_ 4 (by decide)
  have t5 : (nn C = nn (wcd 14)) = (C = wcd (9 + 5)) := t_ 5 (by decide)
  have t6 : (nn C = nn (wcd 15)) = (C = wcd (9 + 6)) := t_ 6 (by decide)
  have t7 : (nn C = nn (wcd 16)) = (C = wcd (9 + 7)) := t_ 7 (by decide)
  have t8 : (nn C = nn (wcd 17)) = (C = wcd (9 + 8)) := t_ 8 (by decide)
  have main : ∀ k, F_X11_factHere N F = some k → F_X11_factHere N F = some k := fun k h => h
  have e : F_X11_factHere N F = some (if C = wcd (9 + 0) then nn 0 else if C = wcd (9 + 1) then nn 1 else if C = wcd (9 + 2) then nn 2 else if C = wcd (9 + 3) then nn 3 else if C = wcd (9 + 4) then nn 4 else if C = wcd (9 + 5) then nn 5 else if C = wcd (9 + 6) then nn 6 else if C = wcd (9 + 7) then nn 7 else if C = wcd (9 + 8) then nn 8 else -nn 1, F) := by
    unfold F_X11_factHere
    rw [hw, z_bdE, o0, z_bdE]
    dsimp only
    by_cases q0 : C = wcd (9 + 0)
    · rw [if_pos (by rw [t0]; exact q0), if_pos q0]; rfl
    rw [if_neg (by rw [t0]; exact q0), if_neg q0, o1, z_bdE]
    by_cases q1 : C = wcd (9 + 1)
    · rw [if_pos (by rw [t1]; exact q1), if_pos q1]; rfl
    rw [if_neg (by rw [t1]; exact q1), if_neg q1, o2, z_bdE]
    by_cases q2 : C = wcd (9 + 2)
    · rw [if_pos (by rw [t2]; exact q2), if_pos q2]; rfl
    rw [if_neg (by rw [t2]; exact q2), if_neg q2, o3, z_bdE]
    by_cases q3 : C = wcd (9 + 3)
    · rw [if_pos (by rw [t3]; exact q3), if_pos q3]; rfl
    rw [if_neg (by rw [t3]; exact q3), if_neg q3, o4, z_bdE]
    by_cases q4 : C = wcd (9 + 4)
    · rw [if_pos (by rw [t4]; exact q4), if_pos q4]; rfl
    rw [if_neg (by rw [t4]; exact q4), if_neg q4, o5, z_bdE]
    by_cases q5 : C = wcd (9 + 5)
    · rw [if_pos (by rw [t5]; exact q5), if_pos q5]; rfl
    rw [if_neg (by rw [t5]; exact q5), if_neg q5, o6, z_bdE]
    by_cases q6 : C = wcd (9 + 6)
    · rw [if_pos (by rw [t6]; exact q6), if_pos q6]; rfl
    rw [if_neg (by rw [t6]; exact q6), if_neg q6, o7, z_bdE]
    by_cases q7 : C = wcd (9 + 7)
    · rw [if_pos (by rw [t7]; exact q7), if_pos q7]; rfl
    rw [if_neg (by rw [t7]; exact q7), if_neg q7, o8, z_bdE]
    by_cases q8 : C = wcd (9 + 8)
    · rw [if_pos (by rw [t8]; exact q8), if_pos q8]; rfl
    rw [if_neg (by rw [t8]; exact q8), if_neg q8]; rfl
  constructor
  · intro j hj hW
    have hc := (c j hj).mp hW
    have nq : ∀ i, i < 9 → i ≠ j → ¬ C = wcd (9 + i) := fun i hi hij q => hij (inj i hi j hj (q.symm.trans hc))
    rw [e]
    rcases (show j = 0 ∨ j = 1 ∨ j = 2 ∨ j = 3 ∨ j = 4 ∨ j = 5 ∨ j = 6 ∨ j = 7 ∨ j = 8 by omega) with rfl | rfl | rfl | rfl | rfl | rfl | rfl | rfl | rfl
    · rw [if_pos hc]
    · rw [if_neg (nq 0 (by decide) (by decide)), if_pos hc]
    · rw [if_neg (nq 0 (by decide) (by decide)), if_neg (nq 1 (by decide) (by decide)), if_pos hc]
    · rw [if_neg (nq 0 (by decide) (by decide)), if_neg (nq 1 (by decide) (by decide)), if_neg (nq 2 (by decide) (by decide)), if_pos hc]
    · rw [if_neg (nq 0 (by decide) (by decide)), if_neg (nq 1 (by decide) (by decide)), if_neg (nq 2 (by decide) (by decide)), if_neg (nq 3 (by decide) (by decide)), if_pos hc]
    · rw [if_neg (nq 0 (by decide) (by decide)), if_neg (nq 1 (by decide) (by decide)), if_neg (nq 2 (by decide) (by decide)), if_neg (nq 3 (by decide) (by decide)), if_neg (nq 4 (by decide) (by decide)), if_pos hc]
    · rw [if_neg (nq 0 (by decide) (by decide)), if_neg (nq 1 (by decide) (by decide)), if_neg (nq 2 (by decide) (by decide)), if_neg (nq 3 (by decide) (by decide)), if_neg (nq 4 (by decide) (by decide)), if_neg (nq 5 (by decide) (by decide)), if_pos hc]
    · rw [if_neg (nq 0 (by decide) (by decide)), if_neg (nq 1 (by decide) (by decide)), if_neg (nq 2 (by decide) (by decide)), if_neg (nq 3 (by decide) (by decide)), if_neg (nq 4 (by decide) (by decide)), if_neg (nq 5 (by decide) (by decide)), if_neg (nq 6 (by decide) (by decide)), if_pos hc]
    · rw [if_neg (nq 0 (by decide) (by decide)), if_neg (nq 1 (by decide) (by decide)), if_neg (nq 2 (by decide) (by decide)), if_neg (nq 3 (by decide) (by decide)), if_neg (nq 4 (by decide) (by decide)), if_neg (nq 5 (by decide) (by decide)), if_neg (nq 6 (by decide) (by decide)), if_neg (nq 7 (by decide) (by decide)), if_pos hc]
  · intro hno
    have nq : ∀ i, i < 9 → ¬ C = wcd (9 + i) := fun i hi q => hno i hi ((c i hi).mpr q)
    rw [e, if_neg (nq 0 (by decide)), if_neg (nq 1 (by decide)), if_neg (nq 2 (by decide)), if_neg (nq 3 (by decide)), if_neg (nq 4 (by decide)), if_neg (nq 5 (by decide)), if_neg (nq 6 (by decide)), if_neg (nq 7 (by decide)), if_neg (nq 8 (by decide))]
def UQ (t : Nat → Nat) (L m e op x : Nat) (D G : z_Dat) (E F : z_Dat) : Prop := LPq D E ∧ LMq G F ∧ ∃ m', m ≤ m' ∧ LSm t L m' e op (x + 1) E F
set_option maxHeartbeats 1000000 in
theorem unit_R {t : Nat → Nat} {N L m e op x : Nat} {D G : z_Dat} {slfP : Int32 → z_Dat → Option z_Dat} {slfM : z_Dat → Option z_Dat} (hN : 2000 < N) (hL : L ≤ 150) (hop : op ≤ 6)
    (hs : op < 6 → ∀ m e x D G, LSm t L m e (op + 1) x D G → z_R (slfP (nn (op + 1)) D) (slfM G) (UP t L m e (op + 1) x D G))
    (hA : ∀ G, F_X11_fine G = nn 0 → slfM G = some G) (hS : LSm t L m e op x D G) : z_R (F_X5_readUnit N slfP (nn op) D) (F_X11_readUnit N slfM G) (UP t L m e op x D G) := by
  by_cases ho : OK D
  rotate_left
  · obtain ⟨h1, h2⟩ := hS.1.nf ho
    obtain ⟨E, e1, e2, e3⟩ := unit_A (N := N) (slf := slfP) (a := nn op) hN h1
    rw [e1]
    simp (disch := omega) only [F_X11_readUnit, h2, ↓reduceIte, ↓z_letE, ↓z_bdE, nn_l2, nn_add, nn_mul, nn_sub, nn_addM, nn_div, nn_rem, nn_min, nn_max, nn_abs, nn_ltT, nn_ltF, nn_leT, nn_leF, nn_eqT, nn_eqF, nn_eqM, nn_Meq, nn_ltM, nn_Mlt, nn_leM, nn_Mle, z_ix_nn, z_inb_nn, F_at_nn, F_put_nn, Nat.zero_add, Nat.add_zero, z_P_some, z_R_some, z_P_bd]
    have hnE : ¬ OK E := by
      unfold OK
      rw [e3]
      exact ho
    exact ⟨e2, LMq.rf, m, Nat.le_refl _, LSm.no (m := m) (hS.1.cg e3 (e2.1 2 (by decide) (by decide) (by decide)) rfl (fun _ _ _ => rfl)) hnE⟩
  obtain ⟨f1, f2⟩ := hS.1.ff ho
  obtain ⟨h, F, hmh, hRM, hI, hRC, n1, n2, n3, -, n4⟩ := next_C (N := N) hN hS.1 ho
  have hT1 := hRC.1
  have hhL := hI.1.2.1
  have hF5 := hI.2.2.2.2.2
  have hid := here_id (N := N) hN hT1 hhL hI.1.2.2.2 n4
  have hSF := hS.rp (d := 0) RP.rf hRM (hRC.le hmh) (fun q => ⟨q, by omega⟩)
  obtain ⟨nd, b1, b2, b3, b4, b5⟩ := hSF.2 ho
  by_cases hdg : h < L ∧ dgi (t h)
  · obtain ⟨hh, hd⟩ := hdg
    rw [if_pos hh] at n1
    have hcv : cvt t L h = nn (t h) := if_pos hh
    have htb := (hT1.2.1 h (by omega)).1
    obtain ⟨d1, d2⟩ := dig_t hd
    have h40 : ¬ t h = 40 := by unfold dgi at hd; omega
    rw [hcv] at n2 hid
    simp (disch := omega) only [F_X5_readUnit, n1, d1, F_X11_readUnit, f2, n2, hid, d2, ↓reduceIte, ↓z_letE, ↓z_bdE, nn_l2, nn_add, nn_mul, nn_sub, nn_addM, nn_div, nn_rem, nn_min, nn_max, nn_abs, nn_ltT, nn_ltF, nn_leT, nn_leF, nn_eqT, nn_eqF, nn_eqM, nn_Meq, nn_ltM, nn_Mlt, nn_leM, nn_Mle, z_ix_nn, z_inb_nn, F_at_nn, F_put_nn, Nat.zero_add, Nat.add_zero, z_P_some, z_R_some, z_P_bd]
    refine z_R_bd (z_R_mono (num_C hN hRC q1000 (by decide)) (fun a c hac => ?_))
    obtain ⟨a, E1⟩ := a
    obtain ⟨c, F1⟩ := c
    obtain ⟨p1, p2, p3, p4⟩ := hac
    dsimp only at p1 p2 p3 p4 ⊢
    have hS1 : LSm t L (m + 1) (e + 1) op x E1 F1 := by
      by_cases hoE : OK E1
      · exact hSF.rp (d := 1) p1 p2 ((p4 hoE).2.1.le (by omega)) (fun q => ⟨ho, by omega⟩)
      · exact LSm.no p3 hoE
    obtain ⟨F2, v1, v2, v3⟩ := emit_C (a := a) (c := nn 0) (v := c) (x' := x + 1) hL hS1 (fun q => by
      obtain ⟨-, -, v, v1, v2, v3⟩ := p4 q
      exact Or.inl ⟨v, by omega, v2, rfl, v3, rfl⟩)
    simp (disch := omega) only [v1, ↓reduceIte, ↓z_letE, ↓z_bdE, nn_l2, nn_add, nn_mul, nn_sub, nn_addM, nn_div, nn_rem, nn_min, nn_max, nn_abs, nn_ltT, nn_ltF, nn_leT, nn_leF, nn_eqT, nn_eqF, nn_eqM, nn_Meq, nn_ltM, nn_Mlt, nn_leM, nn_Mle, z_ix_nn, z_inb_nn, F_at_nn, F_put_nn, Nat.zero_add, Nat.add_zero, z_P_some, z_R_some, z_P_bd]
    exact ⟨(LPq.rp p1).tr write_LP, (LMq.rm hRM).tr ((LMq.rm p2).tr v2), m + 1, by omega, v3⟩
  have hd1 : F_X10_isDigit (if h < L then nn (t h) else -nn 1) = nn 0 := by
    by_cases hh : h < L
    · rw [if_pos hh]
      exact (dig_f (hT1.2.1 h (by omega)).1 (fun q => hdg ⟨hh, q⟩)).1
    · rw [if_neg hh]
      exact dig_M
  have hd2 : F_X11_isDigit (cvt t L h) = nn 0 := by
    unfold cvt
    by_cases hh : h < L
    · rw [if_pos hh]
      exact (dig_f (hT1.2.1 h (by omega)).1 (fun q => hdg ⟨hh, q⟩)).2
    · rw [if_neg hh]
      exact (dig_f (c := 0) (by decide) (by unfold dgi; omega)).2
  rcases takesS (N := N) (c := 40) hN hT1 hI (by decide) (by decide) with ⟨hh, h40, hcv, E, m1, m2, m3, h', m4, m5⟩ | ⟨hno, hcv, m1⟩
  · -- brackets
    have hTE : TP t L E (z_up F 40 4 (nn (h + 1))) := hT1.keep m2 (RM.rf.up (by decide) (by decide))
    have hSE : LSm t L (m + 1) (e + 1) op x E (z_up F 40 4 (nn (h + 1))) := hSF.rp (d := 1) m2 (RM.rf.up (by decide) (by decide)) ⟨hTE, Or.inl ⟨h', h + 1, by omega, m5⟩⟩ (fun _ => ⟨ho, by omega⟩)
    by_cases h6 : op = 6
    · subst h6
      have eo := opens_6 (r := 1) (by omega) hF5 b4 n4
      obtain ⟨a1, a2, a3⟩ := fail_X (k := 3) (pl := h) m5.ok hF5 (by decide) (by decide) (by omega)
      have hA1 : FA 3 h (F_X8_fail (nn 3) (nn h) E) (z_up (F_X11_wrong (nn 3) (nn h) F) 40 7 (nn 7)) := by
        obtain ⟨k1, k2, k3, k4, k5, k6, k7⟩ := a1
        exact ⟨k1, k2, k3, k4, k5, by rw [z_up_i (by decide)]; exact k6, by rw [z_up_i (by decide)]; exact k7⟩
      have g41 := (sign_A (N := N) (c := 41) hA1).2
      have gs := hA _ hA1.T.2
      rw [hcv] at n2
      simp (disch := omega) only [F_X5_readUnit, n1, hd1, m1, F_X5_isDeepest, m3, F_X11_readUnit, f2, n2, eo, gs, g41, z_up_at, ↓reduceIte, ↓z_letE, ↓z_bdE, nn_l2, nn_add, nn_mul, nn_sub, nn_addM, nn_div, nn_rem, nn_min, nn_max, nn_abs, nn_ltT, nn_ltF, nn_leT, nn_leF, nn_eqT, nn_eqF, nn_eqM, nn_Meq, nn_ltM, nn_Mlt, nn_leM, nn_Mle, z_ix_nn, z_inb_nn, F_at_nn, F_put_nn, Nat.zero_add, Nat.add_zero, z_P_some, z_R_some, z_P_bd]
      refine ⟨(LPq.rp m2).tr (LPq.rp a2), (LMq.rm hRM).tr ((LMq.rm a3).tr ⟨fun r h1 h2 h3 => by rw [z_up_ne h1, z_up_ne h1], fun j hj => by rw [z_up_i (by omega), z_up_i (by omega)]⟩), m, Nat.le_refl _, LSm.no (m := m) ?_ a1.no⟩
      exact (RC.upM (RC.upM ⟨hT1.keep (m2.tr a2) a3, Or.inr ⟨3, h, a1⟩⟩ (Or.inr (Or.inl (by decide))) (by decide)) (Or.inr (Or.inl (by decide))) (by decide))
    · have h6' : op < 6 := by omega
      have eo := opens_ok (r := 1) h6' hF5 b4 n4
      have hS2 : LSm t L (m + 1) (e + 1) (op + 1) x E (z_up (z_up F 40 4 (nn (h + 1))) 40 7 (nn (op + 1))) := ⟨hSE.1.upM (Or.inr (Or.inl (by decide))) (by decide), fun q => by
        obtain ⟨nd, b1, b2, b3, b4, b5⟩ := hSE.2 q
        exact ⟨nd, b1, b2, by rw [z_up_i (by decide)]; exact b3, by rw [z_up_at rfl rfl], b5.keep rfl (z_up_ne (by decide)) (z_up_ne (by decide))⟩⟩
      have hLM : LMq F (z_up (z_up F 40 4 (nn (h + 1))) 40 7 (nn (op + 1))) := ⟨fun r h1 h2 h3 => by rw [z_up_ne h1, z_up_ne h1], fun j hj => by rw [z_up_i (by omega), z_up_i (by omega)]⟩
      generalize z_up (z_up F 40 4 (nn (h + 1))) 40 7 (nn (op + 1)) = F1 at eo hS2 hLM
      rw [hcv] at n2
      simp (disch := omega) only [F_X5_readUnit, n1, hd1, m1, F_X5_isDeepest, F_X11_readUnit, f2, n2, eo, ↓reduceIte, ↓z_letE, ↓z_bdE, nn_l2, nn_add, nn_mul, nn_sub, nn_addM, nn_div, nn_rem, nn_min, nn_max, nn_abs, nn_ltT, nn_ltF, nn_leT, nn_leF, nn_eqT, nn_eqF, nn_eqM, nn_Meq, nn_ltM, nn_Mlt, nn_leM, nn_Mle, z_ix_nn, z_inb_nn, F_at_nn, F_put_nn, Nat.zero_add, Nat.add_zero, z_P_some, z_R_some, z_P_bd]
      refine z_R_bd (z_R_mono (hs h6' _ _ _ _ _ hS2) (fun E2 F3 hEF => ?_))
      obtain ⟨c1, c2, m2', c3, hS4⟩ := hEF
      refine z_R_bd (z_R_mono (sign_C (c := 41) hN hS4.1 (by decide) (by decide)) (fun E3 F4 hEF => ?_))
      obtain ⟨u1, u2, u3, u4⟩ := hEF
      have hS5 := hS4.rp (d := 0) u1 u2 u3 (fun q => ⟨(u4 q).1, by omega⟩)
      have hS8 : LSm t L m2' e op (x + 1) E3 (z_up F4 40 7 (F4 40 7 - nn 1)) := ⟨hS5.1.upM (Or.inr (Or.inl (by decide))) (by decide), fun q => by
        obtain ⟨nd, b1, b2, b3, b4, b5⟩ := hS5.2 q
        refine ⟨nd, by omega, b2, by rw [z_up_i (by decide)]; exact b3, ?_, b5.keep rfl (z_up_ne (by decide)) (z_up_ne (by decide))⟩
        rw [z_up_at rfl rfl, b4, nn_sub (by omega)]
        rfl⟩
      have hLM2 : LMq F4 (z_up F4 40 7 (F4 40 7 - nn 1)) := ⟨fun r h1 h2 h3 => by rw [z_up_ne h1], fun j hj => by rw [z_up_i (by omega)]⟩
      simp (disch := omega) only [↓reduceIte, ↓z_letE, ↓z_bdE, nn_l2, nn_add, nn_mul, nn_sub, nn_addM, nn_div, nn_rem, nn_min, nn_max, nn_abs, nn_ltT, nn_ltF, nn_leT, nn_leF, nn_eqT, nn_eqF, nn_eqM, nn_Meq, nn_ltM, nn_Mlt, nn_leM, nn_Mle, z_ix_nn, z_inb_nn, F_at_nn, F_put_nn, Nat.zero_add, Nat.add_zero, z_P_some, z_R_some, z_P_bd]
      exact ⟨(LPq.rp m2).tr (c1.tr (LPq.rp u1)), (LMq.rm hRM).tr (hLM.tr (c2.tr ((LMq.rm u2).tr hLM2))), m2', by omega, hS8⟩
  -- a word
  obtain ⟨e0, e1, e2, e3, e4⟩ := run_D t lt_ L (L - h) h (by omega)
  obtain ⟨r, rfl⟩ : ∃ r, e0 = h + r := ⟨e0 - h, by omega⟩
  have hr : LR_ t L h r := ⟨e2, e3, e4⟩
  have hw := word_id (N := N) hN hT1 hhL hI.1.2.2.2 n4 hr
  obtain ⟨fh1, fh2⟩ := factHere_e (N := N) hN hw hr
  have hcb := cdr_b hr
  have o7 := of_e (N := N) (id := 7) hN (by decide) (by decide)
  have o8 := of_e (N := N) (id := 8) hN (by decide) (by decide)
  have b7 := wcd_b 7 (by decide) (by decide)
  have b8 := wcd_b 8 (by decide) (by decide)
  have n78 : (wcd 8 = wcd 7) = False := eq_false (by decide +kernel)
  have w9 : WM t h r 7 ↔ cdr t h r = wcd 7 := WM_c hr (by decide) (by decide)
  have w10 : WM t h r 8 ↔ cdr t h r = wcd 8 := WM_c hr (by decide) (by decide)
  have x4 : ∀ y, (nn y = nn y) = True := fun y => eq_true rfl
  obtain ⟨⟨a, E⟩, k1, k2⟩ := takes_P (N := N) (w := 1) hN hT1 hI.2.1 f1 hr (by decide)
  rcases k2 with ⟨j, hj, hW, k3, k4⟩ | ⟨hno2, k3⟩
  rotate_left
  · cases k3
    have c7 : ¬ cdr t h r = wcd 7 := fun q => hno2 9 (by decide) (w9.mpr q)
    have c8 : ¬ cdr t h r = wcd 8 := fun q => hno2 10 (by decide) (w10.mpr q)
    have hf := fh2 (fun j hj => hno2 j (by have : nw 1 = 11 := rfl; omega))
    obtain ⟨a1, a2, a3⟩ := fail_X (k := 1) (pl := h) ho hF5 (by decide) (by decide) (by omega)
    have aq := a1.T.2
    have e7 : (nn (cdr t h r) = nn (wcd 7)) = False := eq_false (fun q => c7 (nn_inj (by omega) (by omega) q))
    have e8 : (nn (cdr t h r) = nn (wcd 8)) = False := eq_false (fun q => c8 (nn_inj (by omega) (by omega) q))
    simp (disch := omega) only [F_X5_readUnit, nn_l2, ↓reduceIte, ↓z_bdE, ↓z_letE, n1, hd1, m1, k1, hI.2.1, F_X11_readUnit, f2, n2, hcv, hid, hd2, hw, o7, o8, e7, e8, hf, n4, F_X11_readUnit_J136, aq, nn_eqT, nn_eqF, nn_leT, nn_leF, z_R_some, x4, nn_Meq, nn_eqM]
    exact ⟨LPq.rp a2, (LMq.rm hRM).tr (LMq.rm a3), m, Nat.le_refl _, LSm.no (m := m) ⟨hT1.keep a2 a3, Or.inr ⟨1, h, a1⟩⟩ a1.no⟩
  obtain ⟨j1, j2, j3, j4, j5, j6, j7, -⟩ := ws_at 1 (by decide) j hj
  obtain ⟨E', p1, p2, p3, p4, p5, h', p6, p7, p8, p9, p10⟩ := pass_P (m := r) hN hT1 hI.2.1 e2
  dsimp only at k3 k4
  rw [k4] at p1
  cases p1
  subst k3
  have hr3 : 3 ≤ r := by rw [hW.1, j5]; exact j6
  have hE5 : OK E := by unfold OK; rw [p3]; exact ho
  have hj11 : j < 11 := hj
  have hTE : TP t L E (z_up F 40 4 (nn (h + r))) := hT1.keep p2 (RM.rf.up (by decide) (by decide))
  have hI3 : FI t L h' (h + r) E (z_up F 40 4 (nn (h + r))) := ⟨⟨p6, p7, p8, p9⟩, p10, hE5, by rw [p4]; exact hI.2.2.2.1, by rw [z_up_at rfl rfl], by rw [z_up_i (by decide)]; exact hF5⟩
  have hSE : LSm t L (m + 1) (e + 1) op x E (z_up F 40 4 (nn (h + r))) := hSF.rp (d := 1) p2 (RM.rf.up (by decide) (by decide)) ⟨hTE, Or.inl ⟨h', h + r, by omega, hI3⟩⟩ (fun _ => ⟨ho, by omega⟩)
  by_cases h9 : j < 9
  · have hf := fh1 j h9 hW
    have c7 : ¬ cdr t h r = wcd 7 := fun q => by
      have := wcd_inj _ j4 j3 7 (by decide) (by decide) (((WM_c hr j4 j3).mp hW).symm.trans q)
      have w : ∀ j, j < 9 → wid 1 j = 9 + j := by decide
      rw [w j h9] at this
      omega
    have c8 : ¬ cdr t h r = wcd 8 := fun q => by
      have := wcd_inj _ j4 j3 8 (by decide) (by decide) (((WM_c hr j4 j3).mp hW).symm.trans q)
      have w : ∀ j, j < 9 → wid 1 j = 9 + j := by decide
      rw [w j h9] at this
      omega
    obtain ⟨F3, y1, y2, y3, y4, y5⟩ := mpass_P (N := N) hN hT1 n4 hr
    have hI4 : FI t L h' (h + r) E F3 := ⟨⟨p6, p7, p8, p9⟩, p10, hE5, by rw [p4]; exact hI.2.2.2.1, y5, by rw [y3]; exact hF5⟩
    have hS3 : LSm t L (m + 1) (e + 1) op x E F3 := hSF.rp (d := 1) p2 y2 ⟨hT1.keep p2 y2, Or.inl ⟨h', h + r, by omega, hI4⟩⟩ (fun _ => ⟨ho, by omega⟩)
    obtain ⟨F2, v1, v2, v3⟩ := emit_C (a := nn (1000 + j)) (c := nn 1) (v := nn j) (x' := x + 1) hL hS3 (fun q => Or.inr (Or.inl ⟨j, h9, rfl, rfl, rfl, rfl⟩))
    have hFf := hI.T.2
    have e7 : (nn (cdr t h r) = nn (wcd 7)) = False := eq_false (fun q => c7 (nn_inj (by omega) (by omega) q))
    have e8 : (nn (cdr t h r) = nn (wcd 8)) = False := eq_false (fun q => c8 (nn_inj (by omega) (by omega) q))
    simp (disch := omega) only [F_X5_readUnit, nn_l2, ↓reduceIte, ↓z_bdE, ↓z_letE, n1, hd1, m1, k1, F_X11_readUnit, f2, n2, hcv, hid, hd2, hw, o7, o8, e7, e8, hf, F_X11_readUnit_J136, hFf, y1, v1, nn_eqT, nn_eqF, nn_leT, nn_leF, z_R_some, nn_eqM, nn_add, x4]
    exact ⟨(LPq.rp p2).tr write_LP, (LMq.rm hRM).tr ((LMq.rm y2).tr v2), m + 1, by omega, v3⟩
  · have hEF : UP t L (m + 1 - 1) e op x E F = UP t L m e op x E F := rfl
    rcases (show j = 9 ∨ j = 10 by omega) with rfl | rfl
    · have hr5 : r = 5 := hW.1
      have c7 : cdr t h r = wcd 7 := w9.mp hW
      have two := two_R (s := 0) (m := m + 1) (e := e) (x := x) (h := h) (h' := h') (r := r) (E := E) (F := F) (slfP := slfP) (slfM := slfM) hN hL hop (by decide) hs hA (by omega) p5 n4 hF5 b4 hE5 hSE
      subst hr5
      rw [c7] at hw
      simp (disch := omega) only [F_X5_readUnit, nn_l2, ↓reduceIte, ↓z_bdE, ↓z_letE, n1, hd1, m1, k1, F_X11_readUnit, f2, n2, hcv, hid, hd2, hw, o7, nn_eqT, nn_eqF, nn_leT, nn_leF, nn_eqM, nn_add, nn_sub, x4, z_bd_id]
      refine z_R_mono two (fun E' F' hq => ?_)
      obtain ⟨q1, q2, m', q3, q4⟩ := hq
      exact ⟨(LPq.rp p2).tr q1, (LMq.rm hRM).tr q2, m', by omega, q4⟩
    · have hr5 : r = 4 := hW.1
      have c8 : cdr t h r = wcd 8 := w10.mp hW
      have two := two_R (s := 1) (m := m + 1) (e := e) (x := x) (h := h) (h' := h') (r := r) (E := E) (F := F) (slfP := slfP) (slfM := slfM) hN hL hop (by decide) hs hA (by omega) p5 n4 hF5 b4 hE5 hSE
      subst hr5
      rw [c8] at hw
      simp (disch := omega) only [F_X5_readUnit, nn_l2, ↓reduceIte, ↓z_bdE, ↓z_letE, n1, hd1, m1, k1, F_X11_readUnit, f2, n2, hcv, hid, hd2, hw, o7, o8, n78, nn_eq, nn_eqT, nn_eqF, nn_leT, nn_leF, nn_eqM, nn_add, nn_sub, x4, z_bd_id]
      refine z_R_mono two (fun E' F' hq => ?_)
      obtain ⟨q1, q2, m', q3, q4⟩ := hq
      exact ⟨(LPq.rp p2).tr q1, (LMq.rm hRM).tr q2, m', by omega, q4⟩
