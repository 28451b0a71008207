/-! ===== reading: numbers ===== -/
def dgi (c : Nat) : Prop := 48 ≤ c ∧ c ≤ 57
theorem dig_t {c : Nat} (h : dgi c) : F_X10_isDigit (nn c) = nn 1 ∧ F_X11_isDigit (nn c) = nn 1 := by
  unfold dgi at h
  exact ⟨by simp (disch := omega) only [F_X10_isDigit, ↓reduceIte, ↓z_letE, ↓z_bdE, nn_l2, nn_add, nn_mul, nn_sub, nn_addM, nn_div, nn_rem, nn_min, nn_max, nn_abs, nn_ltT, nn_ltF, nn_leT, nn_leF, nn_eqT, nn_eqF, nn_eqM, nn_Meq, nn_ltM, nn_Mlt, nn_leM, nn_Mle, z_ix_nn, z_inb_nn, F_at_nn, F_put_nn, Nat.zero_add, Nat.add_zero, z_P_some, z_R_some, z_P_bd], by simp (disch := omega) only [F_X11_isDigit, ↓reduceIte, ↓z_letE, ↓z_bdE, nn_l2, nn_add, nn_mul, nn_sub, nn_addM, nn_div, nn_rem, nn_min, nn_max, nn_abs, nn_ltT, nn_ltF, nn_leT, nn_leF, nn_eqT, nn_eqF, nn_eqM, nn_Meq, nn_ltM, nn_Mlt, nn_leM, nn_Mle, z_ix_nn, z_inb_nn, F_at_nn, F_put_nn, Nat.zero_add, Nat.add_zero, z_P_some, z_R_some, z_P_bd]⟩
theorem dig_f {c : Nat} (hc : c < 256) (h : ¬ dgi c) : F_X10_isDigit (nn c) = nn 0 ∧ F_X11_isDigit (nn c) = nn 0 := by
  unfold dgi at h
  by_cases h1 : c < 48
  · exact ⟨by simp (disch := omega) only [F_X10_isDigit, ↓reduceIte, ↓z_letE, ↓z_bdE, nn_l2, nn_add, nn_mul, nn_sub, nn_addM, nn_div, nn_rem, nn_min, nn_max, nn_abs, nn_ltT, nn_ltF, nn_leT, nn_leF, nn_eqT, nn_eqF, nn_eqM, nn_Meq, nn_ltM, nn_Mlt, nn_leM, nn_Mle, z_ix_nn, z_inb_nn, F_at_nn, F_put_nn, Nat.zero_add, Nat.add_zero, z_P_some, z_R_some, z_P_bd], by simp (disch := omega) only [F_X11_isDigit, ↓reduceIte, ↓z_letE, ↓z_bdE, nn_l2, nn_add, nn_mul, nn_sub, nn_addM, nn_div, nn_rem, nn_min, nn_max, nn_abs, nn_ltT, nn_ltF, nn_leT, nn_leF, nn_eqT, nn_eqF, nn_eqM, nn_Meq, nn_ltM, nn_Mlt, nn_leM, nn_Mle, z_ix_nn, z_inb_nn, F_at_nn, F_put_nn, Nat.zero_add, Nat.add_zero, z_P_some, z_R_some, z_P_bd]⟩
  · exact ⟨by simp (disch := omega) only [F_X10_isDigit, ↓reduceIte, ↓z_letE, ↓z_bdE, nn_l2, nn_add, nn_mul, nn_sub, nn_addM, nn_div, nn_rem, nn_min, nn_max, nn_abs, nn_ltT, nn_ltF, nn_leT, nn_leF, nn_eqT, nn_eqF, nn_eqM, nn_Meq, nn_ltM, nn_Mlt, nn_leM, nn_Mle, z_ix_nn, z_inb_nn, F_at_nn, F_put_nn, Nat.zero_add, Nat.add_zero, z_P_some, z_R_some, z_P_bd], by simp (disch := omega) only [F_X11_isDigit, ↓reduceIte, ↓z_letE, ↓z_bdE, nn_l2, nn_add, nn_mul, nn_sub, nn_addM, nn_div, nn_rem, nn_min, nn_max, nn_abs, nn_ltT, nn_ltF, nn_leT, nn_leF, nn_eqT, nn_eqF, nn_eqM, nn_Meq, nn_ltM, nn_Mlt, nn_leM, nn_Mle, z_ix_nn, z_inb_nn, F_at_nn, F_put_nn, Nat.zero_add, Nat.add_zero, z_P_some, z_R_some, z_P_bd]⟩
theorem dig_M : F_X10_isDigit (-nn 1) = nn 0 := by decide
theorem q_le {v qb : Nat} (hv : v < 1073741824) (hq : qb < 1073741824) : (nn v ≤ nn qb - nn 1) = (v < qb) := propext (by
  rw [Int32.le_iff_toInt_le, nn_toInt (by omega), nn_dif hq (by decide)]
  omega)
theorem run_D (t : Nat → Nat) (P : Nat → Prop) (L : Nat) : ∀ k h, h + k = L → ∃ e, h ≤ e ∧ e ≤ L ∧ (∀ j, h ≤ j → j < e → P (t j)) ∧ (e < L → ¬ P (t e)) := by
  intro k
  induction k with
  | zero => exact fun h hk => ⟨h, Nat.le_refl _, by omega, fun j a b => by omega, fun q => by omega⟩
  | succ k ih =>
    intro h hk
    by_cases hP : P (t h)
    · obtain ⟨e, e1, e2, e3, e4⟩ := ih (h + 1) (by omega)
      exact ⟨e, by omega, e2, fun j a b => by
        by_cases hj : j = h
        · rw [hj]
          exact hP
        · exact e3 j (by omega) b, e4⟩
    · exact ⟨h, Nat.le_refl _, by omega, fun j a b => by omega, fun _ => hP⟩
def pv (t : Nat → Nat) (h : Nat) : Nat → Nat
  | 0 => 0
  | n + 1 => min 1000000 (pv t h n * 10 + t (h + n) - 48)
def mv (t : Nat → Nat) (h : Nat) : Nat → Nat
  | 0 => 0
  | n + 1 => if mv t h n ≤ 9999 then 10 * mv t h n + t (h + n) - 48 else 10000
theorem pv_mv {t : Nat → Nat} {h : Nat} : ∀ n, (∀ j, j < n → dgi (t (h + j))) → pv t h n ≤ 1000000 ∧ mv t h n ≤ 99999 ∧ (pv t h n = mv t h n ∨ (10000 ≤ pv t h n ∧ 10000 ≤ mv t h n)) := by
  intro n
  induction n with
  | zero => exact fun _ => ⟨by simp [pv], by simp [mv], Or.inl rfl⟩
  | succ n ih =>
    intro hd
    obtain ⟨i1, i2, i3⟩ := ih (fun j hj => hd j (by omega))
    have hn := hd n (by omega)
    unfold dgi at hn
    unfold pv mv
    by_cases h9 : mv t h n ≤ 9999
    · rw [if_pos h9]
      omega
    · rw [if_neg h9]
      omega
theorem numP_P {t : Nat → Nat} {N L h e : Nat} {q : Int32} {D G : z_Dat} (hN : 2000 < N) (hT : TP t L D G) (h3 : D 1 3 = nn h) (h5 : F_X8_failed D = nn 0) (he : h < e) (heL : e ≤ L) (hd : ∀ j, h ≤ j → j < e → dgi (t j)) (hn : e < L → ¬ dgi (t e)) : z_P (F_X8_needNumber N q D) (fun a => a.1 = nn (pv t h (e - h)) ∧ ∃ E, z_P (F_X8_pass N (nn (e - h)) D) (fun E' => E' = E) ∧ a.2 = if nn (pv t h (e - h)) ≤ q then E else F_X8_fail (nn 2) (E 1 4) E) := by
  have hL := hT.1
  have hb : ∀ k, k < 10000 → F_X8_byteAt (nn k) D = some (if k < L then nn (t k) else -nn 1) := fun k hk => byteAt_e hT hk
  have h12 : D 1 2 = nn L := hT.2.2.1
  have h0 := hd h (Nat.le_refl _) he
  have hpv := fun n hn => (pv_mv (t := t) (h := h) n hn).1
  obtain ⟨E, m1, -⟩ := pass_P (m := e - h) hN hT h3 (by omega)
  have b0 := hb h (by omega)
  rw [if_pos (by omega)] at b0
  simp (disch := omega) only [F_X8_needNumber, h5, h3, b0, (dig_t h0).1, ↓reduceIte, ↓z_letE, ↓z_bdE, nn_l2, nn_add, nn_mul, nn_sub, nn_addM, nn_div, nn_rem, nn_min, nn_max, nn_abs, nn_ltT, nn_ltF, nn_leT, nn_leF, nn_eqT, nn_eqF, nn_eqM, nn_Meq, nn_ltM, nn_Mlt, nn_leM, nn_Mle, z_ix_nn, z_inb_nn, F_at_nn, F_put_nn, Nat.zero_add, Nat.add_zero, z_P_some, z_R_some, z_P_bd]
  refine z_P_loop (fun k s => ∃ n, h + n + k = e ∧ s.1 = nn n ∧ s.2 = nn (pv t h n)) ?_ (e - h) N _ (by omega) ⟨0, by omega, rfl, rfl⟩
  rintro k ⟨v1, v2⟩ kc ⟨n, hk, rfl, rfl⟩ ih
  dsimp only
  have hp := hpv n (fun j hj => hd (h + j) (by omega) (by omega))
  by_cases hne : h + n < e
  · have hx := hd (h + n) (by omega) hne
    have b1 := hb (h + n) (by omega)
    rw [if_pos (by omega)] at b1
    have e48 : pv t h n * 10 + t (h + n) - 48 = pv t h n * 10 + t (h + n) - 48 := rfl
    unfold dgi at hx
    have hx2 := (dig_t (c := t (h + n)) hx).1
    simp (disch := omega) only [F_X8_needNumber_L36, h12, h3, b1, hx2, ↓reduceIte, ↓z_letE, ↓z_bdE, nn_l2, nn_add, nn_mul, nn_sub, nn_addM, nn_div, nn_rem, nn_min, nn_max, nn_abs, nn_ltT, nn_ltF, nn_leT, nn_leF, nn_eqT, nn_eqF, nn_eqM, nn_Meq, nn_ltM, nn_Mlt, nn_leM, nn_Mle, z_ix_nn, z_inb_nn, F_at_nn, F_put_nn, Nat.zero_add, Nat.add_zero, z_P_some, z_R_some, z_P_bd]
    exact ih (k - 1) _ (by omega) ⟨n + 1, by omega, rfl, rfl⟩
  · obtain rfl : e = h + n := by omega
    have en : h + n - h = n := by omega
    rw [en] at m1 ⊢
    have fin : z_P (F_X8_needNumber_J90 N q (nn n) (nn (pv t h n)) D) (fun a => a.1 = nn (pv t h n) ∧ ∃ E, z_P (F_X8_pass N (nn n) D) (fun E' => E' = E) ∧ a.2 = if nn (pv t h n) ≤ q then E else F_X8_fail (nn 2) (E 1 4) E) := by
      unfold F_X8_needNumber_J90
      rw [m1, z_bdE]
      by_cases hq : nn (pv t h n) ≤ q
      · rw [if_pos hq, z_P_some]
        exact ⟨rfl, E, ⟨E, rfl, rfl⟩, by rw [if_pos hq]⟩
      · rw [if_neg hq, z_letE, z_P_some]
        exact ⟨rfl, E, ⟨E, rfl, rfl⟩, by rw [if_neg hq]; rfl⟩
    by_cases hnL : L ≤ n
    · simp (disch := omega) only [F_X8_needNumber_L36, h12, ↓reduceIte, ↓z_letE, ↓z_bdE, nn_l2, nn_add, nn_mul, nn_sub, nn_addM, nn_div, nn_rem, nn_min, nn_max, nn_abs, nn_ltT, nn_ltF, nn_leT, nn_leF, nn_eqT, nn_eqF, nn_eqM, nn_Meq, nn_ltM, nn_Mlt, nn_leM, nn_Mle, z_ix_nn, z_inb_nn, F_at_nn, F_put_nn, Nat.zero_add, Nat.add_zero, z_P_some, z_R_some, z_P_bd]
      exact fin
    · have b1 := hb (h + n) (by omega)
      by_cases hl : h + n < L
      · rw [if_pos hl] at b1
        have hx := (dig_f (hT.2.1 (h + n) (by omega)).1 (hn hl)).1
        simp (disch := omega) only [F_X8_needNumber_L36, h12, h3, b1, hx, ↓reduceIte, ↓z_letE, ↓z_bdE, nn_l2, nn_add, nn_mul, nn_sub, nn_addM, nn_div, nn_rem, nn_min, nn_max, nn_abs, nn_ltT, nn_ltF, nn_leT, nn_leF, nn_eqT, nn_eqF, nn_eqM, nn_Meq, nn_ltM, nn_Mlt, nn_leM, nn_Mle, z_ix_nn, z_inb_nn, F_at_nn, F_put_nn, Nat.zero_add, Nat.add_zero, z_P_some, z_R_some, z_P_bd]
        exact fin
      · rw [if_neg hl] at b1
        simp (disch := omega) only [F_X8_needNumber_L36, h12, h3, b1, dig_M, ↓reduceIte, ↓z_letE, ↓z_bdE, nn_l2, nn_add, nn_mul, nn_sub, nn_addM, nn_div, nn_rem, nn_min, nn_max, nn_abs, nn_ltT, nn_ltF, nn_leT, nn_leF, nn_eqT, nn_eqF, nn_eqM, nn_Meq, nn_ltM, nn_Mlt, nn_leM, nn_Mle, z_ix_nn, z_inb_nn, F_at_nn, F_put_nn, Nat.zero_add, Nat.add_zero, z_P_some, z_R_some, z_P_bd]
        exact fin
theorem numM_P {t : Nat → Nat} {N L h e : Nat} {q : Int32} {D G : z_Dat} (hN : 2000 < N) (hT : TP t L D G) (h4 : G 40 4 = nn h) (h5 : G 40 5 = -nn 1) (he : h < e) (heL : e ≤ L) (hd : ∀ j, h ≤ j → j < e → dgi (t j)) (hn : e < L → ¬ dgi (t e)) : z_P (z_loop (fun kc12 s => F_X11_readNumber_L41 (nn 0) q (nn h) kc12 s.1 s.2) N (nn 0, G)) (fun c => ∃ F, RM G F ∧ F 40 4 = nn e ∧ F 40 5 = -nn 1 ∧ c = if nn (mv t h (e - h)) ≤ q then (nn (mv t h (e - h)), F) else (nn 0, F_X11_wrong (nn 2) (nn h) F)) := by
  have hL := hT.1
  have hmv := fun n hn => (pv_mv (t := t) (h := h) n hn).2.1
  refine z_P_loop (fun k s => ∃ n, h + n + k = e ∧ s.1 = nn (mv t h n) ∧ RM G s.2 ∧ s.2 40 4 = nn (h + n) ∧ s.2 40 5 = -nn 1) ?_ (e - h) N _ (by omega) ⟨0, by omega, rfl, RM.rf, h4, h5⟩
  rintro k ⟨v1, F⟩ kc ⟨n, hk, rfl, hR, f4, f5⟩ ih
  dsimp only at hR f4 f5 ⊢
  have f3 : F 40 3 = nn L := by rw [hR.2 3 (Or.inl (by decide))]; exact hT.2.2.2
  have hp := hmv n (fun j hj => hd (h + j) (by omega) (by omega))
  by_cases hne : h + n < e
  · have hx := hd (h + n) (by omega) hne
    have b1 : F 42 (h + n) = nn (t (h + n)) := by rw [hR.1 42 (by decide)]; exact (hT.2.1 (h + n) (by omega)).2.2
    have hx2 := (dig_t (c := t (h + n)) hx).2
    unfold dgi at hx
    by_cases h9 : mv t h n ≤ 9999
    · simp (disch := omega) only [F_X11_readNumber_L41, F_X11_readNumber_J99, f3, f4, b1, hx2, ↓reduceIte, ↓z_letE, ↓z_bdE, nn_l2, nn_add, nn_mul, nn_sub, nn_addM, nn_div, nn_rem, nn_min, nn_max, nn_abs, nn_ltT, nn_ltF, nn_leT, nn_leF, nn_eqT, nn_eqF, nn_eqM, nn_Meq, nn_ltM, nn_Mlt, nn_leM, nn_Mle, z_ix_nn, z_inb_nn, F_at_nn, F_put_nn, Nat.zero_add, Nat.add_zero, z_P_some, z_R_some, z_P_bd]
      exact ih (k - 1) _ (by omega) ⟨n + 1, by omega, by rw [mv, if_pos h9], hR.up (by decide) (by decide), by dsimp only; rw [z_up_at rfl rfl]; rfl, by dsimp only; rw [z_up_i (by decide)]; exact f5⟩
    · simp (disch := omega) only [F_X11_readNumber_L41, F_X11_readNumber_J99x, f3, f4, b1, hx2, ↓reduceIte, ↓z_letE, ↓z_bdE, nn_l2, nn_add, nn_mul, nn_sub, nn_addM, nn_div, nn_rem, nn_min, nn_max, nn_abs, nn_ltT, nn_ltF, nn_leT, nn_leF, nn_eqT, nn_eqF, nn_eqM, nn_Meq, nn_ltM, nn_Mlt, nn_leM, nn_Mle, z_ix_nn, z_inb_nn, F_at_nn, F_put_nn, Nat.zero_add, Nat.add_zero, z_P_some, z_R_some, z_P_bd]
      exact ih (k - 1) _ (by omega) ⟨n + 1, by omega, by rw [mv, if_neg h9], hR.up (by decide) (by decide), by dsimp only; rw [z_up_at rfl rfl]; rfl, by dsimp only; rw [z_up_i (by decide)]; exact f5⟩
  · obtain rfl : e = h + n := by omega
    have en : h + n - h = n := by omega
    rw [en]
    have fin : z_P (F_X11_readNumber_J114 (nn 0) q (nn h) (nn (mv t h n)) F) (fun c => ∃ F, RM G F ∧ F 40 4 = nn (h + n) ∧ F 40 5 = -nn 1 ∧ c = if nn (mv t h n) ≤ q then (nn (mv t h n), F) else (nn 0, F_X11_wrong (nn 2) (nn h) F)) := by
      by_cases hq : nn (mv t h n) ≤ q
      · simp (disch := omega) only [F_X11_readNumber_J114, hq, ↓reduceIte, ↓z_letE, ↓z_bdE, nn_l2, nn_add, nn_mul, nn_sub, nn_addM, nn_div, nn_rem, nn_min, nn_max, nn_abs, nn_ltT, nn_ltF, nn_leT, nn_leF, nn_eqT, nn_eqF, nn_eqM, nn_Meq, nn_ltM, nn_Mlt, nn_leM, nn_Mle, z_ix_nn, z_inb_nn, F_at_nn, F_put_nn, Nat.zero_add, Nat.add_zero, z_P_some, z_R_some, z_P_bd]
        exact ⟨F, hR, f4, f5, rfl⟩
      · simp (disch := omega) only [F_X11_readNumber_J114, hq, ↓reduceIte, ↓z_letE, ↓z_bdE, nn_l2, nn_add, nn_mul, nn_sub, nn_addM, nn_div, nn_rem, nn_min, nn_max, nn_abs, nn_ltT, nn_ltF, nn_leT, nn_leF, nn_eqT, nn_eqF, nn_eqM, nn_Meq, nn_ltM, nn_Mlt, nn_leM, nn_Mle, z_ix_nn, z_inb_nn, F_at_nn, F_put_nn, Nat.zero_add, Nat.add_zero, z_P_some, z_R_some, z_P_bd]
        exact ⟨F, hR, f4, f5, rfl⟩
    by_cases hl : h + n < L
    · have b1 : F 42 (h + n) = nn (t (h + n)) := by rw [hR.1 42 (by decide)]; exact (hT.2.1 (h + n) (by omega)).2.2
      have hx := (dig_f (hT.2.1 (h + n) (by omega)).1 (hn hl)).2
      simp (disch := omega) only [F_X11_readNumber_L41, f3, f4, b1, hx, ↓reduceIte, ↓z_letE, ↓z_bdE, nn_l2, nn_add, nn_mul, nn_sub, nn_addM, nn_div, nn_rem, nn_min, nn_max, nn_abs, nn_ltT, nn_ltF, nn_leT, nn_leF, nn_eqT, nn_eqF, nn_eqM, nn_Meq, nn_ltM, nn_Mlt, nn_leM, nn_Mle, z_ix_nn, z_inb_nn, F_at_nn, F_put_nn, Nat.zero_add, Nat.add_zero, z_P_some, z_R_some, z_P_bd]
      exact fin
    · simp (disch := omega) only [F_X11_readNumber_L41, f3, f4, ↓reduceIte, ↓z_letE, ↓z_bdE, nn_l2, nn_add, nn_mul, nn_sub, nn_addM, nn_div, nn_rem, nn_min, nn_max, nn_abs, nn_ltT, nn_ltF, nn_leT, nn_leF, nn_eqT, nn_eqF, nn_eqM, nn_Meq, nn_ltM, nn_Mlt, nn_leM, nn_Mle, z_ix_nn, z_inb_nn, F_at_nn, F_put_nn, Nat.zero_add, Nat.add_zero, z_P_some, z_R_some, z_P_bd]
      exact fin
theorem num_I {t : Nat → Nat} {N L h p qb : Nat} {q : Int32} {D G : z_Dat} (hN : 2000 < N) (hT : TP t L D G) (hI : FI t L h p D G) (hq : q = nn qb - nn 1) (hqb : qb ≤ 10000) : z_R (F_X8_needNumber N q D) (F_X11_readNumber N (nn 0) q G) (fun a c => RP D a.2 ∧ RM G c.2 ∧ ((∃ v h' p', a.1 = nn v ∧ c.1 = nn v ∧ v < qb ∧ h + 1 ≤ h' ∧ FI t L h' p' a.2 c.2 ∧ a.2 1 4 = nn h) ∨ ∃ k, FA k h a.2 c.2)) := by
  obtain ⟨q1, q2⟩ := hI.T
  obtain ⟨hp, e3, e5, e6, g4, g5⟩ := id hI
  have hL := hT.1
  obtain ⟨⟨v, F⟩, f1, f2, f3, f4, f5, f6⟩ := here_P hN hT hp g4
  dsimp only at f2 f3 f4 f5 f6
  have g5F : F 40 5 = -nn 1 := by rw [f4]; exact g5
  have hIF : FI t L h h D F := ⟨⟨Nat.le_refl _, hp.2.1, fun j a b => by omega, hp.2.2.2⟩, e3, e5, e6, f6, g5F⟩
  have hTF : TP t L D F := hT.keep RP.rf f3
  obtain ⟨e, e1, e2, e4, e7⟩ := run_D t dgi L (L - h) h (by omega)
  by_cases hhe : h < e
  · have h0 := e4 h (Nat.le_refl _) hhe
    obtain ⟨⟨a, E⟩, p1, p2, E', p3, p4⟩ := numP_P (q := q) hN hT e3 q1 hhe e2 e4 e7
    obtain ⟨c, c1, F2, c2, c3, c4, c5⟩ := numM_P (q := q) hN hTF f6 g5F hhe e2 e4 e7
    obtain ⟨E'', m1, m2, m3, m4, m5, h', m6, m7, m8, m9, m10⟩ := pass_P (m := e - h) hN hT e3 (by omega)
    rw [m1, z_P_some] at p3
    subst p3
    dsimp only at p2 p4
    have hv : v = nn (t h) := by rw [f2]; unfold cvt; rw [if_pos (by omega)]
    have hm : F_X11_readNumber N (nn 0) q G = some c := by
      simp (disch := omega) only [F_X11_readNumber, q2, f1, f6, hv, (dig_t h0).2, ↓reduceIte, ↓z_letE, ↓z_bdE, nn_l2, nn_add, nn_mul, nn_sub, nn_addM, nn_div, nn_rem, nn_min, nn_max, nn_abs, nn_ltT, nn_ltF, nn_leT, nn_leF, nn_eqT, nn_eqF, nn_eqM, nn_Meq, nn_ltM, nn_Mlt, nn_leM, nn_Mle, z_ix_nn, z_inb_nn, F_at_nn, F_put_nn, Nat.zero_add, Nat.add_zero, z_P_some, z_R_some, z_P_bd]
      exact c1
    rw [p1, hm, z_R_some]
    have hpm := pv_mv (t := t) (h := h) (e - h) (fun j hj => e4 (h + j) (by omega) (by omega))
    have hle := fun v hv => q_le (v := v) (qb := qb) hv (by omega)
    have hI2 : FI t L h' e E'' F2 := ⟨⟨by omega, m7, fun j a b => m8 j (by omega) b, m9⟩, m10, by rw [m3]; exact e5, by rw [m4]; exact e6, c3, c4⟩
    rw [hq] at p4 c5
    have hR1 : RM G F2 := f3.tr c2
    by_cases hlt : mv t h (e - h) < qb
    · have heq : pv t h (e - h) = mv t h (e - h) := by omega
      rw [if_pos (by rw [hle _ (by omega)]; omega)] at p4
      rw [if_pos (by rw [hle _ (by omega)]; exact hlt)] at c5
      subst p4
      subst c5
      exact ⟨m2, hR1, Or.inl ⟨_, h', e, by rw [p2, heq], rfl, hlt, by omega, hI2, m5⟩⟩
    · rw [if_neg (by rw [hle _ (by omega)]; omega)] at p4
      rw [if_neg (by rw [hle _ (by omega)]; exact hlt)] at c5
      subst p4
      subst c5
      obtain ⟨a1, a2, a3⟩ := fail_I (k := 2) (pl := h) hI2 (by decide) (by decide) (by omega)
      rw [m5]
      exact ⟨m2.tr a2, hR1.tr a3, Or.inr ⟨2, a1⟩⟩
  · have hhe2 : e = h := by omega
    rw [hhe2] at e7
    have eb := byteAt_e (k := h) hT (by omega)
    obtain ⟨a1, a2, a3⟩ := fail_I (k := 1) (pl := h) hIF (by decide) (by decide) (by omega)
    by_cases hl : h < L
    · have hx := dig_f (hT.2.1 h (by omega)).1 (e7 hl)
      have hv : v = nn (t h) := by rw [f2]; unfold cvt; rw [if_pos hl]
      rw [if_pos hl] at eb
      simp (disch := omega) only [F_X8_needNumber, q1, e3, eb, hx.1, F_X11_readNumber, q2, f1, hv, hx.2, f6, ↓reduceIte, ↓z_letE, ↓z_bdE, nn_l2, nn_add, nn_mul, nn_sub, nn_addM, nn_div, nn_rem, nn_min, nn_max, nn_abs, nn_ltT, nn_ltF, nn_leT, nn_leF, nn_eqT, nn_eqF, nn_eqM, nn_Meq, nn_ltM, nn_Mlt, nn_leM, nn_Mle, z_ix_nn, z_inb_nn, F_at_nn, F_put_nn, Nat.zero_add, Nat.add_zero, z_P_some, z_R_some, z_P_bd]
      exact ⟨a2, f3.tr a3, Or.inr ⟨1, a1⟩⟩
    · have hv : v = nn 0 := by rw [f2]; unfold cvt; rw [if_neg hl]
      have hx := dig_f (c := 0) (by decide) (by unfold dgi; omega)
      rw [if_neg hl] at eb
      simp (disch := omega) only [F_X8_needNumber, q1, e3, eb, dig_M, F_X11_readNumber, q2, f1, hv, hx.2, f6, ↓reduceIte, ↓z_letE, ↓z_bdE, nn_l2, nn_add, nn_mul, nn_sub, nn_addM, nn_div, nn_rem, nn_min, nn_max, nn_abs, nn_ltT, nn_ltF, nn_leT, nn_leF, nn_eqT, nn_eqF, nn_eqM, nn_Meq, nn_ltM, nn_Mlt, nn_leM, nn_Mle, z_ix_nn, z_inb_nn, F_at_nn, F_put_nn, Nat.zero_add, Nat.add_zero, z_P_some, z_R_some, z_P_bd]
      exact ⟨a2, f3.tr a3, Or.inr ⟨1, a1⟩⟩
theorem num_A {N k pl : Nat} {q : Int32} {D G : z_Dat} (hA : FA k pl D G) : F_X8_needNumber N q D = some (nn 0, D) ∧ F_X11_readNumber N (nn 0) q G = some (nn 0, G) := by
  obtain ⟨q1, q2⟩ := hA.T
  have e := fail_A (x := nn 1) (y := D 1 3) hA
  exact ⟨by simp (disch := omega) only [F_X8_needNumber, q1, e, ↓reduceIte, ↓z_letE, ↓z_bdE, nn_l2, nn_add, nn_mul, nn_sub, nn_addM, nn_div, nn_rem, nn_min, nn_max, nn_abs, nn_ltT, nn_ltF, nn_leT, nn_leF, nn_eqT, nn_eqF, nn_eqM, nn_Meq, nn_ltM, nn_Mlt, nn_leM, nn_Mle, z_ix_nn, z_inb_nn, F_at_nn, F_put_nn, Nat.zero_add, Nat.add_zero, z_P_some, z_R_some, z_P_bd], by simp (disch := omega) only [F_X11_readNumber, q2, ↓reduceIte, ↓z_letE, ↓z_bdE, nn_l2, nn_add, nn_mul, nn_sub, nn_addM, nn_div, nn_rem, nn_min, nn_max, nn_abs, nn_ltT, nn_ltF, nn_leT, nn_leF, nn_eqT, nn_eqF, nn_eqM, nn_Meq, nn_ltM, nn_Mlt, nn_leM, nn_Mle, z_ix_nn, z_inb_nn, F_at_nn, F_put_nn, Nat.zero_add, Nat.add_zero, z_P_some, z_R_some, z_P_bd]⟩
theorem num_R {t : Nat → Nat} {N L m qb : Nat} {q : Int32} {D G : z_Dat} (hN : 2000 < N) (hT : TP t L D G) (hS : RS t L m D G) (hq : q = nn qb - nn 1) (hqb : qb ≤ 10000) : z_R (F_X8_needNumber N q D) (F_X11_readNumber N (nn 0) q G) (fun a c => RP D a.2 ∧ RM G c.2 ∧ ((∃ v h p, a.1 = nn v ∧ c.1 = nn v ∧ v < qb ∧ m + 1 ≤ h ∧ FI t L h p a.2 c.2) ∨ ∃ k pl, FA k pl a.2 c.2)) := by
  rcases hS with ⟨h, p, hm, hI⟩ | ⟨k, pl, hA⟩
  · refine z_R_mono (num_I hN hT hI hq hqb) (fun a c hac => ⟨hac.1, hac.2.1, ?_⟩)
    rcases hac.2.2 with ⟨v, h', p', x1, x2, x3, x4, x5, -⟩ | ⟨k, x⟩
    · exact Or.inl ⟨v, h', p', x1, x2, x3, by omega, x5⟩
    · exact Or.inr ⟨k, _, x⟩
  · obtain ⟨e1, e2⟩ := num_A (N := N) (q := q) hA
    rw [e1, e2, z_R_some]
    exact ⟨RP.rf, RM.rf, Or.inr ⟨k, pl, hA⟩⟩
