/-! ===== reading: the text on both sides, blanks, bytes, signs ===== -/
def TP (t : Nat → Nat) (L : Nat) (D G : z_Dat) : Prop := L ≤ 600 ∧ (∀ j, j < 600 → t j < 256 ∧ D 2 j = nn (t j) ∧ G 42 j = nn (t j)) ∧ D 1 2 = nn L ∧ G 40 3 = nn L
def FI (t : Nat → Nat) (L h p : Nat) (D G : z_Dat) : Prop := (p ≤ h ∧ h ≤ L ∧ (∀ j, p ≤ j → j < h → t j = 32) ∧ (h < L → t h ≠ 32)) ∧ D 1 3 = nn h ∧ D 1 5 = nn 0 ∧ D 1 6 = -nn 1 ∧ G 40 4 = nn p ∧ G 40 5 = -nn 1
def FA (k pl : Nat) (D G : z_Dat) : Prop := 1 ≤ k ∧ k ≤ 3 ∧ pl ≤ 600 ∧ D 1 5 = nn k ∧ D 1 6 = nn pl ∧ G 40 5 = nn pl ∧ G 40 6 = nn k
def RP (D E : z_Dat) : Prop := (∀ r, r ≠ 1 → E r = D r) ∧ ∀ j, j < 3 → E 1 j = D 1 j
def RM (G F : z_Dat) : Prop := (∀ r, r ≠ 40 → F r = G r) ∧ ∀ j, (j < 4 ∨ 6 < j) → F 40 j = G 40 j
theorem RP.rf {D : z_Dat} : RP D D := ⟨fun _ _ => rfl, fun _ _ => rfl⟩
theorem RM.rf {D : z_Dat} : RM D D := ⟨fun _ _ => rfl, fun _ _ => rfl⟩
theorem RP.tr {D E F : z_Dat} (h : RP D E) (h2 : RP E F) : RP D F := ⟨fun r hr => (h2.1 r hr).trans (h.1 r hr), fun j hj => (h2.2 j hj).trans (h.2 j hj)⟩
theorem RM.tr {D E F : z_Dat} (h : RM D E) (h2 : RM E F) : RM D F := ⟨fun r hr => (h2.1 r hr).trans (h.1 r hr), fun j hj => (h2.2 j hj).trans (h.2 j hj)⟩
theorem RP.up {D E : z_Dat} {i : Nat} {x : Int32} (h : RP D E) (hi : 3 ≤ i) : RP D (z_up E 1 i x) := ⟨fun r hr => by rw [z_up_ne hr]; exact h.1 r hr, fun j hj => by rw [z_up_i (by omega)]; exact h.2 j hj⟩
theorem RM.up {D E : z_Dat} {i : Nat} {x : Int32} (h : RM D E) (hi : 4 ≤ i) (hi2 : i ≤ 6) : RM D (z_up E 40 i x) := ⟨fun r hr => by rw [z_up_ne hr]; exact h.1 r hr, fun j hj => by rw [z_up_i (by omega)]; exact h.2 j hj⟩
theorem TP.keep {t : Nat → Nat} {L : Nat} {D G E F : z_Dat} (h : TP t L D G) (h2 : RP D E) (h3 : RM G F) : TP t L E F := ⟨h.1, fun j hj => by
  rw [h2.1 2 (by decide), h3.1 42 (by decide)]
  exact h.2.1 j hj, by rw [h2.2 2 (by decide)]; exact h.2.2.1, by rw [h3.2 3 (Or.inl (by decide))]; exact h.2.2.2⟩
theorem byteAt_e {t : Nat → Nat} {L k : Nat} {D G : z_Dat} (h : TP t L D G) (hk : k < 10000) : F_X8_byteAt (nn k) D = some (if k < L then nn (t k) else -nn 1) := by
  obtain ⟨hL, ht, h1, -⟩ := h
  by_cases hkL : k < L
  · have := (ht k (by omega)).2.1
    simp (disch := omega) only [F_X8_byteAt, h1, this, ↓reduceIte, ↓z_letE, ↓z_bdE, nn_l2, nn_add, nn_mul, nn_sub, nn_addM, nn_div, nn_rem, nn_min, nn_max, nn_abs, nn_ltT, nn_ltF, nn_leT, nn_leF, nn_eqT, nn_eqF, nn_eqM, nn_Meq, nn_ltM, nn_Mlt, nn_leM, nn_Mle, z_ix_nn, z_inb_nn, F_at_nn, F_put_nn, Nat.zero_add, Nat.add_zero, z_P_some, z_R_some, z_P_bd]
    rw [if_pos hkL]
  · simp (disch := omega) only [F_X8_byteAt, h1, ↓reduceIte, ↓z_letE, ↓z_bdE, nn_l2, nn_add, nn_mul, nn_sub, nn_addM, nn_div, nn_rem, nn_min, nn_max, nn_abs, nn_ltT, nn_ltF, nn_leT, nn_leF, nn_eqT, nn_eqF, nn_eqM, nn_Meq, nn_ltM, nn_Mlt, nn_leM, nn_Mle, z_ix_nn, z_inb_nn, F_at_nn, F_put_nn, Nat.zero_add, Nat.add_zero, z_P_some, z_R_some, z_P_bd]
    rw [if_neg hkL]
theorem pass_P {t : Nat → Nat} {N L a m : Nat} {D G : z_Dat} (hN : 2000 < N) (hT : TP t L D G) (ha : D 1 3 = nn a) (hm : a + m ≤ L) : z_P (F_X8_pass N (nn m) D) (fun E => RP D E ∧ E 1 5 = D 1 5 ∧ E 1 6 = D 1 6 ∧ E 1 4 = nn a ∧ ∃ h, a + m ≤ h ∧ h ≤ L ∧ (∀ j, a + m ≤ j → j < h → t j = 32) ∧ (h < L → t h ≠ 32) ∧ E 1 3 = nn h) := by
  obtain ⟨hL, ht, h1, -⟩ := hT
  unfold F_X8_pass
  simp (disch := omega) only [ha, z_up_i, ↓reduceIte, ↓z_letE, ↓z_bdE, nn_l2, nn_add, nn_mul, nn_sub, nn_addM, nn_div, nn_rem, nn_min, nn_max, nn_abs, nn_ltT, nn_ltF, nn_leT, nn_leF, nn_eqT, nn_eqF, nn_eqM, nn_Meq, nn_ltM, nn_Mlt, nn_leM, nn_Mle, z_ix_nn, z_inb_nn, F_at_nn, F_put_nn, Nat.zero_add, Nat.add_zero, z_P_some, z_R_some, z_P_bd]
  refine z_P_loop (fun q E => ∃ h, h + q = L ∧ RP D E ∧ E 1 5 = D 1 5 ∧ E 1 6 = D 1 6 ∧ E 1 4 = nn a ∧ a + m ≤ h ∧ h ≤ L ∧ (∀ j, a + m ≤ j → j < h → t j = 32) ∧ E 1 3 = nn h) ?_ (L - (a + m)) N _ (by omega) ⟨a + m, by omega, (RP.rf.up (by decide)).up (by decide), by rw [z_up_i (by decide), z_up_i (by decide)], by rw [z_up_i (by decide), z_up_i (by decide)], by rw [z_up_i (by decide), z_up_at rfl rfl], Nat.le_refl _, hm, fun j h1 h2 => by omega, by rw [z_up_at rfl rfl]⟩
  rintro q E kc ⟨h, hq, hR, e5, e6, e4, h3, h4, hbl, e3⟩ ih
  have e2 : E 1 2 = nn L := by rw [hR.2 2 (by decide)]; exact h1
  by_cases hh : h < L
  · have eb : E 2 h = nn (t h) := by rw [hR.1 2 (by decide)]; exact (ht h (by omega)).2.1
    have hb := (ht h (by omega)).1
    by_cases h32 : t h = 32
    · simp (disch := omega) only [F_X8_pass_L18, e3, e2, eb, ↓reduceIte, ↓z_letE, ↓z_bdE, nn_l2, nn_add, nn_mul, nn_sub, nn_addM, nn_div, nn_rem, nn_min, nn_max, nn_abs, nn_ltT, nn_ltF, nn_leT, nn_leF, nn_eqT, nn_eqF, nn_eqM, nn_Meq, nn_ltM, nn_Mlt, nn_leM, nn_Mle, z_ix_nn, z_inb_nn, F_at_nn, F_put_nn, Nat.zero_add, Nat.add_zero, z_P_some, z_R_some, z_P_bd]
      exact ih (q - 1) _ (by omega) ⟨h + 1, by omega, hR.up (by decide), by rw [z_up_i (by decide)]; exact e5, by rw [z_up_i (by decide)]; exact e6, by rw [z_up_i (by decide)]; exact e4, by omega, by omega, fun j j1 j2 => by
        by_cases hj : j = h
        · rw [hj]
          exact h32
        · exact hbl j j1 (by omega), by rw [z_up_at rfl rfl]⟩
    · simp (disch := omega) only [F_X8_pass_L18, e3, e2, eb, ↓reduceIte, ↓z_letE, ↓z_bdE, nn_l2, nn_add, nn_mul, nn_sub, nn_addM, nn_div, nn_rem, nn_min, nn_max, nn_abs, nn_ltT, nn_ltF, nn_leT, nn_leF, nn_eqT, nn_eqF, nn_eqM, nn_Meq, nn_ltM, nn_Mlt, nn_leM, nn_Mle, z_ix_nn, z_inb_nn, F_at_nn, F_put_nn, Nat.zero_add, Nat.add_zero, z_P_some, z_R_some, z_P_bd]
      exact ⟨hR, e5, e6, e4, h, h3, h4, hbl, fun _ => h32, rfl⟩
  · simp (disch := omega) only [F_X8_pass_L18, e3, e2, ↓reduceIte, ↓z_letE, ↓z_bdE, nn_l2, nn_add, nn_mul, nn_sub, nn_addM, nn_div, nn_rem, nn_min, nn_max, nn_abs, nn_ltT, nn_ltF, nn_leT, nn_leF, nn_eqT, nn_eqF, nn_eqM, nn_Meq, nn_ltM, nn_Mlt, nn_leM, nn_Mle, z_ix_nn, z_inb_nn, F_at_nn, F_put_nn, Nat.zero_add, Nat.add_zero, z_P_some, z_R_some, z_P_bd]
    exact ⟨hR, e5, e6, e4, h, h3, h4, hbl, fun q => absurd q hh, rfl⟩
def cvt (t : Nat → Nat) (L h : Nat) : Int32 := if h < L then nn (t h) else nn 0
theorem here_P {t : Nat → Nat} {N L h p : Nat} {D G : z_Dat} (hN : 2000 < N) (hT : TP t L D G) (hp : p ≤ h ∧ h ≤ L ∧ (∀ j, p ≤ j → j < h → t j = 32) ∧ (h < L → t h ≠ 32)) (h4 : G 40 4 = nn p) : z_P (F_X11_here N G) (fun x => x.1 = cvt t L h ∧ RM G x.2 ∧ x.2 40 5 = G 40 5 ∧ x.2 40 6 = G 40 6 ∧ x.2 40 4 = nn h) := by
  obtain ⟨hL, ht, -, h3⟩ := hT
  obtain ⟨p1, p2, p3, p4⟩ := hp
  unfold F_X11_here cvt
  refine z_P_loop (fun q F => ∃ a, a + q = h ∧ p ≤ a ∧ RM G F ∧ F 40 5 = G 40 5 ∧ F 40 6 = G 40 6 ∧ F 40 4 = nn a) ?_ (h - p) N _ (by omega) ⟨p, by omega, Nat.le_refl _, RM.rf, rfl, rfl, h4⟩
  rintro q F kc ⟨a, hq, hpa, hR, e5, e6, e4⟩ ih
  have e3 : F 40 3 = nn L := by rw [hR.2 3 (Or.inl (by decide))]; exact h3
  by_cases ha : a < h
  · have hb := p3 a hpa ha
    have eb : F 42 a = nn (t a) := by rw [hR.1 42 (by decide)]; exact (ht a (by omega)).2.2
    rw [hb] at eb
    simp (disch := omega) only [F_X11_here_L0, e3, e4, eb, ↓reduceIte, ↓z_letE, ↓z_bdE, nn_l2, nn_add, nn_mul, nn_sub, nn_addM, nn_div, nn_rem, nn_min, nn_max, nn_abs, nn_ltT, nn_ltF, nn_leT, nn_leF, nn_eqT, nn_eqF, nn_eqM, nn_Meq, nn_ltM, nn_Mlt, nn_leM, nn_Mle, z_ix_nn, z_inb_nn, F_at_nn, F_put_nn, Nat.zero_add, Nat.add_zero, z_P_some, z_R_some, z_P_bd]
    exact ih (q - 1) _ (by omega) ⟨a + 1, by omega, by omega, hR.up (by decide) (by decide), by rw [z_up_i (by decide)]; exact e5, by rw [z_up_i (by decide)]; exact e6, by rw [z_up_at rfl rfl]⟩
  · obtain rfl : a = h := by omega
    by_cases hL2 : a < L
    · have hb := p4 hL2
      have hb2 := (ht a (by omega)).1
      have eb : F 42 a = nn (t a) := by rw [hR.1 42 (by decide)]; exact (ht a (by omega)).2.2
      simp (disch := omega) only [F_X11_here_L0, F_X11_here_J38, e3, e4, eb, ↓reduceIte, ↓z_letE, ↓z_bdE, nn_l2, nn_add, nn_mul, nn_sub, nn_addM, nn_div, nn_rem, nn_min, nn_max, nn_abs, nn_ltT, nn_ltF, nn_leT, nn_leF, nn_eqT, nn_eqF, nn_eqM, nn_Meq, nn_ltM, nn_Mlt, nn_leM, nn_Mle, z_ix_nn, z_inb_nn, F_at_nn, F_put_nn, Nat.zero_add, Nat.add_zero, z_P_some, z_R_some, z_P_bd]
      exact ⟨(if_pos hL2).symm, hR, e5, e6, trivial⟩
    · simp (disch := omega) only [F_X11_here_L0, F_X11_here_J38, e3, e4, ↓reduceIte, ↓z_letE, ↓z_bdE, nn_l2, nn_add, nn_mul, nn_sub, nn_addM, nn_div, nn_rem, nn_min, nn_max, nn_abs, nn_ltT, nn_ltF, nn_leT, nn_leF, nn_eqT, nn_eqF, nn_eqM, nn_Meq, nn_ltM, nn_Mlt, nn_leM, nn_Mle, z_ix_nn, z_inb_nn, F_at_nn, F_put_nn, Nat.zero_add, Nat.add_zero, z_P_some, z_R_some, z_P_bd]
      exact ⟨(if_neg hL2).symm, hR, e5, e6, trivial⟩
theorem FI.T {t : Nat → Nat} {L h p : Nat} {D G : z_Dat} (h : FI t L h p D G) : F_X8_failed D = nn 0 ∧ F_X11_fine G = nn 1 := by
  obtain ⟨-, -, e5, -, -, g5⟩ := h
  exact ⟨by simp (disch := omega) only [F_X8_failed, e5, ↓reduceIte, ↓z_letE, ↓z_bdE, nn_l2, nn_add, nn_mul, nn_sub, nn_addM, nn_div, nn_rem, nn_min, nn_max, nn_abs, nn_ltT, nn_ltF, nn_leT, nn_leF, nn_eqT, nn_eqF, nn_eqM, nn_Meq, nn_ltM, nn_Mlt, nn_leM, nn_Mle, z_ix_nn, z_inb_nn, F_at_nn, F_put_nn, Nat.zero_add, Nat.add_zero, z_P_some, z_R_some, z_P_bd], by simp (disch := omega) only [F_X11_fine, g5, ↓reduceIte, ↓z_letE, ↓z_bdE, nn_l2, nn_add, nn_mul, nn_sub, nn_addM, nn_div, nn_rem, nn_min, nn_max, nn_abs, nn_ltT, nn_ltF, nn_leT, nn_leF, nn_eqT, nn_eqF, nn_eqM, nn_Meq, nn_ltM, nn_Mlt, nn_leM, nn_Mle, z_ix_nn, z_inb_nn, F_at_nn, F_put_nn, Nat.zero_add, Nat.add_zero, z_P_some, z_R_some, z_P_bd]⟩
theorem FA.T {k pl : Nat} {D G : z_Dat} (h : FA k pl D G) : F_X8_failed D = nn 1 ∧ F_X11_fine G = nn 0 := by
  obtain ⟨k1, k2, p1, e5, e6, g5, g6⟩ := h
  exact ⟨by simp (disch := omega) only [F_X8_failed, e5, ↓reduceIte, ↓z_letE, ↓z_bdE, nn_l2, nn_add, nn_mul, nn_sub, nn_addM, nn_div, nn_rem, nn_min, nn_max, nn_abs, nn_ltT, nn_ltF, nn_leT, nn_leF, nn_eqT, nn_eqF, nn_eqM, nn_Meq, nn_ltM, nn_Mlt, nn_leM, nn_Mle, z_ix_nn, z_inb_nn, F_at_nn, F_put_nn, Nat.zero_add, Nat.add_zero, z_P_some, z_R_some, z_P_bd], by simp (disch := omega) only [F_X11_fine, g5, ↓reduceIte, ↓z_letE, ↓z_bdE, nn_l2, nn_add, nn_mul, nn_sub, nn_addM, nn_div, nn_rem, nn_min, nn_max, nn_abs, nn_ltT, nn_ltF, nn_leT, nn_leF, nn_eqT, nn_eqF, nn_eqM, nn_Meq, nn_ltM, nn_Mlt, nn_leM, nn_Mle, z_ix_nn, z_inb_nn, F_at_nn, F_put_nn, Nat.zero_add, Nat.add_zero, z_P_some, z_R_some, z_P_bd]⟩
theorem fail_A {k pl : Nat} {D G : z_Dat} {x y : Int32} (h : FA k pl D G) : F_X8_fail x y D = D := by
  obtain ⟨k1, k2, p1, e5, e6, g5, g6⟩ := h
  simp (disch := omega) only [F_X8_fail, e5, ↓reduceIte, ↓z_letE, ↓z_bdE, nn_l2, nn_add, nn_mul, nn_sub, nn_addM, nn_div, nn_rem, nn_min, nn_max, nn_abs, nn_ltT, nn_ltF, nn_leT, nn_leF, nn_eqT, nn_eqF, nn_eqM, nn_Meq, nn_ltM, nn_Mlt, nn_leM, nn_Mle, z_ix_nn, z_inb_nn, F_at_nn, F_put_nn, Nat.zero_add, Nat.add_zero, z_P_some, z_R_some, z_P_bd]
theorem wrong_A {k pl : Nat} {D G : z_Dat} {x y : Int32} (h : FA k pl D G) : F_X11_wrong x y G = G := by
  obtain ⟨k1, k2, p1, e5, e6, g5, g6⟩ := h
  simp (disch := omega) only [F_X11_wrong, g5, ↓reduceIte, ↓z_letE, ↓z_bdE, nn_l2, nn_add, nn_mul, nn_sub, nn_addM, nn_div, nn_rem, nn_min, nn_max, nn_abs, nn_ltT, nn_ltF, nn_leT, nn_leF, nn_eqT, nn_eqF, nn_eqM, nn_Meq, nn_ltM, nn_Mlt, nn_leM, nn_Mle, z_ix_nn, z_inb_nn, F_at_nn, F_put_nn, Nat.zero_add, Nat.add_zero, z_P_some, z_R_some, z_P_bd]
/-- both fail, at the same place -/
theorem fail_I {t : Nat → Nat} {L h p k pl : Nat} {D G : z_Dat} (hI : FI t L h p D G) (k1 : 1 ≤ k) (k2 : k ≤ 3) (hp : pl ≤ 600) : FA k pl (F_X8_fail (nn k) (nn pl) D) (F_X11_wrong (nn k) (nn pl) G) ∧ RP D (F_X8_fail (nn k) (nn pl) D) ∧ RM G (F_X11_wrong (nn k) (nn pl) G) := by
  obtain ⟨-, -, e5, e6, g4, g5⟩ := hI
  have e : F_X8_fail (nn k) (nn pl) D = z_up (z_up D 1 5 (nn k)) 1 6 (nn pl) := by simp (disch := omega) only [F_X8_fail, e5, ↓reduceIte, ↓z_letE, ↓z_bdE, nn_l2, nn_add, nn_mul, nn_sub, nn_addM, nn_div, nn_rem, nn_min, nn_max, nn_abs, nn_ltT, nn_ltF, nn_leT, nn_leF, nn_eqT, nn_eqF, nn_eqM, nn_Meq, nn_ltM, nn_Mlt, nn_leM, nn_Mle, z_ix_nn, z_inb_nn, F_at_nn, F_put_nn, Nat.zero_add, Nat.add_zero, z_P_some, z_R_some, z_P_bd]
  have g : F_X11_wrong (nn k) (nn pl) G = z_up (z_up G 40 5 (nn pl)) 40 6 (nn k) := by simp (disch := omega) only [F_X11_wrong, g5, ↓reduceIte, ↓z_letE, ↓z_bdE, nn_l2, nn_add, nn_mul, nn_sub, nn_addM, nn_div, nn_rem, nn_min, nn_max, nn_abs, nn_ltT, nn_ltF, nn_leT, nn_leF, nn_eqT, nn_eqF, nn_eqM, nn_Meq, nn_ltM, nn_Mlt, nn_leM, nn_Mle, z_ix_nn, z_inb_nn, F_at_nn, F_put_nn, Nat.zero_add, Nat.add_zero, z_P_some, z_R_some, z_P_bd]
  rw [e, g]
  exact ⟨⟨k1, k2, hp, by rw [z_up_i (by decide), z_up_at rfl rfl], by rw [z_up_at rfl rfl], by rw [z_up_i (by decide), z_up_at rfl rfl], by rw [z_up_at rfl rfl]⟩, (RP.rf.up (by decide)).up (by decide), (RM.rf.up (by decide) (by decide)).up (by decide) (by decide)⟩
theorem sign_I {t : Nat → Nat} {N L h p c : Nat} {D G : z_Dat} (hN : 2000 < N) (hT : TP t L D G) (hI : FI t L h p D G) (hc0 : 0 < c) (hc : c < 256) : z_R (F_X8_needSign N (nn c) D) (F_X11_sign N (nn c) G) (fun E F => RP D E ∧ RM G F ∧ ((h < L ∧ t h = c ∧ ∃ h', h + 1 ≤ h' ∧ FI t L h' (h + 1) E F ∧ E 1 4 = nn h) ∨ FA 1 h E F)) := by
  obtain ⟨q1, q2⟩ := hI.T
  obtain ⟨hp, e3, e5, e6, g4, g5⟩ := id hI
  have hL := hT.1
  have eb := byteAt_e (k := h) hT (by omega)
  obtain ⟨⟨v, F⟩, f1, f2, f3, f4, f5, f6⟩ := here_P hN hT hp g4
  dsimp only at f2 f3 f4 f5 f6
  have g5F : F 40 5 = -nn 1 := by rw [f4]; exact g5
  have hIF : FI t L h h D F := ⟨⟨Nat.le_refl _, hp.2.1, fun j a b => by omega, hp.2.2.2⟩, e3, e5, e6, f6, g5F⟩
  have qF := hIF.T.2
  have bad : (if h < L then nn (t h) else -nn 1) ≠ nn c → cvt t L h ≠ nn c → z_R (F_X8_needSign N (nn c) D) (F_X11_sign N (nn c) G) (fun E F => RP D E ∧ RM G F ∧ ((h < L ∧ t h = c ∧ ∃ h', h + 1 ≤ h' ∧ FI t L h' (h + 1) E F ∧ E 1 4 = nn h) ∨ FA 1 h E F)) := fun n1 n2 => by
    obtain ⟨a1, a2, a3⟩ := fail_I (k := 1) (pl := h) hIF (by decide) (by decide) (by omega)
    have qA := a1.T.2
    have n2' : ¬ v = nn c := fun q => n2 (by rw [← f2, q])
    simp (disch := omega) only [F_X8_needSign, q1, eb, e3, if_neg n1, F_X11_sign, q2, f1, if_neg n2', f6, F_X11_sign_J24, qA, ↓reduceIte, ↓z_letE, ↓z_bdE, nn_l2, nn_add, nn_mul, nn_sub, nn_addM, nn_div, nn_rem, nn_min, nn_max, nn_abs, nn_ltT, nn_ltF, nn_leT, nn_leF, nn_eqT, nn_eqF, nn_eqM, nn_Meq, nn_ltM, nn_Mlt, nn_leM, nn_Mle, z_ix_nn, z_inb_nn, F_at_nn, F_put_nn, Nat.zero_add, Nat.add_zero, z_P_some, z_R_some, z_P_bd]
    exact ⟨a2, f3.tr a3, Or.inr a1⟩
  by_cases hh : h < L
  · have hb := (hT.2.1 h (by omega)).1
    by_cases hc2 : t h = c
    · rw [if_pos hh, hc2] at eb
      have hv : v = nn c := by rw [f2]; unfold cvt; rw [if_pos hh, hc2]
      obtain ⟨E, m1, m2, m3, m4, m5, h', m6, m7, m8, m9, m10⟩ := pass_P (m := 1) hN hT e3 (by omega)
      simp (disch := omega) only [F_X8_needSign, q1, eb, e3, m1, F_X11_sign, q2, f1, hv, f6, F_X11_sign_J24, qF, ↓reduceIte, ↓z_letE, ↓z_bdE, nn_l2, nn_add, nn_mul, nn_sub, nn_addM, nn_div, nn_rem, nn_min, nn_max, nn_abs, nn_ltT, nn_ltF, nn_leT, nn_leF, nn_eqT, nn_eqF, nn_eqM, nn_Meq, nn_ltM, nn_Mlt, nn_leM, nn_Mle, z_ix_nn, z_inb_nn, F_at_nn, F_put_nn, Nat.zero_add, Nat.add_zero, z_P_some, z_R_some, z_P_bd]
      exact ⟨m2, f3.up (by decide) (by decide), Or.inl ⟨hh, hc2, h', m6, ⟨⟨m6, m7, m8, m9⟩, m10, by rw [m3]; exact e5, by rw [m4]; exact e6, by rw [z_up_at rfl rfl], by rw [z_up_i (by decide)]; exact g5F⟩, m5⟩⟩
    · exact bad (by rw [if_pos hh]; exact fun q => hc2 (nn_inj (by omega) (by omega) q)) (by unfold cvt; rw [if_pos hh]; exact fun q => hc2 (nn_inj (by omega) (by omega) q))
  · exact bad (by rw [if_neg hh]; exact fun q => by have := congrArg Int32.toInt q; rw [nn_toInt (by omega), nn_m1v] at this; omega) (by unfold cvt; rw [if_neg hh]; exact fun q => by have := nn_inj (by omega) (by omega) q; omega)
theorem sign_A {N k pl c : Nat} {D G : z_Dat} (hA : FA k pl D G) : F_X8_needSign N (nn c) D = some D ∧ F_X11_sign N (nn c) G = some G := by
  obtain ⟨q1, q2⟩ := hA.T
  have e := fail_A (x := nn 1) (y := D 1 3) hA
  exact ⟨by simp (disch := omega) only [F_X8_needSign, q1, e, ↓reduceIte, ↓z_letE, ↓z_bdE, nn_l2, nn_add, nn_mul, nn_sub, nn_addM, nn_div, nn_rem, nn_min, nn_max, nn_abs, nn_ltT, nn_ltF, nn_leT, nn_leF, nn_eqT, nn_eqF, nn_eqM, nn_Meq, nn_ltM, nn_Mlt, nn_leM, nn_Mle, z_ix_nn, z_inb_nn, F_at_nn, F_put_nn, Nat.zero_add, Nat.add_zero, z_P_some, z_R_some, z_P_bd], by simp (disch := omega) only [F_X11_sign, F_X11_sign_J24, q2, ↓reduceIte, ↓z_letE, ↓z_bdE, nn_l2, nn_add, nn_mul, nn_sub, nn_addM, nn_div, nn_rem, nn_min, nn_max, nn_abs, nn_ltT, nn_ltF, nn_leT, nn_leF, nn_eqT, nn_eqF, nn_eqM, nn_Meq, nn_ltM, nn_Mlt, nn_leM, nn_Mle, z_ix_nn, z_inb_nn, F_at_nn, F_put_nn, Nat.zero_add, Nat.add_zero, z_P_some, z_R_some, z_P_bd]⟩
def RS (t : Nat → Nat) (L m : Nat) (D G : z_Dat) : Prop := (∃ h p, m ≤ h ∧ FI t L h p D G) ∨ ∃ k pl, FA k pl D G
theorem sign_R {t : Nat → Nat} {N L m c : Nat} {D G : z_Dat} (hN : 2000 < N) (hT : TP t L D G) (hS : RS t L m D G) (hc0 : 0 < c) (hc : c < 256) : z_R (F_X8_needSign N (nn c) D) (F_X11_sign N (nn c) G) (fun E F => RP D E ∧ RM G F ∧ RS t L (m + 1) E F) := by
  rcases hS with ⟨h, p, hm, hI⟩ | ⟨k, pl, hA⟩
  · refine z_R_mono (sign_I hN hT hI hc0 hc) (fun E F hEF => ⟨hEF.1, hEF.2.1, ?_⟩)
    rcases hEF.2.2 with ⟨-, -, h', h1, h2, -⟩ | h
    · exact Or.inl ⟨h', h + 1, by omega, h2⟩
    · exact Or.inr ⟨1, _, h⟩
  · obtain ⟨e1, e2⟩ := sign_A (N := N) (c := c) hA
    rw [e1, e2, z_R_some]
    exact ⟨RP.rf, RM.rf, Or.inr ⟨k, pl, hA⟩⟩
