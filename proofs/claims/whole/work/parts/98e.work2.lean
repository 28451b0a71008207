/-! ===== work: one step is read ===== -/
def SO (t : Nat → Nat) (L m d ne ni k o ns pe : Nat) (D G E F : z_Dat) : Prop := WPr D E ∧ WMr G F ∧ RC t L 0 E F ∧ (OK E → ∃ m', m + 2 ≤ m' ∧ WS t L m' d (ne + 1) (ni + 1) (k + 1) o ns pe E F ∧ STp ns pe ne ni E F ∧ (∀ x, x < ne → E 16 x = D 16 x ∧ E 17 x = D 17 x ∧ E 18 x = D 18 x) ∧ (∀ y, y < 3 * ni → F 55 y = G 55 y) ∧ E 19 = D 19)
theorem wfin {t : Nat → Nat} {N L m m2 d ne ni k o ns pe c : Nat} {a b a' b' : Int32} {D G E F : z_Dat} (hN : 2000 < N) (hL : L ≤ 150) (ho : o = 34 ∨ 68 ≤ o) (hW : WS t L m d ne ni k o ns pe D G) (h1 : RP D E) (h2 : RM G F) (hC : RC t L m2 E F) (hm : m + 4 ≤ m2) (hc : c ≤ 5)
    (hv : OK E → ∃ va vb, a = nn va ∧ b = nn vb ∧ a' = nn va ∧ b' = nn vb ∧ (c = 0 → va < pe ∧ vb < ns) ∧ (c = 1 → va < pe) ∧ (c = 2 → va < pe) ∧ (c = 4 → va < pe ∧ vb < pe ∧ va ≠ vb)) :
    ∃ E' F', z_bd (F_X8_needSign N (nn 59) E) (fun x => some (F_X7_write (nn c) a b x)) = some E' ∧ z_bd (F_X11_tellsStep (nn c) a' b' F) (fun x => z_bd (F_X11_sign N (nn 59) x) (fun y => some y)) = some F' ∧ SO t L m d ne ni k o ns pe D G E' F' := by
  obtain ⟨-, hok, ⟨w1, w2⟩, ⟨w3, w4⟩, ⟨w5, w6, w7⟩, ⟨w8, w9⟩, ⟨w10, w11⟩⟩ := id hW
  have e15 : E 15 = D 15 := h1.1 15 (by decide)
  obtain ⟨E2, F2, F3, s1, s2, s3, s4, s5, s6, s7⟩ := fin_C (N := N) (ne := ne) (ni := ni) (a := a) (b := b) (a' := a') (b' := b') hN hL hC hc (fun _ => ⟨by rw [e15]; exact w1, by rw [h2.2 32 (by omega)]; exact w3, by omega, w6⟩)
  refine ⟨F_X7_write (nn c) a b E2, F3, by rw [s1, z_bdE], by rw [s2, z_bdE, s3, z_bdE], ((WPr.rp h1).tr (WPr.rp s4)).tr wwrite_WP, (WMr.rm h2).tr s5, (wwrite_RC s6).le (by omega), fun q => ?_⟩
  rw [wwrite_OK] at q
  obtain ⟨q1, q2, q3, q4, q5, q6, q7, q8, q9⟩ := s7 q
  obtain ⟨va, vb, rfl, rfl, rfl, rfl, hval⟩ := hv q1
  have e2 : E2 15 5 = nn ne := by rw [s4.1 15 (by decide), e15]; exact w1
  have hwe := wwrite_e (a := nn c) (b := nn va) (c := nn vb) e2 q3
  have er : ∀ r, r ≠ 1 → E2 r = D r := fun r hr => by rw [s4.1 r hr, h1.1 r hr]
  refine ⟨m2 + 1, by omega, ⟨wwrite_RC q2, wwrite_OK.mpr q, ⟨?_, ?_⟩, ⟨q4, ?_⟩, ⟨by omega, by omega, by omega⟩, ⟨?_, ?_⟩, ⟨?_, ?_⟩⟩, ⟨c, va, vb, hc, ?_, ?_, ?_, q6, q7, q8, hval⟩, fun x hx => ⟨?_, ?_, ?_⟩, fun y hy => ?_, ?_⟩
  · rw [hwe, z_up_at rfl rfl]
  · rw [hwe, z_up_i (by decide), z_up_r (by decide), z_up_r (by decide), z_up_r (by decide), er 15 (by decide)]; exact w2
  · rw [q5, h2.2 7 (by omega)]; exact w4
  · rw [wwrite_r o (by omega), er o (by omega)]; exact w8
  · rw [wwrite_r o (by omega), er o (by omega)]; exact w9
  · rw [s5.2 19 (by omega), h2.2 19 (by omega)]; exact w10
  · rw [s5.2 20 (by omega), h2.2 20 (by omega)]; exact w11
  · rw [hwe]; simp (disch := omega) only [z_up_r, z_up_at]
  · rw [hwe]; simp (disch := omega) only [z_up_r, z_up_at]
  · rw [hwe]; simp (disch := omega) only [z_up_r, z_up_at]
  · rw [hwe]; simp (disch := omega) only [z_up_r, z_up_i]; rw [er 16 (by decide)]
  · rw [hwe]; simp (disch := omega) only [z_up_r, z_up_i]; rw [er 17 (by decide)]
  · rw [hwe]; simp (disch := omega) only [z_up_r, z_up_i]; rw [er 18 (by decide)]
  · rw [q9 y hy, h2.1 55 (by decide)]
  · rw [wwrite_r 19 (by decide), er 19 (by decide)]
/-- a number of a person, or of a street -/
theorem num_O {t : Nat → Nat} {N L m qb : Nat} {D G : z_Dat} (hN : 2000 < N) (hC : RC t L m D G) (hqb : qb ≤ 10000) : ∃ a E c F, F_X8_needNumber N (nn qb - nn 1) D = some (a, E) ∧ F_X11_readNumber N (nn 0) (nn qb - nn 1) G = some (c, F) ∧ RP D E ∧ RM G F ∧ RC t L m E F ∧ (OK E → OK D ∧ RC t L (m + 1) E F ∧ ∃ v, v < qb ∧ a = nn v ∧ c = nn v) := by
  obtain ⟨⟨a, E⟩, ⟨c, F⟩, h1, h2, h3, h4, h5, h6⟩ := num_C (N := N) hN hC (rfl : nn qb - nn 1 = nn qb - nn 1) hqb
  exact ⟨a, E, c, F, h1, h2, h3, h4, h5, h6⟩
theorem wrong_4 {x y : Int32} {G : z_Dat} : F_X11_wrong x y G 40 4 = G 40 4 := by
  unfold F_X11_wrong
  split
  · simp (disch := omega) only [z_letE, z_up_i]
  · rfl
theorem num_pos {t : Nat → Nat} {N L h p : Nat} {q : Int32} {D G : z_Dat} (hN : 2000 < N) (hT : TP t L D G) (hI : FI t L h p D G) : z_P (F_X11_readNumber N (nn 0) q G) (fun c => ∃ p', p' ≤ L ∧ c.2 40 4 = nn p') := by
  obtain ⟨q1, q2⟩ := hI.T
  obtain ⟨hp, e3, e5, e6, g4, g5⟩ := id hI
  have hL := hT.1
  obtain ⟨⟨v, F⟩, f1, f2, f3, f4, f5, f6⟩ := here_P hN hT hp g4
  dsimp only at f2 f3 f4 f5 f6
  have g5F : F 40 5 = -nn 1 := by rw [f4]; exact g5
  have hTF : TP t L D F := hT.keep RP.rf f3
  obtain ⟨e, e1, e2, e4, e7⟩ := run_D t dgi L (L - h) h (by omega)
  have w4 := @wrong_4
  by_cases hhe : h < e
  · have h0 := e4 h (Nat.le_refl _) hhe
    obtain ⟨c, c1, F2, c2, c3, c4, c5⟩ := numM_P (q := q) hN hTF f6 g5F hhe e2 e4 e7
    have hv : v = nn (t h) := by rw [f2]; unfold cvt; rw [if_pos (by omega)]
    refine ⟨c, ?_, e, e2, ?_⟩
    · simp (disch := omega) only [F_X11_readNumber, q2, f1, f6, hv, (dig_t h0).2, ↓reduceIte, ↓z_letE, ↓z_bdE, nn_l2, nn_add, nn_mul, nn_sub, nn_addM, nn_div, nn_rem, nn_min, nn_max, nn_abs, nn_ltT, nn_ltF, nn_leT, nn_leF, nn_eqT, nn_eqF, nn_eqM, nn_Meq, nn_ltM, nn_Mlt, nn_leM, nn_Mle, z_ix_nn, z_inb_nn, F_at_nn, F_put_nn, Nat.zero_add, Nat.add_zero, z_P_some, z_R_some, z_P_bd]
      exact c1
    · rw [c5]
      split
      · exact c3
      · dsimp only
        rw [wrong_4]
        exact c3
  · have hhe2 : e = h := by omega
    rw [hhe2] at e7
    by_cases hl : h < L
    · have hx := dig_f (hT.2.1 h (by omega)).1 (e7 hl)
      have hv : v = nn (t h) := by rw [f2]; unfold cvt; rw [if_pos hl]
      refine ⟨(nn 0, F_X11_wrong (nn 1) (nn h) F), by simp (disch := omega) only [F_X11_readNumber, q2, f1, hv, hx.2, f6, ↓reduceIte, ↓z_letE, ↓z_bdE, nn_l2, nn_add, nn_mul, nn_sub, nn_addM, nn_div, nn_rem, nn_min, nn_max, nn_abs, nn_ltT, nn_ltF, nn_leT, nn_leF, nn_eqT, nn_eqF, nn_eqM, nn_Meq, nn_ltM, nn_Mlt, nn_leM, nn_Mle, z_ix_nn, z_inb_nn, F_at_nn, F_put_nn, Nat.zero_add, Nat.add_zero, z_P_some, z_R_some, z_P_bd], h, hp.2.1, ?_⟩
      dsimp only
      rw [wrong_4]
      exact f6
    · have hv : v = nn 0 := by rw [f2]; unfold cvt; rw [if_neg hl]
      have hx := dig_f (c := 0) (by decide) (by unfold dgi; omega)
      refine ⟨(nn 0, F_X11_wrong (nn 1) (nn h) F), by simp (disch := omega) only [F_X11_readNumber, q2, f1, hv, hx.2, f6, ↓reduceIte, ↓z_letE, ↓z_bdE, nn_l2, nn_add, nn_mul, nn_sub, nn_addM, nn_div, nn_rem, nn_min, nn_max, nn_abs, nn_ltT, nn_ltF, nn_leT, nn_leF, nn_eqT, nn_eqF, nn_eqM, nn_Meq, nn_ltM, nn_Mlt, nn_leM, nn_Mle, z_ix_nn, z_inb_nn, F_at_nn, F_put_nn, Nat.zero_add, Nat.add_zero, z_P_some, z_R_some, z_P_bd], h, hp.2.1, ?_⟩
      dsimp only
      rw [wrong_4]
      exact f6
set_option maxHeartbeats 1000000 in
theorem marry_N {t : Nat → Nat} {N L m pe h p : Nat} {E F : z_Dat} (hN : 2000 < N) (hpe : pe ≤ 8) (hT : TP t L E F) (hI : FI t L h p E F) (hm : m ≤ h) (g20 : F 40 20 = nn pe) : ∃ a1 E1 a2 E2 E3 c1 c2 F6, F_X8_needNumber N (nn pe - nn 1) E = some (a1, E1) ∧ F_X8_needNumber N (nn pe - nn 1) E1 = some (a2, E2) ∧ (a1 = a2 → E3 = F_X8_fail (nn 2) (E2 1 4) E2) ∧ (¬ a1 = a2 → E3 = E2) ∧ F_X11_readMarriage N F = F_X11_tellsStep (nn 4) c1 c2 F6 ∧ RP E E3 ∧ RM F F6 ∧ RC t L (m + 2) E3 F6 ∧ (OK E3 → ∃ va vb, va < pe ∧ vb < pe ∧ va ≠ vb ∧ a1 = nn va ∧ a2 = nn vb ∧ c1 = nn va ∧ c2 = nn vb) ∧ (∀ r, r ≠ 1 → E1 r = E r) := by
  obtain ⟨⟨a1, E1⟩, ⟨c1, F4⟩, n1, n2, n3, n4, n5⟩ := num_I (N := N) (q := nn pe - nn 1) (qb := pe) hN hT hI rfl (by omega)
  obtain ⟨⟨c1', F4'⟩, z1, p4, hp4, z2⟩ := num_pos (N := N) (q := nn pe - nn 1) hN hT hI
  rw [n2] at z1
  cases z1
  dsimp only at n3 n4 n5 z2
  have hT4 : TP t L E1 F4 := hT.keep n3 n4
  rcases n5 with ⟨va, h1, p1, rfl, rfl, hva, hh1, hI1, -⟩ | ⟨k, hA⟩
  rotate_left
  · -- the first number fails
    obtain ⟨e, e1, e2, e3, e4⟩ := run_D t (fun c => c = 32) L (L - p4) p4 (by omega)
    obtain ⟨⟨v, F5⟩, y1, y2, y3, y4, y5, y6⟩ := here_P (N := N) (p := p4) (h := e) hN hT4 ⟨e1, e2, e3, e4⟩ z2
    dsimp only at y2 y3 y4 y5 y6
    have hA5 : FA k h E1 F5 := by
      obtain ⟨k1, k2, k3, k4, k5, k6, k7⟩ := hA
      exact ⟨k1, k2, k3, k4, k5, by rw [y4]; exact k6, by rw [y5]; exact k7⟩
    obtain ⟨w1, w2⟩ := num_A (N := N) (q := nn pe - nn 1) hA5
    have hf := fail_A (x := nn 2) (y := E1 1 4) hA5
    have hfn := hA5.T.2
    have g20' : F4 40 20 = nn pe := by rw [n4.2 20 (by omega)]; exact g20
    have g20'' : F5 40 20 = nn pe := by rw [y3.2 20 (by omega)]; exact g20'
    refine ⟨a1, E1, nn 0, E1, E1, c1, nn 0, F5, n1, w1, fun _ => hf.symm, fun _ => rfl, ?_, n3, n4.tr y3, ⟨hT4.keep RP.rf y3, Or.inr ⟨k, h, hA5⟩⟩, fun q => absurd q hA5.no, fun r hr => n3.1 r hr⟩
    simp only [F_X11_readMarriage, F_X11_readOne, nn_l2, ↓reduceIte, ↓z_bdE, ↓z_letE, g20, n2, y1, g20'', w2, hfn, z_bd_id]
  · obtain ⟨⟨v, F5⟩, y1, y2, y3, y4, y5, y6⟩ := here_P (N := N) hN hT4 hI1.1 hI1.2.2.2.2.1
    dsimp only at y2 y3 y4 y5 y6
    have hI5 : FI t L h1 h1 E1 F5 := ⟨⟨Nat.le_refl _, hI1.1.2.1, fun j a b => by omega, hI1.1.2.2.2⟩, hI1.2.1, hI1.2.2.1, hI1.2.2.2.1, y6, by rw [y4]; exact hI1.2.2.2.2.2⟩
    have hT5 : TP t L E1 F5 := hT4.keep RP.rf y3
    have g20' : F4 40 20 = nn pe := by rw [n4.2 20 (by omega)]; exact g20
    have g20'' : F5 40 20 = nn pe := by rw [y3.2 20 (by omega)]; exact g20'
    obtain ⟨⟨a2, E2⟩, ⟨c2, F6⟩, r1, r2, r3, r4, r5⟩ := num_I (N := N) (q := nn pe - nn 1) (qb := pe) hN hT5 hI5 rfl (by omega)
    dsimp only at r3 r4 r5
    have hT6 : TP t L E2 F6 := hT5.keep r3 r4
    have hh1L := hI1.1.2.1
    have hL := hT.1
    rcases r5 with ⟨vb, h2, p2, rfl, rfl, hvb, hh2, hI6, hmk⟩ | ⟨k, hA⟩
    rotate_left
    · have hf := fail_A (x := nn 2) (y := E2 1 4) hA
      have hfn := hA.T.2
      refine ⟨nn va, E1, a2, E2, E2, nn va, c2, F6, n1, r1, fun _ => hf.symm, fun _ => rfl, ?_, n3.tr r3, n4.tr (y3.tr r4), ⟨hT6, Or.inr ⟨k, h1, hA⟩⟩, fun q => absurd q hA.no, fun r hr => n3.1 r hr⟩
      simp only [F_X11_readMarriage, F_X11_readOne, nn_l2, ↓reduceIte, ↓z_bdE, ↓z_letE, g20, n2, y1, y6, g20'', r2, hfn, z_bd_id]
    have hfn := hI6.T.2
    by_cases hab : va = vb
    · subst hab
      obtain ⟨x1, x2, x3⟩ := fail_I (k := 2) (pl := h1) hI6 (by decide) (by decide) (by omega)
      refine ⟨nn va, E1, nn va, E2, F_X8_fail (nn 2) (nn h1) E2, nn va, nn va, F_X11_wrong (nn 2) (nn h1) F6, n1, r1, fun _ => by rw [hmk], fun q => absurd rfl q, ?_, n3.tr (r3.tr x2), n4.tr (y3.tr (r4.tr x3)), ⟨hT6.keep x2 x3, Or.inr ⟨2, h1, x1⟩⟩, fun q => absurd q x1.no, fun r hr => n3.1 r hr⟩
      simp only [F_X11_readMarriage, F_X11_readOne, nn_l2, ↓reduceIte, ↓z_bdE, ↓z_letE, g20, n2, y1, y6, g20'', r2, hfn, z_bd_id, show (nn 1 = nn 0) = False from eq_false (by decide)]
    · refine ⟨nn va, E1, nn vb, E2, E2, nn va, nn vb, F6, n1, r1, fun q => absurd (nn_inj (by omega) (by omega) q) hab, fun _ => rfl, ?_, n3.tr r3, n4.tr (y3.tr r4), ⟨hT6, Or.inl ⟨h2, p2, by omega, hI6⟩⟩, fun _ => ⟨va, vb, hva, hvb, hab, rfl, rfl, rfl, rfl⟩, fun r hr => n3.1 r hr⟩
      have hne : (nn va = nn vb) = False := eq_false (fun q => hab (nn_inj (by omega) (by omega) q))
      simp only [F_X11_readMarriage, F_X11_readOne, nn_l2, ↓reduceIte, ↓z_bdE, ↓z_letE, g20, n2, y1, y6, g20'', r2, hfn, z_bd_id, show (nn 1 = nn 0) = False from eq_false (by decide), hne]
theorem wne : ∀ a, a < 24 → 3 ≤ a → ∀ b, b < 24 → 3 ≤ b → a ≠ b → ¬ nn (wcd a) = nn (wcd b) := fun a a1 a2 b b1 b2 hab q => hab (wcd_inj a a1 a2 b b1 b2 (nn_inj (by have := wcd_b a a1 a2; omega) (by have := wcd_b b b1 b2; omega) q))
theorem rs_18 {N : Nat} {slf : z_Dat → Option z_Dat} {G F : z_Dat} (hN : 2000 < N) (hw : F_X11_word N G = some (nn (wcd 18), F)) : F_X11_readStep_B N slf G = F_X11_readStep_J25 N (nn (wcd 18)) F := by
  unfold F_X11_readStep_B
  rw [hw, z_bdE, of_e (id := 18) hN (by decide) (by decide), z_bdE]
  dsimp only
  rw [if_pos rfl]
theorem rs_16 {N : Nat} {slf : z_Dat → Option z_Dat} {G F : z_Dat} (hN : 2000 < N) (hw : F_X11_word N G = some (nn (wcd 16), F)) : F_X11_readStep_B N slf G = F_X11_readStep_J25 N (nn (wcd 16)) F := by
  unfold F_X11_readStep_B
  rw [hw, z_bdE, of_e (id := 18) hN (by decide) (by decide), z_bdE]
  dsimp only
  rw [if_neg (wne 16 (by decide) (by decide) 18 (by decide) (by decide) (by decide)), of_e (id := 16) hN (by decide) (by decide), z_bdE]
  rw [if_pos rfl]
theorem rs_19 {N : Nat} {slf : z_Dat → Option z_Dat} {G F : z_Dat} (hN : 2000 < N) (hw : F_X11_word N G = some (nn (wcd 19), F)) : F_X11_readStep_B N slf G = F_X11_readStep_J73 N (nn (wcd 19)) F := by
  unfold F_X11_readStep_B
  rw [hw, z_bdE, of_e (id := 18) hN (by decide) (by decide), z_bdE]
  dsimp only
  rw [if_neg (wne 19 (by decide) (by decide) 18 (by decide) (by decide) (by decide)), of_e (id := 16) hN (by decide) (by decide), z_bdE]
  rw [if_neg (wne 19 (by decide) (by decide) 16 (by decide) (by decide) (by decide)), of_e (id := 19) hN (by decide) (by decide), z_bdE]
  rw [if_pos rfl]
theorem rs_20 {N : Nat} {slf : z_Dat → Option z_Dat} {G F : z_Dat} (hN : 2000 < N) (hw : F_X11_word N G = some (nn (wcd 20), F)) : F_X11_readStep_B N slf G = F_X11_readStep_J73 N (nn (wcd 20)) F := by
  unfold F_X11_readStep_B
  rw [hw, z_bdE, of_e (id := 18) hN (by decide) (by decide), z_bdE]
  dsimp only
  rw [if_neg (wne 20 (by decide) (by decide) 18 (by decide) (by decide) (by decide)), of_e (id := 16) hN (by decide) (by decide), z_bdE]
  rw [if_neg (wne 20 (by decide) (by decide) 16 (by decide) (by decide) (by decide)), of_e (id := 19) hN (by decide) (by decide), z_bdE]
  rw [if_neg (wne 20 (by decide) (by decide) 19 (by decide) (by decide) (by decide)), of_e (id := 20) hN (by decide) (by decide), z_bdE]
  rw [if_pos rfl]
theorem rs_21 {N : Nat} {slf : z_Dat → Option z_Dat} {G F : z_Dat} (hN : 2000 < N) (hw : F_X11_word N G = some (nn (wcd 21), F)) : F_X11_readStep_B N slf G = z_bd (F_X11_pass N F) (fun a_55 => z_bd (F_X11_readOne N a_55) (fun a_57 => z_bd (F_X11_readNumber N 0 ((a_57.2 40 19) - 1) a_57.2) (fun a_59 => z_bd (F_X11_tellsStep 0 a_57.1 a_59.1 a_59.2) (fun a_61 => z_bd (F_X11_sign N 59 a_61) (fun a_63 => some a_63))))) := by
  unfold F_X11_readStep_B
  rw [hw, z_bdE, of_e (id := 18) hN (by decide) (by decide), z_bdE]
  dsimp only
  rw [if_neg (wne 21 (by decide) (by decide) 18 (by decide) (by decide) (by decide)), of_e (id := 16) hN (by decide) (by decide), z_bdE]
  rw [if_neg (wne 21 (by decide) (by decide) 16 (by decide) (by decide) (by decide)), of_e (id := 19) hN (by decide) (by decide), z_bdE]
  rw [if_neg (wne 21 (by decide) (by decide) 19 (by decide) (by decide) (by decide)), of_e (id := 20) hN (by decide) (by decide), z_bdE]
  rw [if_neg (wne 21 (by decide) (by decide) 20 (by decide) (by decide) (by decide)), of_e (id := 21) hN (by decide) (by decide), z_bdE]
  rw [if_pos rfl]
theorem rs_22 {N : Nat} {slf : z_Dat → Option z_Dat} {G F : z_Dat} (hN : 2000 < N) (hw : F_X11_word N G = some (nn (wcd 22), F)) : F_X11_readStep_B N slf G = z_bd (F_X11_pass N F) (fun a_68 => z_bd (F_X11_readMarriage N a_68) (fun a_70 => z_bd (F_X11_sign N 59 a_70) (fun a_72 => some a_72))) := by
  unfold F_X11_readStep_B
  rw [hw, z_bdE, of_e (id := 18) hN (by decide) (by decide), z_bdE]
  dsimp only
  rw [if_neg (wne 22 (by decide) (by decide) 18 (by decide) (by decide) (by decide)), of_e (id := 16) hN (by decide) (by decide), z_bdE]
  rw [if_neg (wne 22 (by decide) (by decide) 16 (by decide) (by decide) (by decide)), of_e (id := 19) hN (by decide) (by decide), z_bdE]
  rw [if_neg (wne 22 (by decide) (by decide) 19 (by decide) (by decide) (by decide)), of_e (id := 20) hN (by decide) (by decide), z_bdE]
  rw [if_neg (wne 22 (by decide) (by decide) 20 (by decide) (by decide) (by decide)), of_e (id := 21) hN (by decide) (by decide), z_bdE]
  rw [if_neg (wne 22 (by decide) (by decide) 21 (by decide) (by decide) (by decide)), of_e (id := 22) hN (by decide) (by decide), z_bdE]
  rw [if_pos rfl]
theorem rs_23 {N : Nat} {slf : z_Dat → Option z_Dat} {G F : z_Dat} (hN : 2000 < N) (hw : F_X11_word N G = some (nn (wcd 23), F)) : F_X11_readStep_B N slf G = z_let (F_X11_opensOne 5 F) (fun a_77 => z_bd (F_X11_readNumber N 0 60 a_77) (fun a_79 => z_bd (F_X11_sign N 91 a_79.2) (fun a_81 => z_let (a_81 40 32) (fun v82 => z_bd (F_X11_tellsStep 6 a_79.1 0 a_81) (fun a_84 => z_loop (fun kc86 s => F_X11_readStep_L206 N slf v82 kc86 s) N a_84))))) := by
  unfold F_X11_readStep_B
  rw [hw, z_bdE, of_e (id := 18) hN (by decide) (by decide), z_bdE]
  dsimp only
  rw [if_neg (wne 23 (by decide) (by decide) 18 (by decide) (by decide) (by decide)), of_e (id := 16) hN (by decide) (by decide), z_bdE]
  rw [if_neg (wne 23 (by decide) (by decide) 16 (by decide) (by decide) (by decide)), of_e (id := 19) hN (by decide) (by decide), z_bdE]
  rw [if_neg (wne 23 (by decide) (by decide) 19 (by decide) (by decide) (by decide)), of_e (id := 20) hN (by decide) (by decide), z_bdE]
  rw [if_neg (wne 23 (by decide) (by decide) 20 (by decide) (by decide) (by decide)), of_e (id := 21) hN (by decide) (by decide), z_bdE]
  rw [if_neg (wne 23 (by decide) (by decide) 21 (by decide) (by decide) (by decide)), of_e (id := 22) hN (by decide) (by decide), z_bdE]
  rw [if_neg (wne 23 (by decide) (by decide) 22 (by decide) (by decide) (by decide)), of_e (id := 23) hN (by decide) (by decide), z_bdE]
  rw [if_pos rfl]
theorem rs_no {N c : Nat} {slf : z_Dat → Option z_Dat} {G F : z_Dat} (hN : 2000 < N) (hw : F_X11_word N G = some (nn c, F)) (hc : c < 1073741824) (h : ∀ b, b = 18 ∨ b = 16 ∨ b = 19 ∨ b = 20 ∨ b = 21 ∨ b = 22 ∨ b = 23 → ¬ c = wcd b) : F_X11_readStep_B N slf G = z_let (F_X11_wrong 1 (F 40 4) F) (fun a_108 => z_bd (F_X11_sign N 59 a_108) (fun a_110 => some a_110)) := by
  have h2 : ∀ b, (b = 18 ∨ b = 16 ∨ b = 19 ∨ b = 20 ∨ b = 21 ∨ b = 22 ∨ b = 23) → ¬ nn c = nn (wcd b) := fun b hb q => h b hb (nn_inj (by omega) (by have := wcd_b b (by omega) (by omega); omega) q)
  unfold F_X11_readStep_B
  rw [hw, z_bdE, of_e (id := 18) hN (by decide) (by decide), z_bdE]
  dsimp only
  rw [if_neg (h2 18 (by omega)), of_e (id := 16) hN (by decide) (by decide), z_bdE]
  rw [if_neg (h2 16 (by omega)), of_e (id := 19) hN (by decide) (by decide), z_bdE]
  rw [if_neg (h2 19 (by omega)), of_e (id := 20) hN (by decide) (by decide), z_bdE]
  rw [if_neg (h2 20 (by omega)), of_e (id := 21) hN (by decide) (by decide), z_bdE]
  rw [if_neg (h2 21 (by omega)), of_e (id := 22) hN (by decide) (by decide), z_bdE]
  rw [if_neg (h2 22 (by omega)), of_e (id := 23) hN (by decide) (by decide), z_bdE]
  rw [if_neg (h2 23 (by omega))]
set_option maxHeartbeats 2000000 in
theorem step_R {t : Nat → Nat} {N L m d ne ni k o ns pe : Nat} {D G : z_Dat} (hN : 2000 < N) (hL : L ≤ 150) (ho : o = 34 ∨ 68 ≤ o) (hns : ns ≤ 6) (hpe : pe ≤ 8) (hW : WS t L m d ne ni k o ns pe D G) :
    (∃ E' F', F_X7_readStep N o D = some E' ∧ (∀ slf, F_X11_readStep_B N slf G = some F') ∧ SO t L m d ne ni k o ns pe D G E' F') ∨
    (∃ h h' E F, m ≤ h ∧ h < L ∧ F_X8_takesWordOf N 2 D = some (nn 6, E) ∧ E 1 4 = nn h ∧ OK E ∧ F_X11_word N G = some (nn (wcd 23), F) ∧ F 40 4 = nn h ∧ F 40 5 = -nn 1 ∧ RP D E ∧ RM G F ∧ h + 5 ≤ h' ∧ FI t L h' (h + 5) E (z_up F 40 4 (nn (h + 5)))) := by
  obtain ⟨hC, hok, ⟨w1, w2⟩, ⟨w3, w4⟩, ⟨w5, w6, w7⟩, ⟨w8, w9⟩, ⟨w10, w11⟩⟩ := id hW
  obtain ⟨f1, f2⟩ := hC.ff hok
  obtain ⟨h, p, hmh, hI⟩ := hC.fi hok
  have hT := hC.1
  have hhL := hI.1.2.1
  obtain ⟨e0, e1, e2, e3, e4⟩ := run_D t lt_ L (L - h) h (by omega)
  obtain ⟨r, rfl⟩ : ∃ r, e0 = h + r := ⟨e0 - h, by omega⟩
  have hr : LR_ t L h r := ⟨e2, e3, e4⟩
  obtain ⟨⟨c, F⟩, x1, x2, x3, x4, x5, x6⟩ := word_P (N := N) hN hT hI.1 hI.2.2.2.2.1 hr
  dsimp only at x2 x3 x4 x5 x6
  subst x2
  have hF5 : F 40 5 = -nn 1 := by rw [x4]; exact hI.2.2.2.2.2
  have hTF : TP t L D F := hT.keep RP.rf x3
  have hcb := cdr_b hr
  have x4' : ∀ y, (nn y = nn y) = True := fun y => eq_true rfl
  obtain ⟨⟨a, E⟩, k1, k2⟩ := takes_P (N := N) (w := 2) hN hT hI.2.1 f1 hr (by decide)
  rcases k2 with ⟨j, hj, hWM, k3, k4⟩ | ⟨hno, k3⟩
  rotate_left
  · left
    cases k3
    have nc : ∀ b, b < 24 → 3 ≤ b → (∃ j, j < 7 ∧ wid 2 j = b) → ¬ cdr t h r = wcd b := fun b b1 b2 ⟨j, j1, j2⟩ q => hno j j1 (by rw [j2]; exact (WM_c hr b1 b2).mpr q)
    obtain ⟨a1, a2, a3⟩ := fail_X (k := 1) (pl := h) hok hF5 (by decide) (by decide) (by omega)
    have sg := (sign_A (N := N) (c := 59) a1).2
    refine ⟨F_X8_fail (nn 1) (nn h) D, F_X11_wrong (nn 1) (nn h) F, ?_, fun slf => ?_, WPr.rp a2, (WMr.rm x3).tr (WMr.rm a3), ⟨hTF.keep a2 a3, Or.inr ⟨1, h, a1⟩⟩, fun q => absurd q a1.no⟩
    · simp (disch := omega) only [F_X7_readStep, k1, hI.2.1, ↓reduceIte, ↓z_letE, ↓z_bdE, nn_l2, nn_add, nn_mul, nn_sub, nn_addM, nn_div, nn_rem, nn_min, nn_max, nn_abs, nn_ltT, nn_ltF, nn_leT, nn_leF, nn_eqT, nn_eqF, nn_eqM, nn_Meq, nn_ltM, nn_Mlt, nn_leM, nn_Mle, z_ix_nn, z_inb_nn, F_at_nn, F_put_nn, Nat.zero_add, Nat.add_zero, z_P_some, z_R_some, z_P_bd]
    · rw [rs_no hN x1 hcb (fun b hb => nc b (by omega) (by omega) (by
        rcases hb with rfl | rfl | rfl | rfl | rfl | rfl | rfl
        · exact ⟨3, by decide, by decide⟩
        · exact ⟨5, by decide, by decide⟩
        · exact ⟨1, by decide, by decide⟩
        · exact ⟨2, by decide, by decide⟩
        · exact ⟨0, by decide, by decide⟩
        · exact ⟨4, by decide, by decide⟩
        · exact ⟨6, by decide, by decide⟩))]
      simp (disch := omega) only [x6, sg, ↓reduceIte, ↓z_letE, ↓z_bdE, nn_l2, nn_add, nn_mul, nn_sub, nn_addM, nn_div, nn_rem, nn_min, nn_max, nn_abs, nn_ltT, nn_ltF, nn_leT, nn_leF, nn_eqT, nn_eqF, nn_eqM, nn_Meq, nn_ltM, nn_Mlt, nn_leM, nn_Mle, z_ix_nn, z_inb_nn, F_at_nn, F_put_nn, Nat.zero_add, Nat.add_zero, z_P_some, z_R_some, z_P_bd]
  obtain ⟨j1, j2, j3, j4, j5, j6, j7, -⟩ := ws_at 2 (by decide) j hj
  have hcode := (WM_c hr j4 j3).mp hWM
  obtain ⟨E', p1, p2, p3, p4, p5, h', p6, p7, p8, p9, p10⟩ := pass_P (m := r) hN hT hI.2.1 e2
  dsimp only at k3 k4
  rw [k4] at p1
  cases p1
  subst k3
  have hj7 : j < 7 := hj
  have hrj : r = wj 2 j := by rw [hWM.1, j5]
  have hE5 : OK E := by unfold OK; rw [p3]; exact hok
  have d5 : E o 5 = nn ns := by rw [p2.1 o (by omega)]; exact w8
  have d6 : E o 6 = nn pe := by rw [p2.1 o (by omega)]; exact w9
  by_cases hj6 : j = 6
  · right
    subst hj6
    have hr5 : r = 5 := hrj
    subst hr5
    have hc2 : cdr t h 5 = wcd 23 := hcode
    rw [hc2] at x1
    exact ⟨h, h', E, F, hmh, by omega, k1, p5, hE5, x1, x6, hF5, p2, x3, p6, ⟨p6, p7, p8, p9⟩, p10, hE5, by rw [p4]; exact hI.2.2.2.1, by rw [z_up_at rfl rfl], by rw [z_up_i (by decide)]; exact hF5⟩
  left
  obtain ⟨F3, y1, y2, y3, y4, y5⟩ := mpass_P (N := N) hN hTF x6 hr
  have hI3 : FI t L h' (h + r) E F3 := ⟨⟨p6, p7, p8, p9⟩, p10, hE5, by rw [p4]; exact hI.2.2.2.1, y5, by rw [y3]; exact hF5⟩
  have hC3 : RC t L (m + r) E F3 := ⟨hTF.keep p2 y2, Or.inl ⟨h', h + r, by omega, hI3⟩⟩
  have g19 : F3 40 19 = nn ns := by rw [y2.2 19 (by omega), x3.2 19 (by omega)]; exact w10
  have g20 : F3 40 20 = nn pe := by rw [y2.2 20 (by omega), x3.2 20 (by omega)]; exact w11
  have hGF : RM G F3 := x3.tr y2
  rcases (show j = 0 ∨ j = 1 ∨ j = 2 ∨ j = 3 ∨ j = 4 ∨ j = 5 by omega) with rfl | rfl | rfl | rfl | rfl | rfl
  · -- dip
    have hr3 : r = 3 := hrj
    have hc2 : cdr t h r = wcd 21 := hcode
    rw [hc2] at x1
    obtain ⟨a1, E1, c1, F4, n1, n2, n3, n4, n5, n6⟩ := num_O (N := N) (qb := pe) hN hC3 (by omega)
    have g19' : F4 40 19 = nn ns := by rw [n4.2 19 (by omega)]; exact g19
    have d5' : E1 o 5 = nn ns := by rw [n3.1 o (by omega)]; exact d5
    obtain ⟨a2, E2, c2, F5, r1, r2, r3, r4, r5, r6⟩ := num_O (N := N) (qb := ns) hN n5 (by omega)
    have hC5 : RC t L (m + 5) E2 F5 := by
      by_cases hk : OK E2
      · obtain ⟨q1, q2, -⟩ := r6 hk
        obtain ⟨-, q3, -⟩ := n6 q1
        obtain ⟨h2, p2', hh2, hI2⟩ := q3.fi q1
        have := num_I (N := N) (q := nn ns - nn 1) (qb := ns) hN q3.1 hI2 rfl (by omega)
        obtain ⟨⟨a2', E2'⟩, ⟨c2', F5'⟩, z1, z2, z3, z4, z5⟩ := this
        rw [r1] at z1
        rw [r2] at z2
        cases z1
        cases z2
        rcases z5 with ⟨v, h3, p3', -, -, -, hh3, hI4, -⟩ | ⟨kk, hA⟩
        · exact ⟨q2.1, Or.inl ⟨h3, p3', by omega, hI4⟩⟩
        · exact absurd hk hA.no
      · exact r5.any hk
    obtain ⟨E9, F9, v1, v2, v3⟩ := wfin (N := N) (c := 0) (a := a1) (b := a2) (a' := c1) (b' := c2) hN hL ho hW (p2.tr (n3.tr r3)) (hGF.tr (n4.tr r4)) hC5 (by omega) (by decide) (fun q => by
      obtain ⟨q1, q2, va2, q3, rfl, rfl⟩ := r6 q
      obtain ⟨q4, q5, va1, q6, rfl, rfl⟩ := n6 q1
      exact ⟨va1, va2, rfl, rfl, rfl, rfl, fun _ => ⟨q6, q3⟩, fun q => absurd q (by decide), fun q => absurd q (by decide), fun q => absurd q (by decide)⟩)
    refine ⟨E9, F9, ?_, fun slf => ?_, v3⟩
    · simp (disch := omega) only [F_X7_readStep, nn_l2, ↓reduceIte, ↓z_bdE, ↓z_letE, k1, nn_eqF, nn_eqM, d6, n1, F_X7_readStep_J62x, d5', r1, F_X7_readStep_J114xx, v1]
    · rw [rs_21 hN x1]
      simp (disch := omega) only [nn_l2, ↓z_bdE, y1, F_X11_readOne, g20, n2, g19', r2, v2]
  · -- wash
    have hr3 : r = 4 := hrj
    have hc2 : cdr t h r = wcd 19 := hcode
    rw [hc2] at x1
    obtain ⟨a1, E1, c1, F4, n1, n2, n3, n4, n5, n6⟩ := num_O (N := N) (qb := pe) hN hC3 (by omega)
    obtain ⟨E9, F9, v1, v2, v3⟩ := wfin (N := N) (c := 1) (a := a1) (b := nn 0) (a' := c1) (b' := nn 0) hN hL ho hW (p2.tr n3) (hGF.tr n4) (n5.le (show m + 4 ≤ m + r by omega)) (by omega) (by decide) (fun q => by
      obtain ⟨q4, q5, va1, q6, rfl, rfl⟩ := n6 q
      exact ⟨va1, 0, rfl, rfl, rfl, rfl, fun q => absurd q (by decide), fun _ => q6, fun q => absurd q (by decide), fun q => absurd q (by decide)⟩)
    refine ⟨E9, F9, ?_, fun slf => ?_, v3⟩
    · simp (disch := omega) only [F_X7_readStep, nn_l2, ↓reduceIte, ↓z_bdE, ↓z_letE, k1, nn_eqF, nn_eqM, d6, n1, F_X7_readStep_J62x, F_X7_readStep_J114xxx, v1]
    · rw [rs_19 hN x1]
      have o19 := of_e (N := N) (id := 19) hN (by decide) (by decide)
      simp (disch := omega) only [nn_l2, ↓reduceIte, ↓z_bdE, F_X11_readStep_J73, y1, o19, x4', F_X11_readStep_J93, F_X11_readOne, g20, n2, v2]
  · -- salt
    have hr3 : r = 4 := hrj
    have hc2 : cdr t h r = wcd 20 := hcode
    rw [hc2] at x1
    obtain ⟨a1, E1, c1, F4, n1, n2, n3, n4, n5, n6⟩ := num_O (N := N) (qb := pe) hN hC3 (by omega)
    obtain ⟨E9, F9, v1, v2, v3⟩ := wfin (N := N) (c := 2) (a := a1) (b := nn 0) (a' := c1) (b' := nn 0) hN hL ho hW (p2.tr n3) (hGF.tr n4) (n5.le (show m + 4 ≤ m + r by omega)) (by omega) (by decide) (fun q => by
      obtain ⟨q4, q5, va1, q6, rfl, rfl⟩ := n6 q
      exact ⟨va1, 0, rfl, rfl, rfl, rfl, fun q => absurd q (by decide), fun q => absurd q (by decide), fun _ => q6, fun q => absurd q (by decide)⟩)
    refine ⟨E9, F9, ?_, fun slf => ?_, v3⟩
    · simp (disch := omega) only [F_X7_readStep, nn_l2, ↓reduceIte, ↓z_bdE, ↓z_letE, k1, nn_eqF, nn_eqM, d6, n1, F_X7_readStep_J62x, F_X7_readStep_J114xxx, v1]
    · rw [rs_20 hN x1]
      have o19 := of_e (N := N) (id := 19) hN (by decide) (by decide)
      have q19 : (nn (wcd 20) = nn (wcd 19)) = False := eq_false (wne 20 (by decide) (by decide) 19 (by decide) (by decide) (by decide))
      simp (disch := omega) only [nn_l2, ↓reduceIte, ↓z_bdE, F_X11_readStep_J73, y1, o19, q19, F_X11_readStep_J93x, F_X11_readOne, g20, n2, v2]
  · -- rain
    have hr3 : r = 4 := hrj
    have hc2 : cdr t h r = wcd 18 := hcode
    rw [hc2] at x1
    obtain ⟨E9, F9, v1, v2, v3⟩ := wfin (N := N) (c := 3) (a := nn 0) (b := nn 0) (a' := nn 0) (b' := nn 0) hN hL ho hW p2 hGF (hC3.le (show m + 4 ≤ m + r by omega)) (by omega) (by decide) (fun q => ⟨0, 0, rfl, rfl, rfl, rfl, fun q => absurd q (by decide), fun q => absurd q (by decide), fun q => absurd q (by decide), fun q => absurd q (by decide)⟩)
    refine ⟨E9, F9, ?_, fun slf => ?_, v3⟩
    · simp (disch := omega) only [F_X7_readStep, nn_l2, ↓reduceIte, ↓z_bdE, ↓z_letE, k1, nn_eqF, nn_eqM, F_X7_readStep_J62, F_X7_readStep_J114x, v1]
    · rw [rs_18 hN x1]
      have o18 := of_e (N := N) (id := 18) hN (by decide) (by decide)
      simp (disch := omega) only [nn_l2, ↓reduceIte, ↓z_bdE, F_X11_readStep_J25, y1, o18, x4', v2]
  · -- marry
    have hr3 : r = 5 := hrj
    have hc2 : cdr t h r = wcd 22 := hcode
    rw [hc2] at x1
    obtain ⟨a1, E1, a2, E2, E3, c1, c2, F6, n1, n2, n3, n4, n5, n6, n7, n8, n9, n10⟩ := marry_N (N := N) (m := m + r) hN hpe hC3.1 hI3 (by omega) g20
    have d6' : E1 o 6 = nn pe := by rw [n10 o (by omega)]; exact d6
    obtain ⟨E9, F9, v1, v2, v3⟩ := wfin (N := N) (c := 4) (a := a1) (b := a2) (a' := c1) (b' := c2) hN hL ho hW (p2.tr n6) (hGF.tr n7) (n8.le (show m + 4 ≤ m + r + 2 by omega)) (by omega) (by decide) (fun q => by
      obtain ⟨va, vb, u1, u2, u3, rfl, rfl, rfl, rfl⟩ := n9 q
      exact ⟨va, vb, rfl, rfl, rfl, rfl, fun q => absurd q (by decide), fun q => absurd q (by decide), fun q => absurd q (by decide), fun _ => ⟨u1, u2, u3⟩⟩)
    refine ⟨E9, F9, ?_, fun slf => ?_, v3⟩
    · by_cases hab : a1 = a2
      · have e3 := n3 hab
        rw [e3] at v1
        rw [← hab] at v1 n2
        simp (disch := omega) only [F_X7_readStep, nn_l2, ↓reduceIte, ↓z_bdE, ↓z_letE, k1, nn_eqF, nn_eqM, nn_eqT, d6, n1, F_X7_readStep_J62x, d6', n2, F_X7_readStep_J114xx, v1]
      · have e3 := n4 hab
        rw [e3] at v1
        simp (disch := omega) only [F_X7_readStep, nn_l2, ↓reduceIte, ↓z_bdE, ↓z_letE, k1, nn_eqF, nn_eqM, nn_eqT, d6, n1, F_X7_readStep_J62x, d6', n2, hab, F_X7_readStep_J114xx, v1]
    · rw [rs_22 hN x1]
      simp (disch := omega) only [nn_l2, ↓z_bdE, y1, n5]
      exact v2
  · -- year
    have hr3 : r = 4 := hrj
    have hc2 : cdr t h r = wcd 16 := hcode
    rw [hc2] at x1
    obtain ⟨E9, F9, v1, v2, v3⟩ := wfin (N := N) (c := 5) (a := nn 0) (b := nn 0) (a' := nn 0) (b' := nn 0) hN hL ho hW p2 hGF (hC3.le (show m + 4 ≤ m + r by omega)) (by omega) (by decide) (fun q => ⟨0, 0, rfl, rfl, rfl, rfl, fun q => absurd q (by decide), fun q => absurd q (by decide), fun q => absurd q (by decide), fun q => absurd q (by decide)⟩)
    refine ⟨E9, F9, ?_, fun slf => ?_, v3⟩
    · simp (disch := omega) only [F_X7_readStep, nn_l2, ↓reduceIte, ↓z_bdE, ↓z_letE, k1, nn_eqF, nn_eqM, F_X7_readStep_J62, F_X7_readStep_J114x, v1]
    · rw [rs_16 hN x1]
      have o18 := of_e (N := N) (id := 18) hN (by decide) (by decide)
      have q18 : (nn (wcd 16) = nn (wcd 18)) = False := eq_false (wne 16 (by decide) (by decide) 18 (by decide) (by decide) (by decide))
      simp (disch := omega) only [nn_l2, ↓reduceIte, ↓z_bdE, F_X11_readStep_J25, y1, o18, q18, v2]
