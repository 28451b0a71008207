/-! ===== follows and guilds ===== -/
theorem CR_vt {o ns pe rv : Nat} {D D' : z_Dat} (hC : CR o ns pe rv D D') : ∃ vt : Nat → Nat, ∀ b, b < ns → vt b < 1000 ∧ D (o + 1) b = nn (vt b) ∧ (D' 47 (4 * b) = nn (vt b / 100) ∧ D' 47 (4 * b + 1) = nn (vt b / 10 % 10) ∧ D' 47 (4 * b + 2) = nn (vt b % 10)) := by
  have h : ∀ b : Nat, ∃ v : Nat, b < ns → v < 1000 ∧ D (o + 1) b = nn v ∧ (D' 47 (4 * b) = nn (v / 100) ∧ D' 47 (4 * b + 1) = nn (v / 10 % 10) ∧ D' 47 (4 * b + 2) = nn (v % 10)) := fun b => by
    by_cases hb : b < ns
    · obtain ⟨v, hv, q0, q, -⟩ := hC.2.2.2.1 b hb
      exact ⟨v, fun _ => ⟨hv, q0, q⟩⟩
    · exact ⟨0, fun h => absurd h hb⟩
  obtain ⟨vt, hs⟩ := Classical.axiomOfChoice h
  exact ⟨vt, hs⟩
def foU (sh : Nat → Nat) (va vb : Nat) (p : Nat) : Bool := decide (ap (sh p) va < ap (sh p) vb)
theorem pref_P {N o pe va vb : Nat} {sh : Nat → Nat} {E : z_Dat} (hN : 200 < N) (hpe : pe ≤ 8) (hva : va < 1000) (hvb : vb < 1000) (c6 : E o 6 = nn pe) (hs : ∀ p, p < pe → sh p < 1000 ∧ E (3 + 1) (p * 5) = nn (sh p)) : z_P (F_X10_preferring N o (nn va) (nn vb) E) (fun a => a = nn (cntS (foU sh va vb) pe)) := by
  unfold F_X10_preferring
  refine z_P_loop (fun k s => ∃ p, p + k = pe ∧ s.1 = nn (cntS (foU sh va vb) p) ∧ s.2 = nn p) ?_ pe N _ (by omega) ⟨0, by omega, rfl, rfl⟩
  rintro k ⟨v1, v2⟩ kc ⟨p, hk, rfl, rfl⟩ ih
  dsimp only
  by_cases hp : p < pe
  · obtain ⟨h1, h2⟩ := hs p hp
    have l1 := ap_le h1 hva
    have l2 := ap_le h1 hvb
    by_cases hc : ap (sh p) va < ap (sh p) vb
    · simp (disch := omega) only [F_X10_preferring_L5, F_X9_has, c6, h2, apart_10, ↓reduceIte, ↓z_letE, ↓z_bdE, nn_l2, nn_add, nn_mul, nn_sub, nn_addM, nn_div, nn_rem, nn_min, nn_max, nn_abs, nn_ltT, nn_ltF, nn_leT, nn_leF, nn_eqT, nn_eqF, nn_eqM, nn_Meq, nn_ltM, nn_Mlt, nn_leM, nn_Mle, z_ix_nn, z_inb_nn, F_at_nn, F_put_nn, Nat.zero_add, Nat.add_zero, z_P_some, z_R_some, z_P_bd]
      exact ih (k - 1) _ (by omega) ⟨p + 1, by omega, by rw [cntS_t (by simp [foU, hc])], rfl⟩
    · simp (disch := omega) only [F_X10_preferring_L5, F_X9_has, c6, h2, apart_10, ↓reduceIte, ↓z_letE, ↓z_bdE, nn_l2, nn_add, nn_mul, nn_sub, nn_addM, nn_div, nn_rem, nn_min, nn_max, nn_abs, nn_ltT, nn_ltF, nn_leT, nn_leF, nn_eqT, nn_eqF, nn_eqM, nn_Meq, nn_ltM, nn_Mlt, nn_leM, nn_Mle, z_ix_nn, z_inb_nn, F_at_nn, F_put_nn, Nat.zero_add, Nat.add_zero, z_P_some, z_R_some, z_P_bd]
      exact ih (k - 1) _ (by omega) ⟨p + 1, by omega, by rw [cntS_f (by simp [foU, hc])], rfl⟩
  · have hpp : p = pe := by omega
    subst hpp
    simp (disch := omega) only [F_X10_preferring_L5, c6, ↓reduceIte, ↓z_letE, ↓z_bdE, nn_l2, nn_add, nn_mul, nn_sub, nn_addM, nn_div, nn_rem, nn_min, nn_max, nn_abs, nn_ltT, nn_ltF, nn_leT, nn_leF, nn_eqT, nn_eqF, nn_eqM, nn_Meq, nn_ltM, nn_Mlt, nn_leM, nn_Mle, z_ix_nn, z_inb_nn, F_at_nn, F_put_nn, Nat.zero_add, Nat.add_zero, z_P_some, z_R_some, z_P_bd]
theorem foll_P {N pe a b va vb : Nat} {sh : Nat → Nat} {G2 : z_Dat} (hN : 200 < N) (hpe : pe ≤ 8) (ha : a < 6) (hb : b < 6) (hva : va < 1000) (hvb : vb < 1000) (k20 : G2 40 20 = nn pe) (eA : F_X11_vatOf (nn a) G2 = some (nn va)) (eB : F_X11_vatOf (nn b) G2 = some (nn vb)) (hs : ∀ p, p < pe → sh p < 1000 ∧ F_X11_shadeOf (nn p) G2 = some (nn (sh p))) : z_P (F_X11_followsOf N (nn a) (nn b) G2) (fun x => x = nn (cntS (foU sh va vb) pe)) := by
  unfold F_X11_followsOf
  refine z_P_loop (fun k s => ∃ p, p + k = pe ∧ s.1 = nn (cntS (foU sh va vb) p) ∧ s.2 = nn p) ?_ pe N _ (by omega) ⟨0, by omega, rfl, rfl⟩
  rintro k ⟨v1, v2⟩ kc ⟨p, hk, rfl, rfl⟩ ih
  dsimp only
  by_cases hp : p < pe
  · obtain ⟨h1, h2⟩ := hs p hp
    have l1 := ap_le h1 hva
    have l2 := ap_le h1 hvb
    by_cases hc : ap (sh p) va < ap (sh p) vb
    · simp (disch := omega) only [F_X11_followsOf_L5, k20, h2, eA, eB, apart_11, ↓reduceIte, ↓z_letE, ↓z_bdE, nn_l2, nn_add, nn_mul, nn_sub, nn_addM, nn_div, nn_rem, nn_min, nn_max, nn_abs, nn_ltT, nn_ltF, nn_leT, nn_leF, nn_eqT, nn_eqF, nn_eqM, nn_Meq, nn_ltM, nn_Mlt, nn_leM, nn_Mle, z_ix_nn, z_inb_nn, F_at_nn, F_put_nn, Nat.zero_add, Nat.add_zero, z_P_some, z_R_some, z_P_bd]
      exact ih (k - 1) _ (by omega) ⟨p + 1, by omega, by rw [cntS_t (by simp [foU, hc])], rfl⟩
    · simp (disch := omega) only [F_X11_followsOf_L5, k20, h2, eA, eB, apart_11, ↓reduceIte, ↓z_letE, ↓z_bdE, nn_l2, nn_add, nn_mul, nn_sub, nn_addM, nn_div, nn_rem, nn_min, nn_max, nn_abs, nn_ltT, nn_ltF, nn_leT, nn_leF, nn_eqT, nn_eqF, nn_eqM, nn_Meq, nn_ltM, nn_Mlt, nn_leM, nn_Mle, z_ix_nn, z_inb_nn, F_at_nn, F_put_nn, Nat.zero_add, Nat.add_zero, z_P_some, z_R_some, z_P_bd]
      exact ih (k - 1) _ (by omega) ⟨p + 1, by omega, by rw [cntS_f (by simp [foU, hc])], rfl⟩
  · have hpp : p = pe := by omega
    subst hpp
    simp (disch := omega) only [F_X11_followsOf_L5, k20, ↓reduceIte, ↓z_letE, ↓z_bdE, nn_l2, nn_add, nn_mul, nn_sub, nn_addM, nn_div, nn_rem, nn_min, nn_max, nn_abs, nn_ltT, nn_ltF, nn_leT, nn_leF, nn_eqT, nn_eqF, nn_eqM, nn_Meq, nn_ltM, nn_Mlt, nn_leM, nn_Mle, z_ix_nn, z_inb_nn, F_at_nn, F_put_nn, Nat.zero_add, Nat.add_zero, z_P_some, z_R_some, z_P_bd]
/-- who goes where, once for both sides -/
theorem fo_ex {N o ns pe rv : Nat} {D G G2 : z_Dat} (hN : 200 < N) (hA : AT o ns pe rv D G G2) : ∃ (vt : Nat → Nat) (fo : Nat → Nat → Nat), (∀ b, b < ns → vt b < 1000 ∧ D (o + 1) b = nn (vt b)) ∧ (∀ a b, fo a b ≤ 8) ∧ (∀ a b, a < ns → b < ns → F_X11_followsOf N (nn a) (nn b) G2 = some (nn (fo a b))) ∧ ∀ a b, a < ns → b < ns → ∀ E : z_Dat, E 4 = D 4 → E o = D o → F_X10_preferring N o (nn (vt a)) (nn (vt b)) E = some (nn (fo a b)) := by
  obtain ⟨A1, A2, A3, A4, A5, A6⟩ := hA
  obtain ⟨vt, hv⟩ := CR_vt A1
  obtain ⟨sh, hs⟩ := TR_sh A2
  obtain ⟨⟨hns, hpe, hrv⟩, ⟨c5, c6, c7⟩, ⟨k19, k20, k21⟩, -, -⟩ := id A1
  refine ⟨vt, fun a b => cntS (foU sh (vt a) (vt b)) pe, fun b hb => ⟨(hv b hb).1, (hv b hb).2.1⟩, fun a b => Nat.le_trans (cntS_le _ _) hpe, fun a b ha hb => ?_, fun a b ha hb E e4 eo => ?_⟩
  · obtain ⟨p1, p2, p3, p4, p5⟩ := hv a ha
    obtain ⟨q1, q2, q3, q4, q5⟩ := hv b hb
    obtain ⟨x, hx, rfl⟩ := foll_P (N := N) (a := a) (b := b) (va := vt a) (vb := vt b) (sh := sh) (G2 := G2) hN hpe (by omega) (by omega) p1 q1 k20 (vatOf_e (by omega) p3 p4 p5) (vatOf_e (by omega) q3 q4 q5) (fun p hp => ⟨(hs p hp).1, shadeOf_e (by omega) (hs p hp).2.2.1 (hs p hp).2.2.2.1 (hs p hp).2.2.2.2⟩)
    exact hx
  · obtain ⟨x, hx, rfl⟩ := pref_P (N := N) (o := o) (pe := pe) (va := vt a) (vb := vt b) (sh := sh) (E := E) hN hpe (hv a ha).1 (hv b hb).1 (by rw [eo]; exact c6) (fun p hp => ⟨(hs p hp).1, by show E 4 (p * 5) = _; rw [e4]; exact (hs p hp).2.1⟩)
    exact hx
set_option maxHeartbeats 4000000 in
theorem T_follows {N o n : Nat} {a1 a2 : Int32} {D : z_Dat} (hN : 200 < N) (hJ : J o n D) : TOP (F_L_follows N o a1 a2 D) (F_X11_follows N a1 a2) (J o n) := by
  obtain ⟨ho, ns, pe, rv, hB⟩ := id hJ
  obtain ⟨⟨hns, hpe, hrv⟩, ⟨c5, c6, c7⟩, ⟨k19, k20, k21⟩, hV, hH⟩ := id hB.1
  rcases has_or (m := ns) (by omega) a1 with ⟨a, ha, rfl, ew⟩ | ⟨hout, ew⟩
  · rcases has_or (m := ns) (by omega) a2 with ⟨b, hb, rfl, ew2⟩ | ⟨hout, ew2⟩
    · refine TOP_r hJ rfl (fun G hK => ?_)
      have g19 : G 40 19 = nn ns := by rw [hK.2.1 19 (by unfold KK; omega)]; exact k19
      obtain ⟨v, hv, v0, -⟩ := hV a ha
      obtain ⟨w, hw, w0, -⟩ := hV b hb
      simp (disch := omega) only [F_X10_follows, F_X10_follows_J28x, F_X1_hasStreet, F_X1_vatOf, c5, v0, w0, F_X11_follows, F_X11_follows_J39x, g19, ew, ew2, dem_ok, dem_no, demT_ok, demT_no, z_bt_l, z_bt_r, z_try_l, z_try_r, nl_I, nl_N, nl_IN, nl_NI, may_okU, may_noU, z_up_at, z_up_i, z_up_r, ↓reduceIte, ↓z_letE, ↓z_bdE, nn_l2, nn_add, nn_mul, nn_sub, nn_addM, nn_div, nn_rem, nn_min, nn_max, nn_abs, nn_ltT, nn_ltF, nn_leT, nn_leF, nn_eqT, nn_eqF, nn_eqM, nn_Meq, nn_ltM, nn_Mlt, nn_leM, nn_Mle, z_ix_nn, z_inb_nn, F_at_nn, F_put_nn, Nat.zero_add, Nat.add_zero, z_P_some, z_R_some, z_P_bd]
      refine z_R_take hN hB hK (fun G2 hA => ?_)
      obtain ⟨vt, fo, f1, f2, f3, f4⟩ := fo_ex hN hA
      have ea : vt a = v := nn_inj (by have := (f1 a ha).1; omega) (by omega) ((f1 a ha).2.symm.trans v0)
      have eb : vt b = w := nn_inj (by have := (f1 b hb).1; omega) (by omega) ((f1 b hb).2.symm.trans w0)
      have g4 := f4 a b ha hb D rfl rfl
      rw [ea, eb] at g4
      obtain ⟨A1, A2, A3, A4, A5, A6⟩ := hA
      rw [g4, z_bdE, f3 a b ha hb, z_bdE, z_R_some]
      exact ⟨_, _, rfl, KA.rf, rfl, A4, A5, A6⟩
    · refine TOP_t (c := 1) (k := 0) hJ (by decide) (by decide) (by decide) ?_ (fun G hG => ?_)
      · rcases hout with h | h
        · simp (disch := omega) only [F_L_follows, F_X10_follows, F_X10_follows_J27, F_X10_follows_J28, F_X1_hasStreet, c5, h, dem_ok, dem_no, demT_ok, demT_no, z_bt_l, z_bt_r, z_try_l, z_try_r, nl_I, nl_N, nl_IN, nl_NI, may_okU, may_noU, z_up_at, z_up_i, z_up_r, ↓reduceIte, ↓z_letE, ↓z_bdE, nn_l2, nn_add, nn_mul, nn_sub, nn_addM, nn_div, nn_rem, nn_min, nn_max, nn_abs, nn_ltT, nn_ltF, nn_leT, nn_leF, nn_eqT, nn_eqF, nn_eqM, nn_Meq, nn_ltM, nn_Mlt, nn_leM, nn_Mle, z_ix_nn, z_inb_nn, F_at_nn, F_put_nn, Nat.zero_add, Nat.add_zero, z_P_some, z_R_some, z_P_bd]
        · simp (disch := omega) only [F_L_follows, F_X10_follows, F_X10_follows_J27, F_X10_follows_J28, F_X1_hasStreet, c5, h.1, h.2, dem_ok, dem_no, demT_ok, demT_no, z_bt_l, z_bt_r, z_try_l, z_try_r, nl_I, nl_N, nl_IN, nl_NI, may_okU, may_noU, z_up_at, z_up_i, z_up_r, ↓reduceIte, ↓z_letE, ↓z_bdE, nn_l2, nn_add, nn_mul, nn_sub, nn_addM, nn_div, nn_rem, nn_min, nn_max, nn_abs, nn_ltT, nn_ltF, nn_leT, nn_leF, nn_eqT, nn_eqF, nn_eqM, nn_Meq, nn_ltM, nn_Mlt, nn_leM, nn_Mle, z_ix_nn, z_inb_nn, F_at_nn, F_put_nn, Nat.zero_add, Nat.add_zero, z_P_some, z_R_some, z_P_bd]
      · have g19 : G 40 19 = nn ns := by rw [hG 40 (by decide)]; exact k19
        rw [nn_sub (by omega)] at ew2
        simp (disch := omega) only [F_X11_follows, F_X11_follows_J38, F_X11_follows_J39, g19, ew, ew2, dem_ok, dem_no, demT_ok, demT_no, z_bt_l, z_bt_r, z_try_l, z_try_r, nl_I, nl_N, nl_IN, nl_NI, may_okU, may_noU, z_up_at, z_up_i, z_up_r, ↓reduceIte, ↓z_letE, ↓z_bdE, nn_l2, nn_add, nn_mul, nn_sub, nn_addM, nn_div, nn_rem, nn_min, nn_max, nn_abs, nn_ltT, nn_ltF, nn_leT, nn_leF, nn_eqT, nn_eqF, nn_eqM, nn_Meq, nn_ltM, nn_Mlt, nn_leM, nn_Mle, z_ix_nn, z_inb_nn, F_at_nn, F_put_nn, Nat.zero_add, Nat.add_zero, z_P_some, z_R_some, z_P_bd]
  · refine TOP_t (c := 1) (k := 0) hJ (by decide) (by decide) (by decide) ?_ (fun G hG => ?_)
    · rcases hout with h | h
      · simp (disch := omega) only [F_L_follows, F_X10_follows, F_X10_follows_J27, F_X10_follows_J28, F_X1_hasStreet, c5, h, dem_ok, dem_no, demT_ok, demT_no, z_bt_l, z_bt_r, z_try_l, z_try_r, nl_I, nl_N, nl_IN, nl_NI, may_okU, may_noU, z_up_at, z_up_i, z_up_r, ↓reduceIte, ↓z_letE, ↓z_bdE, nn_l2, nn_add, nn_mul, nn_sub, nn_addM, nn_div, nn_rem, nn_min, nn_max, nn_abs, nn_ltT, nn_ltF, nn_leT, nn_leF, nn_eqT, nn_eqF, nn_eqM, nn_Meq, nn_ltM, nn_Mlt, nn_leM, nn_Mle, z_ix_nn, z_inb_nn, F_at_nn, F_put_nn, Nat.zero_add, Nat.add_zero, z_P_some, z_R_some, z_P_bd]
      · simp (disch := omega) only [F_L_follows, F_X10_follows, F_X10_follows_J27, F_X10_follows_J28, F_X1_hasStreet, c5, h.1, h.2, dem_ok, dem_no, demT_ok, demT_no, z_bt_l, z_bt_r, z_try_l, z_try_r, nl_I, nl_N, nl_IN, nl_NI, may_okU, may_noU, z_up_at, z_up_i, z_up_r, ↓reduceIte, ↓z_letE, ↓z_bdE, nn_l2, nn_add, nn_mul, nn_sub, nn_addM, nn_div, nn_rem, nn_min, nn_max, nn_abs, nn_ltT, nn_ltF, nn_leT, nn_leF, nn_eqT, nn_eqF, nn_eqM, nn_Meq, nn_ltM, nn_Mlt, nn_leM, nn_Mle, z_ix_nn, z_inb_nn, F_at_nn, F_put_nn, Nat.zero_add, Nat.add_zero, z_P_some, z_R_some, z_P_bd]
    · have g19 : G 40 19 = nn ns := by rw [hG 40 (by decide)]; exact k19
      simp (disch := omega) only [F_X11_follows, F_X11_follows_J38, F_X11_follows_J39, g19, ew, dem_ok, dem_no, demT_ok, demT_no, z_bt_l, z_bt_r, z_try_l, z_try_r, nl_I, nl_N, nl_IN, nl_NI, may_okU, may_noU, z_up_at, z_up_i, z_up_r, ↓reduceIte, ↓z_letE, ↓z_bdE, nn_l2, nn_add, nn_mul, nn_sub, nn_addM, nn_div, nn_rem, nn_min, nn_max, nn_abs, nn_ltT, nn_ltF, nn_leT, nn_leF, nn_eqT, nn_eqF, nn_eqM, nn_Meq, nn_ltM, nn_Mlt, nn_leM, nn_Mle, z_ix_nn, z_inb_nn, F_at_nn, F_put_nn, Nat.zero_add, Nat.add_zero, z_P_some, z_R_some, z_P_bd]
/-- the table of goers is filled -/
theorem goers_P {N o ns : Nat} {D : z_Dat} {vt : Nat → Nat} {fo : Nat → Nat → Nat} (hN : 200 < N) (ho : o = 34 ∨ 68 ≤ o) (hns : ns ≤ 6) (c5 : D o 5 = nn ns) (f1 : ∀ b, b < ns → vt b < 1000 ∧ D (o + 1) b = nn (vt b)) (f4 : ∀ a b, a < ns → b < ns → ∀ E : z_Dat, E 4 = D 4 → E o = D o → F_X10_preferring N o (nn (vt a)) (nn (vt b)) E = some (nn (fo a b))) :
    z_P (F_X10_countGoers N o D) (fun E => Fr 33 D E ∧ ∀ a b, a < ns → b < ns → E 33 (a * 6 + b) = nn (fo a b)) := by
  unfold F_X10_countGoers
  refine z_P_loop (fun k s => ∃ a, a + k = ns ∧ s.1 = nn a ∧ Fr 33 D s.2 ∧ ∀ x y, x < a → y < ns → s.2 33 (x * 6 + y) = nn (fo x y)) ?_ ns N _ (by omega) ⟨0, by omega, rfl, Fr.rf, fun x y hx => absurd hx (by omega)⟩
  rintro k ⟨v, E⟩ kc ⟨a, hk, rfl, hF, hG⟩ ih
  dsimp only at hF hG ⊢
  have e5 : E o 5 = nn ns := by rw [hF o (by omega)]; exact c5
  by_cases ha : a < ns
  · simp (disch := omega) only [F_X10_countGoers_L2, e5, ↓reduceIte, ↓z_letE, ↓z_bdE, nn_l2, nn_add, nn_mul, nn_sub, nn_addM, nn_div, nn_rem, nn_min, nn_max, nn_abs, nn_ltT, nn_ltF, nn_leT, nn_leF, nn_eqT, nn_eqF, nn_eqM, nn_Meq, nn_ltM, nn_Mlt, nn_leM, nn_Mle, z_ix_nn, z_inb_nn, F_at_nn, F_put_nn, Nat.zero_add, Nat.add_zero, z_P_some, z_R_some, z_P_bd]
    refine z_P_loop (fun j s => ∃ b, b + j = ns ∧ s.1 = nn b ∧ Fr 33 D s.2 ∧ (∀ x y, x < a → y < ns → s.2 33 (x * 6 + y) = nn (fo x y)) ∧ ∀ y, y < b → s.2 33 (a * 6 + y) = nn (fo a y)) ?_ ns N _ (by omega) ⟨0, by omega, rfl, hF, hG, fun y hy => absurd hy (by omega)⟩
    rintro j ⟨w, F⟩ kd ⟨b, hj, rfl, hF2, hG2, hG3⟩ ih2
    dsimp only at hF2 hG2 hG3 ⊢
    have g5 : F o 5 = nn ns := by rw [hF2 o (by omega)]; exact c5
    by_cases hb : b < ns
    · have va : F (o + 1) a = nn (vt a) := by rw [hF2 _ (by omega)]; exact (f1 a ha).2
      have vb : F (o + 1) b = nn (vt b) := by rw [hF2 _ (by omega)]; exact (f1 b hb).2
      have hp := f4 a b ha hb F (hF2 4 (by decide)) (hF2 o (by omega))
      simp (disch := omega) only [F_X10_countGoers_L15, F_X1_vatOf, g5, va, vb, hp, ↓reduceIte, ↓z_letE, ↓z_bdE, nn_l2, nn_add, nn_mul, nn_sub, nn_addM, nn_div, nn_rem, nn_min, nn_max, nn_abs, nn_ltT, nn_ltF, nn_leT, nn_leF, nn_eqT, nn_eqF, nn_eqM, nn_Meq, nn_ltM, nn_Mlt, nn_leM, nn_Mle, z_ix_nn, z_inb_nn, F_at_nn, F_put_nn, Nat.zero_add, Nat.add_zero, z_P_some, z_R_some, z_P_bd]
      refine ih2 (j - 1) _ (by omega) ⟨b + 1, by omega, rfl, hF2.up, fun x y hx hy => ?_, fun y hy => ?_⟩
      · simp (disch := omega) only [z_up_i]
        exact hG2 x y hx hy
      · by_cases hyb : y = b
        · subst hyb
          simp (disch := omega) only [z_up_at]
        · simp (disch := omega) only [z_up_i]
          exact hG3 y (by omega)
    · simp (disch := omega) only [F_X10_countGoers_L15, g5, ↓reduceIte, ↓z_letE, ↓z_bdE, nn_l2, nn_add, nn_mul, nn_sub, nn_addM, nn_div, nn_rem, nn_min, nn_max, nn_abs, nn_ltT, nn_ltF, nn_leT, nn_leF, nn_eqT, nn_eqF, nn_eqM, nn_Meq, nn_ltM, nn_Mlt, nn_leM, nn_Mle, z_ix_nn, z_inb_nn, F_at_nn, F_put_nn, Nat.zero_add, Nat.add_zero, z_P_some, z_R_some, z_P_bd]
      refine ih (k - 1) _ (by omega) ⟨a + 1, by omega, rfl, hF2, fun x y hx hy => ?_⟩
      by_cases hxa : x = a
      · subst hxa
        exact hG3 y (by omega)
      · exact hG2 x y (by omega) hy
  · simp (disch := omega) only [F_X10_countGoers_L2, e5, ↓reduceIte, ↓z_letE, ↓z_bdE, nn_l2, nn_add, nn_mul, nn_sub, nn_addM, nn_div, nn_rem, nn_min, nn_max, nn_abs, nn_ltT, nn_ltF, nn_leT, nn_leF, nn_eqT, nn_eqF, nn_eqM, nn_Meq, nn_ltM, nn_Mlt, nn_leM, nn_Mle, z_ix_nn, z_inb_nn, F_at_nn, F_put_nn, Nat.zero_add, Nat.add_zero, z_P_some, z_R_some, z_P_bd]
    exact ⟨hF, fun x y hx hy => hG x y (by omega) hy⟩
set_option maxHeartbeats 4000000 in
theorem rest_R {N o ns a b : Nat} {E G2 : z_Dat} {fo : Nat → Nat → Nat} (hN : 200 < N) (hns : ns ≤ 6) (ha : a < ns) (hb : b < ns) (c5 : E o 5 = nn ns) (k19 : G2 40 19 = nn ns) (f2 : ∀ a b, fo a b ≤ 8) (f3 : ∀ a b, a < ns → b < ns → F_X11_followsOf N (nn a) (nn b) G2 = some (nn (fo a b))) (hE : ∀ a b, a < ns → b < ns → E 33 (a * 6 + b) = nn (fo a b)) :
    z_R (F_X10_restsAt N o (nn a) (nn b) E) (F_X11_isRest N (nn a) (nn b) G2) (fun x y => x = y ∧ (x = nn 0 ∨ x = nn 1)) := by
  unfold F_X10_restsAt F_X11_isRest
  refine z_R_loop (fun k s s' => ∃ c, c + k = ns ∧ s = nn c ∧ s' = nn c) ?_ ns N N _ _ (by omega) (by omega) ⟨0, by omega, rfl, rfl⟩
  rintro k s s' kc kc' ⟨c, hk, rfl, rfl⟩ ih
  by_cases hc : c < ns
  · have x1 := f2 a b
    have x2 := f2 c b
    have x3 := f2 c a
    have x4 := f2 b a
    by_cases h1 : fo a b < fo c b
    · simp (disch := omega) only [F_X10_restsAt_L2, F_X11_isRest_L2, F_X10_goersTo, c5, k19, hE a b ha hb, hE c b hc hb, f3 c b hc hb, f3 a b ha hb, ↓reduceIte, ↓z_letE, ↓z_bdE, nn_l2, nn_add, nn_mul, nn_sub, nn_addM, nn_div, nn_rem, nn_min, nn_max, nn_abs, nn_ltT, nn_ltF, nn_leT, nn_leF, nn_eqT, nn_eqF, nn_eqM, nn_Meq, nn_ltM, nn_Mlt, nn_leM, nn_Mle, z_ix_nn, z_inb_nn, F_at_nn, F_put_nn, Nat.zero_add, Nat.add_zero, z_P_some, z_R_some, z_P_bd]
      exact ⟨trivial, Or.inl trivial⟩
    · by_cases h2 : fo c a ≤ fo b a
      · simp (disch := omega) only [F_X10_restsAt_L2, F_X11_isRest_L2, F_X10_goersTo, c5, k19, hE a b ha hb, hE c b hc hb, hE c a hc ha, hE b a hb ha, f3 c b hc hb, f3 a b ha hb, f3 c a hc ha, f3 b a hb ha, ↓reduceIte, ↓z_letE, ↓z_bdE, nn_l2, nn_add, nn_mul, nn_sub, nn_addM, nn_div, nn_rem, nn_min, nn_max, nn_abs, nn_ltT, nn_ltF, nn_leT, nn_leF, nn_eqT, nn_eqF, nn_eqM, nn_Meq, nn_ltM, nn_Mlt, nn_leM, nn_Mle, z_ix_nn, z_inb_nn, F_at_nn, F_put_nn, Nat.zero_add, Nat.add_zero, z_P_some, z_R_some, z_P_bd]
        exact ih (k - 1) _ _ (by omega) ⟨c + 1, by omega, rfl, rfl⟩
      · simp (disch := omega) only [F_X10_restsAt_L2, F_X11_isRest_L2, F_X10_goersTo, c5, k19, hE a b ha hb, hE c b hc hb, hE c a hc ha, hE b a hb ha, f3 c b hc hb, f3 a b ha hb, f3 c a hc ha, f3 b a hb ha, ↓reduceIte, ↓z_letE, ↓z_bdE, nn_l2, nn_add, nn_mul, nn_sub, nn_addM, nn_div, nn_rem, nn_min, nn_max, nn_abs, nn_ltT, nn_ltF, nn_leT, nn_leF, nn_eqT, nn_eqF, nn_eqM, nn_Meq, nn_ltM, nn_Mlt, nn_leM, nn_Mle, z_ix_nn, z_inb_nn, F_at_nn, F_put_nn, Nat.zero_add, Nat.add_zero, z_P_some, z_R_some, z_P_bd]
        exact ⟨trivial, Or.inl trivial⟩
  · simp (disch := omega) only [F_X10_restsAt_L2, F_X11_isRest_L2, c5, k19, ↓reduceIte, ↓z_letE, ↓z_bdE, nn_l2, nn_add, nn_mul, nn_sub, nn_addM, nn_div, nn_rem, nn_min, nn_max, nn_abs, nn_ltT, nn_ltF, nn_leT, nn_leF, nn_eqT, nn_eqF, nn_eqM, nn_Meq, nn_ltM, nn_Mlt, nn_leM, nn_Mle, z_ix_nn, z_inb_nn, F_at_nn, F_put_nn, Nat.zero_add, Nat.add_zero, z_P_some, z_R_some, z_P_bd]
    exact ⟨trivial, Or.inr trivial⟩
