/-! ===== fits; level ===== -/
theorem AT_bk {o ns pe rv : Nat} {D G G2 : z_Dat} (hB : JB o ns pe rv D) (hK : KA D G) (hA : AT o ns pe rv D G G2) : ∀ d, d < 3 → D 13 d = G2 61 d := fun d hd => by
  obtain ⟨-, -, -, ⟨h, -⟩, -⟩ := hB
  rw [h d hd, (hK.tr hA.2.2.2.2.2).1 61 (by unfold SC; omega) (by decide)]
theorem AT_may {o ns pe rv a b : Nat} {D G G2 : z_Dat} (hB : JB o ns pe rv D) (hK : KA D G) (hA : AT o ns pe rv D G G2) (ha : a < pe) (hb : b < pe) : ∃ r, F_X11_mayBeTheirs (nn a) (nn b) G2 = some r ∧ F_X0_mayBear (F_X9_has 3 (nn a) (nn 0) D) (F_X9_has 3 (nn b) (nn 0) D) D = r ∧ (r = nn 0 ∨ r = nn 1) := by
  have hpe := hB.1.1.2.1
  obtain ⟨n, hn, q0, ⟨q1, q2, q3⟩, -⟩ := hA.2.1.1 a ha
  obtain ⟨m, hm, r0, ⟨r1, r2, r3⟩, -⟩ := hA.2.1.1 b hb
  have e1 : F_X9_has 3 (nn a) (nn 0) D = nn n := by
    simp (disch := omega) only [F_X9_has, ↓reduceIte, ↓z_letE, ↓z_bdE, nn_l2, nn_add, nn_mul, nn_sub, nn_addM, nn_div, nn_rem, nn_min, nn_max, nn_abs, nn_ltT, nn_ltF, nn_leT, nn_leF, nn_eqT, nn_eqF, nn_eqM, nn_Meq, nn_ltM, nn_Mlt, nn_leM, nn_Mle, z_ix_nn, z_inb_nn, F_at_nn, F_put_nn, Nat.zero_add, Nat.add_zero, z_P_some, z_R_some, z_P_bd]
    exact q0
  have e2 : F_X9_has 3 (nn b) (nn 0) D = nn m := by
    simp (disch := omega) only [F_X9_has, ↓reduceIte, ↓z_letE, ↓z_bdE, nn_l2, nn_add, nn_mul, nn_sub, nn_addM, nn_div, nn_rem, nn_min, nn_max, nn_abs, nn_ltT, nn_ltF, nn_leT, nn_leF, nn_eqT, nn_eqF, nn_eqM, nn_Meq, nn_ltM, nn_Mlt, nn_leM, nn_Mle, z_ix_nn, z_inb_nn, F_at_nn, F_put_nn, Nat.zero_add, Nat.add_zero, z_P_some, z_R_some, z_P_bd]
    exact r0
  rw [e1, e2]
  exact may_e (by omega) (by omega) hn hm (AT_bk hB hK hA) q1 q2 q3 r1 r2 r3
def FPn (m : Nat → Nat → Prop) (pe x y : Nat) : Prop := ∀ a b, a < b → b < pe → (a < x ∨ (a = x ∧ b < y)) → ¬ m a b
def FP (m : Nat → Nat → Prop) (pe : Nat) (v : Int32) : Prop := (v = -nn 1 ∧ FPn m pe pe 0) ∨ ∃ a b, a < b ∧ b < pe ∧ m a b ∧ v = nn (10 * a + b) ∧ FPn m pe a b
theorem FP_u {m : Nat → Nat → Prop} {pe : Nat} {v w : Int32} (h : FP m pe v) (h2 : FP m pe w) : v = w := by
  rcases h with ⟨rfl, h⟩ | ⟨a, b, hab, hb, hm, rfl, h⟩
  · rcases h2 with ⟨rfl, -⟩ | ⟨a, b, hab, hb, hm, rfl, -⟩
    · rfl
    · exact absurd hm (h a b hab hb (Or.inl (by omega)))
  · rcases h2 with ⟨rfl, h2⟩ | ⟨c, d, hcd, hd, hm2, rfl, h2⟩
    · exact absurd hm (h2 a b hab hb (Or.inl (by omega)))
    · by_cases hac : a < c ∨ (a = c ∧ b < d)
      · exact absurd hm (h2 a b hab hb hac)
      · by_cases hca : c < a ∨ (c = a ∧ d < b)
        · exact absurd hm2 (h c d hcd hd hca)
        · have e1 : a = c := by omega
          have e2 : b = d := by omega
          rw [e1, e2]
set_option maxHeartbeats 4000000 in
theorem fits_key {N pe : Nat} {D G2 : z_Dat} (hN : 200 < N) (hpe : pe ≤ 8) (q20 : G2 40 20 = nn pe) (hm : ∀ a b, a < pe → b < pe → ∃ r, F_X11_mayBeTheirs (nn a) (nn b) G2 = some r ∧ F_X0_mayBear (F_X9_has 3 (nn a) (nn 0) D) (F_X9_has 3 (nn b) (nn 0) D) D = r ∧ (r = nn 0 ∨ r = nn 1)) :
    z_R (F_X0_firstFit N 3 (nn pe) D) (z_loop (fun kc11 s => F_X11_fits_L33 N (nn 1) G2 kc11 s.1 s.2.1 s.2.2) N (nn 0, -nn 1, nn 0)) (fun a c => c = (a, G2)) := by
  have h1 : z_P (F_X0_firstFit N 3 (nn pe) D) (FP (fun a b => F_X11_mayBeTheirs (nn a) (nn b) G2 = some (nn 1)) pe) := by
    unfold F_X0_firstFit
    refine z_P_loop (fun k s => ∃ a, a + k = pe ∧ s = nn a ∧ FPn (fun a b => F_X11_mayBeTheirs (nn a) (nn b) G2 = some (nn 1)) pe a 0) ?_ pe N _ (by omega) ⟨0, by omega, rfl, fun a b _ _ h => by omega⟩
    rintro k s kc ⟨a, hk, rfl, hn⟩ ih
    by_cases ha : a < pe
    · simp (disch := omega) only [F_X0_firstFit_L2, ↓reduceIte, ↓z_letE, ↓z_bdE, nn_l2, nn_add, nn_mul, nn_sub, nn_addM, nn_div, nn_rem, nn_min, nn_max, nn_abs, nn_ltT, nn_ltF, nn_leT, nn_leF, nn_eqT, nn_eqF, nn_eqM, nn_Meq, nn_ltM, nn_Mlt, nn_leM, nn_Mle, z_ix_nn, z_inb_nn, F_at_nn, F_put_nn, Nat.zero_add, Nat.add_zero, z_P_some, z_R_some, z_P_bd]
      refine z_P_loop (fun j s => ∃ b, b + j = pe ∧ a < b ∧ s = nn b ∧ FPn (fun a b => F_X11_mayBeTheirs (nn a) (nn b) G2 = some (nn 1)) pe a b) ?_ (pe - (a + 1)) N _ (by omega) ⟨a + 1, by omega, by omega, rfl, fun x y hxy hy h => by
        rcases h with h | ⟨rfl, h⟩
        · exact hn x y hxy hy (Or.inl h)
        · omega⟩
      rintro j s kd ⟨b, hj, hab, rfl, hn2⟩ ih2
      by_cases hb : b < pe
      · obtain ⟨r, r1, r2, r3⟩ := hm a b ha hb
        rcases r3 with rfl | rfl
        · simp (disch := omega) only [F_X0_firstFit_L12, r2, ↓reduceIte, ↓z_letE, ↓z_bdE, nn_l2, nn_add, nn_mul, nn_sub, nn_addM, nn_div, nn_rem, nn_min, nn_max, nn_abs, nn_ltT, nn_ltF, nn_leT, nn_leF, nn_eqT, nn_eqF, nn_eqM, nn_Meq, nn_ltM, nn_Mlt, nn_leM, nn_Mle, z_ix_nn, z_inb_nn, F_at_nn, F_put_nn, Nat.zero_add, Nat.add_zero, z_P_some, z_R_some, z_P_bd]
          refine ih2 (j - 1) _ (by omega) ⟨b + 1, by omega, by omega, rfl, fun x y hxy hy h => ?_⟩
          by_cases hxy2 : x = a ∧ y = b
          · obtain ⟨rfl, rfl⟩ := hxy2
            intro q
            rw [r1] at q
            exact absurd (nn_inj (by omega) (by omega) (Option.some.inj q)) (by omega)
          · exact hn2 x y hxy hy (by omega)
        · simp (disch := omega) only [F_X0_firstFit_L12, r2, ↓reduceIte, ↓z_letE, ↓z_bdE, nn_l2, nn_add, nn_mul, nn_sub, nn_addM, nn_div, nn_rem, nn_min, nn_max, nn_abs, nn_ltT, nn_ltF, nn_leT, nn_leF, nn_eqT, nn_eqF, nn_eqM, nn_Meq, nn_ltM, nn_Mlt, nn_leM, nn_Mle, z_ix_nn, z_inb_nn, F_at_nn, F_put_nn, Nat.zero_add, Nat.add_zero, z_P_some, z_R_some, z_P_bd]
          exact Or.inr ⟨a, b, hab, hb, r1, rfl, hn2⟩
      · simp (disch := omega) only [F_X0_firstFit_L12, ↓reduceIte, ↓z_letE, ↓z_bdE, nn_l2, nn_add, nn_mul, nn_sub, nn_addM, nn_div, nn_rem, nn_min, nn_max, nn_abs, nn_ltT, nn_ltF, nn_leT, nn_leF, nn_eqT, nn_eqF, nn_eqM, nn_Meq, nn_ltM, nn_Mlt, nn_leM, nn_Mle, z_ix_nn, z_inb_nn, F_at_nn, F_put_nn, Nat.zero_add, Nat.add_zero, z_P_some, z_R_some, z_P_bd]
        exact ih (k - 1) _ (by omega) ⟨a + 1, by omega, rfl, fun x y hxy hy h => by
          by_cases hxa : x = a
          · subst hxa
            exact hn2 x y hxy hy (Or.inr ⟨rfl, by omega⟩)
          · exact hn x y hxy hy (Or.inl (by omega))⟩
    · have hap : a = pe := by omega
      subst hap
      simp (disch := omega) only [F_X0_firstFit_L2, ↓reduceIte, ↓z_letE, ↓z_bdE, nn_l2, nn_add, nn_mul, nn_sub, nn_addM, nn_div, nn_rem, nn_min, nn_max, nn_abs, nn_ltT, nn_ltF, nn_leT, nn_leF, nn_eqT, nn_eqF, nn_eqM, nn_Meq, nn_ltM, nn_Mlt, nn_leM, nn_Mle, z_ix_nn, z_inb_nn, F_at_nn, F_put_nn, Nat.zero_add, Nat.add_zero, z_P_some, z_R_some, z_P_bd]
      exact Or.inl ⟨rfl, hn⟩
  have h2 : z_P (z_loop (fun kc11 s => F_X11_fits_L33 N (nn 1) G2 kc11 s.1 s.2.1 s.2.2) N (nn 0, -nn 1, nn 0)) (fun c => c.2 = G2 ∧ FP (fun a b => F_X11_mayBeTheirs (nn a) (nn b) G2 = some (nn 1)) pe c.1) := by
    refine z_P_loop (fun k s => ∃ a r, a + k = pe ∧ r ≤ 8 * a ∧ s.1 = nn r ∧ s.2.2 = nn a ∧ ((s.2.1 = -nn 1 ∧ FPn (fun a b => F_X11_mayBeTheirs (nn a) (nn b) G2 = some (nn 1)) pe a 0) ∨ ∃ x y, x < y ∧ y < pe ∧ F_X11_mayBeTheirs (nn x) (nn y) G2 = some (nn 1) ∧ s.2.1 = nn (10 * x + y) ∧ FPn (fun a b => F_X11_mayBeTheirs (nn a) (nn b) G2 = some (nn 1)) pe x y)) ?_ pe N _ (by omega) ⟨0, 0, by omega, by omega, rfl, rfl, Or.inl ⟨rfl, fun a b _ _ h => by omega⟩⟩
    rintro k ⟨w1, w2, w3⟩ kc ⟨a, r, hk, hr, rfl, rfl, hc⟩ ih
    dsimp only at hc ⊢
    by_cases ha : a < pe
    · simp (disch := omega) only [F_X11_fits_L33, q20, ↓reduceIte, ↓z_letE, ↓z_bdE, nn_l2, nn_add, nn_mul, nn_sub, nn_addM, nn_div, nn_rem, nn_min, nn_max, nn_abs, nn_ltT, nn_ltF, nn_leT, nn_leF, nn_eqT, nn_eqF, nn_eqM, nn_Meq, nn_ltM, nn_Mlt, nn_leM, nn_Mle, z_ix_nn, z_inb_nn, F_at_nn, F_put_nn, Nat.zero_add, Nat.add_zero, z_P_some, z_R_some, z_P_bd]
      refine z_P_loop (fun j s => ∃ b r, b + j = pe ∧ a < b ∧ r ≤ 8 * a + b ∧ s.1 = nn r ∧ s.2.2 = nn b ∧ ((s.2.1 = -nn 1 ∧ FPn (fun a b => F_X11_mayBeTheirs (nn a) (nn b) G2 = some (nn 1)) pe a b) ∨ ∃ x y, x < y ∧ y < pe ∧ F_X11_mayBeTheirs (nn x) (nn y) G2 = some (nn 1) ∧ s.2.1 = nn (10 * x + y) ∧ FPn (fun a b => F_X11_mayBeTheirs (nn a) (nn b) G2 = some (nn 1)) pe x y)) ?_ (pe - (a + 1)) N _ (by omega) ⟨a + 1, r, by omega, by omega, by omega, rfl, rfl, by
        rcases hc with ⟨h, hn⟩ | h
        · exact Or.inl ⟨h, fun x y hxy hy h => by
            rcases h with h | ⟨rfl, h⟩
            · exact hn x y hxy hy (Or.inl h)
            · omega⟩
        · exact Or.inr h⟩
      rintro j ⟨w1, w2, w3⟩ kd ⟨b, r, hj, hab, hr, rfl, rfl, hc⟩ ih2
      dsimp only at hc ⊢
      by_cases hb : b < pe
      · obtain ⟨z, r1, r2, r3⟩ := hm a b ha hb
        rcases r3 with rfl | rfl
        · simp (disch := omega) only [F_X11_fits_L48, q20, r1, ↓reduceIte, ↓z_letE, ↓z_bdE, nn_l2, nn_add, nn_mul, nn_sub, nn_addM, nn_div, nn_rem, nn_min, nn_max, nn_abs, nn_ltT, nn_ltF, nn_leT, nn_leF, nn_eqT, nn_eqF, nn_eqM, nn_Meq, nn_ltM, nn_Mlt, nn_leM, nn_Mle, z_ix_nn, z_inb_nn, F_at_nn, F_put_nn, Nat.zero_add, Nat.add_zero, z_P_some, z_R_some, z_P_bd]
          refine ih2 (j - 1) _ (by omega) ⟨b + 1, r, by omega, by omega, by omega, rfl, rfl, ?_⟩
          rcases hc with ⟨h, hn⟩ | h
          · refine Or.inl ⟨h, fun x y hxy hy h => ?_⟩
            by_cases hxy2 : x = a ∧ y = b
            · obtain ⟨rfl, rfl⟩ := hxy2
              intro q
              rw [r1] at q
              exact absurd (nn_inj (by omega) (by omega) (Option.some.inj q)) (by omega)
            · exact hn x y hxy hy (by omega)
          · exact Or.inr h
        · rcases hc with ⟨rfl, hn⟩ | ⟨x, y, hxy, hy, hq, rfl, hn⟩
          · simp (disch := omega) only [F_X11_fits_L48, q20, r1, ↓reduceIte, ↓z_letE, ↓z_bdE, nn_l2, nn_add, nn_mul, nn_sub, nn_addM, nn_div, nn_rem, nn_min, nn_max, nn_abs, nn_ltT, nn_ltF, nn_leT, nn_leF, nn_eqT, nn_eqF, nn_eqM, nn_Meq, nn_ltM, nn_Mlt, nn_leM, nn_Mle, z_ix_nn, z_inb_nn, F_at_nn, F_put_nn, Nat.zero_add, Nat.add_zero, z_P_some, z_R_some, z_P_bd]
            exact ih2 (j - 1) _ (by omega) ⟨b + 1, r + 1, by omega, by omega, by omega, rfl, rfl, Or.inr ⟨a, b, hab, hb, r1, rfl, hn⟩⟩
          · simp (disch := omega) only [F_X11_fits_L48, q20, r1, ↓reduceIte, ↓z_letE, ↓z_bdE, nn_l2, nn_add, nn_mul, nn_sub, nn_addM, nn_div, nn_rem, nn_min, nn_max, nn_abs, nn_ltT, nn_ltF, nn_leT, nn_leF, nn_eqT, nn_eqF, nn_eqM, nn_Meq, nn_ltM, nn_Mlt, nn_leM, nn_Mle, z_ix_nn, z_inb_nn, F_at_nn, F_put_nn, Nat.zero_add, Nat.add_zero, z_P_some, z_R_some, z_P_bd]
            exact ih2 (j - 1) _ (by omega) ⟨b + 1, r + 1, by omega, by omega, by omega, rfl, rfl, Or.inr ⟨x, y, hxy, hy, hq, rfl, hn⟩⟩
      · simp (disch := omega) only [F_X11_fits_L48, q20, ↓reduceIte, ↓z_letE, ↓z_bdE, nn_l2, nn_add, nn_mul, nn_sub, nn_addM, nn_div, nn_rem, nn_min, nn_max, nn_abs, nn_ltT, nn_ltF, nn_leT, nn_leF, nn_eqT, nn_eqF, nn_eqM, nn_Meq, nn_ltM, nn_Mlt, nn_leM, nn_Mle, z_ix_nn, z_inb_nn, F_at_nn, F_put_nn, Nat.zero_add, Nat.add_zero, z_P_some, z_R_some, z_P_bd]
        refine ih (k - 1) _ (by omega) ⟨a + 1, r, by omega, by omega, rfl, rfl, ?_⟩
        rcases hc with ⟨h, hn⟩ | h
        · refine Or.inl ⟨h, fun x y hxy hy h => ?_⟩
          by_cases hxa : x = a
          · subst hxa
            exact hn x y hxy hy (Or.inr ⟨rfl, by omega⟩)
          · exact hn x y hxy hy (Or.inl (by omega))
        · exact Or.inr h
    · have hap : a = pe := by omega
      subst hap
      simp (disch := omega) only [F_X11_fits_L33, q20, ↓reduceIte, ↓z_letE, ↓z_bdE, nn_l2, nn_add, nn_mul, nn_sub, nn_addM, nn_div, nn_rem, nn_min, nn_max, nn_abs, nn_ltT, nn_ltF, nn_leT, nn_leF, nn_eqT, nn_eqF, nn_eqM, nn_Meq, nn_ltM, nn_Mlt, nn_leM, nn_Mle, z_ix_nn, z_inb_nn, F_at_nn, F_put_nn, Nat.zero_add, Nat.add_zero, z_P_some, z_R_some, z_P_bd]
      refine ⟨trivial, ?_⟩
      rcases hc with ⟨h, hn⟩ | ⟨x, y, hxy, hy, hq, h, hn⟩
      · exact Or.inl ⟨h, hn⟩
      · exact Or.inr ⟨x, y, hxy, hy, hq, h, hn⟩
  obtain ⟨x, x1, x2⟩ := h1
  obtain ⟨⟨c, E⟩, y1, y2, y3⟩ := h2
  have y2 : E = G2 := y2
  subst y2
  have hcx : c = x := FP_u y3 x2
  exact ⟨x, _, x1, y1, by rw [hcx]⟩
set_option maxHeartbeats 4000000 in
theorem T_fits {N o n : Nat} {a1 : Int32} {D : z_Dat} (hN : 200 < N) (hJ : J o n D) : TOP (F_L_fits N o a1 D) (F_X11_fits N a1) (J o n) := by
  obtain ⟨ho, ns, pe, rv, hB⟩ := id hJ
  obtain ⟨⟨hns, hpe, hrv⟩, ⟨c5, c6, c7⟩, ⟨k19, k20, k21⟩, hV, hH⟩ := id hB.1
  rcases wi_or (m := 1) (by decide) a1 with ⟨w, hw, rfl, ew⟩ | ⟨h, ew⟩
  · refine TOP_r hJ rfl (fun G hK => ?_)
    have h2 : w = 0 ∨ w = 1 := by omega
    rcases h2 with rfl | rfl
    · simp (disch := omega) only [F_X10_fits, F_X10_fits_J15x, F_X11_fits, ew, c6, dem_ok, dem_no, demT_ok, demT_no, z_bt_l, z_bt_r, z_try_l, z_try_r, nl_I, nl_N, nl_IN, nl_NI, may_okU, may_noU, z_up_at, z_up_i, z_up_r, ↓reduceIte, ↓z_letE, ↓z_bdE, nn_l2, nn_add, nn_mul, nn_sub, nn_addM, nn_div, nn_rem, nn_min, nn_max, nn_abs, nn_ltT, nn_ltF, nn_leT, nn_leF, nn_eqT, nn_eqF, nn_eqM, nn_Meq, nn_ltM, nn_Mlt, nn_leM, nn_Mle, z_ix_nn, z_inb_nn, F_at_nn, F_put_nn, Nat.zero_add, Nat.add_zero, z_P_some, z_R_some, z_P_bd]
      refine z_R_take hN hB hK (fun G2 hA => ?_)
      have q20 := hA.1.2.2.1.2.1
      have key : z_R (F_X0_allFits N 3 (nn pe) D) (z_loop (fun kc11 s => F_X11_fits_L33 N (nn 0) G2 kc11 s.1 s.2.1 s.2.2) N (nn 0, -nn 1, nn 0)) (fun a c => c = (a, G2)) := by
        unfold F_X0_allFits
        refine z_R_loop (fun k s s' => ∃ a r, a + k = pe ∧ r ≤ 8 * a ∧ s.1 = nn r ∧ s'.1 = nn r ∧ s.2 = nn a ∧ s'.2.2 = nn a ∧ (s'.2.1 = -nn 1 ∨ ∃ f, f < 100 ∧ s'.2.1 = nn f)) ?_ pe N N _ _ (by omega) (by omega) ⟨0, 0, by omega, by omega, rfl, rfl, rfl, rfl, Or.inl rfl⟩
        rintro k ⟨v1, v2⟩ ⟨w1, w2, w3⟩ kc kc' ⟨a, r, hk, hr, rfl, rfl, rfl, rfl, hf⟩ ih
        dsimp only at hf ⊢
        by_cases ha : a < pe
        · simp (disch := omega) only [F_X0_allFits_L5, F_X11_fits_L33, q20, ↓reduceIte, ↓z_letE, ↓z_bdE, nn_l2, nn_add, nn_mul, nn_sub, nn_addM, nn_div, nn_rem, nn_min, nn_max, nn_abs, nn_ltT, nn_ltF, nn_leT, nn_leF, nn_eqT, nn_eqF, nn_eqM, nn_Meq, nn_ltM, nn_Mlt, nn_leM, nn_Mle, z_ix_nn, z_inb_nn, F_at_nn, F_put_nn, Nat.zero_add, Nat.add_zero, z_P_some, z_R_some, z_P_bd]
          refine z_R_loop (fun j s s' => ∃ b r, b + j = pe ∧ a < b ∧ r ≤ 8 * a + b ∧ s.1 = nn r ∧ s'.1 = nn r ∧ s.2 = nn b ∧ s'.2.2 = nn b ∧ (s'.2.1 = -nn 1 ∨ ∃ f, f < 100 ∧ s'.2.1 = nn f)) ?_ (pe - (a + 1)) N N _ _ (by omega) (by omega) ⟨a + 1, r, by omega, by omega, by omega, rfl, rfl, rfl, rfl, hf⟩
          rintro j ⟨v1, v2⟩ ⟨w1, w2, w3⟩ kd kd' ⟨b, r, hj, hab, hr, rfl, rfl, rfl, rfl, hf⟩ ih2
          dsimp only at hf ⊢
          by_cases hb : b < pe
          · obtain ⟨x, x1, x2, x3⟩ := AT_may hB hK hA ha hb
            rcases x3 with rfl | rfl
            · simp (disch := omega) only [F_X0_allFits_L17, F_X11_fits_L48, q20, x1, x2, ↓reduceIte, ↓z_letE, ↓z_bdE, nn_l2, nn_add, nn_mul, nn_sub, nn_addM, nn_div, nn_rem, nn_min, nn_max, nn_abs, nn_ltT, nn_ltF, nn_leT, nn_leF, nn_eqT, nn_eqF, nn_eqM, nn_Meq, nn_ltM, nn_Mlt, nn_leM, nn_Mle, z_ix_nn, z_inb_nn, F_at_nn, F_put_nn, Nat.zero_add, Nat.add_zero, z_P_some, z_R_some, z_P_bd]
              exact ih2 (j - 1) _ _ (by omega) ⟨b + 1, r, by omega, by omega, by omega, rfl, rfl, rfl, rfl, hf⟩
            · rcases hf with rfl | ⟨f, hf, rfl⟩
              · simp (disch := omega) only [F_X0_allFits_L17, F_X11_fits_L48, q20, x1, x2, ↓reduceIte, ↓z_letE, ↓z_bdE, nn_l2, nn_add, nn_mul, nn_sub, nn_addM, nn_div, nn_rem, nn_min, nn_max, nn_abs, nn_ltT, nn_ltF, nn_leT, nn_leF, nn_eqT, nn_eqF, nn_eqM, nn_Meq, nn_ltM, nn_Mlt, nn_leM, nn_Mle, z_ix_nn, z_inb_nn, F_at_nn, F_put_nn, Nat.zero_add, Nat.add_zero, z_P_some, z_R_some, z_P_bd]
                exact ih2 (j - 1) _ _ (by omega) ⟨b + 1, r + 1, by omega, by omega, by omega, rfl, rfl, rfl, rfl, Or.inr ⟨10 * a + b, by omega, rfl⟩⟩
              · simp (disch := omega) only [F_X0_allFits_L17, F_X11_fits_L48, q20, x1, x2, ↓reduceIte, ↓z_letE, ↓z_bdE, nn_l2, nn_add, nn_mul, nn_sub, nn_addM, nn_div, nn_rem, nn_min, nn_max, nn_abs, nn_ltT, nn_ltF, nn_leT, nn_leF, nn_eqT, nn_eqF, nn_eqM, nn_Meq, nn_ltM, nn_Mlt, nn_leM, nn_Mle, z_ix_nn, z_inb_nn, F_at_nn, F_put_nn, Nat.zero_add, Nat.add_zero, z_P_some, z_R_some, z_P_bd]
                exact ih2 (j - 1) _ _ (by omega) ⟨b + 1, r + 1, by omega, by omega, by omega, rfl, rfl, rfl, rfl, Or.inr ⟨f, hf, rfl⟩⟩
          · simp (disch := omega) only [F_X0_allFits_L17, F_X11_fits_L48, q20, ↓reduceIte, ↓z_letE, ↓z_bdE, nn_l2, nn_add, nn_mul, nn_sub, nn_addM, nn_div, nn_rem, nn_min, nn_max, nn_abs, nn_ltT, nn_ltF, nn_leT, nn_leF, nn_eqT, nn_eqF, nn_eqM, nn_Meq, nn_ltM, nn_Mlt, nn_leM, nn_Mle, z_ix_nn, z_inb_nn, F_at_nn, F_put_nn, Nat.zero_add, Nat.add_zero, z_P_some, z_R_some, z_P_bd]
            exact ih (k - 1) _ _ (by omega) ⟨a + 1, r, by omega, by omega, rfl, rfl, rfl, rfl, hf⟩
        · simp (disch := omega) only [F_X0_allFits_L5, F_X11_fits_L33, q20, ↓reduceIte, ↓z_letE, ↓z_bdE, nn_l2, nn_add, nn_mul, nn_sub, nn_addM, nn_div, nn_rem, nn_min, nn_max, nn_abs, nn_ltT, nn_ltF, nn_leT, nn_leF, nn_eqT, nn_eqF, nn_eqM, nn_Meq, nn_ltM, nn_Mlt, nn_leM, nn_Mle, z_ix_nn, z_inb_nn, F_at_nn, F_put_nn, Nat.zero_add, Nat.add_zero, z_P_some, z_R_some, z_P_bd]
      obtain ⟨A1, A2, A3, A4, A5, A6⟩ := hA
      obtain ⟨x, c, m1, m2, rfl⟩ := key
      rw [m1, z_bdE, m2, z_R_some]
      exact ⟨_, _, rfl, KA.rf, rfl, A4, A5, A6⟩
    · simp (disch := omega) only [F_X10_fits, F_X10_fits_J15x, F_X11_fits, ew, c6, dem_ok, dem_no, demT_ok, demT_no, z_bt_l, z_bt_r, z_try_l, z_try_r, nl_I, nl_N, nl_IN, nl_NI, may_okU, may_noU, z_up_at, z_up_i, z_up_r, ↓reduceIte, ↓z_letE, ↓z_bdE, nn_l2, nn_add, nn_mul, nn_sub, nn_addM, nn_div, nn_rem, nn_min, nn_max, nn_abs, nn_ltT, nn_ltF, nn_leT, nn_leF, nn_eqT, nn_eqF, nn_eqM, nn_Meq, nn_ltM, nn_Mlt, nn_leM, nn_Mle, z_ix_nn, z_inb_nn, F_at_nn, F_put_nn, Nat.zero_add, Nat.add_zero, z_P_some, z_R_some, z_P_bd]
      refine z_R_take hN hB hK (fun G2 hA => ?_)
      have q20 := hA.1.2.2.1.2.1
      have hmm : ∀ a b, a < pe → b < pe → ∃ r, F_X11_mayBeTheirs (nn a) (nn b) G2 = some r ∧ F_X0_mayBear (F_X9_has 3 (nn a) (nn 0) D) (F_X9_has 3 (nn b) (nn 0) D) D = r ∧ (r = nn 0 ∨ r = nn 1) := fun a b ha hb => AT_may hB hK hA ha hb
      have key : z_R (F_X0_firstFit N 3 (nn pe) D) (z_loop (fun kc11 s => F_X11_fits_L33 N (nn 1) G2 kc11 s.1 s.2.1 s.2.2) N (nn 0, -nn 1, nn 0)) (fun a c => c = (a, G2)) := by
        exact fits_key hN hpe q20 hmm
      obtain ⟨A1, A2, A3, A4, A5, A6⟩ := hA
      obtain ⟨x, c, m1, m2, rfl⟩ := key
      rw [m1, z_bdE, m2, z_R_some]
      exact ⟨_, _, rfl, KA.rf, rfl, A4, A5, A6⟩
  · refine TOP_t (c := 1) (k := 1) hJ (by decide) (by decide) (by decide) ?_ (fun G hG => ?_)
    · rcases h with h | h
      · simp (disch := omega) only [F_L_fits, F_X10_fits, F_X10_fits_J14, F_X10_fits_J15, h, dem_ok, dem_no, demT_ok, demT_no, z_bt_l, z_bt_r, z_try_l, z_try_r, nl_I, nl_N, nl_IN, nl_NI, may_okU, may_noU, z_up_at, z_up_i, z_up_r, ↓reduceIte, ↓z_letE, ↓z_bdE, nn_l2, nn_add, nn_mul, nn_sub, nn_addM, nn_div, nn_rem, nn_min, nn_max, nn_abs, nn_ltT, nn_ltF, nn_leT, nn_leF, nn_eqT, nn_eqF, nn_eqM, nn_Meq, nn_ltM, nn_Mlt, nn_leM, nn_Mle, z_ix_nn, z_inb_nn, F_at_nn, F_put_nn, Nat.zero_add, Nat.add_zero, z_P_some, z_R_some, z_P_bd]
      · simp (disch := omega) only [F_L_fits, F_X10_fits, F_X10_fits_J14, F_X10_fits_J15, h.1, h.2, dem_ok, dem_no, demT_ok, demT_no, z_bt_l, z_bt_r, z_try_l, z_try_r, nl_I, nl_N, nl_IN, nl_NI, may_okU, may_noU, z_up_at, z_up_i, z_up_r, ↓reduceIte, ↓z_letE, ↓z_bdE, nn_l2, nn_add, nn_mul, nn_sub, nn_addM, nn_div, nn_rem, nn_min, nn_max, nn_abs, nn_ltT, nn_ltF, nn_leT, nn_leF, nn_eqT, nn_eqF, nn_eqM, nn_Meq, nn_ltM, nn_Mlt, nn_leM, nn_Mle, z_ix_nn, z_inb_nn, F_at_nn, F_put_nn, Nat.zero_add, Nat.add_zero, z_P_some, z_R_some, z_P_bd]
    · simp (disch := omega) only [F_X11_fits, ew, dem_ok, dem_no, demT_ok, demT_no, z_bt_l, z_bt_r, z_try_l, z_try_r, nl_I, nl_N, nl_IN, nl_NI, may_okU, may_noU, z_up_at, z_up_i, z_up_r, ↓reduceIte, ↓z_letE, ↓z_bdE, nn_l2, nn_add, nn_mul, nn_sub, nn_addM, nn_div, nn_rem, nn_min, nn_max, nn_abs, nn_ltT, nn_ltF, nn_leT, nn_leF, nn_eqT, nn_eqF, nn_eqM, nn_Meq, nn_ltM, nn_Mlt, nn_leM, nn_Mle, z_ix_nn, z_inb_nn, F_at_nn, F_put_nn, Nat.zero_add, Nat.add_zero, z_P_some, z_R_some, z_P_bd]
