/-! ===== who is to marry whom: arranged on both sides ===== -/
set_option maxHeartbeats 4000000 in
theorem arrange_R {N o pe : Nat} {D F0 : z_Dat} {sh : Nat → Nat} {ok : Nat → Nat → Bool} {K X : Nat → Nat} (hN : 2000 < N) (ho : o = 34 ∨ 68 ≤ o) (hpe : pe ≤ 8) (c6 : D o 6 = nn pe) (h29 : D 29 0 = nn 0) (hsh : ∀ q, q < pe → sh q < 1000 ∧ D 4 (q * 5) = nn (sh q)) (hw : ∀ a b, ok a b = true → a < 8 → b < 8 → ap (sh a) (sh b) ≤ 6) (hM : MW pe ok (fun a b => ap (sh a) (sh b)) K X) (k20 : F0 40 20 = nn pe)
    (hg : ∀ E : z_Dat, E 4 = D 4 → E (o + 3) = D (o + 3) → ∀ a b, a < pe → b < pe → F_X2_gainOf o 3 (nn a) (nn b) E = nn (gn ok (fun a b => ap (sh a) (sh b)) a b)) (hL2 : ∀ t, t < 2 ^ pe → F0 64 (2 ^ pe - 1 - t) = nn (1000 * K t - X t)) (h65 : ∀ c, c < pe → F0 65 c = -nn 1)
    (hG2 : ∀ F : z_Dat, Fr 65 F0 F → ∀ a b, a < pe → b < pe → F_X11_mayMatch (nn a) (nn b) F = some (nn (if ok a b then 1 else 0)) ∧ F_X11_worthOf (nn a) (nn b) F = some (nn (1000 - ap (sh a) (sh b)))) :
    z_P (F_X2_arrange N o 3 D) (fun E => ∃ F, z_loop (fun kc16 s => F_X11_findMatch_L168 N (nn (2 ^ pe - 1)) kc16 s.1 s.2) N (nn 0, F0) = some F ∧ Fr 65 F0 F ∧ (∀ r, r ≠ 28 → r ≠ 29 → r ≠ 30 → r ≠ 31 → E r = D r) ∧ E 29 0 = nn 0 ∧ E 28 3 = nn (K (2 ^ pe - 1)) ∧ E 28 4 = nn (X (2 ^ pe - 1)) ∧ ∀ c, c < pe → E 31 c = F 65 c) := by
  have hp := pow_8 hpe
  have hp0 : 0 < 2 ^ pe := Nat.pow_pos (by decide)
  unfold F_X2_arrange
  rw [z_P_bd]
  refine z_P_mono (weigh_P (by omega) ho hpe c6 hg) (fun E1 h1 => ?_)
  obtain ⟨g1, g2⟩ := h1
  have e6 : E1 o 6 = nn pe := by rw [g1 o (by omega)]; exact c6
  have es := shl_full pe (by omega)
  simp (disch := omega) only [e6, es, ↓reduceIte, ↓z_letE, ↓z_bdE, nn_l2, nn_add, nn_mul, nn_sub, nn_addM, nn_div, nn_rem, nn_min, nn_max, nn_abs, nn_ltT, nn_ltF, nn_leT, nn_leF, nn_eqT, nn_eqF, nn_eqM, nn_Meq, nn_ltM, nn_Mlt, nn_leM, nn_Mle, z_ix_nn, z_inb_nn, F_at_nn, F_put_nn, Nat.zero_add, Nat.add_zero, z_P_some, z_R_some, z_P_bd]
  refine table_P hN ho hpe e6 hw hM (by rw [g1 29 (by decide)]; exact h29) g2 (fun E2 g3 g4 g5 => ?_)
  obtain ⟨E3, q1, q2, q3⟩ := fill_P (N := N) (r := 31) (n := 8) (v := -nn 1) (D := E2) (by omega) (by decide)
  have rr := choose_R (E0 := E3) (F0 := F0) hN hpe hw hM k20 (fun t ht => by rw [q2 29 (by decide)]; exact g5 t ht) (fun a b ha hb => by rw [q2 30 (by decide), g3 30 (by decide)]; exact g2 a b ha hb) hL2 hG2 pe 0 (2 ^ pe - 1) (fun _ => 0) E3 F0 N N (by omega) (by omega) (by omega) (by omega) CH_0 Fr.rf Fr.rf (fun c hc => q3 c (by omega)) h65
  rw [Nat.sub_self] at rr
  obtain ⟨E4, F, r1, r2, r3, r4, p, r5, r6, r7⟩ := rr
  have fr : ∀ r, r ≠ 29 → r ≠ 30 → r ≠ 31 → E4 r = D r := fun r a b c => by rw [r3 r c, q2 r c, g3 r a, g1 r b]
  have e46 : E4 o 6 = nn pe := by rw [fr o (by omega) (by omega) (by omega)]; exact c6
  obtain ⟨E5, s1, s2, s3, s4⟩ := sumUp_P (N := N) (pe := pe) (D := E4) (sh := sh) (p := p) (by omega) hpe (fun q hq => ⟨(hsh q hq).1, by rw [fr 4 (by decide) (by decide) (by decide)]; exact (hsh q hq).2⟩) r5 r7.2.2.2.1
  have k1 := r7.1
  have k2 := r7.2.1
  rw [hM.1, Nat.add_zero] at k1
  rw [hM.2.1, Nat.add_zero] at k2
  refine ⟨E4, ?_, E5, by rw [e46]; exact s1, F, r2, r4, fun r a b c d => by rw [s2 r a, fr r b c d], ?_, by rw [s3, k1], by rw [s4, k2], fun c hc => ?_⟩
  · unfold F_X2_choose
    simp (disch := omega) only [q1, ↓reduceIte, ↓z_letE, ↓z_bdE, nn_l2, nn_add, nn_mul, nn_sub, nn_addM, nn_div, nn_rem, nn_min, nn_max, nn_abs, nn_ltT, nn_ltF, nn_leT, nn_leF, nn_eqT, nn_eqF, nn_eqM, nn_Meq, nn_ltM, nn_Mlt, nn_leM, nn_Mle, z_ix_nn, z_inb_nn, F_at_nn, F_put_nn, Nat.zero_add, Nat.add_zero, z_P_some, z_R_some, z_P_bd]
    exact r1
  · rw [s2 29 (by decide), r3 29 (by decide), q2 29 (by decide)]
    exact g4
  · rw [s2 31 (by decide), r5 c hc, r6 c hc]
