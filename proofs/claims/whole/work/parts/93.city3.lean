/-! ===== a new city: the whole call ===== -/
def KX (n : Nat) (D G : z_Dat) : Prop := (∀ r, r < n → ¬ SC r → r ≠ 1 → r ≠ 40 ∧ r ≠ 29 → G r = D r) ∧ (∀ j, KK j → j ≠ 2 → j ≠ 8 → G 40 j = D 40 j) ∧ G 29 0 = D 29 0
theorem JB.keepX {o n ns pe rv : Nat} {D G : z_Dat} (ho : o = 34 ∧ 68 ≤ n ∨ 68 ≤ o ∧ o + 6 ≤ n) (hJ : JB o ns pe rv D) (h : KX n D G) (hX : TX G) : JB o ns pe rv G := by
  obtain ⟨hC, hT, hL, hB, hP, hI, -, hM⟩ := hJ
  have hn : 68 ≤ n := by omega
  have rr : ∀ r, r < 68 → ¬ SC r → r ≠ 1 → r ≠ 40 ∧ r ≠ 29 → G r = D r := fun r h1 => h.1 r (by omega)
  have r2 := rr 2 (by decide) (by unfold SC; omega) (by decide) (by decide)
  have r4 := rr 4 (by decide) (by unfold SC; omega) (by decide) (by decide)
  have r12 := rr 12 (by decide) (by unfold SC; omega) (by decide) (by decide)
  have r13 := rr 13 (by decide) (by unfold SC; omega) (by decide) (by decide)
  have r21 := rr 21 (by decide) (by unfold SC; omega) (by decide) (by decide)
  have r22 := rr 22 (by decide) (by unfold SC; omega) (by decide) (by decide)
  have r23 := rr 23 (by decide) (by unfold SC; omega) (by decide) (by decide)
  have r24 := rr 24 (by decide) (by unfold SC; omega) (by decide) (by decide)
  have r57 := rr 57 (by decide) (by unfold SC; omega) (by decide) (by decide)
  have r59 := rr 59 (by decide) (by unfold SC; omega) (by decide) (by decide)
  have r61 := rr 61 (by decide) (by unfold SC; omega) (by decide) (by decide)
  have r66 := rr 66 (by decide) (by unfold SC; omega) (by decide) (by decide)
  have r0 := rr 0 (by decide) (by unfold SC; omega) (by decide) (by decide)
  have r41 := rr 41 (by decide) (by unfold SC; omega) (by decide) (by decide)
  have r7 := rr 7 (by decide) (by unfold SC; omega) (by decide) (by decide)
  have r8 := rr 8 (by decide) (by unfold SC; omega) (by decide) (by decide)
  have r47 := rr 47 (by decide) (by unfold SC; omega) (by decide) (by decide)
  have r48 := rr 48 (by decide) (by unfold SC; omega) (by decide) (by decide)
  have r51 := rr 51 (by decide) (by unfold SC; omega) (by decide) (by decide)
  have r52 := rr 52 (by decide) (by unfold SC; omega) (by decide) (by decide)
  have k33 := h.2.1 33 (by unfold KK; omega) (by decide) (by decide)
  have k34 := h.2.1 34 (by unfold KK; omega) (by decide) (by decide)
  have k43 := h.2.1 43 (by unfold KK; omega) (by decide) (by decide)
  have k54 := h.2.1 54 (by unfold KK; omega) (by decide) (by decide)
  have ro : ∀ i, i < 4 → G (o + i) = D (o + i) := fun i hi => h.1 (o + i) (by omega) (by unfold SC; omega) (by omega) (by omega)
  refine ⟨hC.keep (ro 0 (by decide)) (ro 1 (by decide)) (ro 2 (by decide)) (ro 3 (by decide)) (h.2.1 19 (by unfold KK; omega) (by decide) (by decide)) (h.2.1 20 (by unfold KK; omega) (by decide) (by decide)) (h.2.1 21 (by unfold KK; omega) (by decide) (by decide)) r47 r48, by rw [r4, r57]; exact hT, hL.keep r7 r8 (h.2.1 28 (by unfold KK; omega) (by decide) (by decide)) r51 r52, ?_, ?_, ?_, hX, ?_⟩
  · unfold BR; rw [r13, r61, r12, k43, h.2.2]; exact hB
  · unfold PA; rw [r21, r22, r59, k33]; exact hP
  · unfold IM; rw [r21, r23, r24, r66, k54]; exact hI
  · unfold MI; rw [r0, r41, k34]; exact hM
def city0 (n : Nat) (E : z_Dat) : z_Dat := F_X1_init n (z_new E n)
theorem city0_r {n : Nat} {E : z_Dat} : ∀ r, (r < n ∨ n + 5 < r) → city0 n E r = E r := by
  intro r hr
  unfold city0 F_X1_init
  simp (disch := omega) only [z_letE, z_up_ne, z_new_ne, ne_eq, not_false_eq_true]
theorem z_new_r {D : z_Dat} {n r j : Nat} (h : r ≠ n) : z_new D n r j = D r j := if_neg h
theorem z_new_z {D : z_Dat} {n r j : Nat} (h : r = n) : z_new D n r j = nn 0 := if_pos h
theorem city0_c {n : Nat} {E : z_Dat} (hn : 68 ≤ n) : (city0 n E n 5 = nn 0 ∧ city0 n E n 6 = nn 0 ∧ city0 n E n 7 = nn 5) ∧ ∀ d, d < 3 → city0 n E (n + 5) d = nn 50 := by
  unfold city0 F_X1_init
  have e0 : z_ix 0 = 0 := rfl
  have e1 : z_ix 1 = 1 := rfl
  have e2 : z_ix 2 = 2 := rfl
  simp only [z_letE, e0, e1, e2]
  refine ⟨⟨?_, ?_, ?_⟩, fun d hd => ?_⟩
  · simp (disch := omega) only [z_up_i, z_up_r, z_new_r, z_new_z]
  · simp (disch := omega) only [z_up_i, z_up_r, z_new_r, z_new_z]
  · simp (disch := omega) only [z_up_at]
    rfl
  · rcases (show d = 0 ∨ d = 1 ∨ d = 2 by omega) with rfl | rfl | rfl
    · simp (disch := omega) only [z_up_i, z_up_r, z_up_at]
      rfl
    · simp (disch := omega) only [z_up_i, z_up_r, z_up_at]
      rfl
    · simp (disch := omega) only [z_up_r, z_up_at]
      rfl
/-- what the reference's call changes -/
def YM (G F : z_Dat) : Prop := (∀ r, r ≠ 40 → (r < 43 ∨ 46 < r) → F r = G r) ∧ (∀ j, 18 < j → F 40 j = G 40 j) ∧ F 40 0 = nn 0 ∧ F 40 2 = nn 0
set_option maxHeartbeats 2000000 in
theorem city_G {N n L fd : Nat} {D : z_Dat} (hN : 2000 < N) (hn : 68 ≤ n) (hX : TX D) (hL : L ≤ fd) (hfd : fd ≤ 600) : ∃ t E E4, (∀ j, j < 600 → t j < 256 ∧ D 2 j = nn (t j) ∧ D 42 j = nn (t j)) ∧ F_X8_open N (nn L) D = some E ∧ F_X1_read N n (city0 n E) = some E4 ∧ (∀ r, r ≠ 1 → (r < n ∨ n + 5 < r) → E4 r = D r) ∧ E4 1 1 = nn 0 ∧ ∀ G, G 42 = D 42 → G 40 2 = nn fd → ∃ F, YM G F ∧ CQ t L 0 n E4 F ∧ F_X11_city N (nn L) G = F_X11_city_J164 N F := by
  obtain ⟨t, E, ht, m1, m2, m3, m4, m5⟩ := begin_C (L := L) hN hX (by omega)
  obtain ⟨c1, c2⟩ := city0_c (E := E) hn
  have key : ∀ G, G 42 = D 42 → G 40 2 = nn fd → ∃ E4 F, F_X1_read N n (city0 n E) = some E4 ∧ XP n (city0 n E) E4 ∧ YM G F ∧ CQ t L 0 n E4 F ∧ F_X11_city N (nn L) G = F_X11_city_J164 N F := fun G g42 g2 => by
    have hR0 := m5 (z_up G 40 0 (nn 0)) (by rw [z_up_ne (by decide)]; exact g42)
    have hb : F_X11_begins (nn L) (z_up G 40 0 (nn 0)) = z_up (z_up (z_up (z_up (z_up (z_up (z_up G 40 0 (nn 0)) 40 2 (nn 0)) 40 8 (-nn 1)) 40 3 (nn L)) 40 4 (nn 0)) 40 5 (-nn 1)) 40 7 (nn 0) := rfl
    generalize hG1 : F_X11_begins (nn L) (z_up G 40 0 (nn 0)) = G1 at hR0 hb
    generalize hG2 : z_up (z_up (z_up (z_up (z_up (z_up G1 40 16 (nn 0)) 40 17 (nn 0)) 40 18 (nn 5)) 46 0 (nn 50)) 46 1 (nn 50)) 46 2 (nn 50) = G2
    have hG2' := hG2.symm
    have hcl : F_X11_clears G1 = some G2 := by
      rw [hG2']
      rfl
    have hC2 : RC t L 0 (city0 n E) G2 := by
      refine RC.cg hR0 (city0_r 1 (Or.inl (by omega))) (city0_r 2 (Or.inl (by omega))) ?_ (fun j a b => ?_)
      · rw [hG2']
        simp (disch := omega) only [z_up_ne, ne_eq, not_false_eq_true]
      · rw [hG2']
        simp (disch := omega) only [z_up_r, z_up_i]
    have hD2 : CD n 0 0 5 (city0 n E) G2 := by
      refine ⟨by decide, c1, ⟨?_, ?_, ?_⟩, fun b hb => absurd hb (by omega), fun p hp => absurd hp (by omega), fun d hd => ⟨50, by decide, c2 d hd, ?_⟩⟩
      · rw [hG2']; simp (disch := omega) only [z_up_r, z_up_i, z_up_at]
      · rw [hG2']; simp (disch := omega) only [z_up_r, z_up_i, z_up_at]
      · rw [hG2']; simp (disch := omega) only [z_up_r, z_up_at]
      · rw [hG2']
        rcases (show d = 0 ∨ d = 1 ∨ d = 2 by omega) with rfl | rfl | rfl
        · simp (disch := omega) only [z_up_i, z_up_at]
        · simp (disch := omega) only [z_up_i, z_up_at]
        · simp (disch := omega) only [z_up_at]
    have hT : ∀ E4 F, XP n (city0 n E) E4 → XM G2 F → CQ t L 0 n E4 F → (∃ x, F_X11_city_J164 N F = some x) := fun E4 F _ _ h3 => by
      by_cases ho : OK E4
      · obtain ⟨h', p, -, hI⟩ := h3.1.fi ho
        obtain ⟨ns, pe, rv, hCD⟩ := h3.2 ho
        have f5 := hI.2.2.2.2.2
        obtain ⟨S, s1, -⟩ := sets_P (N := N) (F := z_up F 40 8 (F 40 5)) (ns := ns) (pe := pe) (rv := rv) hN hCD.1.2.1 (by rw [z_up_i (by decide)]; exact hCD.2.2.1.1) (by rw [z_up_i (by decide)]; exact hCD.2.2.1.2.1) (by rw [z_up_i (by decide)]; exact hCD.2.2.1.2.2)
        rw [f5] at s1
        refine ⟨(F 40 17, S), ?_⟩
        simp (disch := omega) only [F_X11_city_J164, F_X11_result, F_X11_fine, f5, z_up_i, s1, ↓reduceIte, ↓z_letE, ↓z_bdE, nn_l2, nn_add, nn_mul, nn_sub, nn_addM, nn_div, nn_rem, nn_min, nn_max, nn_abs, nn_ltT, nn_ltF, nn_leT, nn_leF, nn_eqT, nn_eqF, nn_eqM, nn_Meq, nn_ltM, nn_Mlt, nn_leM, nn_Mle, z_ix_nn, z_inb_nn, F_at_nn, F_put_nn, Nat.zero_add, Nat.add_zero, z_P_some, z_R_some, z_P_bd]
      · obtain ⟨k, pl, k1, k2, k3, k4, k5, k6, k7⟩ := h3.1.fa ho
        refine ⟨(nn k - nn 10, z_up F 40 8 (nn pl)), ?_⟩
        simp (disch := omega) only [F_X11_city_J164, F_X11_result, F_X11_fine, k6, k7, z_up_i, ↓reduceIte, ↓z_letE, ↓z_bdE, nn_l2, nn_add, nn_mul, nn_sub, nn_addM, nn_div, nn_rem, nn_min, nn_max, nn_abs, nn_ltT, nn_ltF, nn_leT, nn_leF, nn_eqT, nn_eqF, nn_eqM, nn_Meq, nn_ltM, nn_Mlt, nn_leM, nn_Mle, z_ix_nn, z_inb_nn, F_at_nn, F_put_nn, Nat.zero_add, Nat.add_zero, z_P_some, z_R_some, z_P_bd]
    obtain ⟨E4, x, e1, e2, F, e3, e4, e5, e6⟩ := city_R (N := N) (n := n) hN hn ⟨hC2, fun _ => ⟨0, 0, 5, hD2⟩⟩ hT
    refine ⟨E4, F, e1, e3, ⟨fun r h1 h2 => ?_, fun j hj => ?_, ?_, ?_⟩, e5, ?_⟩
    · rw [e4.1 r h1 h2, hG2', z_up_ne (by omega), z_up_ne (by omega), z_up_ne (by omega), z_up_ne h1, z_up_ne h1, z_up_ne h1, hb, z_up_ne h1, z_up_ne h1, z_up_ne h1, z_up_ne h1, z_up_ne h1, z_up_ne h1, z_up_ne h1]
    · rw [e4.2 j (by omega), hG2', hb]
      simp (disch := omega) only [z_up_r, z_up_i]
    · rw [e4.2 0 (by omega), hG2', hb]
      simp (disch := omega) only [z_up_r, z_up_i, z_up_at]
    · rw [e4.2 2 (by omega), hG2', hb]
      simp (disch := omega) only [z_up_r, z_up_i, z_up_at]
    · rw [e6, ← e2]
      simp (disch := omega) only [F_X11_city, F_X11_city_J23x, g2, dem_ok, dem_no, demT_ok, demT_no, z_bt_l, z_bt_r, z_try_l, z_try_r, nl_I, nl_N, nl_IN, nl_NI, may_okU, may_noU, z_up_at, z_up_i, z_up_r, ↓reduceIte, ↓z_letE, ↓z_bdE, nn_l2, nn_add, nn_mul, nn_sub, nn_addM, nn_div, nn_rem, nn_min, nn_max, nn_abs, nn_ltT, nn_ltF, nn_leT, nn_leF, nn_eqT, nn_eqF, nn_eqM, nn_Meq, nn_ltM, nn_Mlt, nn_leM, nn_Mle, z_ix_nn, z_inb_nn, F_at_nn, F_put_nn, Nat.zero_add, Nat.add_zero, z_P_some, z_R_some, z_P_bd]
      rw [hG1, hcl, z_bdE]
  have hE5 : E 1 1 = nn 0 := m3
  obtain ⟨fd', hfd', f1, f2⟩ := hX.1
  obtain ⟨E4, F0, e1, e2, -⟩ := key (z_up D 40 2 (nn fd)) (z_up_ne (by decide)) (z_up_at rfl rfl)
  refine ⟨t, E, E4, ht, m1, e1, fun r h1 h2 => by rw [e2.1 r h1 h2, city0_r r h2, m2 r h1], by rw [e2.2 1 (by decide), city0_r 1 (Or.inl (by omega))]; exact hE5, fun G g1 g2 => ?_⟩
  obtain ⟨E4', F, e1', e2', e3', e4', e5'⟩ := key G g1 g2
  rw [e1] at e1'
  cases e1'
  exact ⟨F, e3', e4', e5'⟩
