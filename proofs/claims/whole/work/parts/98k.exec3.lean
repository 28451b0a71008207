/-! ===== work: all that has been read is done ===== -/
theorem ML_200 {N nM i K : Nat} {a1 : Int32} {G : z_Dat} (h : G 40 35 = nn 200) (hn : 0 < nM) : MLr N (F_X11_goesSteps N K) a1 nM i G = some G := by
  obtain ⟨nM', rfl⟩ : ∃ x, nM = x + 1 := ⟨nM - 1, by omega⟩
  rw [ML_s]
  generalize F_X11_goesSteps N K = slf
  by_cases h1 : a1 ≤ nn (3 * i)
  · simp (disch := omega) only [F_X11_goesSteps_L2, h1, ↓reduceIte, ↓z_letE, ↓z_bdE, nn_l2, nn_add, nn_mul, nn_sub, nn_addM, nn_div, nn_rem, nn_min, nn_max, nn_abs, nn_ltT, nn_ltF, nn_leT, nn_leF, nn_eqT, nn_eqF, nn_eqM, nn_Meq, nn_ltM, nn_Mlt, nn_leM, nn_Mle, z_ix_nn, z_inb_nn, F_at_nn, F_put_nn, Nat.zero_add, Nat.add_zero, z_P_some, z_R_some, z_P_bd]
  · simp (disch := omega) only [F_X11_goesSteps_L2, h1, h, ↓reduceIte, ↓z_letE, ↓z_bdE, nn_l2, nn_add, nn_mul, nn_sub, nn_addM, nn_div, nn_rem, nn_min, nn_max, nn_abs, nn_ltT, nn_ltF, nn_leT, nn_leF, nn_eqT, nn_eqF, nn_eqM, nn_Meq, nn_ltM, nn_Mlt, nn_leM, nn_Mle, z_ix_nn, z_inb_nn, F_at_nn, F_put_nn, Nat.zero_add, Nat.add_zero, z_P_some, z_R_some, z_P_bd]
theorem note_e {a : Int32} {D : z_Dat} (ha : a = nn 0 ∨ a = nn 1) : (a = nn 0 → F_X7_note a D = z_up D 15 8 (D 15 8 + nn 1)) ∧ (a = nn 1 → F_X7_note a D = z_up D 15 7 (D 15 7 + nn 1)) := by
  refine ⟨fun q => ?_, fun q => ?_⟩
  · subst q
    simp (disch := omega) only [F_X7_note, ↓reduceIte, ↓z_letE, ↓z_bdE, nn_l2, nn_add, nn_mul, nn_sub, nn_addM, nn_div, nn_rem, nn_min, nn_max, nn_abs, nn_ltT, nn_ltF, nn_leT, nn_leF, nn_eqT, nn_eqF, nn_eqM, nn_Meq, nn_ltM, nn_Mlt, nn_leM, nn_Mle, z_ix_nn, z_inb_nn, F_at_nn, F_put_nn, Nat.zero_add, Nat.add_zero, z_P_some, z_R_some, z_P_bd]
  · subst q
    simp (disch := omega) only [F_X7_note, ↓reduceIte, ↓z_letE, ↓z_bdE, nn_l2, nn_add, nn_mul, nn_sub, nn_addM, nn_div, nn_rem, nn_min, nn_max, nn_abs, nn_ltT, nn_ltF, nn_leT, nn_leF, nn_eqT, nn_eqF, nn_eqM, nn_Meq, nn_ltM, nn_Mlt, nn_leM, nn_Mle, z_ix_nn, z_inb_nn, F_at_nn, F_put_nn, Nat.zero_add, Nat.add_zero, z_P_some, z_R_some, z_P_bd]
set_option maxHeartbeats 2000000 in
theorem seg_R {N o ns pe rv ne : Nat} {P C : z_Dat} (hN : 2000 < N) (ho : o = 34 ∨ 68 ≤ o) (hns : ns ≤ 6) (hpe : pe ≤ 8) (hrv : rv ≤ 20) (hCV : CV o ns pe rv P C) (h5 : P 15 5 = nn ne) (hne : ne ≤ 37) : ∀ f dd k e i j, BK ns pe P (c56 C) f dd k e i j → e ≤ ne → 3 * j ≤ 150 → ∀ K b d g n nM D G, d + dd ≤ 6 → dd ≤ K → b ≤ 200 → g ≤ 61 * b → 30000 ≤ n + g → j < nM + i → XS pe P C b d D G → INl N o pe P C b d k e g n D G (MLr N (F_X11_goesSteps N K) (nn (3 * j)) nM i G) ∨ INr N o pe P C b k g n D G (MLr N (F_X11_goesSteps N K) (nn (3 * j)) nM i G) := by
  intro f
  induction f with
  | zero => exact fun dd k e i j h => h.elim
  | succ f ih =>
    intro dd k e i j hBK hen hj K b d g n nM D G hdd hK hb hg hn hnM hX
    have hXG := hX
    obtain ⟨⟨hEP, hEM, hTR, hc7, hc8⟩, hb35, hd6⟩ := hX
    have lb := BK.le _ _ _ _ _ _ hBK
    obtain ⟨nM', rfl⟩ : ∃ x, nM = x + 1 := ⟨nM - 1, by omega⟩
    obtain ⟨n', rfl⟩ : ∃ x, n = x + 1 := ⟨n - 1, by omega⟩
    have d5 : D 15 5 = nn ne := by rw [hEP.2]; exact h5
    have d16 : D 16 = P 16 := hEP.1 16 (by decide) (by decide) (by decide)
    have d17 : D 17 = P 17 := hEP.1 17 (by decide) (by decide) (by decide)
    have d18 : D 18 = P 18 := hEP.1 18 (by decide) (by decide) (by decide)
    have g56 : ∀ y, G 56 y = c56 C 55 y := fun y => by rw [c56_e, hEM.1 56 (by decide) (by decide)]
    rcases hBK with ⟨rfl, rfl⟩ | ⟨⟨c, a, bb, hc, p16, p17, p18, q0, q1, q2, v0, v1, v2, v4⟩, hrest⟩ | ⟨tm, e', j', ⟨htm, hdd1⟩, ⟨p16, p17, p18⟩, ⟨q0, q1, q2⟩, hinn, ⟨z16, z17⟩, hrest⟩
    · left
      refine ⟨D, G, b, g, n' + 1, rfl, ?_, hXG, rfl, Nat.le_refl _, hb, Nat.le_refl _, fun x _ => rfl⟩
      rw [ML_s]
      generalize F_X11_goesSteps N K = slf
      simp (disch := omega) only [F_X11_goesSteps_L2, ↓reduceIte, ↓z_letE, ↓z_bdE, nn_l2, nn_add, nn_mul, nn_sub, nn_addM, nn_div, nn_rem, nn_min, nn_max, nn_abs, nn_ltT, nn_ltF, nn_leT, nn_leF, nn_eqT, nn_eqF, nn_eqM, nn_Meq, nn_ltM, nn_Mlt, nn_leM, nn_Mle, z_ix_nn, z_inb_nn, F_at_nn, F_put_nn, Nat.zero_add, Nat.add_zero, z_P_some, z_R_some, z_P_bd]
    · -- a step
      have lr := hrest.le
      rw [← d16] at p16
      rw [← d17] at p17
      rw [← d18] at p18
      rw [← g56] at q0 q1 q2
      by_cases hb2 : b = 200
      · subst hb2
        right
        refine ⟨D, G, ?_, ML_200 hb35 (by omega), ⟨hEP, hEM, hTR, hc7, hc8⟩, hb35⟩
        rw [CO_s]
        simp (disch := omega) only [F_X7_carryOut_L23, d5, p16, ↓reduceIte, ↓z_letE, ↓z_bdE, nn_l2, nn_add, nn_mul, nn_sub, nn_addM, nn_div, nn_rem, nn_min, nn_max, nn_abs, nn_ltT, nn_ltF, nn_leT, nn_leF, nn_eqT, nn_eqF, nn_eqM, nn_Meq, nn_ltM, nn_Mlt, nn_leM, nn_Mle, z_ix_nn, z_inb_nn, F_at_nn, F_put_nn, Nat.zero_add, Nat.add_zero, z_P_some, z_R_some, z_P_bd]
      · have hG1 : ∀ r, r ≠ 40 → z_up G 40 35 (nn (b + 1)) r = G r := fun r hr => z_up_ne hr
        have hCV1 : CV o ns pe rv D (z_up G 40 35 (nn (b + 1))) := by
          obtain ⟨⟨o5, o6, o7⟩, ⟨g20, g21⟩, hV⟩ := hCV
          have eo : D o = P o := hEP.1 o (by omega) (by omega) (by omega)
          have eo1 : D (o + 1) = P (o + 1) := hEP.1 (o + 1) (by omega) (by omega) (by omega)
          refine ⟨⟨by rw [eo]; exact o5, by rw [eo]; exact o6, by rw [eo]; exact o7⟩, ⟨by rw [z_up_i (by decide), hEM.2 20 (by decide) (by decide) (by decide)]; exact g20, by rw [z_up_i (by decide), hEM.2 21 (by decide) (by decide) (by decide)]; exact g21⟩, fun x hx => ?_⟩
          rw [eo1, hG1 47 (by decide), hEM.1 47 (by decide) (by decide)]
          exact hV x hx
        obtain ⟨⟨r1, D1⟩, ⟨r2, G2⟩, t1, t2, ⟨t3, t4, t5, t6, t7⟩⟩ := try_R (N := N) hN ho hns hpe hrv hCV1 (by rw [hG1 58 (by decide)]; exact hTR) (show k < 37 by omega) hc p16 p17 p18 v0 v1 v2 v4
        dsimp only at t3 t4 t5 t6 t7
        subst t3
        have hco : COr N o (n' + 1) b k g D = COr N o n' (b + 1) (k + 1) (g + 1) (F_X7_note r1 D1) := by
          rw [CO_s]
          have c7 : ¬ c = 7 := by omega
          have c6 : ¬ c = 6 := by omega
          have key : ∀ kc : (Int32 × Int32 × Int32 × z_Dat) → Option z_Dat, F_X7_carryOut_L23 N o 3 kc (nn b) (nn k) (nn g) D = kc (nn (b + 1), nn (k + 1), nn (g + 1), F_X7_note r1 D1) := by
            intro kc
            simp (disch := omega) only [F_X7_carryOut_L23, d5, p16, t1, ↓reduceIte, ↓z_letE, ↓z_bdE, nn_l2, nn_add, nn_mul, nn_sub, nn_addM, nn_div, nn_rem, nn_min, nn_max, nn_abs, nn_ltT, nn_ltF, nn_leT, nn_leF, nn_eqT, nn_eqF, nn_eqM, nn_Meq, nn_ltM, nn_Mlt, nn_leM, nn_Mle, z_ix_nn, z_inb_nn, F_at_nn, F_put_nn, Nat.zero_add, Nat.add_zero, z_P_some, z_R_some, z_P_bd]
          exact key _
        have hml : MLr N (F_X11_goesSteps N K) (nn (3 * j)) (nM' + 1) i G = MLr N (F_X11_goesSteps N K) (nn (3 * j)) nM' (i + 1) (if r1 = nn 0 then z_up G2 40 37 (G2 40 37 + nn 1) else z_up G2 40 36 (G2 40 36 + nn 1)) := by
          rw [ML_s]
          generalize F_X11_goesSteps N K = slf
          have c6 : ¬ c = 6 := by omega
          have e3 : 3 * i + 3 = 3 * (i + 1) := by omega
          have key : ∀ kc : (Int32 × z_Dat) → Option z_Dat, F_X11_goesSteps_L2 N slf (nn (3 * j)) kc (nn (3 * i)) G = kc (nn (3 * (i + 1)), if r1 = nn 0 then z_up G2 40 37 (G2 40 37 + nn 1) else z_up G2 40 36 (G2 40 36 + nn 1)) := by
            intro kc
            have w0 : z_up G 40 35 (nn (b + 1)) 56 (3 * i) = nn c := by rw [hG1 56 (by decide)]; exact q0
            have w1 : z_up G 40 35 (nn (b + 1)) 56 (3 * i + 1) = nn a := by rw [hG1 56 (by decide)]; exact q1
            have w2 : z_up G 40 35 (nn (b + 1)) 56 (3 * i + 2) = nn bb := by rw [hG1 56 (by decide)]; exact q2
            rcases t4 with rfl | rfl
            · simp (disch := omega) only [F_X11_goesSteps_L2, hb35, w0, w1, w2, t2, e3, ↓reduceIte, ↓z_letE, ↓z_bdE, nn_l2, nn_add, nn_mul, nn_sub, nn_addM, nn_div, nn_rem, nn_min, nn_max, nn_abs, nn_ltT, nn_ltF, nn_leT, nn_leF, nn_eqT, nn_eqF, nn_eqM, nn_Meq, nn_ltM, nn_Mlt, nn_leM, nn_Mle, z_ix_nn, z_inb_nn, F_at_nn, F_put_nn, Nat.zero_add, Nat.add_zero, z_P_some, z_R_some, z_P_bd]
            · simp (disch := omega) only [F_X11_goesSteps_L2, hb35, w0, w1, w2, t2, e3, ↓reduceIte, ↓z_letE, ↓z_bdE, nn_l2, nn_add, nn_mul, nn_sub, nn_addM, nn_div, nn_rem, nn_min, nn_max, nn_abs, nn_ltT, nn_ltF, nn_leT, nn_leF, nn_eqT, nn_eqF, nn_eqM, nn_Meq, nn_ltM, nn_Mlt, nn_leM, nn_Mle, z_ix_nn, z_inb_nn, F_at_nn, F_put_nn, Nat.zero_add, Nat.add_zero, z_P_some, z_R_some, z_P_bd]
          exact key _
        have hG2 : ∀ r, r ≠ 58 → r ≠ 40 → G2 r = G r := fun r h1 h2 => by rw [t7 r h1, hG1 r h2]
        have hG2c : ∀ j, j ≠ 35 → G2 40 j = G 40 j := fun j hj => by rw [t7 40 (by decide), z_up_i hj]
        have hG235 : G2 40 35 = nn (b + 1) := by rw [t7 40 (by decide), z_up_at rfl rfl]
        have hD1 : ∀ r, r ≠ 4 → D1 r = D r := fun r hr => t6 r hr
        have t5' : TR pe 300 (D1 4) (G2 58) := t5
        generalize hG3 : (if r1 = nn 0 then z_up G2 40 37 (G2 40 37 + nn 1) else z_up G2 40 36 (G2 40 36 + nn 1)) = G3 at hml
        generalize hD2 : F_X7_note r1 D1 = D2 at hco
        have hX2 : XS pe P C (b + 1) d D2 G3 ∧ ∀ x, D2 20 x = D 20 x := by
          obtain ⟨nt0, nt1⟩ := note_e (D := D1) t4
          rcases t4 with rfl | rfl
          · rw [if_pos rfl] at hG3
            rw [nt0 rfl] at hD2
            subst hG3
            subst hD2
            refine ⟨⟨⟨⟨fun r h1 h2 h3 => by rw [z_up_ne h2, hD1 r h1]; exact hEP.1 r h1 h2 h3, by rw [z_up_i (by decide), hD1 15 (by decide)]; exact hEP.2⟩, ⟨fun r h1 h2 => by rw [z_up_ne h1, hG2 r h2 h1]; exact hEM.1 r h1 h2, fun j h1 h2 h3 => by rw [z_up_i h3, hG2c j h1]; exact hEM.2 j h1 h2 h3⟩, by rw [z_up_ne (by decide), z_up_ne (by decide)]; exact t5', ?_, ?_⟩, by rw [z_up_i (by decide)]; exact hG235, by rw [z_up_i (by decide), hD1 15 (by decide)]; exact hd6⟩, fun x => by rw [z_up_r (by decide), hD1 20 (by decide)]⟩
            · rw [z_up_i (by decide), z_up_i (by decide), hD1 15 (by decide), hG2c 36 (by decide)]; exact hc7
            · rw [z_up_at rfl rfl, z_up_at rfl rfl, hD1 15 (by decide), hG2c 37 (by decide), hc8]
          · rw [if_neg (by decide)] at hG3
            rw [nt1 rfl] at hD2
            subst hG3
            subst hD2
            refine ⟨⟨⟨⟨fun r h1 h2 h3 => by rw [z_up_ne h2, hD1 r h1]; exact hEP.1 r h1 h2 h3, by rw [z_up_i (by decide), hD1 15 (by decide)]; exact hEP.2⟩, ⟨fun r h1 h2 => by rw [z_up_ne h1, hG2 r h2 h1]; exact hEM.1 r h1 h2, fun j h1 h2 h3 => by rw [z_up_i h2, hG2c j h1]; exact hEM.2 j h1 h2 h3⟩, by rw [z_up_ne (by decide), z_up_ne (by decide)]; exact t5', ?_, ?_⟩, by rw [z_up_i (by decide)]; exact hG235, by rw [z_up_i (by decide), hD1 15 (by decide)]; exact hd6⟩, fun x => by rw [z_up_r (by decide), hD1 20 (by decide)]⟩
            · rw [z_up_at rfl rfl, z_up_at rfl rfl, hD1 15 (by decide), hG2c 36 (by decide), hc7]
            · rw [z_up_i (by decide), z_up_i (by decide), hD1 15 (by decide), hG2c 37 (by decide)]; exact hc8
        obtain ⟨hX2, h20⟩ := hX2
        rw [hml]
        rcases ih dd (k + 1) e (i + 1) j hrest hen hj K (b + 1) d (g + 1) n' nM' D2 G3 hdd hK (by omega) (by omega) (by omega) (by omega) hX2 with ⟨E, F, b', g', n9, w1, w2, w3, w4, w5, w6, w7, w8⟩ | ⟨E, F, w1, w2, w3, w4⟩
        · exact Or.inl ⟨E, F, b', g', n9, hco.trans w1, w2, w3, by omega, by omega, w6, by omega, fun x hx => (w8 x hx).trans (h20 x)⟩
        · exact Or.inr ⟨E, F, hco.trans w1, w2, w3, w4⟩
    · -- an again
      have lr := hrest.le
      have li := hinn.le
      have p16' : D 16 k = nn 6 := by rw [d16]; exact p16
      have p17' : D 17 k = nn tm := by rw [d17]; exact p17
      have p18' : D 18 k = nn e' := by rw [d18]; exact p18
      rw [← g56] at q0 q2
      by_cases hb2 : b = 200
      · subst hb2
        right
        refine ⟨D, G, ?_, ML_200 hb35 (by omega), ⟨hEP, hEM, hTR, hc7, hc8⟩, hb35⟩
        rw [CO_s]
        simp (disch := omega) only [F_X7_carryOut_L23, d5, p16', ↓reduceIte, ↓z_letE, ↓z_bdE, nn_l2, nn_add, nn_mul, nn_sub, nn_addM, nn_div, nn_rem, nn_min, nn_max, nn_abs, nn_ltT, nn_ltF, nn_leT, nn_leF, nn_eqT, nn_eqF, nn_eqM, nn_Meq, nn_ltM, nn_Mlt, nn_leM, nn_Mle, z_ix_nn, z_inb_nn, F_at_nn, F_put_nn, Nat.zero_add, Nat.add_zero, z_P_some, z_R_some, z_P_bd]
      · obtain ⟨K', rfl⟩ : ∃ x, K = x + 1 := ⟨K - 1, by omega⟩
        have hd' : d < 6 := by omega
        have e3 : 3 * i + 3 = 3 * (i + 1) := by omega
        have w0 : z_up G 40 35 (nn (b + 1)) 56 (3 * i) = nn 6 := by rw [z_up_ne (by decide)]; exact q0
        have w2 : z_up G 40 35 (nn (b + 1)) 56 (3 * i + 2) = nn (3 * j') := by rw [z_up_ne (by decide)]; exact q2
        have hml : MLr N (F_X11_goesSteps N (K' + 1)) (nn (3 * j)) (nM' + 1) i G = z_loop (fun kc11 s => F_X11_goesSteps_L51 (F_X11_goesSteps N (K' + 1)) (fun s => z_loop (fun kc3 s => F_X11_goesSteps_L2 N (F_X11_goesSteps N (K' + 1)) (nn (3 * j)) kc3 s.1 s.2) nM' s) (nn (3 * i)) (nn (3 * j')) kc11 s.1 s.2) N (nn 0, z_up G 40 35 (nn (b + 1))) := by
          rw [ML_s]
          generalize F_X11_goesSteps N (K' + 1) = slf
          have key : ∀ kc : (Int32 × z_Dat) → Option z_Dat, F_X11_goesSteps_L2 N slf (nn (3 * j)) kc (nn (3 * i)) G = z_loop (fun kc11 s => F_X11_goesSteps_L51 slf kc (nn (3 * i)) (nn (3 * j')) kc11 s.1 s.2) N (nn 0, z_up G 40 35 (nn (b + 1))) := by
            intro kc
            simp (disch := omega) only [F_X11_goesSteps_L2, hb35, w0, w2, ↓reduceIte, ↓z_letE, ↓z_bdE, nn_l2, nn_add, nn_mul, nn_sub, nn_addM, nn_div, nn_rem, nn_min, nn_max, nn_abs, nn_ltT, nn_ltF, nn_leT, nn_leF, nn_eqT, nn_eqF, nn_eqM, nn_Meq, nn_ltM, nn_Mlt, nn_leM, nn_Mle, z_ix_nn, z_inb_nn, F_at_nn, F_put_nn, Nat.zero_add, Nat.add_zero, z_P_some, z_R_some, z_P_bd]
          exact key _
        rw [hml]
        have hXL1 : ∀ D', (∀ r, r ≠ 15 → r ≠ 20 → D' r = D r) → (∀ j, j ≠ 6 → D' 15 j = D 15 j) → XL pe P C D' (z_up G 40 35 (nn (b + 1))) := fun D' u1 u2 => ⟨⟨fun r h1 h2 h3 => by rw [u1 r h2 h3]; exact hEP.1 r h1 h2 h3, by rw [u2 5 (by decide)]; exact hEP.2⟩, ⟨fun r h1 h2 => by rw [z_up_ne h1]; exact hEM.1 r h1 h2, fun j h1 h2 h3 => by rw [z_up_i h1]; exact hEM.2 j h1 h2 h3⟩, by rw [u1 4 (by decide) (by decide), z_up_ne (by decide)]; exact hTR, by rw [u2 7 (by decide), z_up_i (by decide)]; exact hc7, by rw [u2 8 (by decide), z_up_i (by decide)]; exact hc8⟩
        have cont : ∀ (E F : z_Dat) (b1 g1 n1 : Nat), b1 ≤ 200 → g1 ≤ 61 * b1 → 30000 ≤ n1 + g1 → XS pe P C b1 d E F → INl N o pe P C b1 d (e' + 1) e g1 n1 E F (MLr N (F_X11_goesSteps N (K' + 1)) (nn (3 * j)) nM' j' F) ∨ INr N o pe P C b1 (e' + 1) g1 n1 E F (MLr N (F_X11_goesSteps N (K' + 1)) (nn (3 * j)) nM' j' F) := fun E F b1 g1 n1 u1 u2 u3 u4 => ih dd (e' + 1) e j' j hrest hen hj (K' + 1) b1 d g1 n1 nM' E F hdd hK u1 u2 u3 (by omega) u4
        have hc1 : C 56 (3 * i + 1) = nn tm := by rw [← c56_e (C := C)]; exact q1
        by_cases ht0 : tm = 0
        · subst ht0
          have hco : COr N o (n' + 1) b k g D = COr N o n' (b + 1) (e' + 1) (g + 1) D := by
            rw [CO_s]
            have key : ∀ kc : (Int32 × Int32 × Int32 × z_Dat) → Option z_Dat, F_X7_carryOut_L23 N o 3 kc (nn b) (nn k) (nn g) D = kc (nn (b + 1), nn (e' + 1), nn (g + 1), D) := by
              intro kc
              simp (disch := omega) only [F_X7_carryOut_L23, d5, p16', F_X7_afterAgain, p17', p18', ↓reduceIte, ↓z_letE, ↓z_bdE, nn_l2, nn_add, nn_mul, nn_sub, nn_addM, nn_div, nn_rem, nn_min, nn_max, nn_abs, nn_ltT, nn_ltF, nn_leT, nn_leF, nn_eqT, nn_eqF, nn_eqM, nn_Meq, nn_ltM, nn_Mlt, nn_leM, nn_Mle, z_ix_nn, z_inb_nn, F_at_nn, F_put_nn, Nat.zero_add, Nat.add_zero, z_P_some, z_R_some, z_P_bd]
            exact key _
          have hml2 : z_loop (fun kc11 s => F_X11_goesSteps_L51 (F_X11_goesSteps N (K' + 1)) (fun s => z_loop (fun kc3 s => F_X11_goesSteps_L2 N (F_X11_goesSteps N (K' + 1)) (nn (3 * j)) kc3 s.1 s.2) nM' s) (nn (3 * i)) (nn (3 * j')) kc11 s.1 s.2) N (nn 0, z_up G 40 35 (nn (b + 1))) = MLr N (F_X11_goesSteps N (K' + 1)) (nn (3 * j)) nM' j' (z_up G 40 35 (nn (b + 1))) := by
            obtain ⟨N', rfl⟩ : ∃ x, N = x + 1 := ⟨N - 1, by omega⟩
            have w1 : z_up G 40 35 (nn (b + 1)) 56 (3 * i + 1) = nn 0 := by rw [z_up_ne (by decide), hEM.1 56 (by decide) (by decide)]; exact hc1
            have key : ∀ (slf : Int32 → Int32 → z_Dat → Option z_Dat) (kc3 : (Int32 × z_Dat) → Option z_Dat) (kc : (Int32 × z_Dat) → Option z_Dat), F_X11_goesSteps_L51 slf kc3 (nn (3 * i)) (nn (3 * j')) kc (nn 0) (z_up G 40 35 (nn (b + 1))) = kc3 (nn (3 * j'), z_up G 40 35 (nn (b + 1))) := by
              intro slf kc3 kc
              simp (disch := omega) only [F_X11_goesSteps_L51, w1, ↓reduceIte, ↓z_letE, ↓z_bdE, nn_l2, nn_add, nn_mul, nn_sub, nn_addM, nn_div, nn_rem, nn_min, nn_max, nn_abs, nn_ltT, nn_ltF, nn_leT, nn_leF, nn_eqT, nn_eqF, nn_eqM, nn_Meq, nn_ltM, nn_Mlt, nn_leM, nn_Mle, z_ix_nn, z_inb_nn, F_at_nn, F_put_nn, Nat.zero_add, Nat.add_zero, z_P_some, z_R_some, z_P_bd]
            exact key _ _ _
          rw [hml2]
          rcases cont D (z_up G 40 35 (nn (b + 1))) (b + 1) (g + 1) n' (by omega) (by omega) (by omega) ⟨hXL1 D (fun _ _ _ => rfl) (fun _ _ => rfl), z_up_at rfl rfl, hd6⟩ with ⟨E, F, b', g', n9, w1, w2, w3, w4, w5, w6, w7, w8⟩ | ⟨E, F, w1, w2, w3, w4⟩
          · exact Or.inl ⟨E, F, b', g', n9, hco.trans w1, w2, w3, by omega, by omega, w6, by omega, w8⟩
          · exact Or.inr ⟨E, F, hco.trans w1, w2, w3, w4⟩
        · have hco : COr N o (n' + 1) b k g D = COr N o n' (b + 1) (k + 1) (g + 1) (z_up (z_up D 20 d (nn tm)) 15 6 (nn (d + 1))) := by
            rw [CO_s]
            have key : ∀ kc : (Int32 × Int32 × Int32 × z_Dat) → Option z_Dat, F_X7_carryOut_L23 N o 3 kc (nn b) (nn k) (nn g) D = kc (nn (b + 1), nn (k + 1), nn (g + 1), z_up (z_up D 20 d (nn tm)) 15 6 (nn (d + 1))) := by
              intro kc
              simp (disch := omega) only [F_X7_carryOut_L23, d5, p16', F_X7_afterAgain, p17', hd6, z_up_r, ↓reduceIte, ↓z_letE, ↓z_bdE, nn_l2, nn_add, nn_mul, nn_sub, nn_addM, nn_div, nn_rem, nn_min, nn_max, nn_abs, nn_ltT, nn_ltF, nn_leT, nn_leF, nn_eqT, nn_eqF, nn_eqM, nn_Meq, nn_ltM, nn_Mlt, nn_leM, nn_Mle, z_ix_nn, z_inb_nn, F_at_nn, F_put_nn, Nat.zero_add, Nat.add_zero, z_P_some, z_R_some, z_P_bd]
            exact key _
          generalize hD2 : z_up (z_up D 20 d (nn tm)) 15 6 (nn (d + 1)) = D2 at hco
          have hD2' := hD2.symm
          have hX2 : XS pe P C (b + 1) (d + 1) D2 (z_up G 40 35 (nn (b + 1))) := ⟨hXL1 D2 (fun r h1 h2 => by rw [hD2', z_up_ne h1, z_up_ne h2]) (fun j hj => by rw [hD2', z_up_i hj, z_up_r (by decide)]), z_up_at rfl rfl, by rw [hD2', z_up_at rfl rfl]⟩
          have h20 : D2 20 d = nn tm := by rw [hD2', z_up_r (by decide), z_up_at rfl rfl]
          have h20' : ∀ x, x < d → D2 20 x = D 20 x := fun x hx => by rw [hD2', z_up_r (by decide), z_up_i (by omega)]
          have hin : ∀ b g n D G, b ≤ 200 → g ≤ 61 * b → 30000 ≤ n + g → XS pe P C b (d + 1) D G → INl N o pe P C b (d + 1) (k + 1) e' g n D G (F_X11_goesSteps N (K' + 1) (nn (3 * i + 3)) (nn (3 * j')) G) ∨ INr N o pe P C b (k + 1) g n D G (F_X11_goesSteps N (K' + 1) (nn (3 * i + 3)) (nn (3 * j')) G) := fun b g n D G u1 u2 u3 u4 => by
            have := ih (dd - 1) (k + 1) e' (i + 1) j' hinn (by omega) (by omega) K' b (d + 1) g n N D G (by omega) (by omega) u1 u2 u3 (by omega) u4
            rw [e3]
            exact this
          have h200 : ∀ G, G 40 35 = nn 200 → F_X11_goesSteps N (K' + 1) (nn (3 * i + 3)) (nn (3 * j')) G = some G := fun G hG => by
            rw [e3]
            exact ML_200 (K := K') hG (by omega)
          rcases turn_R (N := N) (o := o) (pe := pe) (P := P) (C := C) (slf := F_X11_goesSteps N (K' + 1)) (k := k) (e := e') (i := i) (j := j') (d := d) (tm := tm) (ne := ne) h5 hne (by omega) (by omega) z16 z17 hc1 (by omega) htm hd' hin h200 tm 0 N (b + 1) (g + 1) n' D2 (z_up G 40 35 (nn (b + 1))) (fun s => z_loop (fun kc3 s => F_X11_goesSteps_L2 N (F_X11_goesSteps N (K' + 1)) (nn (3 * j)) kc3 s.1 s.2) nM' s) (by omega) (by omega) (by omega) (by omega) (by omega) (by omega) hX2 (by rw [Nat.sub_zero]; exact h20) with ⟨E, F, b1, g1, n1, w1, w2, w3, w4, w5, w6, w7, -, w9⟩ | ⟨E, F, w1, w2, w3, w4, -⟩
          · rw [w2]
            rcases cont E F b1 g1 n1 w6 (by omega) (by omega) w3 with ⟨E9, F9, b', g', n9, y1, y2, y3, y4, y5, y6, y7, y8⟩ | ⟨E9, F9, y1, y2, y3, y4⟩
            · exact Or.inl ⟨E9, F9, b', g', n9, (hco.trans w1).trans y1, y2, y3, by omega, by omega, y6, by omega, fun x hx => by rw [y8 x hx, w9 x hx, h20' x hx]⟩
            · exact Or.inr ⟨E9, F9, (hco.trans w1).trans y1, y2, y3, y4⟩
          · rw [w2]
            exact Or.inr ⟨E, F, hco.trans w1, ML_200 w4 (by omega), w3, w4⟩
