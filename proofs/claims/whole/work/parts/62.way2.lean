/-! ===== the model's table of ways ===== -/
set_option maxHeartbeats 4000000 in
theorem layTo_P {N ns a1 : Nat} {vt T : Nat → Nat} {G2 : z_Dat} (hN : 2000 < N) (hns : ns ≤ 6) (ha1 : a1 < 1000) (hT : TW ns a1 vt T) (k19 : G2 40 19 = nn ns) (hv : ∀ b, b < ns → vt b < 1000 ∧ (G2 47 (4 * b) = nn (vt b / 100) ∧ G2 47 (4 * b + 1) = nn (vt b / 10 % 10) ∧ G2 47 (4 * b + 2) = nn (vt b % 10))) :
    z_P (F_X11_layTo N (nn a1) G2) (fun F => Fr 62 G2 F ∧ ∀ v, v < 1000 → F 62 v = cd (T v)) := by
  have hle := TW_le ha1 hT
  unfold F_X11_layTo
  refine z_P_loop (fun k s => ∃ v, v + k = 1000 ∧ s.1 = nn v ∧ Fr 62 G2 s.2 ∧ ∀ u, u < v → s.2 62 u = cd (if u = a1 then 1 else 0)) ?_ 1000 N _ (by omega) ⟨0, by omega, rfl, Fr.rf, fun u h => by omega⟩
  rintro k ⟨v1, E⟩ kc ⟨v, hk, rfl, hF, hE⟩ ih
  dsimp only at hF hE ⊢
  by_cases hv1 : v < 1000
  · by_cases ha : v = a1
    · subst ha
      simp (disch := omega) only [F_X11_layTo_L2, ↓reduceIte, ↓z_letE, ↓z_bdE, nn_l2, nn_add, nn_mul, nn_sub, nn_addM, nn_div, nn_rem, nn_min, nn_max, nn_abs, nn_ltT, nn_ltF, nn_leT, nn_leF, nn_eqT, nn_eqF, nn_eqM, nn_Meq, nn_ltM, nn_Mlt, nn_leM, nn_Mle, z_ix_nn, z_inb_nn, F_at_nn, F_put_nn, Nat.zero_add, Nat.add_zero, z_P_some, z_R_some, z_P_bd]
      refine ih (k - 1) _ (by omega) ⟨v + 1, by omega, rfl, Fr.up hF, fun u hu => ?_⟩
      dsimp only
      by_cases e : u = v
      · subst e
        rw [z_up_at rfl rfl, if_pos rfl]
        rfl
      · rw [z_up_i e]
        exact hE u (by omega)
    · simp (disch := omega) only [F_X11_layTo_L2, ↓reduceIte, ↓z_letE, ↓z_bdE, nn_l2, nn_add, nn_mul, nn_sub, nn_addM, nn_div, nn_rem, nn_min, nn_max, nn_abs, nn_ltT, nn_ltF, nn_leT, nn_leF, nn_eqT, nn_eqF, nn_eqM, nn_Meq, nn_ltM, nn_Mlt, nn_leM, nn_Mle, z_ix_nn, z_inb_nn, F_at_nn, F_put_nn, Nat.zero_add, Nat.add_zero, z_P_some, z_R_some, z_P_bd]
      refine ih (k - 1) _ (by omega) ⟨v + 1, by omega, rfl, Fr.up hF, fun u hu => ?_⟩
      dsimp only
      by_cases e : u = v
      · subst e
        rw [z_up_at rfl rfl, if_neg ha]
        rfl
      · rw [z_up_i e]
        exact hE u (by omega)
  have hve : v = 1000 := by omega
  subst hve
  clear ih
  simp (disch := omega) only [F_X11_layTo_L2, ↓reduceIte, ↓z_letE, ↓z_bdE, nn_l2, nn_add, nn_mul, nn_sub, nn_addM, nn_div, nn_rem, nn_min, nn_max, nn_abs, nn_ltT, nn_ltF, nn_leT, nn_leF, nn_eqT, nn_eqF, nn_eqM, nn_Meq, nn_ltM, nn_Mlt, nn_leM, nn_Mle, z_ix_nn, z_inb_nn, F_at_nn, F_put_nn, Nat.zero_add, Nat.add_zero, z_P_some, z_R_some, z_P_bd]
  refine z_P_loop (fun k s => Fr 62 G2 s.2 ∧ ((k = 2 ∧ s.1 = nn 1 ∧ ∀ u, u < 1000 → s.2 62 u = cd (if u = a1 then 1 else 0)) ∨ (k = 1 ∧ s.1 = nn 1 ∧ ∀ u, u < 1000 → s.2 62 u = cd (T u)) ∨ (k = 0 ∧ s.1 = nn 0 ∧ ∀ u, u < 1000 → s.2 62 u = cd (T u)))) ?_ 2 N _ (by omega) ⟨hF, Or.inl ⟨rfl, rfl, hE⟩⟩
  rintro k ⟨v5, E⟩ kd ⟨hF, hcase⟩ ih
  dsimp only at hF hcase ⊢
  rcases hcase with ⟨rfl, rfl, hE⟩ | ⟨rfl, rfl, hE⟩ | ⟨rfl, rfl, hE⟩
  rotate_left 2
  · simp (disch := omega) only [F_X11_layTo_L33, ↓reduceIte, ↓z_letE, ↓z_bdE, nn_l2, nn_add, nn_mul, nn_sub, nn_addM, nn_div, nn_rem, nn_min, nn_max, nn_abs, nn_ltT, nn_ltF, nn_leT, nn_leF, nn_eqT, nn_eqF, nn_eqM, nn_Meq, nn_ltM, nn_Mlt, nn_leM, nn_Mle, z_ix_nn, z_inb_nn, F_at_nn, F_put_nn, Nat.zero_add, Nat.add_zero, z_P_some, z_R_some, z_P_bd]
    exact ⟨hF, hE⟩
  rotate_left
  -- the second pass
  · simp (disch := omega) only [F_X11_layTo_L33, ↓reduceIte, ↓z_letE, ↓z_bdE, nn_l2, nn_add, nn_mul, nn_sub, nn_addM, nn_div, nn_rem, nn_min, nn_max, nn_abs, nn_ltT, nn_ltF, nn_leT, nn_leF, nn_eqT, nn_eqF, nn_eqM, nn_Meq, nn_ltM, nn_Mlt, nn_leM, nn_Mle, z_ix_nn, z_inb_nn, F_at_nn, F_put_nn, Nat.zero_add, Nat.add_zero, z_P_some, z_R_some, z_P_bd]
    refine z_P_loop (fun k s => k ≤ 1000 ∧ s.1 = nn 0 ∧ s.2.1 = cd k ∧ s.2.2 = E) ?_ 1000 N _ (by omega) ⟨Nat.le_refl _, rfl, rfl, rfl⟩
    rintro k ⟨f, v10, E1⟩ kc ⟨hk, rfl, rfl, rfl⟩ ih2
    dsimp only
    cases k with
    | zero =>
      have ec : cd 0 = -nn 1 := rfl
      simp (disch := omega) only [F_X11_layTo_L43, ec, ↓reduceIte, ↓z_letE, ↓z_bdE, nn_l2, nn_add, nn_mul, nn_sub, nn_addM, nn_div, nn_rem, nn_min, nn_max, nn_abs, nn_ltT, nn_ltF, nn_leT, nn_leF, nn_eqT, nn_eqF, nn_eqM, nn_Meq, nn_ltM, nn_Mlt, nn_leM, nn_Mle, z_ix_nn, z_inb_nn, F_at_nn, F_put_nn, Nat.zero_add, Nat.add_zero, z_P_some, z_R_some, z_P_bd]
      exact ih 0 _ (by omega) ⟨hF, Or.inr (Or.inr ⟨rfl, rfl, hE⟩)⟩
    | succ u =>
      have ec : cd (u + 1) = nn u := rfl
      have dc := cd_dec u (by omega)
      simp (disch := omega) only [F_X11_layTo_L43, ec, ↓reduceIte, ↓z_letE, ↓z_bdE, nn_l2, nn_add, nn_mul, nn_sub, nn_addM, nn_div, nn_rem, nn_min, nn_max, nn_abs, nn_ltT, nn_ltF, nn_leT, nn_leF, nn_eqT, nn_eqF, nn_eqM, nn_Meq, nn_ltM, nn_Mlt, nn_leM, nn_Mle, z_ix_nn, z_inb_nn, F_at_nn, F_put_nn, Nat.zero_add, Nat.add_zero, z_P_some, z_R_some, z_P_bd]
      refine z_P_loop (fun k s => ∃ b, b + k = ns ∧ s.1 = nn 0 ∧ s.2.1 = nn b ∧ s.2.2 = E1) ?_ ns N _ (by omega) ⟨0, by omega, rfl, rfl, rfl⟩
      rintro j ⟨f, v15, E2⟩ kb ⟨b, hj, rfl, rfl, rfl⟩ ih3
      dsimp only at hF hE ⊢
      have e19 : E2 40 19 = nn ns := by rw [hF 40 (by decide)]; exact k19
      by_cases hb : b < ns
      · obtain ⟨h1, h2, h3, h4⟩ := hv b hb
        have ed : F_X11_dippedIn (nn u) (nn b) E2 = some (nn (dp u (vt b))) := dippedIn_e (by omega) (by omega) h1 (by rw [hF 47 (by decide)]; exact h2) (by rw [hF 47 (by decide)]; exact h3) (by rw [hF 47 (by decide)]; exact h4)
        have hd := dp_lt (a := u) (b := vt b)
        have e62 := hE _ hd
        have eu := hE u (by omega)
        have hlu := hle u
        have hld := hle (dp u (vt b))
        cases ht : T (dp u (vt b)) with
        | zero =>
          rw [ht] at e62
          have e62 : E2 62 (dp u (vt b)) = -nn 1 := e62
          simp (disch := omega) only [F_X11_layTo_L50, e19, ed, e62, ↓reduceIte, ↓z_letE, ↓z_bdE, nn_l2, nn_add, nn_mul, nn_sub, nn_addM, nn_div, nn_rem, nn_min, nn_max, nn_abs, nn_ltT, nn_ltF, nn_leT, nn_leF, nn_eqT, nn_eqF, nn_eqM, nn_Meq, nn_ltM, nn_Mlt, nn_leM, nn_Mle, z_ix_nn, z_inb_nn, F_at_nn, F_put_nn, Nat.zero_add, Nat.add_zero, z_P_some, z_R_some, z_P_bd]
          exact ih3 (j - 1) _ (by omega) ⟨b + 1, by omega, rfl, rfl, rfl⟩
        | succ t =>
          obtain ⟨g1, g2⟩ := TW_fx hT (by omega) hb (show T (dp u (vt b)) ≠ 0 from by omega)
          rw [ht] at e62 g2 hld
          have e62 : E2 62 (dp u (vt b)) = nn t := e62
          cases hw : T u with
          | zero => exact absurd hw g1
          | succ w =>
            rw [hw] at eu g2 hlu
            have eu : E2 62 u = nn w := eu
            simp (disch := omega) only [F_X11_layTo_L50, e19, ed, e62, eu, ↓reduceIte, ↓z_letE, ↓z_bdE, nn_l2, nn_add, nn_mul, nn_sub, nn_addM, nn_div, nn_rem, nn_min, nn_max, nn_abs, nn_ltT, nn_ltF, nn_leT, nn_leF, nn_eqT, nn_eqF, nn_eqM, nn_Meq, nn_ltM, nn_Mlt, nn_leM, nn_Mle, z_ix_nn, z_inb_nn, F_at_nn, F_put_nn, Nat.zero_add, Nat.add_zero, z_P_some, z_R_some, z_P_bd]
            exact ih3 (j - 1) _ (by omega) ⟨b + 1, by omega, rfl, rfl, rfl⟩
      · have e : b = ns := by omega
        subst e
        simp (disch := omega) only [F_X11_layTo_L50, e19, dc, ↓reduceIte, ↓z_letE, ↓z_bdE, nn_l2, nn_add, nn_mul, nn_sub, nn_addM, nn_div, nn_rem, nn_min, nn_max, nn_abs, nn_ltT, nn_ltF, nn_leT, nn_leF, nn_eqT, nn_eqF, nn_eqM, nn_Meq, nn_ltM, nn_Mlt, nn_leM, nn_Mle, z_ix_nn, z_inb_nn, F_at_nn, F_put_nn, Nat.zero_add, Nat.add_zero, z_P_some, z_R_some, z_P_bd]
        exact ih2 u _ (by omega) ⟨by omega, rfl, rfl, rfl⟩
  -- the first pass
  · simp (disch := omega) only [F_X11_layTo_L33, ↓reduceIte, ↓z_letE, ↓z_bdE, nn_l2, nn_add, nn_mul, nn_sub, nn_addM, nn_div, nn_rem, nn_min, nn_max, nn_abs, nn_ltT, nn_ltF, nn_leT, nn_leF, nn_eqT, nn_eqF, nn_eqM, nn_Meq, nn_ltM, nn_Mlt, nn_leM, nn_Mle, z_ix_nn, z_inb_nn, F_at_nn, F_put_nn, Nat.zero_add, Nat.add_zero, z_P_some, z_R_some, z_P_bd]
    refine z_P_loop (fun k s => k ≤ 1000 ∧ (s.1 = nn 0 ∨ s.1 = nn 1) ∧ s.2.1 = cd k ∧ Fr 62 G2 s.2.2 ∧ ∀ u, u < 1000 → s.2.2 62 u = if k ≤ u then cd (T u) else cd (if u = a1 then 1 else 0)) ?_ 1000 N _ (by omega) ⟨Nat.le_refl _, Or.inl rfl, rfl, hF, fun u hu => by
      rw [if_neg (by omega)]
      exact hE u hu⟩
    clear hE hF
    rintro k ⟨f, v10, E1⟩ kc ⟨hk, hf, rfl, hF, hE⟩ ih2
    dsimp only at hf hF hE ⊢
    cases k with
    | zero =>
      have ec : cd 0 = -nn 1 := rfl
      have hE : ∀ u, u < 1000 → E1 62 u = cd (T u) := fun u hu => by rw [hE u hu, if_pos (Nat.zero_le _)]
      simp (disch := omega) only [F_X11_layTo_L43, ec, ↓reduceIte, ↓z_letE, ↓z_bdE, nn_l2, nn_add, nn_mul, nn_sub, nn_addM, nn_div, nn_rem, nn_min, nn_max, nn_abs, nn_ltT, nn_ltF, nn_leT, nn_leF, nn_eqT, nn_eqF, nn_eqM, nn_Meq, nn_ltM, nn_Mlt, nn_leM, nn_Mle, z_ix_nn, z_inb_nn, F_at_nn, F_put_nn, Nat.zero_add, Nat.add_zero, z_P_some, z_R_some, z_P_bd]
      rcases hf with rfl | rfl
      · exact ih 0 _ (by omega) ⟨hF, Or.inr (Or.inr ⟨rfl, rfl, hE⟩)⟩
      · exact ih 1 _ (by omega) ⟨hF, Or.inr (Or.inl ⟨rfl, rfl, hE⟩)⟩
    | succ u =>
      have ec : cd (u + 1) = nn u := rfl
      have dc := cd_dec u (by omega)
      simp (disch := omega) only [F_X11_layTo_L43, ec, ↓reduceIte, ↓z_letE, ↓z_bdE, nn_l2, nn_add, nn_mul, nn_sub, nn_addM, nn_div, nn_rem, nn_min, nn_max, nn_abs, nn_ltT, nn_ltF, nn_leT, nn_leF, nn_eqT, nn_eqF, nn_eqM, nn_Meq, nn_ltM, nn_Mlt, nn_leM, nn_Mle, z_ix_nn, z_inb_nn, F_at_nn, F_put_nn, Nat.zero_add, Nat.add_zero, z_P_some, z_R_some, z_P_bd]
      refine z_P_loop (fun k s => ∃ b, b + k = ns ∧ (s.1 = nn 0 ∨ s.1 = nn 1) ∧ s.2.1 = nn b ∧ Fr 62 G2 s.2.2 ∧ (∀ w, w < 1000 → w ≠ u → s.2.2 62 w = if u < w then cd (T w) else cd (if w = a1 then 1 else 0)) ∧ s.2.2 62 u = cd (if u < a1 then bst T vt u b else T u)) ?_ ns N _ (by omega) ⟨0, by omega, hf, rfl, hF, fun w hw hwu => by
        dsimp only
        rw [hE w hw]
        by_cases h : u < w
        · rw [if_pos h, if_pos (by omega)]
        · rw [if_neg h, if_neg (by omega)], by
        dsimp only
        rw [hE u (by omega), if_neg (by omega)]
        by_cases h : u < a1
        · rw [if_pos h, if_neg (by omega)]
          rfl
        · rw [if_neg h]
          by_cases h2 : u = a1
          · rw [if_pos h2, h2, hT.1]
          · rw [if_neg h2, hT.2.1 u (by omega)]⟩
      clear hE hF hf
      rintro j ⟨f, v15, E2⟩ kb ⟨b, hj, hf, rfl, hF, hE, hu⟩ ih3
      dsimp only at hf hF hE hu ⊢
      have e19 : E2 40 19 = nn ns := by rw [hF 40 (by decide)]; exact k19
      by_cases hb : b < ns
      rotate_left
      · have e : b = ns := by omega
        subst e
        simp (disch := omega) only [F_X11_layTo_L50, e19, dc, ↓reduceIte, ↓z_letE, ↓z_bdE, nn_l2, nn_add, nn_mul, nn_sub, nn_addM, nn_div, nn_rem, nn_min, nn_max, nn_abs, nn_ltT, nn_ltF, nn_leT, nn_leF, nn_eqT, nn_eqF, nn_eqM, nn_Meq, nn_ltM, nn_Mlt, nn_leM, nn_Mle, z_ix_nn, z_inb_nn, F_at_nn, F_put_nn, Nat.zero_add, Nat.add_zero, z_P_some, z_R_some, z_P_bd]
        refine ih2 u _ (by omega) ⟨by omega, hf, rfl, hF, fun w hw => ?_⟩
        dsimp only
        by_cases hwu : w = u
        · subst hwu
          rw [if_pos (Nat.le_refl _), hu]
          by_cases h : w < a1
          · rw [if_pos h, hT.2.2 w h]
          · rw [if_neg h]
        · rw [hE w hw hwu]
          by_cases h : u < w
          · rw [if_pos h, if_pos (by omega)]
          · rw [if_neg h, if_neg (show ¬ u ≤ w from by omega)]
      obtain ⟨h1, h2, h3, h4⟩ := hv b hb
      have ed : F_X11_dippedIn (nn u) (nn b) E2 = some (nn (dp u (vt b))) := dippedIn_e (by omega) (by omega) h1 (by rw [hF 47 (by decide)]; exact h2) (by rw [hF 47 (by decide)]; exact h3) (by rw [hF 47 (by decide)]; exact h4)
      have hd := dp_lt (a := u) (b := vt b)
      have hge := dp_ge (a := u) (b := vt b) (by omega)
      have same : (if u < a1 then bst T vt u (b + 1) else T u) = (if u < a1 then bst T vt u b else T u) → z_P (kb (f, nn (b + 1), E2)) (fun F => Fr 62 G2 F ∧ ∀ v, v < 1000 → F 62 v = cd (T v)) := fun h => ih3 (j - 1) _ (by omega) ⟨b + 1, by omega, hf, rfl, hF, hE, by rw [h]; exact hu⟩
      have eb : bst T vt u (b + 1) = if dp u (vt b) ≤ u ∨ T (dp u (vt b)) = 0 then bst T vt u b else if bst T vt u b = 0 ∨ T (dp u (vt b)) + 1 < bst T vt u b then T (dp u (vt b)) + 1 else bst T vt u b := rfl
      have hq := bst_le (vt := vt) (v := u) (fun d _ => hle d) b
      have hlu := hle u
      have hld := hle (dp u (vt b))
      by_cases hdu : dp u (vt b) = u
      · -- the shade itself
        have sm := same (by rw [eb, if_pos (Or.inl (by omega))])
        cases hw : (if u < a1 then bst T vt u b else T u) with
        | zero =>
          rw [hw] at hu
          have hu : E2 62 u = -nn 1 := hu
          simp (disch := omega) only [F_X11_layTo_L50, e19, ed, hdu, hu, ↓reduceIte, ↓z_letE, ↓z_bdE, nn_l2, nn_add, nn_mul, nn_sub, nn_addM, nn_div, nn_rem, nn_min, nn_max, nn_abs, nn_ltT, nn_ltF, nn_leT, nn_leF, nn_eqT, nn_eqF, nn_eqM, nn_Meq, nn_ltM, nn_Mlt, nn_leM, nn_Mle, z_ix_nn, z_inb_nn, F_at_nn, F_put_nn, Nat.zero_add, Nat.add_zero, z_P_some, z_R_some, z_P_bd]
          exact sm
        | succ w =>
          have hw9 : w < 1002 := by
            split at hw <;> omega
          rw [hw] at hu
          have hu : E2 62 u = nn w := hu
          simp (disch := omega) only [F_X11_layTo_L50, e19, ed, hdu, hu, ↓reduceIte, ↓z_letE, ↓z_bdE, nn_l2, nn_add, nn_mul, nn_sub, nn_addM, nn_div, nn_rem, nn_min, nn_max, nn_abs, nn_ltT, nn_ltF, nn_leT, nn_leF, nn_eqT, nn_eqF, nn_eqM, nn_Meq, nn_ltM, nn_Mlt, nn_leM, nn_Mle, z_ix_nn, z_inb_nn, F_at_nn, F_put_nn, Nat.zero_add, Nat.add_zero, z_P_some, z_R_some, z_P_bd]
          exact sm
      · have e62 := hE _ hd hdu
        rw [if_pos (by omega)] at e62
        cases ht : T (dp u (vt b)) with
        | zero =>
          rw [ht] at e62
          have e62 : E2 62 (dp u (vt b)) = -nn 1 := e62
          have sm := same (by rw [eb, if_pos (Or.inr ht)])
          simp (disch := omega) only [F_X11_layTo_L50, e19, ed, e62, ↓reduceIte, ↓z_letE, ↓z_bdE, nn_l2, nn_add, nn_mul, nn_sub, nn_addM, nn_div, nn_rem, nn_min, nn_max, nn_abs, nn_ltT, nn_ltF, nn_leT, nn_leF, nn_eqT, nn_eqF, nn_eqM, nn_Meq, nn_ltM, nn_Mlt, nn_leM, nn_Mle, z_ix_nn, z_inb_nn, F_at_nn, F_put_nn, Nat.zero_add, Nat.add_zero, z_P_some, z_R_some, z_P_bd]
          exact sm
        | succ t =>
          have hua : u < a1 := by
            by_cases h : u < a1
            · exact h
            · exact absurd (hT.2.1 (dp u (vt b)) (by omega)) (by omega)
          rw [if_pos hua] at hu
          rw [if_pos hua, if_pos hua] at same
          rw [ht] at e62 eb hld
          have e62 : E2 62 (dp u (vt b)) = nn t := e62
          rw [if_neg (show ¬ (dp u (vt b) ≤ u ∨ t + 1 = 0) from by omega)] at eb
          have chg : bst T vt u (b + 1) = t + 1 + 1 → z_P (kb (nn 1, nn (b + 1), z_up E2 62 u (nn (t + 1)))) (fun F => Fr 62 G2 F ∧ ∀ v, v < 1000 → F 62 v = cd (T v)) := fun h => ih3 (j - 1) _ (by omega) ⟨b + 1, by omega, Or.inr rfl, rfl, Fr.up hF, fun w hw hwu => by
            dsimp only
            rw [z_up_i hwu]
            exact hE w hw hwu, by
            dsimp only
            rw [z_up_at rfl rfl, if_pos hua, h]
            rfl⟩
          cases hw : bst T vt u b with
          | zero =>
            rw [hw] at hu eb
            have hu : E2 62 u = -nn 1 := hu
            simp (disch := omega) only [F_X11_layTo_L50, F_X11_layTo_J105, e19, ed, e62, hu, ↓reduceIte, ↓z_letE, ↓z_bdE, nn_l2, nn_add, nn_mul, nn_sub, nn_addM, nn_div, nn_rem, nn_min, nn_max, nn_abs, nn_ltT, nn_ltF, nn_leT, nn_leF, nn_eqT, nn_eqF, nn_eqM, nn_Meq, nn_ltM, nn_Mlt, nn_leM, nn_Mle, z_ix_nn, z_inb_nn, F_at_nn, F_put_nn, Nat.zero_add, Nat.add_zero, z_P_some, z_R_some, z_P_bd]
            exact chg (by rw [eb, if_pos (Or.inl rfl)])
          | succ w =>
            rw [hw] at hu eb hq
            have hu : E2 62 u = nn w := hu
            by_cases hlt : t + 1 < w
            · simp (disch := omega) only [F_X11_layTo_L50, F_X11_layTo_J105, e19, ed, e62, hu, ↓reduceIte, ↓z_letE, ↓z_bdE, nn_l2, nn_add, nn_mul, nn_sub, nn_addM, nn_div, nn_rem, nn_min, nn_max, nn_abs, nn_ltT, nn_ltF, nn_leT, nn_leF, nn_eqT, nn_eqF, nn_eqM, nn_Meq, nn_ltM, nn_Mlt, nn_leM, nn_Mle, z_ix_nn, z_inb_nn, F_at_nn, F_put_nn, Nat.zero_add, Nat.add_zero, z_P_some, z_R_some, z_P_bd]
              exact chg (by rw [eb, if_pos (by omega)])
            · simp (disch := omega) only [F_X11_layTo_L50, F_X11_layTo_J105, e19, ed, e62, hu, ↓reduceIte, ↓z_letE, ↓z_bdE, nn_l2, nn_add, nn_mul, nn_sub, nn_addM, nn_div, nn_rem, nn_min, nn_max, nn_abs, nn_ltT, nn_ltF, nn_leT, nn_leF, nn_eqT, nn_eqF, nn_eqM, nn_Meq, nn_ltM, nn_Mlt, nn_leM, nn_Mle, z_ix_nn, z_inb_nn, F_at_nn, F_put_nn, Nat.zero_add, Nat.add_zero, z_P_some, z_R_some, z_P_bd]
              exact same (by rw [eb, if_neg (by omega), hw])
