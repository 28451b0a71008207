/-! ===== look ===== -/
def mx (f : Nat → Nat) : Nat → Nat
  | 0 => 0
  | k + 1 => max (mx f k) (f k)
theorem mx_le {f : Nat → Nat} {n : Nat} (h : ∀ k, k < n → f k ≤ 64) : ∀ k, k ≤ n → mx f k ≤ 64
  | 0, _ => by simp [mx]
  | k + 1, hk => by
    have h1 := mx_le h k (by omega)
    have h2 := h k (by omega)
    unfold mx
    omega
theorem mostLoop {α : Type} {M d : Nat} {G2 : z_Dat} {f : Nat → Nat} {EX : Int32 → Option α} {body : ((Int32 × Int32) → Option α) → (Int32 × Int32) → Option α} (hf : ∀ v, v < 10 → F_X11_leftBy M (nn d) (nn v) G2 = some (nn (f v)) ∧ f v ≤ 64)
    (hb : ∀ kc m v, body kc (m, v) = if 9 < v then EX m else z_bd (F_X11_leftBy M (nn d) v G2) (fun a => if a ≤ m then z_let (v + 1) (fun w => kc (m, w)) else z_bd (F_X11_leftBy M (nn d) v G2) (fun b => z_let (v + 1) (fun w => kc (b, w))))) :
    ∀ k v n, v + k = 10 → k < n → z_loop body n (nn (mx f v), nn v) = EX (nn (mx f 10))
  | 0, v, n + 1, hk, _ => by
    have e : v = 10 := by omega
    subst e
    show body _ _ = _
    rw [hb]
    simp (disch := omega) only [↓reduceIte, ↓z_letE, ↓z_bdE, nn_l2, nn_add, nn_mul, nn_sub, nn_addM, nn_div, nn_rem, nn_min, nn_max, nn_abs, nn_ltT, nn_ltF, nn_leT, nn_leF, nn_eqT, nn_eqF, nn_eqM, nn_Meq, nn_ltM, nn_Mlt, nn_leM, nn_Mle, z_ix_nn, z_inb_nn, F_at_nn, F_put_nn, Nat.zero_add, Nat.add_zero, z_P_some, z_R_some, z_P_bd]
  | k + 1, v, n + 1, hk, hn => by
    obtain ⟨h1, h2⟩ := hf v (by omega)
    have hm := mx_le (f := f) (n := 10) (fun k hk => (hf k hk).2) v (by omega)
    have ih := mostLoop hf hb k (v + 1) n (by omega) (by omega)
    show body (z_loop body n) _ = _
    rw [hb]
    by_cases hle : f v ≤ mx f v
    · have e : mx f (v + 1) = mx f v := by show max _ _ = _; omega
      rw [e] at ih
      rw [h1]
      simp (disch := omega) only [↓reduceIte, ↓z_letE, ↓z_bdE, nn_l2, nn_add, nn_mul, nn_sub, nn_addM, nn_div, nn_rem, nn_min, nn_max, nn_abs, nn_ltT, nn_ltF, nn_leT, nn_leF, nn_eqT, nn_eqF, nn_eqM, nn_Meq, nn_ltM, nn_Mlt, nn_leM, nn_Mle, z_ix_nn, z_inb_nn, F_at_nn, F_put_nn, Nat.zero_add, Nat.add_zero, z_P_some, z_R_some, z_P_bd]
      exact ih
    · have e : mx f (v + 1) = f v := by show max _ _ = _; omega
      rw [e] at ih
      rw [h1]
      simp (disch := omega) only [↓reduceIte, ↓z_letE, ↓z_bdE, nn_l2, nn_add, nn_mul, nn_sub, nn_addM, nn_div, nn_rem, nn_min, nn_max, nn_abs, nn_ltT, nn_ltF, nn_leT, nn_leF, nn_eqT, nn_eqF, nn_eqM, nn_Meq, nn_ltM, nn_Mlt, nn_leM, nn_Mle, z_ix_nn, z_inb_nn, F_at_nn, F_put_nn, Nat.zero_add, Nat.add_zero, z_P_some, z_R_some, z_P_bd]
      exact ih
set_option maxHeartbeats 4000000 in
theorem left_R {N pe d v : Nat} {D G2 : z_Dat} {sh : Nat → Nat} (hN : 200 < N) (hpe : pe ≤ 8) (hv : v ≤ 9) (q20 : G2 40 20 = nn pe) (hs : ∀ a, a < pe → sh a < 1000 ∧ F_X9_has 3 (nn a) (nn 0) D = nn (sh a) ∧ F_X10_partOf (nn (sh a)) (nn d) = nn (dg (sh a) d) ∧ F_X11_hasOf (nn a) (nn d) G2 = some (nn (dg (sh a) d)))
    (hm : ∀ a b, a < pe → b < pe → ∃ r, F_X11_mayBeTheirs (nn a) (nn b) G2 = some r ∧ F_X0_mayBear (F_X9_has 3 (nn a) (nn 0) D) (F_X9_has 3 (nn b) (nn 0) D) D = r ∧ (r = nn 0 ∨ r = nn 1)) :
    z_R (F_X0_left N 3 (nn pe) (nn d) (nn v) D) (F_X11_leftBy N (nn d) (nn v) G2) (fun a c => c = a ∧ ∃ k, k ≤ 64 ∧ a = nn k) := by
  unfold F_X0_left F_X11_leftBy
  refine z_R_loop (fun k s s' => ∃ a r, a + k = pe ∧ r ≤ 8 * a ∧ s.1 = nn r ∧ s'.1 = nn r ∧ s.2 = nn a ∧ s'.2 = nn a) ?_ pe N N _ _ (by omega) (by omega) ⟨0, 0, by omega, by omega, rfl, rfl, rfl, rfl⟩
  rintro k ⟨v1, v2⟩ ⟨w1, w2⟩ kc kc' ⟨a, r, hk, hr, rfl, rfl, rfl, rfl⟩ ih
  dsimp only
  by_cases ha : a < pe
  · obtain ⟨n1, e1, f1, g1⟩ := hs a ha
    have hda := dg_le (d := d) n1
    simp (disch := omega) only [F_X0_left_L6, F_X11_leftBy_L5, q20, ↓reduceIte, ↓z_letE, ↓z_bdE, nn_l2, nn_add, nn_mul, nn_sub, nn_addM, nn_div, nn_rem, nn_min, nn_max, nn_abs, nn_ltT, nn_ltF, nn_leT, nn_leF, nn_eqT, nn_eqF, nn_eqM, nn_Meq, nn_ltM, nn_Mlt, nn_leM, nn_Mle, z_ix_nn, z_inb_nn, F_at_nn, F_put_nn, Nat.zero_add, Nat.add_zero, z_P_some, z_R_some, z_P_bd]
    refine z_R_loop (fun j s s' => ∃ b r, b + j = pe ∧ a < b ∧ r ≤ 8 * a + b ∧ s.1 = nn r ∧ s'.1 = nn r ∧ s.2 = nn b ∧ s'.2 = nn b) ?_ (pe - (a + 1)) N N _ _ (by omega) (by omega) ⟨a + 1, r, by omega, by omega, by omega, rfl, rfl, rfl, rfl⟩
    rintro j ⟨v1, v2⟩ ⟨w1, w2⟩ kd kd' ⟨b, r, hj, hab, hr, rfl, rfl, rfl, rfl⟩ ih2
    dsimp only
    by_cases hb : b < pe
    · obtain ⟨n2, e2, f2, g2⟩ := hs b hb
      have hdb := dg_le (d := d) n2
      obtain ⟨x, x1, x2, x3⟩ := hm a b ha hb
      rw [e1, e2] at x2
      rcases x3 with rfl | rfl <;> by_cases u1 : dg (sh a) d = v <;> by_cases u2 : dg (sh b) d = v
      all_goals
        first
        | (simp (disch := omega) only [F_X0_left_L27, F_X0_left_J64, F_X0_left_J69, F_X0_left_J69x, F_X11_leftBy_L20, q20, x1, x2, e1, e2, f1, f2, g1, g2, ↓reduceIte, ↓z_letE, ↓z_bdE, nn_l2, nn_add, nn_mul, nn_sub, nn_addM, nn_div, nn_rem, nn_min, nn_max, nn_abs, nn_ltT, nn_ltF, nn_leT, nn_leF, nn_eqT, nn_eqF, nn_eqM, nn_Meq, nn_ltM, nn_Mlt, nn_leM, nn_Mle, z_ix_nn, z_inb_nn, F_at_nn, F_put_nn, Nat.zero_add, Nat.add_zero, z_P_some, z_R_some, z_P_bd]
           first
           | exact ih2 (j - 1) _ _ (by omega) ⟨b + 1, r, by omega, by omega, by omega, rfl, rfl, rfl, rfl⟩
           | exact ih2 (j - 1) _ _ (by omega) ⟨b + 1, r + 1, by omega, by omega, by omega, rfl, rfl, rfl, rfl⟩)
    · simp (disch := omega) only [F_X0_left_L27, F_X11_leftBy_L20, q20, ↓reduceIte, ↓z_letE, ↓z_bdE, nn_l2, nn_add, nn_mul, nn_sub, nn_addM, nn_div, nn_rem, nn_min, nn_max, nn_abs, nn_ltT, nn_ltF, nn_leT, nn_leF, nn_eqT, nn_eqF, nn_eqM, nn_Meq, nn_ltM, nn_Mlt, nn_leM, nn_Mle, z_ix_nn, z_inb_nn, F_at_nn, F_put_nn, Nat.zero_add, Nat.add_zero, z_P_some, z_R_some, z_P_bd]
      exact ih (k - 1) _ _ (by omega) ⟨a + 1, r, by omega, by omega, rfl, rfl, rfl, rfl⟩
  · simp (disch := omega) only [F_X0_left_L6, F_X11_leftBy_L5, q20, ↓reduceIte, ↓z_letE, ↓z_bdE, nn_l2, nn_add, nn_mul, nn_sub, nn_addM, nn_div, nn_rem, nn_min, nn_max, nn_abs, nn_ltT, nn_ltF, nn_leT, nn_leF, nn_eqT, nn_eqF, nn_eqM, nn_Meq, nn_ltM, nn_Mlt, nn_leM, nn_Mle, z_ix_nn, z_inb_nn, F_at_nn, F_put_nn, Nat.zero_add, Nat.add_zero, z_P_some, z_R_some, z_P_bd]
    exact ⟨trivial, r, by omega, rfl⟩
theorem mostLeft_e {N pe d : Nat} {D : z_Dat} {f : Nat → Nat} (hN : 200 < N) (hf : ∀ v, v < 10 → F_X0_left N 3 (nn pe) (nn d) (nn v) D = some (nn (f v)) ∧ f v ≤ 64) : F_X0_mostLeft N 3 (nn pe) (nn d) D = some (nn (mx f 10)) := by
  have h : z_P (F_X0_mostLeft N 3 (nn pe) (nn d) D) (fun a => a = nn (mx f 10)) := by
    unfold F_X0_mostLeft
    refine z_P_loop (fun k s => ∃ v, v + k = 10 ∧ s.1 = nn (mx f v) ∧ s.2 = nn v) ?_ 10 N _ (by omega) ⟨0, by omega, rfl, rfl⟩
    rintro k ⟨v1, v2⟩ kc ⟨v, hk, rfl, rfl⟩ ih
    dsimp only
    by_cases hv : v < 10
    · obtain ⟨h1, h2⟩ := hf v hv
      have hm := mx_le (f := f) (n := 10) (fun k hk => (hf k hk).2) v (by omega)
      simp (disch := omega) only [F_X0_mostLeft_L6, h1, ↓reduceIte, ↓z_letE, ↓z_bdE, nn_l2, nn_add, nn_mul, nn_sub, nn_addM, nn_div, nn_rem, nn_min, nn_max, nn_abs, nn_ltT, nn_ltF, nn_leT, nn_leF, nn_eqT, nn_eqF, nn_eqM, nn_Meq, nn_ltM, nn_Mlt, nn_leM, nn_Mle, z_ix_nn, z_inb_nn, F_at_nn, F_put_nn, Nat.zero_add, Nat.add_zero, z_P_some, z_R_some, z_P_bd]
      exact ih (k - 1) _ (by omega) ⟨v + 1, by omega, rfl, rfl⟩
    · have e : v = 10 := by omega
      subst e
      simp (disch := omega) only [F_X0_mostLeft_L6, ↓reduceIte, ↓z_letE, ↓z_bdE, nn_l2, nn_add, nn_mul, nn_sub, nn_addM, nn_div, nn_rem, nn_min, nn_max, nn_abs, nn_ltT, nn_ltF, nn_leT, nn_leF, nn_eqT, nn_eqF, nn_eqM, nn_Meq, nn_ltM, nn_Mlt, nn_leM, nn_Mle, z_ix_nn, z_inb_nn, F_at_nn, F_put_nn, Nat.zero_add, Nat.add_zero, z_P_some, z_R_some, z_P_bd]
  obtain ⟨a, h1, rfl⟩ := h
  exact h1
set_option maxHeartbeats 8000000 in
theorem T_look {N o n : Nat} {a1 : Int32} {D : z_Dat} (hN : 200 < N) (hJ : J o n D) : TOP (F_L_look N o a1 D) (F_X11_look N a1) (J o n) := by
  obtain ⟨ho, ns, pe, rv, hB⟩ := id hJ
  obtain ⟨⟨hns, hpe, hrv⟩, ⟨c5, c6, c7⟩, ⟨k19, k20, k21⟩, hV, hH⟩ := id hB.1
  rcases wi_or (m := 1) (by decide) a1 with ⟨w, hw, rfl, ew⟩ | ⟨h, ew⟩
  · refine TOP_r hJ rfl (fun G hK => ?_)
    simp (disch := omega) only [F_X10_look, F_X10_look_J15x, F_X11_look, ew, dem_ok, dem_no, demT_ok, demT_no, z_bt_l, z_bt_r, z_try_l, z_try_r, nl_I, nl_N, nl_IN, nl_NI, may_okU, may_noU, z_up_at, z_up_i, z_up_r, ↓reduceIte, ↓z_letE, ↓z_bdE, nn_l2, nn_add, nn_mul, nn_sub, nn_addM, nn_div, nn_rem, nn_min, nn_max, nn_abs, nn_ltT, nn_ltF, nn_leT, nn_leF, nn_eqT, nn_eqF, nn_eqM, nn_Meq, nn_ltM, nn_Mlt, nn_leM, nn_Mle, z_ix_nn, z_inb_nn, F_at_nn, F_put_nn, Nat.zero_add, Nat.add_zero, z_P_some, z_R_some, z_P_bd]
    refine z_R_take hN hB hK (fun G2 hA => ?_)
    have q20 := hA.1.2.2.1.2.1
    have hmm : ∀ a b, a < pe → b < pe → ∃ r, F_X11_mayBeTheirs (nn a) (nn b) G2 = some r ∧ F_X0_mayBear (F_X9_has 3 (nn a) (nn 0) D) (F_X9_has 3 (nn b) (nn 0) D) D = r ∧ (r = nn 0 ∨ r = nn 1) := fun a b ha hb => AT_may hB hK hA ha hb
    have hbk := AT_bk hB hK hA
    obtain ⟨A1, A2, A3, A4, A5, A6⟩ := hA
    obtain ⟨sh, hsh⟩ := TR_sh A2
    have hL : ∀ d v : Nat, ∃ c : Nat, d < 3 → v < 10 → F_X0_left N 3 (nn pe) (nn d) (nn v) D = some (nn c) ∧ F_X11_leftBy N (nn d) (nn v) G2 = some (nn c) ∧ c ≤ 64 := fun d v => by
      by_cases hd : d < 3
      · by_cases hv : v < 10
        · obtain ⟨a, c, m1, m2, rfl, k, hk, rfl⟩ := left_R (d := d) (v := v) (sh := sh) hN hpe (by omega) q20 (fun a ha => by
            obtain ⟨h1, h2, h3, h4, h5⟩ := hsh a ha
            have h3d : d = 0 ∨ d = 1 ∨ d = 2 := by omega
            rcases h3d with rfl | rfl | rfl
            · exact ⟨h1, by simp (disch := omega) only [F_X9_has, ↓reduceIte, ↓z_letE, ↓z_bdE, nn_l2, nn_add, nn_mul, nn_sub, nn_addM, nn_div, nn_rem, nn_min, nn_max, nn_abs, nn_ltT, nn_ltF, nn_leT, nn_leF, nn_eqT, nn_eqF, nn_eqM, nn_Meq, nn_ltM, nn_Mlt, nn_leM, nn_Mle, z_ix_nn, z_inb_nn, F_at_nn, F_put_nn, Nat.zero_add, Nat.add_zero, z_P_some, z_R_some, z_P_bd]; exact h2, partOf_0 h1, by simp (disch := omega) only [F_X11_hasOf, h3, ↓reduceIte, ↓z_letE, ↓z_bdE, nn_l2, nn_add, nn_mul, nn_sub, nn_addM, nn_div, nn_rem, nn_min, nn_max, nn_abs, nn_ltT, nn_ltF, nn_leT, nn_leF, nn_eqT, nn_eqF, nn_eqM, nn_Meq, nn_ltM, nn_Mlt, nn_leM, nn_Mle, z_ix_nn, z_inb_nn, F_at_nn, F_put_nn, Nat.zero_add, Nat.add_zero, z_P_some, z_R_some, z_P_bd]; rfl⟩
            · exact ⟨h1, by simp (disch := omega) only [F_X9_has, ↓reduceIte, ↓z_letE, ↓z_bdE, nn_l2, nn_add, nn_mul, nn_sub, nn_addM, nn_div, nn_rem, nn_min, nn_max, nn_abs, nn_ltT, nn_ltF, nn_leT, nn_leF, nn_eqT, nn_eqF, nn_eqM, nn_Meq, nn_ltM, nn_Mlt, nn_leM, nn_Mle, z_ix_nn, z_inb_nn, F_at_nn, F_put_nn, Nat.zero_add, Nat.add_zero, z_P_some, z_R_some, z_P_bd]; exact h2, partOf_1 h1, by simp (disch := omega) only [F_X11_hasOf, h4, ↓reduceIte, ↓z_letE, ↓z_bdE, nn_l2, nn_add, nn_mul, nn_sub, nn_addM, nn_div, nn_rem, nn_min, nn_max, nn_abs, nn_ltT, nn_ltF, nn_leT, nn_leF, nn_eqT, nn_eqF, nn_eqM, nn_Meq, nn_ltM, nn_Mlt, nn_leM, nn_Mle, z_ix_nn, z_inb_nn, F_at_nn, F_put_nn, Nat.zero_add, Nat.add_zero, z_P_some, z_R_some, z_P_bd]; rfl⟩
            · exact ⟨h1, by simp (disch := omega) only [F_X9_has, ↓reduceIte, ↓z_letE, ↓z_bdE, nn_l2, nn_add, nn_mul, nn_sub, nn_addM, nn_div, nn_rem, nn_min, nn_max, nn_abs, nn_ltT, nn_ltF, nn_leT, nn_leF, nn_eqT, nn_eqF, nn_eqM, nn_Meq, nn_ltM, nn_Mlt, nn_leM, nn_Mle, z_ix_nn, z_inb_nn, F_at_nn, F_put_nn, Nat.zero_add, Nat.add_zero, z_P_some, z_R_some, z_P_bd]; exact h2, partOf_2 h1, by simp (disch := omega) only [F_X11_hasOf, h5, ↓reduceIte, ↓z_letE, ↓z_bdE, nn_l2, nn_add, nn_mul, nn_sub, nn_addM, nn_div, nn_rem, nn_min, nn_max, nn_abs, nn_ltT, nn_ltF, nn_leT, nn_leF, nn_eqT, nn_eqF, nn_eqM, nn_Meq, nn_ltM, nn_Mlt, nn_leM, nn_Mle, z_ix_nn, z_inb_nn, F_at_nn, F_put_nn, Nat.zero_add, Nat.add_zero, z_P_some, z_R_some, z_P_bd]; rfl⟩) hmm
          exact ⟨k, fun _ _ => ⟨m1, m2, hk⟩⟩
        · exact ⟨0, fun _ h => absurd h hv⟩
      · exact ⟨0, fun h => absurd h hd⟩
    obtain ⟨L, hL⟩ := Classical.axiomOfChoice (fun d => Classical.axiomOfChoice (hL d))
    have x0 := mostLeft_e (d := 0) (f := L 0) hN (fun v hv => ⟨(hL 0 v (by decide) hv).1, (hL 0 v (by decide) hv).2.2⟩)
    have x1 := mostLeft_e (d := 1) (f := L 1) hN (fun v hv => ⟨(hL 1 v (by decide) hv).1, (hL 1 v (by decide) hv).2.2⟩)
    have x2 := mostLeft_e (d := 2) (f := L 2) hN (fun v hv => ⟨(hL 2 v (by decide) hv).1, (hL 2 v (by decide) hv).2.2⟩)
    have m0 := mx_le (f := L 0) (n := 10) (fun v hv => (hL 0 v (by decide) hv).2.2) 10 (Nat.le_refl _)
    have m1 := mx_le (f := L 1) (n := 10) (fun v hv => (hL 1 v (by decide) hv).2.2) 10 (Nat.le_refl _)
    have m2 := mx_le (f := L 2) (n := 10) (fun v hv => (hL 2 v (by decide) hv).2.2) 10 (Nat.le_refl _)
    have hf0 : ∀ v, v < 10 → F_X11_leftBy N (nn 0) (nn v) G2 = some (nn (L 0 v)) ∧ L 0 v ≤ 64 := fun v hv => (hL 0 v (by decide) hv).2
    have hf1 : ∀ v, v < 10 → F_X11_leftBy N (nn 1) (nn v) G2 = some (nn (L 1 v)) ∧ L 1 v ≤ 64 := fun v hv => (hL 1 v (by decide) hv).2
    have hf2 : ∀ v, v < 10 → F_X11_leftBy N (nn 2) (nn v) G2 = some (nn (L 2 v)) ∧ L 2 v ≤ 64 := fun v hv => (hL 2 v (by decide) hv).2
    have e0 : z_loop (fun kc s => F_X11_look_L59xxx N (nn w) G2 kc s.1 s.2) N (nn 0, nn 0) = F_X11_look_J114xx N (nn w) (nn (mx (L 0) 10)) G2 := mostLoop (EX := fun m => F_X11_look_J114xx N (nn w) m G2) hf0 (fun _ _ _ => rfl) 10 0 N (by omega) (by omega)
    have e1 : ∀ v, z_loop (fun kc s => F_X11_look_L59xx N (nn w) v G2 kc s.1 s.2) N (nn 0, nn 0) = if nn (mx (L 1) 10) < v then F_X11_look_J114x N (nn w) (nn (mx (L 1) 10)) G2 else F_X11_look_J120xxxx N (nn w) v G2 := fun v => mostLoop (EX := fun m => if m < v then F_X11_look_J114x N (nn w) m G2 else F_X11_look_J120xxxx N (nn w) v G2) hf1 (fun _ _ _ => rfl) 10 0 N (by omega) (by omega)
    have e1x : z_loop (fun kc s => F_X11_look_L59xxxx N (nn w) G2 kc s.1 s.2) N (nn 0, nn 0) = F_X11_look_J114x N (nn w) (nn (mx (L 1) 10)) G2 := mostLoop (EX := fun m => F_X11_look_J114x N (nn w) m G2) hf1 (fun _ _ _ => rfl) 10 0 N (by omega) (by omega)
    have e2 : ∀ v, z_loop (fun kc s => F_X11_look_L59 N (nn w) v G2 kc s.1 s.2) N (nn 0, nn 0) = if nn (mx (L 2) 10) < v then F_X11_look_J114 (nn w) (nn (mx (L 2) 10)) G2 else F_X11_look_J120x (nn w) v G2 := fun v => mostLoop (EX := fun m => if m < v then F_X11_look_J114 (nn w) m G2 else F_X11_look_J120x (nn w) v G2) hf2 (fun _ _ _ => rfl) 10 0 N (by omega) (by omega)
    have e2x : ∀ v, z_loop (fun kc s => F_X11_look_L59x N (nn w) v G2 kc s.1 s.2) N (nn 0, nn 0) = if nn (mx (L 2) 10) < v then F_X11_look_J114 (nn w) (nn (mx (L 2) 10)) G2 else F_X11_look_J120xxx (nn w) v G2 := fun v => mostLoop (EX := fun m => if m < v then F_X11_look_J114 (nn w) m G2 else F_X11_look_J120xxx (nn w) v G2) hf2 (fun _ _ _ => rfl) 10 0 N (by omega) (by omega)
    have e2y : z_loop (fun kc s => F_X11_look_L59xxxxx N (nn w) G2 kc s.1 s.2) N (nn 0, nn 0) = F_X11_look_J114 (nn w) (nn (mx (L 2) 10)) G2 := mostLoop (EX := fun m => F_X11_look_J114 (nn w) m G2) hf2 (fun _ _ _ => rfl) 10 0 N (by omega) (by omega)
    generalize mx (L 0) 10 = M0 at *
    generalize mx (L 1) 10 = M1 at *
    generalize mx (L 2) 10 = M2 at *
    have b0 := hbk 0 (by decide)
    have b1 := hbk 1 (by decide)
    have b2 := hbk 2 (by decide)
    have h2 : w = 0 ∨ w = 1 := by omega
    rcases h2 with rfl | rfl <;> by_cases t0 : G2 61 0 = -nn 1 <;> by_cases t1 : G2 61 1 = -nn 1 <;> by_cases t2 : G2 61 2 = -nn 1 <;> by_cases l1 : M0 ≤ M1 <;> by_cases l2 : M0 ≤ M2 <;> by_cases l3 : M1 ≤ M2
    all_goals
      first
      | (exfalso; omega)
      | skip
    all_goals
      simp (disch := omega) only [F_X10_look_J25, F_X10_look_J82, F_X10_look_J25x, F_X10_look_J82x, F_X10_look_J76, F_X10_look_J25xx, F_X10_look_J82xx, F_X10_look_J25xxx, F_X10_look_J82xxx, F_X10_look_J25xxxx, F_X10_look_J82xxxx, F_X10_look_J76x, F_X10_look_J25xxxxx, F_X10_look_J82xxxxx, F_X10_look_J76xx, F_X10_look_J25xxxxxx, F_X10_look_J82xxxxxx, F_X10_look_J25xxxxxxx, F_X10_look_J82xxxxxxx, F_X10_look_J25xxxxxxxx, F_X10_look_J82xxxxxxxx, F_X10_look_J25xxxxxxxxx, F_X0_tells, b0, b1, b2, t0, t1, t2, c6, x0, x1, x2, e0, e1, e1x, e2, e2x, e2y, F_X11_look_J33, F_X11_look_J120, F_X11_look_J114, F_X11_look_J33x, F_X11_look_J120x, F_X11_look_J33xx, F_X11_look_J120xx, F_X11_look_J114x, F_X11_look_J33xxx, F_X11_look_J120xxx, F_X11_look_J33xxxx, F_X11_look_J120xxxx, F_X11_look_J33xxxxx, F_X11_look_J120xxxxx, F_X11_look_J114xx, F_X11_look_J33xxxxxx, F_X11_look_J120xxxxxx, F_X11_look_J33xxxxxxx, F_X11_look_J120xxxxxxx, F_X11_look_J33xxxxxxxx, F_X11_look_J120xxxxxxxx, F_X11_look_J33xxxxxxxxx, ↓reduceIte, ↓z_letE, ↓z_bdE, nn_l2, nn_add, nn_mul, nn_sub, nn_addM, nn_div, nn_rem, nn_min, nn_max, nn_abs, nn_ltT, nn_ltF, nn_leT, nn_leF, nn_eqT, nn_eqF, nn_eqM, nn_Meq, nn_ltM, nn_Mlt, nn_leM, nn_Mle, z_ix_nn, z_inb_nn, F_at_nn, F_put_nn, Nat.zero_add, Nat.add_zero, z_P_some, z_R_some, z_P_bd]
      exact ⟨_, _, rfl, KA.rf, rfl, A4, A5, A6⟩
  · refine TOP_t (c := 1) (k := 1) hJ (by decide) (by decide) (by decide) ?_ (fun G hG => ?_)
    · rcases h with h | h
      · simp (disch := omega) only [F_L_look, F_X10_look, F_X10_look_J14, F_X10_look_J15, h, dem_ok, dem_no, demT_ok, demT_no, z_bt_l, z_bt_r, z_try_l, z_try_r, nl_I, nl_N, nl_IN, nl_NI, may_okU, may_noU, z_up_at, z_up_i, z_up_r, ↓reduceIte, ↓z_letE, ↓z_bdE, nn_l2, nn_add, nn_mul, nn_sub, nn_addM, nn_div, nn_rem, nn_min, nn_max, nn_abs, nn_ltT, nn_ltF, nn_leT, nn_leF, nn_eqT, nn_eqF, nn_eqM, nn_Meq, nn_ltM, nn_Mlt, nn_leM, nn_Mle, z_ix_nn, z_inb_nn, F_at_nn, F_put_nn, Nat.zero_add, Nat.add_zero, z_P_some, z_R_some, z_P_bd]
      · simp (disch := omega) only [F_L_look, F_X10_look, F_X10_look_J14, F_X10_look_J15, h.1, h.2, dem_ok, dem_no, demT_ok, demT_no, z_bt_l, z_bt_r, z_try_l, z_try_r, nl_I, nl_N, nl_IN, nl_NI, may_okU, may_noU, z_up_at, z_up_i, z_up_r, ↓reduceIte, ↓z_letE, ↓z_bdE, nn_l2, nn_add, nn_mul, nn_sub, nn_addM, nn_div, nn_rem, nn_min, nn_max, nn_abs, nn_ltT, nn_ltF, nn_leT, nn_leF, nn_eqT, nn_eqF, nn_eqM, nn_Meq, nn_ltM, nn_Mlt, nn_leM, nn_Mle, z_ix_nn, z_inb_nn, F_at_nn, F_put_nn, Nat.zero_add, Nat.add_zero, z_P_some, z_R_some, z_P_bd]
    · simp (disch := omega) only [F_X11_look, ew, dem_ok, dem_no, demT_ok, demT_no, z_bt_l, z_bt_r, z_try_l, z_try_r, nl_I, nl_N, nl_IN, nl_NI, may_okU, may_noU, z_up_at, z_up_i, z_up_r, ↓reduceIte, ↓z_letE, ↓z_bdE, nn_l2, nn_add, nn_mul, nn_sub, nn_addM, nn_div, nn_rem, nn_min, nn_max, nn_abs, nn_ltT, nn_ltF, nn_leT, nn_leF, nn_eqT, nn_eqF, nn_eqM, nn_Meq, nn_ltM, nn_Mlt, nn_leM, nn_Mle, z_ix_nn, z_inb_nn, F_at_nn, F_put_nn, Nat.zero_add, Nat.add_zero, z_P_some, z_R_some, z_P_bd]
