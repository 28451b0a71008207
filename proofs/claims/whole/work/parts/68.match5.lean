/-! ===== who is to marry whom: both tables whole ===== -/
theorem pow_8 {pe : Nat} (hpe : pe ≤ 8) : 2 ^ pe ≤ 256 := Nat.le_trans (Nat.pow_le_pow_right (by decide) hpe) (by decide)
set_option maxHeartbeats 4000000 in
theorem table_P {N o pe : Nat} {E0 : z_Dat} {ok : Nat → Nat → Bool} {w : Nat → Nat → Nat} {K X : Nat → Nat} {Q : z_Dat → Prop} (hN : 2000 < N) (ho : o = 34 ∨ 68 ≤ o) (hpe : pe ≤ 8) (c6 : E0 o 6 = nn pe) (hw : ∀ a b, ok a b = true → a < 8 → b < 8 → w a b ≤ 6) (hM : MW pe ok w K X) (h29 : E0 29 0 = nn 0) (hG : ∀ a b, a < pe → b < pe → E0 30 (a * 8 + b) = nn (gn ok w a b))
    (hQ : ∀ E, Fr 29 E0 E → E 29 0 = nn 0 → (∀ t, t < 2 ^ pe → E 29 t = nn (100 * K t - X t)) → z_P (F_X2_choose N (nn pe) (nn (2 ^ pe - 1)) E) (fun F => z_P (F_X2_sumUp N 3 (F o 6) F) Q)) : z_P (z_loop (fun kc6 s => F_X2_arrange_L18 N o 3 (nn (2 ^ pe - 1)) kc6 s.1 s.2) N (nn 1, E0)) Q := by
  have hp := pow_8 hpe
  have hp0 : 0 < 2 ^ pe := Nat.pow_pos (by decide)
  refine z_P_loop (fun k t => ∃ s, s + k = 2 ^ pe ∧ 1 ≤ s ∧ t.1 = nn s ∧ Fr 29 E0 t.2 ∧ ∀ u, u < s → t.2 29 u = nn (100 * K u - X u)) ?_ (2 ^ pe - 1) N _ (by omega) ⟨1, by omega, by omega, rfl, Fr.rf, fun u hu => by
    have e : u = 0 := by omega
    subst e
    rw [hM.1, hM.2.1]
    exact h29⟩
  rintro k ⟨v, E⟩ kc ⟨s, hk, h1s, rfl, hF, hE⟩ ih
  dsimp only at hF hE ⊢
  have e6 : E o 6 = nn pe := by rw [hF o (by omega)]; exact c6
  by_cases hs : s < 2 ^ pe
  · obtain ⟨a, g1, g2, g3⟩ := least_bt hpe hs (by omega)
    have e := bestOf_e (N := N) (E := E) (by omega) hpe hs g1 g2 g3 hw hM hE (fun a b q1 q2 => by rw [hF 30 (by decide)]; exact hG a b q1 q2)
    simp (disch := omega) only [F_X2_arrange_L18, e6, e, ↓reduceIte, ↓z_letE, ↓z_bdE, nn_l2, nn_add, nn_mul, nn_sub, nn_addM, nn_div, nn_rem, nn_min, nn_max, nn_abs, nn_ltT, nn_ltF, nn_leT, nn_leF, nn_eqT, nn_eqF, nn_eqM, nn_Meq, nn_ltM, nn_Mlt, nn_leM, nn_Mle, z_ix_nn, z_inb_nn, F_at_nn, F_put_nn, Nat.zero_add, Nat.add_zero, z_P_some, z_R_some, z_P_bd]
    refine ih (k - 1) _ (by omega) ⟨s + 1, by omega, by omega, rfl, Fr.up hF, fun u hu => ?_⟩
    dsimp only
    by_cases eu : u = s
    · subst eu
      exact z_up_at rfl rfl
    · rw [z_up_i eu]
      exact hE u (by omega)
  · have es : s = 2 ^ pe := by omega
    subst es
    have hh := hQ E hF (by rw [hE 0 (by omega), hM.1, hM.2.1]) hE
    simp (disch := omega) only [F_X2_arrange_L18, e6, ↓reduceIte, ↓z_letE, ↓z_bdE, nn_l2, nn_add, nn_mul, nn_sub, nn_addM, nn_div, nn_rem, nn_min, nn_max, nn_abs, nn_ltT, nn_ltF, nn_leT, nn_leF, nn_eqT, nn_eqF, nn_eqM, nn_Meq, nn_ltM, nn_Mlt, nn_leM, nn_Mle, z_ix_nn, z_inb_nn, F_at_nn, F_put_nn, Nat.zero_add, Nat.add_zero, z_P_some, z_R_some, z_P_bd]
    exact hh
theorem cd_sub : ∀ u, u < 1000000 → nn u - nn 1 = cd u
  | 0, _ => by decide
  | u + 1, h => by
    show nn (u + 1) - nn 1 = nn u
    simp (disch := omega) only [nn_sub]
    congr 1
theorem firstOut_e {N pe d a : Nat} (hN : 200 < N) (hpe : pe ≤ 8) (hd : d < 256) (ha : a < pe) (h1 : bt d a = 0) (h0 : ∀ c, c < a → bt d c = 1) : F_X11_firstOut N (nn d) = some (nn a) := by
  unfold F_X11_firstOut
  refine find_loop (b0 := a) (fun kc b hb => ?_) (fun kc => ?_) a 0 N (by omega) (by omega)
  · have e := bit_m d hd b (by omega)
    rw [h0 b hb] at e
    simp (disch := omega) only [F_X11_firstOut_L2, e, ↓reduceIte, ↓z_letE, ↓z_bdE, nn_l2, nn_add, nn_mul, nn_sub, nn_addM, nn_div, nn_rem, nn_min, nn_max, nn_abs, nn_ltT, nn_ltF, nn_leT, nn_leF, nn_eqT, nn_eqF, nn_eqM, nn_Meq, nn_ltM, nn_Mlt, nn_leM, nn_Mle, z_ix_nn, z_inb_nn, F_at_nn, F_put_nn, Nat.zero_add, Nat.add_zero, z_P_some, z_R_some, z_P_bd]
  · have e := bit_m d hd a (by omega)
    rw [h1] at e
    simp (disch := omega) only [F_X11_firstOut_L2, e, ↓reduceIte, ↓z_letE, ↓z_bdE, nn_l2, nn_add, nn_mul, nn_sub, nn_addM, nn_div, nn_rem, nn_min, nn_max, nn_abs, nn_ltT, nn_ltF, nn_leT, nn_leF, nn_eqT, nn_eqF, nn_eqM, nn_Meq, nn_ltM, nn_Mlt, nn_leM, nn_Mle, z_ix_nn, z_inb_nn, F_at_nn, F_put_nn, Nat.zero_add, Nat.add_zero, z_P_some, z_R_some, z_P_bd]
theorem st_cl {pe s b : Nat} (hpe : pe ≤ 8) (hs : s < 2 ^ pe) (hb : b < pe) (h : bt s b = 1) : st (2 ^ pe - 1 - s) b = 2 ^ pe - 1 - cl s b := by
  have hp := pow_8 hpe
  have h1 := cmp_m pe (by omega) s hs b hb
  have h2 := bt_le s (by omega) b (by omega) h
  have h3 : 0 < 2 ^ b := Nat.pow_pos (by decide)
  unfold st cl
  rw [if_neg (by omega), if_pos h]
  omega
set_option maxHeartbeats 8000000 in
theorem mtable_P {N pe : Nat} {E0 : z_Dat} {ok : Nat → Nat → Bool} {w : Nat → Nat → Nat} {K X : Nat → Nat} {Q : z_Dat → Prop} (hN : 2000 < N) (hpe : pe ≤ 8) (k20 : E0 40 20 = nn pe) (hw : ∀ a b, ok a b = true → a < 8 → b < 8 → w a b ≤ 6) (hM : MW pe ok w K X) (h64 : E0 64 (2 ^ pe - 1) = nn 0) (hG : ∀ E : z_Dat, Fr 64 E0 E → ∀ a b, a < pe → b < pe → F_X11_mayMatch (nn a) (nn b) E = some (nn (if ok a b then 1 else 0)) ∧ F_X11_worthOf (nn a) (nn b) E = some (nn (1000 - w a b)))
    (hQ : ∀ E, Fr 64 E0 E → (∀ t, t < 2 ^ pe → E 64 (2 ^ pe - 1 - t) = nn (1000 * K t - X t)) → z_P (z_loop (fun kc12 s => F_X11_findMatch_L145 N (nn (2 ^ pe - 1)) kc12 s.1 s.2) N (nn 0, E)) Q) : z_P (z_loop (fun kc8 s => F_X11_findMatch_L24 N (nn (2 ^ pe - 1)) kc8 s.1 s.2) N (cd (2 ^ pe - 1), E0)) Q := by
  have hp := pow_8 hpe
  have hp0 : 0 < 2 ^ pe := Nat.pow_pos (by decide)
  have hMl := MW_le hpe hw hM
  refine z_P_loop (fun k t => ∃ s, s + k = 2 ^ pe ∧ 1 ≤ s ∧ t.1 = cd k ∧ Fr 64 E0 t.2 ∧ ∀ u, u < s → t.2 64 (2 ^ pe - 1 - u) = nn (1000 * K u - X u)) ?_ (2 ^ pe - 1) N _ (by omega) ⟨1, by omega, by omega, rfl, Fr.rf, fun u hu => by
    have e : u = 0 := by omega
    subst e
    rw [hM.1, hM.2.1]
    exact h64⟩
  rintro k ⟨v, E⟩ kc ⟨s, hk, h1s, rfl, hF, hE⟩ ih
  dsimp only at hF hE ⊢
  cases k with
  | zero =>
    have ec : cd 0 = -nn 1 := rfl
    have es : s = 2 ^ pe := by omega
    subst es
    have hh := hQ E hF hE
    simp (disch := omega) only [F_X11_findMatch_L24, ec, ↓reduceIte, ↓z_letE, ↓z_bdE, nn_l2, nn_add, nn_mul, nn_sub, nn_addM, nn_div, nn_rem, nn_min, nn_max, nn_abs, nn_ltT, nn_ltF, nn_leT, nn_leF, nn_eqT, nn_eqF, nn_eqM, nn_Meq, nn_ltM, nn_Mlt, nn_leM, nn_Mle, z_ix_nn, z_inb_nn, F_at_nn, F_put_nn, Nat.zero_add, Nat.add_zero, z_P_some, z_R_some, z_P_bd]
    exact hh
  | succ d =>
    have ec : cd (d + 1) = nn d := rfl
    have ed : d = 2 ^ pe - 1 - s := by omega
    have dc := cd_dec d (by omega)
    have hs : s < 2 ^ pe := by omega
    obtain ⟨a, g1, g2, g3⟩ := least_bt hpe hs (by omega)
    have eF : F_X11_firstOut N (nn d) = some (nn a) := firstOut_e (by omega) hpe (by omega) g1 (by
      have := cmp_m pe (by omega) s hs a g1
      rw [ed]; omega) (fun c hc => by
      have h1 := cmp_m pe (by omega) s hs c (by omega)
      have h2 := g3 c hc
      rw [ed]; omega)
    have e1 : nn d ||| z_shl (nn 1) (nn a) = nn (2 ^ pe - 1 - cl s a) := by
      rw [set_m d (by omega) a (by omega), ed, st_cl hpe hs g1 g2]
    have hcl := cl_lt (s := s) (by omega) (by omega) g2
    have e64 := hE _ hcl
    have e20 : E 40 20 = nn pe := by rw [hF 40 (by decide)]; exact k20
    simp (disch := omega) only [F_X11_findMatch_L24, ec, eF, e1, e64, ↓reduceIte, ↓z_letE, ↓z_bdE, nn_l2, nn_add, nn_mul, nn_sub, nn_addM, nn_div, nn_rem, nn_min, nn_max, nn_abs, nn_ltT, nn_ltF, nn_leT, nn_leF, nn_eqT, nn_eqF, nn_eqM, nn_Meq, nn_ltM, nn_Mlt, nn_leM, nn_Mle, z_ix_nn, z_inb_nn, F_at_nn, F_put_nn, Nat.zero_add, Nat.add_zero, z_P_some, z_R_some, z_P_bd]
    refine z_P_loop (fun k t => ∃ j, j + k = pe - a - 1 ∧ t.1 = nn (1000 * (bs K X ok w (cl s a) a j).1 - (bs K X ok w (cl s a) a j).2) ∧ t.2 = nn (a + 1 + j)) ?_ (pe - a - 1) N _ (by omega) ⟨0, by omega, rfl, rfl⟩
    rintro k ⟨v50, v51⟩ kd ⟨j, hj2, rfl, rfl⟩ ih2
    dsimp only
    by_cases hj : j < pe - a - 1
    · have hb := bs_le (r := cl s a) (a := a) (n := pe - a - 1) (K := K) (X := X) (ok := ok) (w := w) (by omega) (by omega) (fun b q1 q2 => hw a b q1 (by omega) q2) (fun t ht => hMl t (by omega)) j (by omega)
      have hpc := @pc_le (cl s a)
      have hcb : bt (cl s a) (a + 1 + j) = bt s (a + 1 + j) := by
        rw [cl_bt s (by omega) a (by omega) (a + 1 + j) (by omega), if_neg (by omega)]
      have hcm := cmp_m pe (by omega) s hs (a + 1 + j) (by omega)
      rw [← ed] at hcm
      have eI := bit_m d (by omega) (a + 1 + j) (by omega)
      obtain ⟨eG, eW⟩ := hG E hF a (a + 1 + j) g1 (by omega)
      have eb : bs K X ok w (cl s a) a (j + 1) = if bt (cl s a) (a + 1 + j) = 1 ∧ ok a (a + 1 + j) = true ∧ ((bs K X ok w (cl s a) a j).1 < K (cl (cl s a) (a + 1 + j)) + 1 ∨ ((bs K X ok w (cl s a) a j).1 = K (cl (cl s a) (a + 1 + j)) + 1 ∧ X (cl (cl s a) (a + 1 + j)) + w a (a + 1 + j) < (bs K X ok w (cl s a) a j).2)) then (K (cl (cl s a) (a + 1 + j)) + 1, X (cl (cl s a) (a + 1 + j)) + w a (a + 1 + j)) else bs K X ok w (cl s a) a j := rfl
      have nx : ∀ x : Int32, x = nn (1000 * (bs K X ok w (cl s a) a (j + 1)).1 - (bs K X ok w (cl s a) a (j + 1)).2) → z_P (kd (x, nn (a + 1 + j + 1))) Q := fun x hx => ih2 (k - 1) _ (by omega) ⟨j + 1, by omega, hx, rfl⟩
      have hbk : bt (cl s a) (a + 1 + j) = 0 ∨ bt (cl s a) (a + 1 + j) = 1 := bt_01
      rcases hbk with hbt | hbt
      · rw [show bt d (a + 1 + j) = 1 from by omega] at eI
        simp (disch := omega) only [F_X11_findMatch_L50, e20, eI, ↓reduceIte, ↓z_letE, ↓z_bdE, nn_l2, nn_add, nn_mul, nn_sub, nn_addM, nn_div, nn_rem, nn_min, nn_max, nn_abs, nn_ltT, nn_ltF, nn_leT, nn_leF, nn_eqT, nn_eqF, nn_eqM, nn_Meq, nn_ltM, nn_Mlt, nn_leM, nn_Mle, z_ix_nn, z_inb_nn, F_at_nn, F_put_nn, Nat.zero_add, Nat.add_zero, z_P_some, z_R_some, z_P_bd]
        exact nx _ (by rw [eb, if_neg (by omega)])
      · rw [show bt d (a + 1 + j) = 0 from by omega] at eI
        cases hok : ok a (a + 1 + j) with
        | false =>
          rw [hok, if_neg Bool.false_ne_true] at eG
          simp (disch := omega) only [F_X11_findMatch_L50, e20, eI, eG, ↓reduceIte, ↓z_letE, ↓z_bdE, nn_l2, nn_add, nn_mul, nn_sub, nn_addM, nn_div, nn_rem, nn_min, nn_max, nn_abs, nn_ltT, nn_ltF, nn_leT, nn_leF, nn_eqT, nn_eqF, nn_eqM, nn_Meq, nn_ltM, nn_Mlt, nn_leM, nn_Mle, z_ix_nn, z_inb_nn, F_at_nn, F_put_nn, Nat.zero_add, Nat.add_zero, z_P_some, z_R_some, z_P_bd]
          exact nx _ (by rw [eb, hok, if_neg (fun q => Bool.false_ne_true q.2.1)])
        | true =>
          have hw6 := hw a (a + 1 + j) hok (by omega) (by omega)
          rw [hok, if_pos rfl] at eG
          have hc2 := cl_lt (s := cl s a) (by omega) (by omega) hbt
          have hv := hMl (cl (cl s a) (a + 1 + j)) (by omega)
          have hpv := pc_m (cl s a) (by omega) (a + 1 + j) (by omega) hbt
          have e2 : nn (2 ^ pe - 1 - cl s a) ||| z_shl (nn 1) (nn (a + 1 + j)) = nn (2 ^ pe - 1 - cl (cl s a) (a + 1 + j)) := by
            rw [set_m _ (by omega) _ (by omega), st_cl hpe (by omega) (by omega) hbt]
          have eL2 := hE (cl (cl s a) (a + 1 + j)) (by omega)
          by_cases hle : 1000 - w a (a + 1 + j) + (1000 * K (cl (cl s a) (a + 1 + j)) - X (cl (cl s a) (a + 1 + j))) ≤ 1000 * (bs K X ok w (cl s a) a j).1 - (bs K X ok w (cl s a) a j).2
          · simp (disch := omega) only [F_X11_findMatch_L50, e20, eI, eG, eW, e1, e2, eL2, ↓reduceIte, ↓z_letE, ↓z_bdE, nn_l2, nn_add, nn_mul, nn_sub, nn_addM, nn_div, nn_rem, nn_min, nn_max, nn_abs, nn_ltT, nn_ltF, nn_leT, nn_leF, nn_eqT, nn_eqF, nn_eqM, nn_Meq, nn_ltM, nn_Mlt, nn_leM, nn_Mle, z_ix_nn, z_inb_nn, F_at_nn, F_put_nn, Nat.zero_add, Nat.add_zero, z_P_some, z_R_some, z_P_bd]
            refine nx _ ?_
            rw [eb, if_neg]
            omega
          · simp (disch := omega) only [F_X11_findMatch_L50, e20, eI, eG, eW, e1, e2, eL2, ↓reduceIte, ↓z_letE, ↓z_bdE, nn_l2, nn_add, nn_mul, nn_sub, nn_addM, nn_div, nn_rem, nn_min, nn_max, nn_abs, nn_ltT, nn_ltF, nn_leT, nn_leF, nn_eqT, nn_eqF, nn_eqM, nn_Meq, nn_ltM, nn_Mlt, nn_leM, nn_Mle, z_ix_nn, z_inb_nn, F_at_nn, F_put_nn, Nat.zero_add, Nat.add_zero, z_P_some, z_R_some, z_P_bd]
            refine nx _ ?_
            rw [eb, if_pos ⟨hbt, hok, by omega⟩]
            congr 1
            dsimp only
            omega
    · have ej : j = pe - a - 1 := by omega
      subst ej
      simp (disch := omega) only [F_X11_findMatch_L50, e20, dc, ↓reduceIte, ↓z_letE, ↓z_bdE, nn_l2, nn_add, nn_mul, nn_sub, nn_addM, nn_div, nn_rem, nn_min, nn_max, nn_abs, nn_ltT, nn_ltF, nn_leT, nn_leF, nn_eqT, nn_eqF, nn_eqM, nn_Meq, nn_ltM, nn_Mlt, nn_leM, nn_Mle, z_ix_nn, z_inb_nn, F_at_nn, F_put_nn, Nat.zero_add, Nat.add_zero, z_P_some, z_R_some, z_P_bd]
      refine ih d _ (by omega) ⟨s + 1, by omega, by omega, rfl, Fr.up hF, fun u hu => ?_⟩
      dsimp only
      by_cases eu : u = s
      · subst eu
        rw [ed, z_up_at rfl rfl, ← hM.2.2 u hs a g1 g2 g3]
      · rw [z_up_i (by omega)]
        exact hE u (by omega)
