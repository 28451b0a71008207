/-! ===== who is to marry whom: the program's table ===== -/
def gn (ok : Nat → Nat → Bool) (w : Nat → Nat → Nat) (a b : Nat) : Nat := if ok a b then 100 - w a b else 0
theorem isIn_e {s b : Nat} (hs : s < 256) (hb : b < 8) : F_X2_isIn (nn s) (nn b) = nn (bt s b) := by
  have e := bit_m s hs b hb
  rcases @bt_01 s b with h | h
  · rw [h] at e ⊢
    simp (disch := omega) only [F_X2_isIn, e, ↓reduceIte, ↓z_letE, ↓z_bdE, nn_l2, nn_add, nn_mul, nn_sub, nn_addM, nn_div, nn_rem, nn_min, nn_max, nn_abs, nn_ltT, nn_ltF, nn_leT, nn_leF, nn_eqT, nn_eqF, nn_eqM, nn_Meq, nn_ltM, nn_Mlt, nn_leM, nn_Mle, z_ix_nn, z_inb_nn, F_at_nn, F_put_nn, Nat.zero_add, Nat.add_zero, z_P_some, z_R_some, z_P_bd]
  · rw [h] at e ⊢
    simp (disch := omega) only [F_X2_isIn, e, ↓reduceIte, ↓z_letE, ↓z_bdE, nn_l2, nn_add, nn_mul, nn_sub, nn_addM, nn_div, nn_rem, nn_min, nn_max, nn_abs, nn_ltT, nn_ltF, nn_leT, nn_leF, nn_eqT, nn_eqF, nn_eqM, nn_Meq, nn_ltM, nn_Mlt, nn_leM, nn_Mle, z_ix_nn, z_inb_nn, F_at_nn, F_put_nn, Nat.zero_add, Nat.add_zero, z_P_some, z_R_some, z_P_bd]
set_option maxHeartbeats 4000000 in
theorem weigh_P {N o pe : Nat} {D : z_Dat} {ok : Nat → Nat → Bool} {w : Nat → Nat → Nat} (hN : 200 < N) (ho : o = 34 ∨ 68 ≤ o) (hpe : pe ≤ 8) (c6 : D o 6 = nn pe) (hg : ∀ E : z_Dat, E 4 = D 4 → E (o + 3) = D (o + 3) → ∀ a b, a < pe → b < pe → F_X2_gainOf o 3 (nn a) (nn b) E = nn (gn ok w a b)) :
    z_P (F_X2_weighAll N o 3 D) (fun E => Fr 30 D E ∧ ∀ a b, a < pe → b < pe → E 30 (a * 8 + b) = nn (gn ok w a b)) := by
  unfold F_X2_weighAll
  refine z_P_loop (fun k s => ∃ a, a + k = pe ∧ s.1 = nn a ∧ Fr 30 D s.2 ∧ ∀ a' b, a' < a → b < pe → s.2 30 (a' * 8 + b) = nn (gn ok w a' b)) ?_ pe N _ (by omega) ⟨0, by omega, rfl, Fr.rf, fun _ _ h => by omega⟩
  rintro k ⟨v1, E⟩ kc ⟨a, hk, rfl, hF, hE⟩ ih
  dsimp only at hF hE ⊢
  have e6 : E o 6 = nn pe := by rw [hF o (by omega)]; exact c6
  by_cases ha : a < pe
  · simp (disch := omega) only [F_X2_weighAll_L2, e6, ↓reduceIte, ↓z_letE, ↓z_bdE, nn_l2, nn_add, nn_mul, nn_sub, nn_addM, nn_div, nn_rem, nn_min, nn_max, nn_abs, nn_ltT, nn_ltF, nn_leT, nn_leF, nn_eqT, nn_eqF, nn_eqM, nn_Meq, nn_ltM, nn_Mlt, nn_leM, nn_Mle, z_ix_nn, z_inb_nn, F_at_nn, F_put_nn, Nat.zero_add, Nat.add_zero, z_P_some, z_R_some, z_P_bd]
    refine z_P_loop (fun j s => ∃ b, b + j = pe ∧ s.1 = nn b ∧ Fr 30 D s.2 ∧ (∀ a' b, a' < a → b < pe → s.2 30 (a' * 8 + b) = nn (gn ok w a' b)) ∧ ∀ b', b' < b → s.2 30 (a * 8 + b') = nn (gn ok w a b')) ?_ pe N _ (by omega) ⟨0, by omega, rfl, hF, hE, fun _ h => by omega⟩
    clear hE hF e6
    rintro j ⟨v2, E⟩ kd ⟨b, hj, rfl, hF, hE, hE2⟩ ih2
    dsimp only at hF hE hE2 ⊢
    have e6 : E o 6 = nn pe := by rw [hF o (by omega)]; exact c6
    by_cases hb : b < pe
    · have eg := hg E (hF 4 (by decide)) (hF _ (by omega)) a b ha hb
      simp (disch := omega) only [F_X2_weighAll_L13, e6, eg, ↓reduceIte, ↓z_letE, ↓z_bdE, nn_l2, nn_add, nn_mul, nn_sub, nn_addM, nn_div, nn_rem, nn_min, nn_max, nn_abs, nn_ltT, nn_ltF, nn_leT, nn_leF, nn_eqT, nn_eqF, nn_eqM, nn_Meq, nn_ltM, nn_Mlt, nn_leM, nn_Mle, z_ix_nn, z_inb_nn, F_at_nn, F_put_nn, Nat.zero_add, Nat.add_zero, z_P_some, z_R_some, z_P_bd]
      refine ih2 (j - 1) _ (by omega) ⟨b + 1, by omega, rfl, Fr.up hF, fun a' b' h1 h2 => ?_, fun b' h1 => ?_⟩
      · dsimp only
        rw [z_up_i (by omega)]
        exact hE a' b' h1 h2
      · dsimp only
        by_cases e : b' = b
        · subst e
          exact z_up_at rfl rfl
        · rw [z_up_i (by omega)]
          exact hE2 b' (by omega)
    · simp (disch := omega) only [F_X2_weighAll_L13, e6, ↓reduceIte, ↓z_letE, ↓z_bdE, nn_l2, nn_add, nn_mul, nn_sub, nn_addM, nn_div, nn_rem, nn_min, nn_max, nn_abs, nn_ltT, nn_ltF, nn_leT, nn_leF, nn_eqT, nn_eqF, nn_eqM, nn_Meq, nn_ltM, nn_Mlt, nn_leM, nn_Mle, z_ix_nn, z_inb_nn, F_at_nn, F_put_nn, Nat.zero_add, Nat.add_zero, z_P_some, z_R_some, z_P_bd]
      refine ih (k - 1) _ (by omega) ⟨a + 1, by omega, rfl, hF, fun a' b' h1 h2 => ?_⟩
      by_cases e : a' = a
      · subst e
        exact hE2 b' (by omega)
      · exact hE a' b' (by omega) h2
  · simp (disch := omega) only [F_X2_weighAll_L2, e6, ↓reduceIte, ↓z_letE, ↓z_bdE, nn_l2, nn_add, nn_mul, nn_sub, nn_addM, nn_div, nn_rem, nn_min, nn_max, nn_abs, nn_ltT, nn_ltF, nn_leT, nn_leF, nn_eqT, nn_eqF, nn_eqM, nn_Meq, nn_ltM, nn_Mlt, nn_leM, nn_Mle, z_ix_nn, z_inb_nn, F_at_nn, F_put_nn, Nat.zero_add, Nat.add_zero, z_P_some, z_R_some, z_P_bd]
    exact ⟨hF, fun a' b h1 h2 => hE a' b (by omega) h2⟩
theorem leastIn_e {N pe s a : Nat} (hN : 200 < N) (hpe : pe ≤ 8) (hs : s < 256) (ha : a < pe) (h1 : bt s a = 1) (h0 : ∀ c, c < a → bt s c = 0) : F_X2_leastIn N (nn pe) (nn s) = some (nn a) := by
  unfold F_X2_leastIn
  refine find_loop (b0 := a) (fun kc b hb => ?_) (fun kc => ?_) a 0 N (by omega) (by omega)
  · have e := isIn_e (s := s) (b := b) hs (by omega)
    rw [h0 b hb] at e
    simp (disch := omega) only [F_X2_leastIn_L2, e, ↓reduceIte, ↓z_letE, ↓z_bdE, nn_l2, nn_add, nn_mul, nn_sub, nn_addM, nn_div, nn_rem, nn_min, nn_max, nn_abs, nn_ltT, nn_ltF, nn_leT, nn_leF, nn_eqT, nn_eqF, nn_eqM, nn_Meq, nn_ltM, nn_Mlt, nn_leM, nn_Mle, z_ix_nn, z_inb_nn, F_at_nn, F_put_nn, Nat.zero_add, Nat.add_zero, z_P_some, z_R_some, z_P_bd]
  · have e := isIn_e (s := s) (b := a) hs (by omega)
    rw [h1] at e
    simp (disch := omega) only [F_X2_leastIn_L2, e, ↓reduceIte, ↓z_letE, ↓z_bdE, nn_l2, nn_add, nn_mul, nn_sub, nn_addM, nn_div, nn_rem, nn_min, nn_max, nn_abs, nn_ltT, nn_ltF, nn_leT, nn_leF, nn_eqT, nn_eqF, nn_eqM, nn_Meq, nn_ltM, nn_Mlt, nn_leM, nn_Mle, z_ix_nn, z_inb_nn, F_at_nn, F_put_nn, Nat.zero_add, Nat.add_zero, z_P_some, z_R_some, z_P_bd]
set_option maxHeartbeats 4000000 in
theorem bestOf_e {N pe s a : Nat} {E : z_Dat} {ok : Nat → Nat → Bool} {w : Nat → Nat → Nat} {K X : Nat → Nat} (hN : 200 < N) (hpe : pe ≤ 8) (hs : s < 2 ^ pe) (ha : a < pe) (h1 : bt s a = 1) (h0 : ∀ c, c < a → bt s c = 0) (hw : ∀ a b, ok a b = true → a < 8 → b < 8 → w a b ≤ 6) (hM : MW pe ok w K X)
    (hL : ∀ t, t < s → E 29 t = nn (100 * K t - X t)) (hG : ∀ a b, a < pe → b < pe → E 30 (a * 8 + b) = nn (gn ok w a b)) : F_X2_bestOf N (nn pe) (nn s) E = some (nn (100 * K s - X s)) := by
  have hp : 2 ^ pe ≤ 256 := Nat.le_trans (Nat.pow_le_pow_right (by decide) hpe) (by decide)
  have e0 := leastIn_e (N := N) hN hpe (by omega) ha h1 h0
  have ec := clr_m s (by omega) a (by omega)
  have hcl := cl_lt (s := s) (by omega) (by omega) h1
  have eL := hL _ hcl
  have hMl := MW_le hpe hw hM
  have h : z_P (F_X2_bestOf N (nn pe) (nn s) E) (fun x => x = nn (100 * K s - X s)) := by
    simp (disch := omega) only [F_X2_bestOf, e0, ec, eL, ↓reduceIte, ↓z_letE, ↓z_bdE, nn_l2, nn_add, nn_mul, nn_sub, nn_addM, nn_div, nn_rem, nn_min, nn_max, nn_abs, nn_ltT, nn_ltF, nn_leT, nn_leF, nn_eqT, nn_eqF, nn_eqM, nn_Meq, nn_ltM, nn_Mlt, nn_leM, nn_Mle, z_ix_nn, z_inb_nn, F_at_nn, F_put_nn, Nat.zero_add, Nat.add_zero, z_P_some, z_R_some, z_P_bd]
    refine z_P_loop (fun k t => ∃ j, j + k = pe - a - 1 ∧ t.1 = nn (100 * (bs K X ok w (cl s a) a j).1 - (bs K X ok w (cl s a) a j).2) ∧ t.2 = nn (a + 1 + j)) ?_ (pe - a - 1) N _ (by omega) ⟨0, by omega, rfl, rfl⟩
    rintro k ⟨v7, v8⟩ kc ⟨j, hk, rfl, rfl⟩ ih
    dsimp only
    by_cases hj : j < pe - a - 1
    · have hb := bs_le (r := cl s a) (a := a) (n := pe - a - 1) (K := K) (X := X) (ok := ok) (w := w) (by omega) (by omega) (fun b q1 q2 => hw a b q1 (by omega) q2) (fun t ht => hMl t (by omega)) j (by omega)
      have hpc := @pc_le (cl s a)
      have eI := isIn_e (s := cl s a) (b := a + 1 + j) (by omega) (by omega)
      have eG := hG a (a + 1 + j) ha (by omega)
      have eC := clr_m (cl s a) (by omega) (a + 1 + j) (by omega)
      have eb : bs K X ok w (cl s a) a (j + 1) = if bt (cl s a) (a + 1 + j) = 1 ∧ ok a (a + 1 + j) = true ∧ ((bs K X ok w (cl s a) a j).1 < K (cl (cl s a) (a + 1 + j)) + 1 ∨ ((bs K X ok w (cl s a) a j).1 = K (cl (cl s a) (a + 1 + j)) + 1 ∧ X (cl (cl s a) (a + 1 + j)) + w a (a + 1 + j) < (bs K X ok w (cl s a) a j).2)) then (K (cl (cl s a) (a + 1 + j)) + 1, X (cl (cl s a) (a + 1 + j)) + w a (a + 1 + j)) else bs K X ok w (cl s a) a j := rfl
      have nx : ∀ x : Int32, x = nn (100 * (bs K X ok w (cl s a) a (j + 1)).1 - (bs K X ok w (cl s a) a (j + 1)).2) → z_P (kc (x, nn (a + 1 + j + 1))) (fun x => x = nn (100 * K s - X s)) := fun x hx => ih (k - 1) _ (by omega) ⟨j + 1, by omega, hx, rfl⟩
      have hbk : bt (cl s a) (a + 1 + j) = 0 ∨ bt (cl s a) (a + 1 + j) = 1 := bt_01
      rcases hbk with hbt | hbt
      · rw [hbt] at eI
        simp (disch := omega) only [F_X2_bestOf_L31, eI, ↓reduceIte, ↓z_letE, ↓z_bdE, nn_l2, nn_add, nn_mul, nn_sub, nn_addM, nn_div, nn_rem, nn_min, nn_max, nn_abs, nn_ltT, nn_ltF, nn_leT, nn_leF, nn_eqT, nn_eqF, nn_eqM, nn_Meq, nn_ltM, nn_Mlt, nn_leM, nn_Mle, z_ix_nn, z_inb_nn, F_at_nn, F_put_nn, Nat.zero_add, Nat.add_zero, z_P_some, z_R_some, z_P_bd]
        exact nx _ (by rw [eb, if_neg (by omega)])
      · rw [hbt] at eI
        cases hok : ok a (a + 1 + j) with
        | false =>
          have eg0 : gn ok w a (a + 1 + j) = 0 := by unfold gn; rw [hok]; rfl
          rw [eg0] at eG
          simp (disch := omega) only [F_X2_bestOf_L31, F_X2_gain, eI, eG, ↓reduceIte, ↓z_letE, ↓z_bdE, nn_l2, nn_add, nn_mul, nn_sub, nn_addM, nn_div, nn_rem, nn_min, nn_max, nn_abs, nn_ltT, nn_ltF, nn_leT, nn_leF, nn_eqT, nn_eqF, nn_eqM, nn_Meq, nn_ltM, nn_Mlt, nn_leM, nn_Mle, z_ix_nn, z_inb_nn, F_at_nn, F_put_nn, Nat.zero_add, Nat.add_zero, z_P_some, z_R_some, z_P_bd]
          exact nx _ (by rw [eb, hok, if_neg (fun q => Bool.false_ne_true q.2.1)])
        | true =>
          have hw6 := hw a (a + 1 + j) hok (by omega) (by omega)
          have eg1 : gn ok w a (a + 1 + j) = 100 - w a (a + 1 + j) := by unfold gn; rw [hok]; rfl
          rw [eg1] at eG
          have hc2 := cl_lt (s := cl s a) (by omega) (by omega) hbt
          have hv := hMl (cl (cl s a) (a + 1 + j)) (by omega)
          have hpv := pc_m (cl s a) (by omega) (a + 1 + j) (by omega) hbt
          have eL2 := hL (cl (cl s a) (a + 1 + j)) (by omega)
          simp (disch := omega) only [F_X2_bestOf_L31, F_X2_gain, eI, eG, eC, eL2, ↓reduceIte, ↓z_letE, ↓z_bdE, nn_l2, nn_add, nn_mul, nn_sub, nn_addM, nn_div, nn_rem, nn_min, nn_max, nn_abs, nn_ltT, nn_ltF, nn_leT, nn_leF, nn_eqT, nn_eqF, nn_eqM, nn_Meq, nn_ltM, nn_Mlt, nn_leM, nn_Mle, z_ix_nn, z_inb_nn, F_at_nn, F_put_nn, Nat.zero_add, Nat.add_zero, z_P_some, z_R_some, z_P_bd]
          refine nx _ ?_
          rw [eb]
          split
          · rename_i hc
            have hc := hc.2.2
            congr 1
            dsimp only
            omega
          · rename_i hc
            have hc : ¬ ((bs K X ok w (cl s a) a j).1 < K (cl (cl s a) (a + 1 + j)) + 1 ∨ ((bs K X ok w (cl s a) a j).1 = K (cl (cl s a) (a + 1 + j)) + 1 ∧ X (cl (cl s a) (a + 1 + j)) + w a (a + 1 + j) < (bs K X ok w (cl s a) a j).2)) := fun q => hc ⟨hbt, hok, q⟩
            congr 1
            omega
    · have ej : j = pe - a - 1 := by omega
      subst ej
      simp (disch := omega) only [F_X2_bestOf_L31, ↓reduceIte, ↓z_letE, ↓z_bdE, nn_l2, nn_add, nn_mul, nn_sub, nn_addM, nn_div, nn_rem, nn_min, nn_max, nn_abs, nn_ltT, nn_ltF, nn_leT, nn_leF, nn_eqT, nn_eqF, nn_eqM, nn_Meq, nn_ltM, nn_Mlt, nn_leM, nn_Mle, z_ix_nn, z_inb_nn, F_at_nn, F_put_nn, Nat.zero_add, Nat.add_zero, z_P_some, z_R_some, z_P_bd]
      rw [← hM.2.2 s hs a ha h1 h0]
  obtain ⟨x, h2, rfl⟩ := h
  exact h2
