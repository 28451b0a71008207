/-! ===== who is to marry whom: the first partner ===== -/
def PP (K X : Nat → Nat) (ok : Nat → Nat → Bool) (w : Nat → Nat → Nat) (s a b : Nat) : Prop := a < b ∧ bt (cl s a) b = 1 ∧ ok a b = true ∧ K (cl (cl s a) b) + 1 = K s ∧ X (cl (cl s a) b) + w a b = X s
/-- f is none, or one more than the first partner -/
def FPm (pe : Nat) (K X : Nat → Nat) (ok : Nat → Nat → Bool) (w : Nat → Nat → Nat) (s a f : Nat) : Prop := (f = 0 ∧ ∀ b, b < pe → ¬ PP K X ok w s a b) ∨ ∃ b, f = b + 1 ∧ b < pe ∧ PP K X ok w s a b ∧ ∀ c, c < b → ¬ PP K X ok w s a c
theorem FPm_u {pe : Nat} {K X : Nat → Nat} {ok : Nat → Nat → Bool} {w : Nat → Nat → Nat} {s a f g : Nat} (h : FPm pe K X ok w s a f) (h2 : FPm pe K X ok w s a g) : f = g := by
  rcases h with ⟨rfl, h⟩ | ⟨b, rfl, hb, hP, hn⟩
  · rcases h2 with ⟨rfl, -⟩ | ⟨c, rfl, hc, hQ, -⟩
    · rfl
    · exact absurd hQ (h c hc)
  · rcases h2 with ⟨rfl, h2⟩ | ⟨c, rfl, hc, hQ, hm⟩
    · exact absurd hP (h2 b hb)
    · by_cases q : b < c
      · exact absurd hP (hm b q)
      · by_cases q2 : c < b
        · exact absurd hQ (hn c q2)
        · omega
set_option maxHeartbeats 4000000 in
theorem firstPartner_e {N pe s a : Nat} {E : z_Dat} {ok : Nat → Nat → Bool} {w : Nat → Nat → Nat} {K X : Nat → Nat} (hN : 200 < N) (hpe : pe ≤ 8) (hs : s < 2 ^ pe) (ha : a < pe) (h1 : bt s a = 1) (hw : ∀ a b, ok a b = true → a < 8 → b < 8 → w a b ≤ 6) (hM : MW pe ok w K X)
    (hL : ∀ t, t < 2 ^ pe → E 29 t = nn (100 * K t - X t)) (hG : ∀ a b, a < pe → b < pe → E 30 (a * 8 + b) = nn (gn ok w a b)) : ∃ f, FPm pe K X ok w s a f ∧ F_X2_firstPartner N (nn pe) (nn s) (nn a) E = some (cd f) := by
  have hp := pow_8 hpe
  have ec := clr_m s (by omega) a (by omega)
  have hcl := cl_lt (s := s) (by omega) (by omega) h1
  have hMl := MW_le hpe hw hM
  have eS := hL s hs
  have h : z_P (F_X2_firstPartner N (nn pe) (nn s) (nn a) E) (fun x => ∃ f, FPm pe K X ok w s a f ∧ x = cd f) := by
    simp (disch := omega) only [F_X2_firstPartner, ec, ↓reduceIte, ↓z_letE, ↓z_bdE, nn_l2, nn_add, nn_mul, nn_sub, nn_addM, nn_div, nn_rem, nn_min, nn_max, nn_abs, nn_ltT, nn_ltF, nn_leT, nn_leF, nn_eqT, nn_eqF, nn_eqM, nn_Meq, nn_ltM, nn_Mlt, nn_leM, nn_Mle, z_ix_nn, z_inb_nn, F_at_nn, F_put_nn, Nat.zero_add, Nat.add_zero, z_P_some, z_R_some, z_P_bd]
    refine z_P_loop (fun k t => ∃ b, b + k = pe ∧ a < b ∧ t = nn b ∧ ∀ c, c < b → ¬ PP K X ok w s a c) ?_ (pe - (a + 1)) N _ (by omega) ⟨a + 1, by omega, by omega, rfl, fun c hc hP => by
      have := hP.1
      omega⟩
    rintro k v kc ⟨b, hk, hab, rfl, hn⟩ ih
    by_cases hb : b < pe
    · have eI := isIn_e (s := cl s a) (b := b) (by omega) (by omega)
      have eG := hG a b ha hb
      have eC := clr_m (cl s a) (by omega) b (by omega)
      have nx : ¬ PP K X ok w s a b → z_P (kc (nn (b + 1))) (fun x => ∃ f, FPm pe K X ok w s a f ∧ x = cd f) := fun hx => ih (k - 1) _ (by omega) ⟨b + 1, by omega, by omega, rfl, fun c hc => by
        by_cases e : c = b
        · subst e
          exact hx
        · exact hn c (by omega)⟩
      rcases @bt_01 (cl s a) b with hbt | hbt
      · rw [hbt] at eI
        simp (disch := omega) only [F_X2_firstPartner_L14, eI, ↓reduceIte, ↓z_letE, ↓z_bdE, nn_l2, nn_add, nn_mul, nn_sub, nn_addM, nn_div, nn_rem, nn_min, nn_max, nn_abs, nn_ltT, nn_ltF, nn_leT, nn_leF, nn_eqT, nn_eqF, nn_eqM, nn_Meq, nn_ltM, nn_Mlt, nn_leM, nn_Mle, z_ix_nn, z_inb_nn, F_at_nn, F_put_nn, Nat.zero_add, Nat.add_zero, z_P_some, z_R_some, z_P_bd]
        exact nx (fun hP => by have := hP.2.1; omega)
      · rw [hbt] at eI
        cases hok : ok a b with
        | false =>
          have eg0 : gn ok w a b = 0 := by unfold gn; rw [hok]; rfl
          rw [eg0] at eG
          simp (disch := omega) only [F_X2_firstPartner_L14, F_X2_gain, eI, eG, ↓reduceIte, ↓z_letE, ↓z_bdE, nn_l2, nn_add, nn_mul, nn_sub, nn_addM, nn_div, nn_rem, nn_min, nn_max, nn_abs, nn_ltT, nn_ltF, nn_leT, nn_leF, nn_eqT, nn_eqF, nn_eqM, nn_Meq, nn_ltM, nn_Mlt, nn_leM, nn_Mle, z_ix_nn, z_inb_nn, F_at_nn, F_put_nn, Nat.zero_add, Nat.add_zero, z_P_some, z_R_some, z_P_bd]
          exact nx (fun hP => by have := hP.2.2.1; rw [hok] at this; exact Bool.false_ne_true this)
        | true =>
          have hw6 := hw a b hok (by omega) (by omega)
          have eg1 : gn ok w a b = 100 - w a b := by unfold gn; rw [hok]; rfl
          rw [eg1] at eG
          have hc2 := cl_lt (s := cl s a) (by omega) (by omega) hbt
          have hv := hMl (cl (cl s a) b) (by omega)
          have hvs := hMl s hs
          have hps := @pc_le s
          have hpv := pc_m (cl s a) (by omega) b (by omega) hbt
          have hpc := @pc_le (cl s a)
          have eL2 := hL (cl (cl s a) b) (by omega)
          have sm := sam_l (k := K s) (k' := K (cl (cl s a) b) + 1) (x := X s) (x' := X (cl (cl s a) b) + w a b) (by omega) (by omega) hvs.2 (by omega)
          have er : 100 - w a b + (100 * K (cl (cl s a) b) - X (cl (cl s a) b)) = 100 * (K (cl (cl s a) b) + 1) - (X (cl (cl s a) b) + w a b) := by omega
          by_cases hq : K s = K (cl (cl s a) b) + 1 ∧ X s = X (cl (cl s a) b) + w a b
          · have hq2 := sm.mpr hq
            simp (disch := omega) only [F_X2_firstPartner_L14, F_X2_gain, eI, eG, eC, eL2, eS, ↓reduceIte, ↓z_letE, ↓z_bdE, nn_l2, nn_add, nn_mul, nn_sub, nn_addM, nn_div, nn_rem, nn_min, nn_max, nn_abs, nn_ltT, nn_ltF, nn_leT, nn_leF, nn_eqT, nn_eqF, nn_eqM, nn_Meq, nn_ltM, nn_Mlt, nn_leM, nn_Mle, z_ix_nn, z_inb_nn, F_at_nn, F_put_nn, Nat.zero_add, Nat.add_zero, z_P_some, z_R_some, z_P_bd]
            exact ⟨b + 1, Or.inr ⟨b, rfl, hb, ⟨hab, hbt, hok, hq.1.symm, hq.2.symm⟩, hn⟩, rfl⟩
          · have hq2 : ¬ 100 * K s - X s = 100 * (K (cl (cl s a) b) + 1) - (X (cl (cl s a) b) + w a b) := fun q => hq (sm.mp q)
            simp (disch := omega) only [F_X2_firstPartner_L14, F_X2_gain, eI, eG, eC, eL2, eS, ↓reduceIte, ↓z_letE, ↓z_bdE, nn_l2, nn_add, nn_mul, nn_sub, nn_addM, nn_div, nn_rem, nn_min, nn_max, nn_abs, nn_ltT, nn_ltF, nn_leT, nn_leF, nn_eqT, nn_eqF, nn_eqM, nn_Meq, nn_ltM, nn_Mlt, nn_leM, nn_Mle, z_ix_nn, z_inb_nn, F_at_nn, F_put_nn, Nat.zero_add, Nat.add_zero, z_P_some, z_R_some, z_P_bd]
            exact nx (fun hP => hq ⟨hP.2.2.2.1.symm, hP.2.2.2.2.symm⟩)
    · have e : b = pe := by omega
      subst e
      simp (disch := omega) only [F_X2_firstPartner_L14, ↓reduceIte, ↓z_letE, ↓z_bdE, nn_l2, nn_add, nn_mul, nn_sub, nn_addM, nn_div, nn_rem, nn_min, nn_max, nn_abs, nn_ltT, nn_ltF, nn_leT, nn_leF, nn_eqT, nn_eqF, nn_eqM, nn_Meq, nn_ltM, nn_Mlt, nn_leM, nn_Mle, z_ix_nn, z_inb_nn, F_at_nn, F_put_nn, Nat.zero_add, Nat.add_zero, z_P_some, z_R_some, z_P_bd]
      exact ⟨0, Or.inl ⟨rfl, hn⟩, rfl⟩
  obtain ⟨x, h2, f, h3, rfl⟩ := h
  exact ⟨f, h3, h2⟩
/-- the whole of a set, its best -/
theorem bs_at {K X : Nat → Nat} {ok : Nat → Nat → Bool} {w : Nat → Nat → Nat} {r a : Nat} : ∀ j, bs K X ok w r a j = (K r, X r) ∨ ∃ i, i < j ∧ bt r (a + 1 + i) = 1 ∧ ok a (a + 1 + i) = true ∧ bs K X ok w r a j = (K (cl r (a + 1 + i)) + 1, X (cl r (a + 1 + i)) + w a (a + 1 + i))
  | 0 => Or.inl rfl
  | j + 1 => by
    have ih := bs_at (K := K) (X := X) (ok := ok) (w := w) (r := r) (a := a) j
    unfold bs
    split
    · rename_i hc
      exact Or.inr ⟨j, by omega, hc.1, hc.2.1, rfl⟩
    · rcases ih with ih | ⟨i, h1, h2, h3, h4⟩
      · exact Or.inl ih
      · exact Or.inr ⟨i, by omega, h2, h3, h4⟩
/-- where there is no partner, the worth is that of the rest -/
theorem FPm_0 {pe : Nat} (hpe : pe ≤ 8) {ok : Nat → Nat → Bool} {w : Nat → Nat → Nat} {K X : Nat → Nat} {s a : Nat} (hM : MW pe ok w K X) (hs : s < 2 ^ pe) (ha : a < pe) (h1 : bt s a = 1) (h0 : ∀ c, c < a → bt s c = 0) (h : FPm pe K X ok w s a 0) : K s = K (cl s a) ∧ X s = X (cl s a) := by
  have e := hM.2.2 s hs a ha h1 h0
  rcases bs_at (K := K) (X := X) (ok := ok) (w := w) (r := cl s a) (a := a) (pe - a - 1) with q | ⟨i, q1, q2, q3, q4⟩
  · rw [q] at e
    exact ⟨congrArg Prod.fst e, congrArg Prod.snd e⟩
  · rw [q4] at e
    have e1 := congrArg Prod.fst e
    have e2 := congrArg Prod.snd e
    dsimp only at e1 e2
    rcases h with ⟨-, h⟩ | ⟨b, hb, -⟩
    · exact absurd ⟨by omega, q2, q3, e1.symm, e2.symm⟩ (h (a + 1 + i) (by omega))
    · omega
