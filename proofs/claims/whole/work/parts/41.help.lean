/-! ===== helpers of every call: copies, refusals, the town that is looked at ===== -/
theorem copies_P {N r0 n0 r1 n1 m : Nat} {D : z_Dat} (hr : r0 ≠ r1) (h0 : m ≤ n0) (h1 : m ≤ n1) (hm : m < 1000000) (hN : m < N) : z_P (F_X11_copies N r0 n0 r1 n1 (nn m) D) (fun G => Fr r1 D G ∧ (∀ j, j < m → G r1 j = D r0 j) ∧ ∀ j, m ≤ j → G r1 j = D r1 j) := by
  unfold F_X11_copies
  refine z_P_loop (fun k s => ∃ p, p + k = m ∧ s.1 = nn p ∧ Fr r1 D s.2 ∧ (∀ j, j < p → s.2 r1 j = D r0 j) ∧ ∀ j, p ≤ j → s.2 r1 j = D r1 j) ?_ m N _ (by omega) ⟨0, by omega, rfl, Fr.rf, fun j hj => absurd hj (by omega), fun _ _ => rfl⟩
  rintro k ⟨v, E⟩ kc ⟨p, hk, rfl, hF, hA, hB⟩ ih
  dsimp only at hF hA hB ⊢
  by_cases hp : p < m
  · simp (disch := omega) only [F_X11_copies_L3, ↓reduceIte, ↓z_letE, ↓z_bdE, nn_l2, nn_add, nn_mul, nn_sub, nn_addM, nn_div, nn_rem, nn_min, nn_max, nn_abs, nn_ltT, nn_ltF, nn_leT, nn_leF, nn_eqT, nn_eqF, nn_eqM, nn_Meq, nn_ltM, nn_Mlt, nn_leM, nn_Mle, z_ix_nn, z_inb_nn, F_at_nn, F_put_nn, Nat.zero_add, Nat.add_zero, z_P_some, z_R_some, z_P_bd]
    refine ih (k - 1) _ (by omega) ⟨p + 1, by omega, rfl, hF.up, fun j hj => ?_, fun j hj => ?_⟩
    · by_cases hj2 : j = p
      · subst hj2
        simp (disch := omega) only [z_up_at]
        rw [hF r0 hr]
      · simp (disch := omega) only [z_up_i]
        exact hA j (by omega)
    · simp (disch := omega) only [z_up_i]
      exact hB j (by omega)
  · have hpp : p = m := by omega
    subst hpp
    simp (disch := omega) only [F_X11_copies_L3, ↓reduceIte, ↓z_letE, ↓z_bdE, nn_l2, nn_add, nn_mul, nn_sub, nn_addM, nn_div, nn_rem, nn_min, nn_max, nn_abs, nn_ltT, nn_ltF, nn_leT, nn_leF, nn_eqT, nn_eqF, nn_eqM, nn_Meq, nn_ltM, nn_Mlt, nn_leM, nn_Mle, z_ix_nn, z_inb_nn, F_at_nn, F_put_nn, Nat.zero_add, Nat.add_zero, z_P_some, z_R_some, z_P_bd]
    exact ⟨hF, hA, hB⟩
theorem copy_P {N r0 n0 r1 n1 a b m : Nat} {D : z_Dat} (hr : r0 ≠ r1) (h0 : a + m ≤ n0) (h1 : b + m ≤ n1) (hn0 : n0 < 1000000) (hn1 : n1 < 1000000) (hN : m < N) : z_P (F_X10_copy N r0 n0 r1 n1 (nn a) (nn b) (nn m) D) (fun G => Fr r1 D G ∧ (∀ j, j < m → G r1 (b + j) = D r0 (a + j)) ∧ ∀ j, (j < b ∨ b + m ≤ j) → G r1 j = D r1 j) := by
  unfold F_X10_copy
  refine z_P_loop (fun k s => ∃ p, p + k = m ∧ s.1 = nn p ∧ Fr r1 D s.2 ∧ (∀ j, j < p → s.2 r1 (b + j) = D r0 (a + j)) ∧ ∀ j, (j < b ∨ b + p ≤ j) → s.2 r1 j = D r1 j) ?_ m N _ (by omega) ⟨0, by omega, rfl, Fr.rf, fun j hj => absurd hj (by omega), fun _ _ => rfl⟩
  rintro k ⟨v, E⟩ kc ⟨p, hk, rfl, hF, hA, hB⟩ ih
  dsimp only at hF hA hB ⊢
  by_cases hp : p < m
  · simp (disch := omega) only [F_X10_copy_L3, ↓reduceIte, ↓z_letE, ↓z_bdE, nn_l2, nn_add, nn_mul, nn_sub, nn_addM, nn_div, nn_rem, nn_min, nn_max, nn_abs, nn_ltT, nn_ltF, nn_leT, nn_leF, nn_eqT, nn_eqF, nn_eqM, nn_Meq, nn_ltM, nn_Mlt, nn_leM, nn_Mle, z_ix_nn, z_inb_nn, F_at_nn, F_put_nn, Nat.zero_add, Nat.add_zero, z_P_some, z_R_some, z_P_bd]
    refine ih (k - 1) _ (by omega) ⟨p + 1, by omega, rfl, hF.up, fun j hj => ?_, fun j hj => ?_⟩
    · by_cases hj2 : j = p
      · subst hj2
        simp (disch := omega) only [z_up_at]
        rw [hF r0 hr]
      · simp (disch := omega) only [z_up_i]
        exact hA j (by omega)
    · simp (disch := omega) only [z_up_i]
      exact hB j (by omega)
  · have hpp : p = m := by omega
    subst hpp
    simp (disch := omega) only [F_X10_copy_L3, ↓reduceIte, ↓z_letE, ↓z_bdE, nn_l2, nn_add, nn_mul, nn_sub, nn_addM, nn_div, nn_rem, nn_min, nn_max, nn_abs, nn_ltT, nn_ltF, nn_leT, nn_leF, nn_eqT, nn_eqF, nn_eqM, nn_Meq, nn_ltM, nn_Mlt, nn_leM, nn_Mle, z_ix_nn, z_inb_nn, F_at_nn, F_put_nn, Nat.zero_add, Nat.add_zero, z_P_some, z_R_some, z_P_bd]
    exact ⟨hF, hA, hB⟩
theorem TR_eq {pe Y : Nat} {f g f' g' : Nat → Int32} (hT : TR pe Y f g) (hpe : pe ≤ 8) (hf : ∀ j, j < 44 → f' j = f j) (hg : ∀ j, j < 60 → g' j = g j) : TR pe Y f' g' :=
  TR_rest hT hpe (fun j hj => hf j (by omega)) (fun j hj => hg j (by omega)) (fun d hd => by
    obtain ⟨s, h1, h2, h3⟩ := hT.2.1 d hd
    exact ⟨s, h1, by rw [hf _ (by omega)]; exact h2, by rw [hg _ (by omega)]; exact h3⟩) (by
    obtain ⟨y, h1, h2, h3⟩ := hT.2.2
    exact ⟨y, h1, by rw [hf _ (by omega)]; exact h2, by rw [hg _ (by omega)]; exact h3⟩)
theorem take_P {N : Nat} {D : z_Dat} (hN : 200 < N) : z_P (F_X11_take N D) (fun G => Fr 58 D G ∧ ∀ j, j < 60 → G 58 j = D 57 j) := by
  unfold F_X11_take
  rw [z_P_bd]
  refine z_P_mono (copies_P (m := 60) (by decide) (by decide) (by decide) (by decide) (by omega)) (fun G hG => ?_)
  rw [z_P_some]
  exact ⟨hG.1, hG.2.1⟩
theorem n_of {a : Int32} {b : Nat} (h0 : ¬ a < 0) (h1 : ¬ nn b < a) (hb : b < 2147483648) : ∃ k, k ≤ b ∧ a = nn k := by
  have e0 : (0 : Int32).toInt = 0 := rfl
  have g0 : 0 ≤ a.toInt := by
    have := Int32.not_lt.mp h0
    have := Int32.le_iff_toInt_le.mp this
    omega
  have g1 : a.toInt ≤ b := by
    have := Int32.not_lt.mp h1
    have := Int32.le_iff_toInt_le.mp this
    rw [nn_toInt hb] at this
    exact this
  refine ⟨a.toInt.toNat, by omega, Int32.toInt_inj.mp ?_⟩
  rw [nn_toInt (by omega)]
  omega
theorem within_in {k b : Nat} (h : k ≤ b) (hb : b < 2147483648) : F_X11_within (nn k) (nn 0) (nn b) = nn 1 := by
  unfold F_X11_within
  have h0 : ¬ nn k < nn 0 := by rw [nn_ltF (by omega) (by omega)]; exact id
  have h1 : ¬ nn b < nn k := by rw [nn_ltF (by omega) (by omega)]; exact id
  rw [if_neg h0, if_neg h1]
  rfl
theorem within_out {a lo hi : Int32} (h : a < lo ∨ hi < a) : F_X11_within a lo hi = nn 0 := by
  unfold F_X11_within
  rcases h with h | h
  · rw [if_pos h]
    rfl
  · by_cases h2 : a < lo
    · rw [if_pos h2]
      rfl
    · rw [if_neg h2, if_pos h]
      rfl
theorem may_ok {c k : Int32} {D : z_Dat} (h : D 40 0 = nn 0) : F_X11_may (nn 1) c k D = some (nn 1, D) := by
  simp (disch := omega) only [F_X11_may, h, ↓reduceIte, ↓z_letE, ↓z_bdE, nn_l2, nn_add, nn_mul, nn_sub, nn_addM, nn_div, nn_rem, nn_min, nn_max, nn_abs, nn_ltT, nn_ltF, nn_leT, nn_leF, nn_eqT, nn_eqF, nn_eqM, nn_Meq, nn_ltM, nn_Mlt, nn_leM, nn_Mle, z_ix_nn, z_inb_nn, F_at_nn, F_put_nn, Nat.zero_add, Nat.add_zero, z_P_some, z_R_some, z_P_bd]
theorem may_no {c k : Nat} {D : z_Dat} (h : D 40 0 = nn 0) (hc : 1 ≤ c) (hc2 : c ≤ 2) (hk : k < 2) : F_X11_may (nn 0) (nn c) (nn k) D = some (nn 0, z_up (z_up D 40 0 (nn c)) 41 k (D 41 k + nn 1)) := by
  simp (disch := omega) only [F_X11_may, h, z_up_at, z_up_r, ↓reduceIte, ↓z_letE, ↓z_bdE, nn_l2, nn_add, nn_mul, nn_sub, nn_addM, nn_div, nn_rem, nn_min, nn_max, nn_abs, nn_ltT, nn_ltF, nn_leT, nn_leF, nn_eqT, nn_eqF, nn_eqM, nn_Meq, nn_ltM, nn_Mlt, nn_leM, nn_Mle, z_ix_nn, z_inb_nn, F_at_nn, F_put_nn, Nat.zero_add, Nat.add_zero, z_P_some, z_R_some, z_P_bd]
theorem may_off {b c k : Int32} {D : z_Dat} {e : Nat} (h : D 40 0 = nn e) (he : 1 ≤ e) (he2 : e ≤ 2) : F_X11_may b c k D = some (nn 0, D) := by
  by_cases hb : b = nn 0
  · simp (disch := omega) only [F_X11_may, h, hb, ↓reduceIte, ↓z_letE, ↓z_bdE, nn_l2, nn_add, nn_mul, nn_sub, nn_addM, nn_div, nn_rem, nn_min, nn_max, nn_abs, nn_ltT, nn_ltF, nn_leT, nn_leF, nn_eqT, nn_eqF, nn_eqM, nn_Meq, nn_ltM, nn_Mlt, nn_leM, nn_Mle, z_ix_nn, z_inb_nn, F_at_nn, F_put_nn, Nat.zero_add, Nat.add_zero, z_P_some, z_R_some, z_P_bd]
  · simp (disch := omega) only [F_X11_may, h, hb, ↓reduceIte, ↓z_letE, ↓z_bdE, nn_l2, nn_add, nn_mul, nn_sub, nn_addM, nn_div, nn_rem, nn_min, nn_max, nn_abs, nn_ltT, nn_ltF, nn_leT, nn_leF, nn_eqT, nn_eqF, nn_eqM, nn_Meq, nn_ltM, nn_Mlt, nn_leM, nn_Mle, z_ix_nn, z_inb_nn, F_at_nn, F_put_nn, Nat.zero_add, Nat.add_zero, z_P_some, z_R_some, z_P_bd]
theorem dem_ok {D : z_Dat} : F_X10_demand (nn 1) D = some (.inl D) := by
  simp (disch := omega) only [F_X10_demand, ↓reduceIte, ↓z_letE, ↓z_bdE, nn_l2, nn_add, nn_mul, nn_sub, nn_addM, nn_div, nn_rem, nn_min, nn_max, nn_abs, nn_ltT, nn_ltF, nn_leT, nn_leF, nn_eqT, nn_eqF, nn_eqM, nn_Meq, nn_ltM, nn_Mlt, nn_leM, nn_Mle, z_ix_nn, z_inb_nn, F_at_nn, F_put_nn, Nat.zero_add, Nat.add_zero, z_P_some, z_R_some, z_P_bd]
theorem dem_no {D : z_Dat} : F_X10_demand (nn 0) D = some (.inr ("java/lang/IllegalArgumentException", z_up D 0 14 (D 0 14 + nn 1))) := by
  simp (disch := omega) only [F_X10_demand, ↓reduceIte, ↓z_letE, ↓z_bdE, nn_l2, nn_add, nn_mul, nn_sub, nn_addM, nn_div, nn_rem, nn_min, nn_max, nn_abs, nn_ltT, nn_ltF, nn_leT, nn_leF, nn_eqT, nn_eqF, nn_eqM, nn_Meq, nn_ltM, nn_Mlt, nn_leM, nn_Mle, z_ix_nn, z_inb_nn, F_at_nn, F_put_nn, Nat.zero_add, Nat.add_zero, z_P_some, z_R_some, z_P_bd]
theorem demT_ok {D : z_Dat} : F_X10_demandThere (nn 1) D = some (.inl D) := by
  simp (disch := omega) only [F_X10_demandThere, ↓reduceIte, ↓z_letE, ↓z_bdE, nn_l2, nn_add, nn_mul, nn_sub, nn_addM, nn_div, nn_rem, nn_min, nn_max, nn_abs, nn_ltT, nn_ltF, nn_leT, nn_leF, nn_eqT, nn_eqF, nn_eqM, nn_Meq, nn_ltM, nn_Mlt, nn_leM, nn_Mle, z_ix_nn, z_inb_nn, F_at_nn, F_put_nn, Nat.zero_add, Nat.add_zero, z_P_some, z_R_some, z_P_bd]
theorem demT_no {D : z_Dat} : F_X10_demandThere (nn 0) D = some (.inr ("java/util/NoSuchElementException", z_up D 0 13 (D 0 13 + nn 1))) := by
  simp (disch := omega) only [F_X10_demandThere, ↓reduceIte, ↓z_letE, ↓z_bdE, nn_l2, nn_add, nn_mul, nn_sub, nn_addM, nn_div, nn_rem, nn_min, nn_max, nn_abs, nn_ltT, nn_ltF, nn_leT, nn_leF, nn_eqT, nn_eqF, nn_eqM, nn_Meq, nn_ltM, nn_Mlt, nn_leM, nn_Mle, z_ix_nn, z_inb_nn, F_at_nn, F_put_nn, Nat.zero_add, Nat.add_zero, z_P_some, z_R_some, z_P_bd]
theorem z_bt_l {α β : Type} {a : α} {k : α → Option (β ⊕ (String × z_Dat))} : z_bt (some (.inl a)) k = k a := Eq.trans (Eq.refl _) (Eq.refl _)
theorem z_bt_r {α β : Type} {a : String × z_Dat} {k : α → Option (β ⊕ (String × z_Dat))} : z_bt (some (.inr a)) k = some (.inr a) := Eq.trans (Eq.refl _) (Eq.refl _)
theorem z_try_l {α β : Type} {a : α} {g : α → Option β} {h : String × z_Dat → Option β} : z_try (some (.inl a)) g h = g a := Eq.trans (Eq.refl _) (Eq.refl _)
theorem z_try_r {α β : Type} {a : String × z_Dat} {g : α → Option β} {h : String × z_Dat → Option β} : z_try (some (.inr a)) g h = h a := Eq.trans (Eq.refl _) (Eq.refl _)
theorem nl_I : ("java/lang/IllegalArgumentException" = "java/lang/IllegalArgumentException") = True := eq_true rfl
theorem nl_N : ("java/util/NoSuchElementException" = "java/util/NoSuchElementException") = True := eq_true rfl
theorem nl_IN : ("java/lang/IllegalArgumentException" = "java/util/NoSuchElementException") = False := eq_false (by decide)
theorem nl_NI : ("java/util/NoSuchElementException" = "java/lang/IllegalArgumentException") = False := eq_false (by decide)
