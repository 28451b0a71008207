/-! ===== the city and the law, on both sides; who sits ===== -/
/-- (no rfl lemma: the kernel is to compare no great number by its signs) -/
theorem nn_l2 (n : Nat) : (OfNat.ofNat n : Int32) = nn (OfNat.ofNat n) := Eq.trans (nn_lit n) (Eq.trans (congrArg nn (Eq.refl _)) (Eq.refl _))
theorem nn_ltT {a b : Nat} (h : a < b) (hb : b < 2147483648) : (nn a < nn b) = True := by rw [nn_lt (by omega) hb]; exact eq_true h
theorem nn_ltF {a b : Nat} (h : b ≤ a) (ha : a < 2147483648) : (nn a < nn b) = False := by rw [nn_lt ha (by omega)]; exact eq_false (by omega)
theorem nn_leT {a b : Nat} (h : a ≤ b) (hb : b < 2147483648) : (nn a ≤ nn b) = True := by rw [nn_le (by omega) hb]; exact eq_true h
theorem nn_leF {a b : Nat} (h : b < a) (ha : a < 2147483648) : (nn a ≤ nn b) = False := by rw [nn_le ha (by omega)]; exact eq_false (by omega)
theorem nn_eqT {a b : Nat} (h : a = b) : (nn a = nn b) = True := by rw [h]; exact eq_true rfl
theorem nn_eqF {a b : Nat} (h : a ≠ b) (ha : a < 2147483648) (hb : b < 2147483648) : (nn a = nn b) = False := by rw [nn_eq ha hb]; exact eq_false h
theorem z_letE {α β : Type} (x : α) (k : α → β) : z_let x k = k x := Eq.trans (Eq.refl _) (Eq.refl _)
theorem z_bdE {α β : Type} (a : α) (k : α → Option β) : z_bd (some a) k = k a := Eq.trans (Eq.refl _) (Eq.refl _)
def CR (o ns pe rv : Nat) (D D' : z_Dat) : Prop := (ns ≤ 6 ∧ pe ≤ 8 ∧ rv ≤ 20) ∧ (D o 5 = nn ns ∧ D o 6 = nn pe ∧ D o 7 = nn rv) ∧ (D' 40 19 = nn ns ∧ D' 40 20 = nn pe ∧ D' 40 21 = nn rv) ∧
  (∀ b, b < ns → ∃ v, v < 1000 ∧ D (o + 1) b = nn v ∧ (D' 47 (4 * b) = nn (v / 100) ∧ D' 47 (4 * b + 1) = nn (v / 10 % 10) ∧ D' 47 (4 * b + 2) = nn (v % 10)) ∧ D (o + 2) b = D' 47 (4 * b + 3)) ∧ ∀ p, p < pe → D (o + 3) p = D' 48 p
theorem CR.keep {o ns pe rv : Nat} {D D' E E' : z_Dat} (h : CR o ns pe rv D D') (h0 : E o = D o) (h1 : E (o + 1) = D (o + 1)) (h2 : E (o + 2) = D (o + 2)) (h3 : E (o + 3) = D (o + 3)) (g0 : E' 40 19 = D' 40 19) (g1 : E' 40 20 = D' 40 20) (g2 : E' 40 21 = D' 40 21) (g3 : E' 47 = D' 47) (g4 : E' 48 = D' 48) : CR o ns pe rv E E' := by
  obtain ⟨a, b, c, d, e⟩ := h
  exact ⟨a, by rw [h0]; exact b, by rw [g0, g1, g2]; exact c, fun x hx => by rw [h1, h2, g3]; exact d x hx, fun p hp => by rw [h3, g4]; exact e p hp⟩
def opm (c : Nat) : Nat := if c < 2 then 6 + c else c
def EN (D D' : z_Dat) (dep : Nat → Nat) (k : Nat) : Prop :=
  (∃ v, v < 1000 ∧ D 8 k = nn v ∧ D' 51 k = nn 0 ∧ D' 52 k = nn v ∧ dep (k + 1) = dep k + 1) ∨ (∃ f, f < 9 ∧ D 8 k = nn (1000 + f) ∧ D' 51 k = nn 1 ∧ D' 52 k = nn f ∧ dep (k + 1) = dep k + 1) ∨ (∃ c, c < 6 ∧ D 8 k = nn (2000 + c) ∧ D' 51 k = nn (opm c) ∧ 2 ≤ dep k ∧ dep (k + 1) = dep k - 1)
def LR (D D' : z_Dat) : Prop := (D 7 6 = nn 0 ∧ D' 40 28 = nn 0) ∨ ∃ (m : Nat) (dep : Nat → Nat), 0 < m ∧ m ≤ 150 ∧ D 7 6 = nn 1 ∧ D 7 4 = nn m ∧ D' 40 28 = nn m ∧ dep 0 = 0 ∧ ∀ k, k < m → EN D D' dep k
theorem EN.keep {D D' E E' : z_Dat} {dep : Nat → Nat} {k : Nat} (h : EN D D' dep k) (h1 : E 8 = D 8) (g1 : E' 51 = D' 51) (g2 : E' 52 = D' 52) : EN E E' dep k := by
  unfold EN
  rw [h1, g1, g2]
  exact h
theorem LR.keep {D D' E E' : z_Dat} (h : LR D D') (h0 : E 7 = D 7) (h1 : E 8 = D 8) (g0 : E' 40 28 = D' 40 28) (g1 : E' 51 = D' 51) (g2 : E' 52 = D' 52) : LR E E' := by
  rcases h with ⟨a, b⟩ | ⟨m, dep, a, b, c, d, e, f, g⟩
  · exact Or.inl ⟨by rw [h0]; exact a, by rw [g0]; exact b⟩
  · exact Or.inr ⟨m, dep, a, b, by rw [h0]; exact c, by rw [h0]; exact d, by rw [g0]; exact e, f, fun k hk => (g k hk).keep h1 g1 g2⟩
theorem EN.dep {D D' : z_Dat} {dep : Nat → Nat} {k : Nat} (h : EN D D' dep k) : 1 ≤ dep (k + 1) ∧ dep (k + 1) ≤ dep k + 1 := by
  rcases h with ⟨v, h1, h2, h3, h4, h5⟩ | ⟨f, h1, h2, h3, h4, h5⟩ | ⟨c, h1, h2, h3, h4, h5⟩ <;> omega
theorem dep_le {D D' : z_Dat} {dep : Nat → Nat} {m : Nat} (h0 : dep 0 = 0) (h : ∀ k, k < m → EN D D' dep k) : ∀ k, k ≤ m → dep k ≤ k
  | 0, _ => by omega
  | k + 1, hk => by
    have h1 := dep_le h0 h k (by omega)
    have h2 := (h k (by omega)).dep
    omega
theorem joined_e {c : Nat} {a b : Int32} (hc : c < 6) : ∃ r, F_X5_joined (nn (2000 + c)) a b = some r ∧ F_X11_both (nn (opm c)) a b = some r := by
  have h6 : c = 0 ∨ c = 1 ∨ c = 2 ∨ c = 3 ∨ c = 4 ∨ c = 5 := by omega
  rcases h6 with rfl | rfl | rfl | rfl | rfl | rfl
  · by_cases h : b ≤ a
    · refine ⟨b, ?_, ?_⟩
      · simp (disch := omega) only [F_X5_joined, z_let, nn_l2, nn_add, nn_mul, nn_sub, nn_addM, nn_div, nn_rem, nn_min, nn_max, nn_abs, nn_lt, nn_le, nn_eq, nn_eqM, nn_Meq, nn_ltM, nn_Mlt, nn_leM, nn_Mle, z_ix_nn, z_inb_nn, F_at_nn, F_put_nn, Nat.zero_add, Nat.add_zero, z_P_some, z_R_some, z_P_bd, if_true, if_false, if_pos, if_neg]
        unfold z_min
        by_cases h2 : b < a
        · rw [if_pos h2]
        · rw [if_neg h2]
          exact congrArg some (Int32.le_antisymm (Int32.not_lt.mp h2) h)
      · simp (disch := omega) only [F_X11_both, opm, F_X11_both_J54, h, z_let, nn_l2, nn_add, nn_mul, nn_sub, nn_addM, nn_div, nn_rem, nn_min, nn_max, nn_abs, nn_lt, nn_le, nn_eq, nn_eqM, nn_Meq, nn_ltM, nn_Mlt, nn_leM, nn_Mle, z_ix_nn, z_inb_nn, F_at_nn, F_put_nn, Nat.zero_add, Nat.add_zero, z_P_some, z_R_some, z_P_bd, if_true, if_false, if_pos, if_neg]
    · refine ⟨a, ?_, ?_⟩
      · simp (disch := omega) only [F_X5_joined, z_let, nn_l2, nn_add, nn_mul, nn_sub, nn_addM, nn_div, nn_rem, nn_min, nn_max, nn_abs, nn_lt, nn_le, nn_eq, nn_eqM, nn_Meq, nn_ltM, nn_Mlt, nn_leM, nn_Mle, z_ix_nn, z_inb_nn, F_at_nn, F_put_nn, Nat.zero_add, Nat.add_zero, z_P_some, z_R_some, z_P_bd, if_true, if_false, if_pos, if_neg]
        unfold z_min
        rw [if_neg (fun q => h (Int32.le_of_lt q))]
      · simp (disch := omega) only [F_X11_both, opm, F_X11_both_J54x, h, z_let, nn_l2, nn_add, nn_mul, nn_sub, nn_addM, nn_div, nn_rem, nn_min, nn_max, nn_abs, nn_lt, nn_le, nn_eq, nn_eqM, nn_Meq, nn_ltM, nn_Mlt, nn_leM, nn_Mle, z_ix_nn, z_inb_nn, F_at_nn, F_put_nn, Nat.zero_add, Nat.add_zero, z_P_some, z_R_some, z_P_bd, if_true, if_false, if_pos, if_neg]
  · by_cases h : b ≤ a
    · refine ⟨a, ?_, ?_⟩
      · simp (disch := omega) only [F_X5_joined, z_let, nn_l2, nn_add, nn_mul, nn_sub, nn_addM, nn_div, nn_rem, nn_min, nn_max, nn_abs, nn_lt, nn_le, nn_eq, nn_eqM, nn_Meq, nn_ltM, nn_Mlt, nn_leM, nn_Mle, z_ix_nn, z_inb_nn, F_at_nn, F_put_nn, Nat.zero_add, Nat.add_zero, z_P_some, z_R_some, z_P_bd, if_true, if_false, if_pos, if_neg]
        unfold z_max
        rw [if_neg (Int32.not_lt.mpr h)]
      · simp (disch := omega) only [F_X11_both, opm, F_X11_both_J54, h, z_let, nn_l2, nn_add, nn_mul, nn_sub, nn_addM, nn_div, nn_rem, nn_min, nn_max, nn_abs, nn_lt, nn_le, nn_eq, nn_eqM, nn_Meq, nn_ltM, nn_Mlt, nn_leM, nn_Mle, z_ix_nn, z_inb_nn, F_at_nn, F_put_nn, Nat.zero_add, Nat.add_zero, z_P_some, z_R_some, z_P_bd, if_true, if_false, if_pos, if_neg]
    · refine ⟨b, ?_, ?_⟩
      · simp (disch := omega) only [F_X5_joined, z_let, nn_l2, nn_add, nn_mul, nn_sub, nn_addM, nn_div, nn_rem, nn_min, nn_max, nn_abs, nn_lt, nn_le, nn_eq, nn_eqM, nn_Meq, nn_ltM, nn_Mlt, nn_leM, nn_Mle, z_ix_nn, z_inb_nn, F_at_nn, F_put_nn, Nat.zero_add, Nat.add_zero, z_P_some, z_R_some, z_P_bd, if_true, if_false, if_pos, if_neg]
        unfold z_max
        rw [if_pos (Int32.not_le.mp h)]
      · simp (disch := omega) only [F_X11_both, opm, F_X11_both_J54x, h, z_let, nn_l2, nn_add, nn_mul, nn_sub, nn_addM, nn_div, nn_rem, nn_min, nn_max, nn_abs, nn_lt, nn_le, nn_eq, nn_eqM, nn_Meq, nn_ltM, nn_Mlt, nn_leM, nn_Mle, z_ix_nn, z_inb_nn, F_at_nn, F_put_nn, Nat.zero_add, Nat.add_zero, z_P_some, z_R_some, z_P_bd, if_true, if_false, if_pos, if_neg]
  · exact ⟨a + b, by simp (disch := omega) only [F_X5_joined, z_let, nn_l2, nn_add, nn_mul, nn_sub, nn_addM, nn_div, nn_rem, nn_min, nn_max, nn_abs, nn_lt, nn_le, nn_eq, nn_eqM, nn_Meq, nn_ltM, nn_Mlt, nn_leM, nn_Mle, z_ix_nn, z_inb_nn, F_at_nn, F_put_nn, Nat.zero_add, Nat.add_zero, z_P_some, z_R_some, z_P_bd, if_true, if_false, if_pos, if_neg], by simp (disch := omega) only [F_X11_both, opm, z_let, nn_l2, nn_add, nn_mul, nn_sub, nn_addM, nn_div, nn_rem, nn_min, nn_max, nn_abs, nn_lt, nn_le, nn_eq, nn_eqM, nn_Meq, nn_ltM, nn_Mlt, nn_leM, nn_Mle, z_ix_nn, z_inb_nn, F_at_nn, F_put_nn, Nat.zero_add, Nat.add_zero, z_P_some, z_R_some, z_P_bd, if_true, if_false, if_pos, if_neg]⟩
  · exact ⟨a - b, by simp (disch := omega) only [F_X5_joined, z_let, nn_l2, nn_add, nn_mul, nn_sub, nn_addM, nn_div, nn_rem, nn_min, nn_max, nn_abs, nn_lt, nn_le, nn_eq, nn_eqM, nn_Meq, nn_ltM, nn_Mlt, nn_leM, nn_Mle, z_ix_nn, z_inb_nn, F_at_nn, F_put_nn, Nat.zero_add, Nat.add_zero, z_P_some, z_R_some, z_P_bd, if_true, if_false, if_pos, if_neg], by simp (disch := omega) only [F_X11_both, opm, z_let, nn_l2, nn_add, nn_mul, nn_sub, nn_addM, nn_div, nn_rem, nn_min, nn_max, nn_abs, nn_lt, nn_le, nn_eq, nn_eqM, nn_Meq, nn_ltM, nn_Mlt, nn_leM, nn_Mle, z_ix_nn, z_inb_nn, F_at_nn, F_put_nn, Nat.zero_add, Nat.add_zero, z_P_some, z_R_some, z_P_bd, if_true, if_false, if_pos, if_neg]⟩
  · exact ⟨a * b, by simp (disch := omega) only [F_X5_joined, z_let, nn_l2, nn_add, nn_mul, nn_sub, nn_addM, nn_div, nn_rem, nn_min, nn_max, nn_abs, nn_lt, nn_le, nn_eq, nn_eqM, nn_Meq, nn_ltM, nn_Mlt, nn_leM, nn_Mle, z_ix_nn, z_inb_nn, F_at_nn, F_put_nn, Nat.zero_add, Nat.add_zero, z_P_some, z_R_some, z_P_bd, if_true, if_false, if_pos, if_neg], by simp (disch := omega) only [F_X11_both, opm, z_let, nn_l2, nn_add, nn_mul, nn_sub, nn_addM, nn_div, nn_rem, nn_min, nn_max, nn_abs, nn_lt, nn_le, nn_eq, nn_eqM, nn_Meq, nn_ltM, nn_Mlt, nn_leM, nn_Mle, z_ix_nn, z_inb_nn, F_at_nn, F_put_nn, Nat.zero_add, Nat.add_zero, z_P_some, z_R_some, z_P_bd, if_true, if_false, if_pos, if_neg]⟩
  · by_cases h : b = nn 0
    · exact ⟨nn 0, by simp (disch := omega) only [F_X5_joined, h, z_let, nn_l2, nn_add, nn_mul, nn_sub, nn_addM, nn_div, nn_rem, nn_min, nn_max, nn_abs, nn_lt, nn_le, nn_eq, nn_eqM, nn_Meq, nn_ltM, nn_Mlt, nn_leM, nn_Mle, z_ix_nn, z_inb_nn, F_at_nn, F_put_nn, Nat.zero_add, Nat.add_zero, z_P_some, z_R_some, z_P_bd, if_true, if_false, if_pos, if_neg], by simp (disch := omega) only [F_X11_both, opm, h, z_let, nn_l2, nn_add, nn_mul, nn_sub, nn_addM, nn_div, nn_rem, nn_min, nn_max, nn_abs, nn_lt, nn_le, nn_eq, nn_eqM, nn_Meq, nn_ltM, nn_Mlt, nn_leM, nn_Mle, z_ix_nn, z_inb_nn, F_at_nn, F_put_nn, Nat.zero_add, Nat.add_zero, z_P_some, z_R_some, z_P_bd, if_true, if_false, if_pos, if_neg]⟩
    · exact ⟨a / b, by simp (disch := omega) only [F_X5_joined, h, z_let, nn_l2, nn_add, nn_mul, nn_sub, nn_addM, nn_div, nn_rem, nn_min, nn_max, nn_abs, nn_lt, nn_le, nn_eq, nn_eqM, nn_Meq, nn_ltM, nn_Mlt, nn_leM, nn_Mle, z_ix_nn, z_inb_nn, F_at_nn, F_put_nn, Nat.zero_add, Nat.add_zero, z_P_some, z_R_some, z_P_bd, if_true, if_false, if_pos, if_neg], by simp (disch := omega) only [F_X11_both, opm, h, z_let, nn_l2, nn_add, nn_mul, nn_sub, nn_addM, nn_div, nn_rem, nn_min, nn_max, nn_abs, nn_lt, nn_le, nn_eq, nn_eqM, nn_Meq, nn_ltM, nn_Mlt, nn_leM, nn_Mle, z_ix_nn, z_inb_nn, F_at_nn, F_put_nn, Nat.zero_add, Nat.add_zero, z_P_some, z_R_some, z_P_bd, if_true, if_false, if_pos, if_neg]⟩
/-- what sitting writes: the law's pile and facts -/
def FS (D D1 : z_Dat) : Prop := ∀ r, r ≠ 10 → r ≠ 11 → D1 r = D r
def FS' (D D1 : z_Dat) : Prop := ∀ r, r ≠ 53 → r ≠ 54 → D1 r = D r
theorem FS.rf {D : z_Dat} : FS D D := fun _ _ _ => rfl
theorem FS'.rf {D : z_Dat} : FS' D D := fun _ _ _ => rfl
theorem FS.tr {D D1 D2 : z_Dat} (h : FS D D1) (h2 : FS D1 D2) : FS D D2 := fun r a b => (h2 r a b).trans (h r a b)
theorem FS'.tr {D D1 D2 : z_Dat} (h : FS' D D1) (h2 : FS' D1 D2) : FS' D D2 := fun r a b => (h2 r a b).trans (h r a b)
theorem FS.up {D D1 : z_Dat} {a i : Nat} {x : Int32} (h : FS D D1) (ha : a = 10 ∨ a = 11) : FS D (z_up D1 a i x) := fun r h1 h2 => by
  rw [z_up_ne (by omega)]
  exact h r h1 h2
theorem FS'.up {D D1 : z_Dat} {a i : Nat} {x : Int32} (h : FS' D D1) (ha : a = 53 ∨ a = 54) : FS' D (z_up D1 a i x) := fun r h1 h2 => by
  rw [z_up_ne (by omega)]
  exact h r h1 h2
set_option maxHeartbeats 4000000 in
theorem worth_R {N m : Nat} {D D' : z_Dat} {dep : Nat → Nat} (hN : 200 < N) (h0 : 0 < m) (hm : m ≤ 150) (e4 : D 7 4 = nn m) (e28 : D' 40 28 = nn m) (hd0 : dep 0 = 0) (hE : ∀ k, k < m → EN D D' dep k) (hf : ∀ j, j < 9 → D 11 j = D' 54 j) :
    z_R (F_X5_worth N D) (F_X11_valueNow N D') (fun a c => a.1 = c.1 ∧ FS D a.2 ∧ FS' D' c.2) := by
  unfold F_X5_worth F_X11_valueNow
  refine z_R_loop (fun k s s' => ∃ i, i + k = m ∧ s.1 = nn (dep i) ∧ s'.1 = nn (dep i) ∧ s.2.1 = nn i ∧ s'.2.1 = nn i ∧ (∀ j, j < dep i → s.2.2 10 j = s'.2.2 53 j) ∧ (∀ j, s.2.2 11 j = D 11 j) ∧ (∀ j, s'.2.2 54 j = D' 54 j) ∧ FS D s.2.2 ∧ FS' D' s'.2.2) ?_ m N N _ _ (by omega) (by omega) ⟨0, by omega, by rw [hd0]; rfl, by rw [hd0]; rfl, rfl, rfl, fun j hj => absurd hj (by rw [hd0]; omega), fun _ => rfl, fun _ => rfl, FS.rf, FS'.rf⟩
  rintro k ⟨v1, v2, E⟩ ⟨w1, w2, E'⟩ kc kc' ⟨i, hk, rfl, rfl, rfl, rfl, hp, hf1, hf2, hF, hF'⟩ ih
  dsimp only at hp hf1 hf2 hF hF' ⊢
  have g4 : E 7 4 = nn m := by rw [hF 7 (by decide) (by decide)]; exact e4
  have g28 : E' 40 28 = nn m := by rw [hF' 40 (by decide) (by decide)]; exact e28
  have hdl := dep_le hd0 hE i (by omega)
  by_cases hi : i < m
  · have hen := (hE i hi).keep (E := E) (E' := E') (hF 8 (by decide) (by decide)) (hF' 51 (by decide) (by decide)) (hF' 52 (by decide) (by decide))
    rcases hen with ⟨v, h1, h2, h3, h4, h5⟩ | ⟨f, h1, h2, h3, h4, h5⟩ | ⟨c, h1, h2, h3, h4, h5⟩
    · simp (disch := omega) only [F_X5_worth_L4, F_X11_valueNow_L4, g4, g28, h2, h3, h4, ↓reduceIte, ↓z_letE, ↓z_bdE, nn_l2, nn_add, nn_mul, nn_sub, nn_addM, nn_div, nn_rem, nn_min, nn_max, nn_abs, nn_ltT, nn_ltF, nn_leT, nn_leF, nn_eqT, nn_eqF, nn_lt, nn_le, nn_eq, nn_eqM, nn_Meq, nn_ltM, nn_Mlt, nn_leM, nn_Mle, z_ix_nn, z_inb_nn, F_at_nn, F_put_nn, Nat.zero_add, Nat.add_zero, z_P_some, z_R_some, z_P_bd]
      refine ih (k - 1) _ _ (by omega) ⟨i + 1, by omega, by rw [h5], by rw [h5], rfl, rfl, fun j hj => ?_, fun j => by simp (disch := omega) only [z_up_r, hf1], fun j => by simp (disch := omega) only [z_up_r, hf2], hF.up (Or.inl rfl), hF'.up (Or.inl rfl)⟩
      by_cases hj2 : j = dep i
      · simp (disch := omega) only [z_up_at]
      · simp (disch := omega) only [z_up_i]
        exact hp j (by omega)
    · have hff := hf f h1
      rw [← hf1 f, ← hf2 f] at hff
      simp (disch := omega) only [F_X5_worth_L4, F_X11_valueNow_L4, g4, g28, h2, h3, h4, Nat.add_sub_cancel_left, ↓reduceIte, ↓z_letE, ↓z_bdE, nn_l2, nn_add, nn_mul, nn_sub, nn_addM, nn_div, nn_rem, nn_min, nn_max, nn_abs, nn_ltT, nn_ltF, nn_leT, nn_leF, nn_eqT, nn_eqF, nn_lt, nn_le, nn_eq, nn_eqM, nn_Meq, nn_ltM, nn_Mlt, nn_leM, nn_Mle, z_ix_nn, z_inb_nn, F_at_nn, F_put_nn, Nat.zero_add, Nat.add_zero, z_P_some, z_R_some, z_P_bd]
      refine ih (k - 1) _ _ (by omega) ⟨i + 1, by omega, by rw [h5], by rw [h5], rfl, rfl, fun j hj => ?_, fun j => by simp (disch := omega) only [z_up_r, hf1], fun j => by simp (disch := omega) only [z_up_r, hf2], hF.up (Or.inl rfl), hF'.up (Or.inl rfl)⟩
      by_cases hj2 : j = dep i
      · simp (disch := omega) only [z_up_at]
        exact hff
      · simp (disch := omega) only [z_up_i]
        exact hp j (by omega)
    · have hop : opm c < 8 ∧ 2 ≤ opm c := by unfold opm; split <;> omega
      obtain ⟨r, j1, j2⟩ := joined_e (c := c) (a := E' 53 (dep i - 1 - 1)) (b := E' 53 (dep i - 1)) h1
      simp (disch := omega) only [F_X5_worth_L4, F_X11_valueNow_L4, g4, g28, h2, h3, hp (dep i - 1 - 1) (by omega), hp (dep i - 1) (by omega), j1, j2, ↓reduceIte, ↓z_letE, ↓z_bdE, nn_l2, nn_add, nn_mul, nn_sub, nn_addM, nn_div, nn_rem, nn_min, nn_max, nn_abs, nn_ltT, nn_ltF, nn_leT, nn_leF, nn_eqT, nn_eqF, nn_lt, nn_le, nn_eq, nn_eqM, nn_Meq, nn_ltM, nn_Mlt, nn_leM, nn_Mle, z_ix_nn, z_inb_nn, F_at_nn, F_put_nn, Nat.zero_add, Nat.add_zero, z_P_some, z_R_some, z_P_bd]
      refine ih (k - 1) _ _ (by omega) ⟨i + 1, by omega, by rw [h5], by rw [h5], rfl, rfl, fun j hj => ?_, fun j => by simp (disch := omega) only [z_up_r, hf1], fun j => by simp (disch := omega) only [z_up_r, hf2], hF.up (Or.inl rfl), hF'.up (Or.inl rfl)⟩
      by_cases hj2 : j = dep i - 1 - 1
      · simp (disch := omega) only [z_up_at]
      · simp (disch := omega) only [z_up_i]
        exact hp j (by omega)
  · have hii : i = m := by omega
    subst hii
    have h1 : 1 ≤ dep i := by
      have := (hE (i - 1) (by omega)).dep
      rw [show i - 1 + 1 = i by omega] at this
      exact this.1
    simp (disch := omega) only [F_X5_worth_L4, F_X11_valueNow_L4, g4, g28, ↓reduceIte, ↓z_letE, ↓z_bdE, nn_l2, nn_add, nn_mul, nn_sub, nn_addM, nn_div, nn_rem, nn_min, nn_max, nn_abs, nn_ltT, nn_ltF, nn_leT, nn_leF, nn_eqT, nn_eqF, nn_lt, nn_le, nn_eq, nn_eqM, nn_Meq, nn_ltM, nn_Mlt, nn_leM, nn_Mle, z_ix_nn, z_inb_nn, F_at_nn, F_put_nn, Nat.zero_add, Nat.add_zero, z_P_some, z_R_some, z_P_bd]
    exact ⟨hp 0 (by omega), hF, hF'⟩
