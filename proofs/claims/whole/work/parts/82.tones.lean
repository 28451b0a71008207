/-! ===== tones: all shades that dips lead to, counted by both ===== -/
def Rc (ns : Nat) (vt : Nat → Nat) (a s : Nat) : Prop := ∀ Q : Nat → Prop, Q a → (∀ x b, b < ns → Q x → Q (dp x (vt b))) → Q s
theorem Rc.rf {ns a : Nat} {vt : Nat → Nat} : Rc ns vt a a := fun Q h _ => h
theorem Rc.st {ns a x b : Nat} {vt : Nat → Nat} (h : Rc ns vt a x) (hb : b < ns) : Rc ns vt a (dp x (vt b)) := fun Q h0 h1 => h1 x b hb (h Q h0 h1)
def ut (u : Nat → Bool) (x : Nat) : Nat → Bool := fun y => if y = x then true else u y
theorem ut_at {u : Nat → Bool} {x : Nat} : ut u x x = true := if_pos rfl
theorem ut_ne {u : Nat → Bool} {x y : Nat} (h : y ≠ x) : ut u x y = u y := if_neg h
theorem ut_up {u : Nat → Bool} {x y : Nat} (h : u y = true) : ut u x y = true := by
  unfold ut
  split
  · rfl
  · exact h
theorem cnt_lt {u : Nat → Bool} {x : Nat} (h : u x = false) : ∀ n, x < n → cntS u n < n := by
  intro n
  induction n with
  | zero => intro h; omega
  | succ n ih =>
    intro hx
    by_cases hn : x = n
    · subst hn
      rw [cntS_f h]
      have := cntS_le u x
      omega
    · have := ih (by omega)
      cases hu : u n
      · rw [cntS_f hu]
        omega
      · rw [cntS_t hu]
        omega
theorem cnt_ut {u : Nat → Bool} {x : Nat} (h : u x = false) : ∀ n, x < n → cntS (ut u x) n = cntS u n + 1 := by
  intro n
  induction n with
  | zero => intro h; omega
  | succ n ih =>
    intro hx
    by_cases hn : x = n
    · subst hn
      rw [cntS_f h, cntS_t ut_at, cntS_eq (u := ut u x) (v := u) x (fun c hc => ut_ne (by omega))]
    · have := ih (by omega)
      cases hu : u n
      · rw [cntS_f hu, cntS_f (by rw [ut_ne (by omega)]; exact hu)]
        omega
      · rw [cntS_t hu, cntS_t (by rw [ut_ne (by omega)]; exact hu)]
        omega
theorem cnt_0 {u : Nat → Bool} : ∀ n, (∀ x, x < n → u x = false) → cntS u n = 0 := by
  intro n
  induction n with
  | zero => intro _; rfl
  | succ n ih =>
    intro h
    rw [cntS_f (h n (by omega))]
    exact ih (fun x hx => h x (by omega))
set_option maxHeartbeats 4000000 in
theorem reach_P {N o ns a : Nat} {vt : Nat → Nat} {D : z_Dat} (hN : 2000 < N) (ho : o = 34 ∨ 68 ≤ o) (hns : ns ≤ 6) (ha : a < 1000) (c5 : D o 5 = nn ns) (hv : ∀ b, b < ns → vt b < 1000 ∧ D (o + 1) b = nn (vt b)) : z_P (F_X6_reachable N o (nn a) D) (fun t => Fr 27 D t.2 ∧ ∃ u, t.1 = nn (cntS u 1000) ∧ ∀ x, x < 1000 → (u x = true ↔ Rc ns vt a x)) := by
  unfold F_X6_reachable
  rw [z_P_bd]
  refine z_P_mono (fill_P (n := 1000) (by omega) (by decide)) (fun E1 h1 => ?_)
  simp (disch := omega) only [↓reduceIte, ↓z_letE, ↓z_bdE, nn_l2, nn_add, nn_mul, nn_sub, nn_addM, nn_div, nn_rem, nn_min, nn_max, nn_abs, nn_ltT, nn_ltF, nn_leT, nn_leF, nn_eqT, nn_eqF, nn_eqM, nn_Meq, nn_ltM, nn_Mlt, nn_leM, nn_Mle, z_ix_nn, z_inb_nn, F_at_nn, F_put_nn, Nat.zero_add, Nat.add_zero, z_P_some, z_R_some, z_P_bd]
  refine z_P_loop (fun q t => ∃ s u, a ≤ s ∧ s + q = 1000 ∧ t.1 = nn (cntS u s) ∧ t.2.1 = nn s ∧ Fr 27 D t.2.2 ∧ (∀ x, x < 1000 → t.2.2 27 x = if u x then nn 1 else nn 0) ∧ u a = true ∧ (∀ x, x < a → u x = false) ∧ (∀ x, u x = true → x < 1000 ∧ Rc ns vt a x) ∧ ∀ x, x < s → u x = true → ∀ b, b < ns → u (dp x (vt b)) = true) ?_ (1000 - a) N _ (by omega) ⟨a, ut (fun _ => false) a, by omega, by omega, ?_, rfl, h1.1.up, fun x hx => ?_, ut_at, fun x hx => ut_ne (by omega), fun x hx => ?_, fun x hx hu => ?_⟩
  rotate_left
  · dsimp only
    rw [cnt_0 (u := ut (fun _ => false) a) a (fun x hx => ut_ne (by omega))]
  · dsimp only
    by_cases hxa : x = a
    · subst hxa
      rw [z_up_at rfl rfl, ut_at]
      rfl
    · rw [z_up_i hxa, h1.2 x hx, ut_ne hxa]
      rfl
  · by_cases hxa : x = a
    · subst hxa
      exact ⟨ha, Rc.rf⟩
    · rw [ut_ne hxa] at hx
      exact absurd hx (by decide)
  · rw [ut_ne (by omega)] at hu
    exact absurd hu (by decide)
  rintro q ⟨v1, v2, E⟩ kc ⟨s, u, has, hq, rfl, rfl, hF, hT, hua, hlo, hR, hcl⟩ ih
  dsimp only at hF hT ⊢
  by_cases hs : s < 1000
  rotate_left
  · obtain rfl : s = 1000 := by omega
    simp (disch := omega) only [F_X6_reachable_L22, ↓reduceIte, ↓z_letE, ↓z_bdE, nn_l2, nn_add, nn_mul, nn_sub, nn_addM, nn_div, nn_rem, nn_min, nn_max, nn_abs, nn_ltT, nn_ltF, nn_leT, nn_leF, nn_eqT, nn_eqF, nn_eqM, nn_Meq, nn_ltM, nn_Mlt, nn_leM, nn_Mle, z_ix_nn, z_inb_nn, F_at_nn, F_put_nn, Nat.zero_add, Nat.add_zero, z_P_some, z_R_some, z_P_bd]
    refine ⟨hF, u, rfl, fun x hx => ⟨fun h => (hR x h).2, fun h => ?_⟩⟩
    have h3 := h (fun y => u y = true) hua (fun y b hb hy => hcl y (hR y hy).1 hy b hb)
    exact h3
  have hTs := hT s hs
  have hcn := cntS_le u s
  cases hus : u s
  · rw [hus] at hTs
    simp only [if_false, Bool.false_eq_true] at hTs
    simp (disch := omega) only [F_X6_reachable_L22, hTs, ↓reduceIte, ↓z_letE, ↓z_bdE, nn_l2, nn_add, nn_mul, nn_sub, nn_addM, nn_div, nn_rem, nn_min, nn_max, nn_abs, nn_ltT, nn_ltF, nn_leT, nn_leF, nn_eqT, nn_eqF, nn_eqM, nn_Meq, nn_ltM, nn_Mlt, nn_leM, nn_Mle, z_ix_nn, z_inb_nn, F_at_nn, F_put_nn, Nat.zero_add, Nat.add_zero, z_P_some, z_R_some, z_P_bd]
    refine ih (q - 1) _ (by omega) ⟨s + 1, u, by omega, by omega, by rw [cntS_f hus], rfl, hF, hT, hua, hlo, hR, fun x hx hu => ?_⟩
    by_cases hxs : x = s
    · subst hxs
      rw [hus] at hu
      exact absurd hu (by decide)
    · exact hcl x (by omega) hu
  · rw [hus] at hTs
    simp only [if_true] at hTs
    simp (disch := omega) only [F_X6_reachable_L22, hTs, ↓reduceIte, ↓z_letE, ↓z_bdE, nn_l2, nn_add, nn_mul, nn_sub, nn_addM, nn_div, nn_rem, nn_min, nn_max, nn_abs, nn_ltT, nn_ltF, nn_leT, nn_leF, nn_eqT, nn_eqF, nn_eqM, nn_Meq, nn_ltM, nn_Mlt, nn_leM, nn_Mle, z_ix_nn, z_inb_nn, F_at_nn, F_put_nn, Nat.zero_add, Nat.add_zero, z_P_some, z_R_some, z_P_bd]
    refine z_P_loop (fun k t => ∃ b w, b + k = ns ∧ t.1 = nn b ∧ Fr 27 D t.2 ∧ (∀ x, x < 1000 → t.2 27 x = if w x then nn 1 else nn 0) ∧ (∀ x, u x = true → w x = true) ∧ (∀ x, x ≤ s → w x = u x) ∧ (∀ x, w x = true → x < 1000 ∧ Rc ns vt a x) ∧ ∀ c, c < b → w (dp s (vt c)) = true) ?_ ns N _ (by omega) ⟨0, u, by omega, rfl, hF, hT, fun _ h => h, fun _ _ => rfl, hR, fun c hc => absurd hc (by omega)⟩
    rintro k ⟨v3, F⟩ kc2 ⟨b, w, hk, rfl, hF2, hT2, hw1, hw2, hw3, hw4⟩ ih2
    dsimp only at hF2 hT2 ⊢
    have e5 : F o 5 = nn ns := by rw [hF2 o (by omega)]; exact c5
    by_cases hb : b < ns
    · obtain ⟨v0, v1⟩ := hv b hb
      have e6 : F (o + 1) b = nn (vt b) := by rw [hF2 (o + 1) (by omega)]; exact v1
      have ed := deeper_10 hs v0
      have h3 : dp s (vt b) < 1000 := dp_lt
      have h4 : s ≤ dp s (vt b) := dp_ge hs
      simp (disch := omega) only [F_X6_reachable_L49, F_X1_vatOf, e5, e6, ed, ↓reduceIte, ↓z_letE, ↓z_bdE, nn_l2, nn_add, nn_mul, nn_sub, nn_addM, nn_div, nn_rem, nn_min, nn_max, nn_abs, nn_ltT, nn_ltF, nn_leT, nn_leF, nn_eqT, nn_eqF, nn_eqM, nn_Meq, nn_ltM, nn_Mlt, nn_leM, nn_Mle, z_ix_nn, z_inb_nn, F_at_nn, F_put_nn, Nat.zero_add, Nat.add_zero, z_P_some, z_R_some, z_P_bd]
      refine ih2 (k - 1) _ (by omega) ⟨b + 1, ut w (dp s (vt b)), by omega, rfl, hF2.up, fun x hx => ?_, fun x hx => ut_up (hw1 x hx), fun x hx => ?_, fun x hx => ?_, fun c hc => ?_⟩
      · dsimp only
        by_cases hxd : x = dp s (vt b)
        · rw [hxd, z_up_at rfl rfl, ut_at]
          rfl
        · rw [z_up_i hxd, ut_ne hxd]
          exact hT2 x hx
      · by_cases hxd : x = dp s (vt b)
        · have hxs : x = s := by omega
          rw [hxs, hus]
          have : dp s (vt b) = s := by omega
          rw [this]
          exact ut_at
        · rw [ut_ne hxd]
          exact hw2 x hx
      · by_cases hxd : x = dp s (vt b)
        · rw [hxd]
          exact ⟨h3, (hR s hus).2.st hb⟩
        · rw [ut_ne hxd] at hx
          exact hw3 x hx
      · by_cases hcb : c = b
        · subst hcb
          exact ut_at
        · exact ut_up (hw4 c (by omega))
    · have hbb : b = ns := by omega
      subst hbb
      simp (disch := omega) only [F_X6_reachable_L49, e5, ↓reduceIte, ↓z_letE, ↓z_bdE, nn_l2, nn_add, nn_mul, nn_sub, nn_addM, nn_div, nn_rem, nn_min, nn_max, nn_abs, nn_ltT, nn_ltF, nn_leT, nn_leF, nn_eqT, nn_eqF, nn_eqM, nn_Meq, nn_ltM, nn_Mlt, nn_leM, nn_Mle, z_ix_nn, z_inb_nn, F_at_nn, F_put_nn, Nat.zero_add, Nat.add_zero, z_P_some, z_R_some, z_P_bd]
      refine ih (q - 1) _ (by omega) ⟨s + 1, w, by omega, by omega, ?_, rfl, hF2, hT2, hw1 a hua, fun x hx => ?_, hw3, fun x hx hu => ?_⟩
      · dsimp only
        rw [cntS_t (by rw [hw2 s (Nat.le_refl _)]; exact hus), cntS_eq (u := w) (v := u) s (fun c hc => hw2 c (by omega))]
      · rw [hw2 x (by omega)]
        exact hlo x hx
      · by_cases hxs : x = s
        · subst hxs
          exact hw4
        · intro c hc
          exact hw1 _ (hcl x (by omega) (by rw [← hw2 x (by omega)]; exact hu) c hc)
