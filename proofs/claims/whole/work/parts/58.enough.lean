/-! ===== enough ===== -/
theorem bit_e : ∀ st, st < 64 → ∀ b, b < 6 → z_shr (nn st) (nn b) &&& nn 1 = nn (st / 2 ^ b % 2) := by decide +kernel
theorem shl_e : ∀ b, b < 9 → z_shl (nn 1) (nn b) = nn (2 ^ b) := by decide +kernel
def ub (st b : Nat) : Bool := decide (st / 2 ^ b % 2 = 1)
theorem cell47 {G2 : z_Dat} {b v : Nat} (h : G2 47 (4 * b) = nn (v / 100) ∧ G2 47 (4 * b + 1) = nn (v / 10 % 10) ∧ G2 47 (4 * b + 2) = nn (v % 10)) {d : Nat} (hd : d < 3) : G2 47 (4 * b + d) = nn (dg v d) := by
  have h3 : d = 0 ∨ d = 1 ∨ d = 2 := by omega
  rcases h3 with rfl | rfl | rfl
  · exact h.1
  · exact h.2.1
  · exact h.2.2
theorem dg_le {v d : Nat} (hv : v < 1000) : dg v d ≤ 9 := by
  unfold dg
  split
  · omega
  · split <;> omega
set_option maxHeartbeats 4000000 in
theorem need_P {N ns st d : Nat} {vt : Nat → Nat} {E' : z_Dat} (hN : 200 < N) (hns : ns ≤ 6) (hd : d < 3) (hst : st < 64) (k19 : E' 40 19 = nn ns) (hv : ∀ b, b < ns → vt b < 1000 ∧ (E' 47 (4 * b) = nn (vt b / 100) ∧ E' 47 (4 * b + 1) = nn (vt b / 10 % 10) ∧ E' 47 (4 * b + 2) = nn (vt b % 10))) : z_P (F_X11_needOf N (nn st) (nn d) E') (fun a => a = nn (sumS (ub st) (fun b => dg (vt b) d) ns)) := by
  unfold F_X11_needOf
  refine z_P_loop (fun k s => ∃ b, b + k = ns ∧ s.1 = nn (sumS (ub st) (fun b => dg (vt b) d) b) ∧ s.2 = nn b) ?_ ns N _ (by omega) ⟨0, by omega, rfl, rfl⟩
  rintro k ⟨v1, v2⟩ kc ⟨b, hk, rfl, rfl⟩ ih
  dsimp only
  by_cases hb : b < ns
  · obtain ⟨h1, h2⟩ := hv b hb
    have e47 := cell47 h2 hd
    have eb := bit_e st hst b (by omega)
    by_cases hu : st / 2 ^ b % 2 = 1
    · rw [hu] at eb
      simp (disch := omega) only [F_X11_needOf_L5, k19, eb, e47, ↓reduceIte, ↓z_letE, ↓z_bdE, nn_l2, nn_add, nn_mul, nn_sub, nn_addM, nn_div, nn_rem, nn_min, nn_max, nn_abs, nn_ltT, nn_ltF, nn_leT, nn_leF, nn_eqT, nn_eqF, nn_eqM, nn_Meq, nn_ltM, nn_Mlt, nn_leM, nn_Mle, z_ix_nn, z_inb_nn, F_at_nn, F_put_nn, Nat.zero_add, Nat.add_zero, z_P_some, z_R_some, z_P_bd]
      exact ih (k - 1) _ (by omega) ⟨b + 1, by omega, by rw [sumS_t (by simp [ub, hu])], rfl⟩
    · have hu0 : st / 2 ^ b % 2 = 0 := by omega
      rw [hu0] at eb
      simp (disch := omega) only [F_X11_needOf_L5, k19, eb, ↓reduceIte, ↓z_letE, ↓z_bdE, nn_l2, nn_add, nn_mul, nn_sub, nn_addM, nn_div, nn_rem, nn_min, nn_max, nn_abs, nn_ltT, nn_ltF, nn_leT, nn_leF, nn_eqT, nn_eqF, nn_eqM, nn_Meq, nn_ltM, nn_Mlt, nn_leM, nn_Mle, z_ix_nn, z_inb_nn, F_at_nn, F_put_nn, Nat.zero_add, Nat.add_zero, z_P_some, z_R_some, z_P_bd]
      exact ih (k - 1) _ (by omega) ⟨b + 1, by omega, by rw [sumS_f (by simp [ub, hu])], rfl⟩
  · have hbb : b = ns := by omega
    subst hbb
    simp (disch := omega) only [F_X11_needOf_L5, k19, ↓reduceIte, ↓z_letE, ↓z_bdE, nn_l2, nn_add, nn_mul, nn_sub, nn_addM, nn_div, nn_rem, nn_min, nn_max, nn_abs, nn_ltT, nn_ltF, nn_leT, nn_leF, nn_eqT, nn_eqF, nn_eqM, nn_Meq, nn_ltM, nn_Mlt, nn_leM, nn_Mle, z_ix_nn, z_inb_nn, F_at_nn, F_put_nn, Nat.zero_add, Nat.add_zero, z_P_some, z_R_some, z_P_bd]
def sfc (st y ns rv : Nat) (vt s : Nat → Nat) (d : Nat) : Prop := sumS (ub st) (fun b => dg (vt b) d) ns ≤ min 200 (s d + y * rv)
set_option maxHeartbeats 4000000 in
theorem suff_P {N o ns st y rv : Nat} {vt s : Nat → Nat} {D : z_Dat} (hN : 200 < N) (hns : ns ≤ 6) (hst : st < 64) (hy : y ≤ 100) (hrv : rv ≤ 20) (c5 : D o 5 = nn ns) (c7 : D o 7 = nn rv) (hv : ∀ b, b < ns → vt b < 1000 ∧ D (o + 1) b = nn (vt b)) (hs : ∀ d, d < 3 → s d ≤ 200 ∧ D (3 + 1) (40 + d) = nn (s d)) :
    z_P (F_X10_suffices N o (nn st) (nn y) D) (fun a => (a = nn 1 ∧ ∀ d, d < 3 → sfc st y ns rv vt s d) ∨ (a = nn 0 ∧ ¬ ∀ d, d < 3 → sfc st y ns rv vt s d)) := by
  have hyr : y * rv ≤ 2000 := Nat.le_trans (Nat.mul_le_mul hy hrv) (by decide)
  have hsum : ∀ d b, b ≤ ns → sumS (ub st) (fun b => dg (vt b) d) b ≤ 54 := fun d b hb => by
    have h1 := sumS_le (u := ub st) (w := fun b => dg (vt b) d) (c := 9) (n := ns) (fun p hp => dg_le (hv p hp).1) b hb
    have h2 := cntS_le (ub st) b
    omega
  obtain ⟨t0, x0⟩ := hs 0 (by decide)
  obtain ⟨t1, x1⟩ := hs 1 (by decide)
  obtain ⟨t2, x2⟩ := hs 2 (by decide)
  have x0' : D (3 + 1) 40 = nn (s 0) := x0
  have x1' : D (3 + 1) 41 = nn (s 1) := x1
  have x2' : D (3 + 1) 42 = nn (s 2) := x2
  unfold F_X10_suffices F_X10_suffices_J2xxx
  refine z_P_loop (fun k t => ∃ b, b + k = ns ∧ t.1 = nn (sumS (ub st) (fun b => dg (vt b) 0) b) ∧ t.2 = nn b) ?_ ns N _ (by omega) ⟨0, by omega, rfl, rfl⟩
  rintro k ⟨v1, v2⟩ kc ⟨b, hk, rfl, rfl⟩ ih
  dsimp only
  by_cases hb : b < ns
  · obtain ⟨h1, h2⟩ := hv b hb
    have eb := bit_e st hst b (by omega)
    have ed : F_X10_partOf (nn (vt b)) (nn 0) = nn (dg (vt b) 0) := partOf_0 h1
    by_cases hu : st / 2 ^ b % 2 = 1
    · rw [hu] at eb
      simp (disch := omega) only [F_X10_suffices_L13xx, F_X1_vatOf, c5, eb, h2, ed, ↓reduceIte, ↓z_letE, ↓z_bdE, nn_l2, nn_add, nn_mul, nn_sub, nn_addM, nn_div, nn_rem, nn_min, nn_max, nn_abs, nn_ltT, nn_ltF, nn_leT, nn_leF, nn_eqT, nn_eqF, nn_eqM, nn_Meq, nn_ltM, nn_Mlt, nn_leM, nn_Mle, z_ix_nn, z_inb_nn, F_at_nn, F_put_nn, Nat.zero_add, Nat.add_zero, z_P_some, z_R_some, z_P_bd]
      exact ih (k - 1) _ (by omega) ⟨b + 1, by omega, by rw [sumS_t (by simp [ub, hu])], rfl⟩
    · have hu0 : st / 2 ^ b % 2 = 0 := by omega
      rw [hu0] at eb
      simp (disch := omega) only [F_X10_suffices_L13xx, c5, eb, ↓reduceIte, ↓z_letE, ↓z_bdE, nn_l2, nn_add, nn_mul, nn_sub, nn_addM, nn_div, nn_rem, nn_min, nn_max, nn_abs, nn_ltT, nn_ltF, nn_leT, nn_leF, nn_eqT, nn_eqF, nn_eqM, nn_Meq, nn_ltM, nn_Mlt, nn_leM, nn_Mle, z_ix_nn, z_inb_nn, F_at_nn, F_put_nn, Nat.zero_add, Nat.add_zero, z_P_some, z_R_some, z_P_bd]
      exact ih (k - 1) _ (by omega) ⟨b + 1, by omega, by rw [sumS_f (by simp [ub, hu])], rfl⟩
  have hbb : b = ns := by omega
  subst hbb
  clear ih
  have l0 := hsum 0 b (Nat.le_refl _)
  by_cases q0 : sumS (ub st) (fun b => dg (vt b) 0) b ≤ min 200 (s 0 + y * rv)
  rotate_left
  · simp (disch := omega) only [F_X10_suffices_L13xx, F_X9_stored, c5, c7, x0', ↓reduceIte, ↓z_letE, ↓z_bdE, nn_l2, nn_add, nn_mul, nn_sub, nn_addM, nn_div, nn_rem, nn_min, nn_max, nn_abs, nn_ltT, nn_ltF, nn_leT, nn_leF, nn_eqT, nn_eqF, nn_eqM, nn_Meq, nn_ltM, nn_Mlt, nn_leM, nn_Mle, z_ix_nn, z_inb_nn, F_at_nn, F_put_nn, Nat.zero_add, Nat.add_zero, z_P_some, z_R_some, z_P_bd]
    exact Or.inr ⟨trivial, fun h => q0 (h 0 (by decide))⟩
  simp (disch := omega) only [F_X10_suffices_L13xx, F_X9_stored, c5, c7, x0', ↓reduceIte, ↓z_letE, ↓z_bdE, nn_l2, nn_add, nn_mul, nn_sub, nn_addM, nn_div, nn_rem, nn_min, nn_max, nn_abs, nn_ltT, nn_ltF, nn_leT, nn_leF, nn_eqT, nn_eqF, nn_eqM, nn_Meq, nn_ltM, nn_Mlt, nn_leM, nn_Mle, z_ix_nn, z_inb_nn, F_at_nn, F_put_nn, Nat.zero_add, Nat.add_zero, z_P_some, z_R_some, z_P_bd]
  unfold F_X10_suffices_J2xx
  refine z_P_loop (fun k t => ∃ c, c + k = b ∧ t.1 = nn (sumS (ub st) (fun b => dg (vt b) 1) c) ∧ t.2 = nn c) ?_ b N _ (by omega) ⟨0, by omega, rfl, rfl⟩
  rintro k ⟨v1, v2⟩ kc ⟨c, hk, rfl, rfl⟩ ih
  dsimp only
  by_cases hc : c < b
  · obtain ⟨h1, h2⟩ := hv c hc
    have eb := bit_e st hst c (by omega)
    have ed : F_X10_partOf (nn (vt c)) (nn 1) = nn (dg (vt c) 1) := partOf_1 h1
    by_cases hu : st / 2 ^ c % 2 = 1
    · rw [hu] at eb
      simp (disch := omega) only [F_X10_suffices_L13x, F_X1_vatOf, c5, eb, h2, ed, ↓reduceIte, ↓z_letE, ↓z_bdE, nn_l2, nn_add, nn_mul, nn_sub, nn_addM, nn_div, nn_rem, nn_min, nn_max, nn_abs, nn_ltT, nn_ltF, nn_leT, nn_leF, nn_eqT, nn_eqF, nn_eqM, nn_Meq, nn_ltM, nn_Mlt, nn_leM, nn_Mle, z_ix_nn, z_inb_nn, F_at_nn, F_put_nn, Nat.zero_add, Nat.add_zero, z_P_some, z_R_some, z_P_bd]
      exact ih (k - 1) _ (by omega) ⟨c + 1, by omega, by rw [sumS_t (by simp [ub, hu])], rfl⟩
    · have hu0 : st / 2 ^ c % 2 = 0 := by omega
      rw [hu0] at eb
      simp (disch := omega) only [F_X10_suffices_L13x, c5, eb, ↓reduceIte, ↓z_letE, ↓z_bdE, nn_l2, nn_add, nn_mul, nn_sub, nn_addM, nn_div, nn_rem, nn_min, nn_max, nn_abs, nn_ltT, nn_ltF, nn_leT, nn_leF, nn_eqT, nn_eqF, nn_eqM, nn_Meq, nn_ltM, nn_Mlt, nn_leM, nn_Mle, z_ix_nn, z_inb_nn, F_at_nn, F_put_nn, Nat.zero_add, Nat.add_zero, z_P_some, z_R_some, z_P_bd]
      exact ih (k - 1) _ (by omega) ⟨c + 1, by omega, by rw [sumS_f (by simp [ub, hu])], rfl⟩
  have hcc : c = b := by omega
  subst hcc
  clear ih
  have l1 := hsum 1 c (Nat.le_refl _)
  by_cases q1 : sumS (ub st) (fun b => dg (vt b) 1) c ≤ min 200 (s 1 + y * rv)
  rotate_left
  · simp (disch := omega) only [F_X10_suffices_L13x, F_X9_stored, c5, c7, x1', ↓reduceIte, ↓z_letE, ↓z_bdE, nn_l2, nn_add, nn_mul, nn_sub, nn_addM, nn_div, nn_rem, nn_min, nn_max, nn_abs, nn_ltT, nn_ltF, nn_leT, nn_leF, nn_eqT, nn_eqF, nn_eqM, nn_Meq, nn_ltM, nn_Mlt, nn_leM, nn_Mle, z_ix_nn, z_inb_nn, F_at_nn, F_put_nn, Nat.zero_add, Nat.add_zero, z_P_some, z_R_some, z_P_bd]
    exact Or.inr ⟨trivial, fun h => q1 (h 1 (by decide))⟩
  simp (disch := omega) only [F_X10_suffices_L13x, F_X9_stored, c5, c7, x1', ↓reduceIte, ↓z_letE, ↓z_bdE, nn_l2, nn_add, nn_mul, nn_sub, nn_addM, nn_div, nn_rem, nn_min, nn_max, nn_abs, nn_ltT, nn_ltF, nn_leT, nn_leF, nn_eqT, nn_eqF, nn_eqM, nn_Meq, nn_ltM, nn_Mlt, nn_leM, nn_Mle, z_ix_nn, z_inb_nn, F_at_nn, F_put_nn, Nat.zero_add, Nat.add_zero, z_P_some, z_R_some, z_P_bd]
  unfold F_X10_suffices_J2x
  refine z_P_loop (fun k t => ∃ e, e + k = c ∧ t.1 = nn (sumS (ub st) (fun b => dg (vt b) 2) e) ∧ t.2 = nn e) ?_ c N _ (by omega) ⟨0, by omega, rfl, rfl⟩
  rintro k ⟨v1, v2⟩ kc ⟨e, hk, rfl, rfl⟩ ih
  dsimp only
  by_cases he : e < c
  · obtain ⟨h1, h2⟩ := hv e he
    have eb := bit_e st hst e (by omega)
    have ed : F_X10_partOf (nn (vt e)) (nn 2) = nn (dg (vt e) 2) := partOf_2 h1
    by_cases hu : st / 2 ^ e % 2 = 1
    · rw [hu] at eb
      simp (disch := omega) only [F_X10_suffices_L13, F_X1_vatOf, c5, eb, h2, ed, ↓reduceIte, ↓z_letE, ↓z_bdE, nn_l2, nn_add, nn_mul, nn_sub, nn_addM, nn_div, nn_rem, nn_min, nn_max, nn_abs, nn_ltT, nn_ltF, nn_leT, nn_leF, nn_eqT, nn_eqF, nn_eqM, nn_Meq, nn_ltM, nn_Mlt, nn_leM, nn_Mle, z_ix_nn, z_inb_nn, F_at_nn, F_put_nn, Nat.zero_add, Nat.add_zero, z_P_some, z_R_some, z_P_bd]
      exact ih (k - 1) _ (by omega) ⟨e + 1, by omega, by rw [sumS_t (by simp [ub, hu])], rfl⟩
    · have hu0 : st / 2 ^ e % 2 = 0 := by omega
      rw [hu0] at eb
      simp (disch := omega) only [F_X10_suffices_L13, c5, eb, ↓reduceIte, ↓z_letE, ↓z_bdE, nn_l2, nn_add, nn_mul, nn_sub, nn_addM, nn_div, nn_rem, nn_min, nn_max, nn_abs, nn_ltT, nn_ltF, nn_leT, nn_leF, nn_eqT, nn_eqF, nn_eqM, nn_Meq, nn_ltM, nn_Mlt, nn_leM, nn_Mle, z_ix_nn, z_inb_nn, F_at_nn, F_put_nn, Nat.zero_add, Nat.add_zero, z_P_some, z_R_some, z_P_bd]
      exact ih (k - 1) _ (by omega) ⟨e + 1, by omega, by rw [sumS_f (by simp [ub, hu])], rfl⟩
  have hee : e = c := by omega
  subst hee
  clear ih
  have l2 := hsum 2 e (Nat.le_refl _)
  by_cases q2 : sumS (ub st) (fun b => dg (vt b) 2) e ≤ min 200 (s 2 + y * rv)
  rotate_left
  · simp (disch := omega) only [F_X10_suffices_L13, F_X9_stored, c5, c7, x2', ↓reduceIte, ↓z_letE, ↓z_bdE, nn_l2, nn_add, nn_mul, nn_sub, nn_addM, nn_div, nn_rem, nn_min, nn_max, nn_abs, nn_ltT, nn_ltF, nn_leT, nn_leF, nn_eqT, nn_eqF, nn_eqM, nn_Meq, nn_ltM, nn_Mlt, nn_leM, nn_Mle, z_ix_nn, z_inb_nn, F_at_nn, F_put_nn, Nat.zero_add, Nat.add_zero, z_P_some, z_R_some, z_P_bd]
    exact Or.inr ⟨trivial, fun h => q2 (h 2 (by decide))⟩
  simp (disch := omega) only [F_X10_suffices_L13, F_X10_suffices_J2, F_X9_stored, c5, c7, x2', ↓reduceIte, ↓z_letE, ↓z_bdE, nn_l2, nn_add, nn_mul, nn_sub, nn_addM, nn_div, nn_rem, nn_min, nn_max, nn_abs, nn_ltT, nn_ltF, nn_leT, nn_leF, nn_eqT, nn_eqF, nn_eqM, nn_Meq, nn_ltM, nn_Mlt, nn_leM, nn_Mle, z_ix_nn, z_inb_nn, F_at_nn, F_put_nn, Nat.zero_add, Nat.add_zero, z_P_some, z_R_some, z_P_bd]
  refine Or.inl ⟨trivial, fun d hd => ?_⟩
  have h3 : d = 0 ∨ d = 1 ∨ d = 2 := by omega
  rcases h3 with rfl | rfl | rfl
  · exact q0
  · exact q1
  · exact q2
