/-! ===== sums: the reference's count, from the first vat on ===== -/
def ro (m : Nat) : Int32 := if m < 5000 then nn m else -nn 1
theorem ro_s {m : Nat} (h : m < 5000) : ro m = nn m := if_pos h
theorem ro_n {m : Nat} (h : 5000 ≤ m) : ro m = -nn 1 := if_neg (by omega)
theorem ro_v {m x : Nat} (h : m < 5000) (h2 : m = x) : nn m = ro x := by
  rw [← h2, ro_s h]
theorem ro_min {x : Nat} : ro (min x 5000) = ro x := by
  by_cases h : x < 5000
  · rw [ro_s h, ro_s (by omega)]
    congr 1
    omega
  · rw [ro_n (by omega), ro_n (by omega)]
def US (D E : z_Dat) (x y : Nat) : Prop := (∀ r, r ≠ 40 → E r = D r) ∧ (∀ j, j ≠ 46 → j ≠ 47 → E 40 j = D 40 j) ∧ E 40 46 = nn x ∧ E 40 47 = ro y
theorem US.tr {D E F : z_Dat} {x y x' y' : Nat} (h : US D E x y) (h2 : US E F x' y') : US D F x' y' := ⟨fun r hr => (h2.1 r hr).trans (h.1 r hr), fun j a b => (h2.2.1 j a b).trans (h.2.1 j a b), h2.2.2⟩
theorem US_mk {D : z_Dat} {x y : Nat} {a b : Int32} (ha : a = nn x) (hb : b = ro y) : US D (z_up (z_up D 40 46 a) 40 47 b) x y := ⟨fun r hr => by rw [z_up_ne hr, z_up_ne hr], fun j h1 h2 => by rw [z_up_i h2, z_up_i h1], by rw [z_up_i (by decide), z_up_at rfl rfl, ha], by rw [z_up_at rfl rfl, hb]⟩
def V47 (ns : Nat) (vt : Nat → Nat) (D : z_Dat) : Prop := ∀ b, b < ns → vt b < 1000 ∧ (D 47 (4 * b) = nn (vt b / 100) ∧ D 47 (4 * b + 1) = nn (vt b / 10 % 10) ∧ D 47 (4 * b + 2) = nn (vt b % 10))
theorem mul_b {n x : Nat} (h : n ≤ 10) (hx : x ≤ 9) : n * x ≤ 90 := Nat.le_trans (Nat.mul_le_mul h hx) (by decide)
theorem mul_p {n x : Nat} (hx : 1 ≤ x) : n ≤ n * x := Nat.le_mul_of_pos_right n hx
def mO (m : Nat) : Prop := m ≤ 1000 ∨ m = 5000
theorem mO_min {m x : Nat} (h : mO m) (hx : x ≤ 1000 ∨ 5000 ≤ x) : mO (min m x) := by
  unfold mO at h ⊢
  omega
/-- what holds in the loop over the amounts of one vat -/
def SI (v r u C m : Nat) (g1 g0 : Nat → Nat) (n A B G C' m' : Nat) : Prop := (A ≤ r / 100 ∧ B ≤ r / 10 % 10 ∧ G ≤ r % 10 ∧ u + n + (r - (100 * A + 10 * B + G)) ≤ 1000 ∧ C' + sv true v g1 (r - (100 * A + 10 * B + G)) = C + sv true v g1 r ∧ min m' (u + n + sv false v g0 (r - (100 * A + 10 * B + G))) = min m (u + sv false v g0 r)) ∨ (¬ (A ≤ r / 100 ∧ B ≤ r / 10 % 10 ∧ G ≤ r % 10) ∧ C' = C + sv true v g1 r ∧ m' = min m (u + sv false v g0 r))
theorem SI_0 {v r u C m : Nat} {g1 g0 : Nat → Nat} (hu : u + r ≤ 1000) : SI v r u C m g1 g0 0 0 0 0 C m := Or.inl ⟨by omega, by omega, by omega, by omega, by simp, by simp⟩
theorem SI_in {v r u C m n A B G C' m' : Nat} {g1 g0 : Nat → Nat} (h : SI v r u C m g1 g0 n A B G C' m') (hh : A ≤ r / 100 ∧ B ≤ r / 10 % 10 ∧ G ≤ r % 10) : u + n + (r - (100 * A + 10 * B + G)) ≤ 1000 ∧ C' + sv true v g1 (r - (100 * A + 10 * B + G)) = C + sv true v g1 r ∧ min m' (u + n + sv false v g0 (r - (100 * A + 10 * B + G))) = min m (u + sv false v g0 r) := by
  rcases h with ⟨-, -, -, h1, h2, h3⟩ | ⟨h, -⟩
  · exact ⟨h1, h2, h3⟩
  · exact absurd hh h
theorem SI_out {v r u C m n A B G C' m' : Nat} {g1 g0 : Nat → Nat} (h : SI v r u C m g1 g0 n A B G C' m') (hh : ¬ (A ≤ r / 100 ∧ B ≤ r / 10 % 10 ∧ G ≤ r % 10)) : C' = C + sv true v g1 r ∧ m' = min m (u + sv false v g0 r) := by
  rcases h with ⟨h1, h2, h3, -⟩ | ⟨-, h⟩
  · exact absurd ⟨h1, h2, h3⟩ hh
  · exact h
theorem SI_u {v r rn A B G : Nat} (j0 : A ≤ r / 100) (j1 : B ≤ r / 10 % 10) (j2 : G ≤ r % 10) (hrn : rn = r - (100 * A + 10 * B + G)) : r / 100 - A = rn / 100 ∧ r / 10 % 10 - B = rn / 10 % 10 ∧ r % 10 - G = rn % 10 := by
  omega
theorem SI_st {v r u C m n A B G C' m' rn : Nat} {g1 g0 : Nat → Nat} (hv0 : 0 < v) (hm' : mO m') (h : SI v r u C m g1 g0 n A B G C' m') (j0 : A ≤ r / 100) (j1 : B ≤ r / 10 % 10) (j2 : G ≤ r % 10) (hrn : rn = r - (100 * A + 10 * B + G)) : SI v r u C m g1 g0 (n + 1) (A + v / 100) (B + v / 10 % 10) (G + v % 10) (C' + g1 rn) (min m' (u + n + g0 rn)) := by
  obtain ⟨hu, hC, hM⟩ := SI_in h ⟨j0, j1, j2⟩
  obtain ⟨s0, s1, s2⟩ := SI_u (v := v) j0 j1 j2 hrn
  rw [← hrn] at hu hC hM
  rw [sv_t (s := rn)] at hC
  rw [sv_f (s := rn)] at hM
  have hrr : r - (100 * (A + v / 100) + 10 * (B + v / 10 % 10) + (G + v % 10)) = rn - v := by omega
  unfold SI
  rw [hrr]
  clear hrr h
  cases ho : okh v rn
  · right
    have h4 := okh_f.mp ho
    unfold hl at h4
    rw [ho] at hC hM
    simp only [if_false, Bool.false_eq_true] at hC hM
    refine ⟨?_, ?_, ?_⟩
    · intro hx
      apply h4
      refine ⟨hv0, ?_, ?_, ?_⟩
      · omega
      · omega
      · omega
    · clear h4
      omega
    · clear h4 hC s0 s1 s2 hu j0 j1 j2
      unfold mO at hm'
      omega
  · left
    have h4 := okh_t.mp ho
    obtain ⟨h5, h6⟩ := h4
    have h7 := hl_le h6
    unfold hl at h6
    rw [ho] at hC hM
    simp only [if_true] at hC hM
    refine ⟨?_, ?_, ?_, ?_, ?_, ?_⟩
    · omega
    · omega
    · omega
    · clear hC hM h6 s0 s1 s2
      omega
    · clear hM h6 s0 s1 s2
      omega
    · clear hC h6 s0 s1 s2
      omega
set_option maxHeartbeats 1000000 in
theorem sumsOn_P {N ns : Nat} {vt : Nat → Nat} (hN : 200 < N) (hns : ns ≤ 6) : ∀ (k i K r u C m : Nat) (D : z_Dat), i + k = ns → k < K → r < 1000 → u + r ≤ 1000 → mO m → D 40 19 = nn ns → V47 ns vt D → US D D C m → z_P (F_X11_sumsOn N K (nn i) (nn (r / 100)) (nn (r / 10 % 10)) (nn (r % 10)) (nn u) D) (fun E => US D E (C + EV true vt (dl true) k i r) (min m (u + EV false vt (dl false) k i r))) := by
  intro k
  induction k with
  | zero =>
    intro i K r u C m D hi hK hr hu hm h19 h47 hU
    obtain ⟨-, -, hc, hq⟩ := id hU
    obtain rfl : i = ns := by omega
    cases K with
    | zero => omega
    | succ K =>
      show z_P (F_X11_sumsOn_B N (F_X11_sumsOn N K) _ _ _ _ _ D) _
      have eE : ∀ c, EV c vt (dl c) 0 i r = dl c r := fun c => rfl
      rw [eE, eE]
      generalize F_X11_sumsOn N K = slf
      by_cases h0 : r = 0
      · have d1 : dl true r = 1 := by rw [h0]; rfl
        have d0 : dl false r = 0 := by rw [h0]; rfl
        rw [d1, d0]
        rcases hm with hm | rfl
        · rw [ro_s (by omega)] at hq
          by_cases hmu : m ≤ u
          · simp (disch := omega) only [F_X11_sumsOn_B, h19, hc, hq, z_up_at, z_up_i, z_up_r, ↓reduceIte, ↓z_letE, ↓z_bdE, nn_l2, nn_add, nn_mul, nn_sub, nn_addM, nn_div, nn_rem, nn_min, nn_max, nn_abs, nn_ltT, nn_ltF, nn_leT, nn_leF, nn_eqT, nn_eqF, nn_eqM, nn_Meq, nn_ltM, nn_Mlt, nn_leM, nn_Mle, z_ix_nn, z_inb_nn, F_at_nn, F_put_nn, Nat.zero_add, Nat.add_zero, z_P_some, z_R_some, z_P_bd]
            exact US_mk rfl (ro_v (by omega) (by omega))
          · simp (disch := omega) only [F_X11_sumsOn_B, h19, hc, hq, z_up_at, z_up_i, z_up_r, ↓reduceIte, ↓z_letE, ↓z_bdE, nn_l2, nn_add, nn_mul, nn_sub, nn_addM, nn_div, nn_rem, nn_min, nn_max, nn_abs, nn_ltT, nn_ltF, nn_leT, nn_leF, nn_eqT, nn_eqF, nn_eqM, nn_Meq, nn_ltM, nn_Mlt, nn_leM, nn_Mle, z_ix_nn, z_inb_nn, F_at_nn, F_put_nn, Nat.zero_add, Nat.add_zero, z_P_some, z_R_some, z_P_bd]
            exact US_mk rfl (ro_v (by omega) (by omega))
        · rw [ro_n (by omega)] at hq
          simp (disch := omega) only [F_X11_sumsOn_B, h19, hc, hq, z_up_at, z_up_i, z_up_r, ↓reduceIte, ↓z_letE, ↓z_bdE, nn_l2, nn_add, nn_mul, nn_sub, nn_addM, nn_div, nn_rem, nn_min, nn_max, nn_abs, nn_ltT, nn_ltF, nn_leT, nn_leF, nn_eqT, nn_eqF, nn_eqM, nn_Meq, nn_ltM, nn_Mlt, nn_leM, nn_Mle, z_ix_nn, z_inb_nn, F_at_nn, F_put_nn, Nat.zero_add, Nat.add_zero, z_P_some, z_R_some, z_P_bd]
          exact US_mk rfl (ro_v (by omega) (by omega))
      · have d1 : dl true r = 0 := by unfold dl; simp [h0]
        have d0 : dl false r = 5000 := by unfold dl; simp [h0]
        rw [d1, d0]
        have e : min m (u + 5000) = m := by unfold mO at hm; omega
        rw [e]
        simp (disch := omega) only [F_X11_sumsOn_B, h19, ↓reduceIte, ↓z_letE, ↓z_bdE, nn_l2, nn_add, nn_mul, nn_sub, nn_addM, nn_div, nn_rem, nn_min, nn_max, nn_abs, nn_ltT, nn_ltF, nn_leT, nn_leF, nn_eqT, nn_eqF, nn_eqM, nn_Meq, nn_ltM, nn_Mlt, nn_leM, nn_Mle, z_ix_nn, z_inb_nn, F_at_nn, F_put_nn, Nat.zero_add, Nat.add_zero, z_P_some, z_R_some, z_P_bd]
        exact hU
  | succ k ih =>
    intro i K r u C m D hi hK hr hu hm h19 h47 hU
    cases K with
    | zero => omega
    | succ K =>
      obtain ⟨hv, w0, w1, w2⟩ := h47 i (by omega)
      show z_P (F_X11_sumsOn_B N (F_X11_sumsOn N K) _ _ _ _ _ D) _
      have eE : ∀ c, EV c vt (dl c) (k + 1) i = sv c (vt i) (EV c vt (dl c) k (i + 1)) := fun c => rfl
      rw [eE, eE]
      have hb : ∀ s, EV false vt (dl false) k (i + 1) s ≤ s ∨ 5000 ≤ EV false vt (dl false) k (i + 1) s := fun s => EV_b k (i + 1) s
      have ih' := fun r u C m D => ih (i + 1) K r u C m D (by omega) (by omega)
      clear ih
      generalize F_X11_sumsOn N K = slf at ih' ⊢
      generalize EV true vt (dl true) k (i + 1) = g1 at ih' ⊢
      generalize EV false vt (dl false) k (i + 1) = g0 at ih' hb ⊢
      by_cases h0 : vt i = 0
      · have z0 : vt i / 100 + vt i / 10 % 10 + vt i % 10 = 0 := by omega
        rw [sv_t, sv_f, okh_f.mpr (by omega)]
        have e : min m (u + min (g0 r) 5000) = min m (u + g0 r) := by unfold mO at hm; omega
        simp only [if_false, Bool.false_eq_true, Nat.add_zero]
        rw [e]
        clear e hb
        simp (disch := omega) only [F_X11_sumsOn_B, h19, w0, w1, w2, ↓reduceIte, ↓z_letE, ↓z_bdE, nn_l2, nn_add, nn_mul, nn_sub, nn_addM, nn_div, nn_rem, nn_min, nn_max, nn_abs, nn_ltT, nn_ltF, nn_leT, nn_leF, nn_eqT, nn_eqF, nn_eqM, nn_Meq, nn_ltM, nn_Mlt, nn_leM, nn_Mle, z_ix_nn, z_inb_nn, F_at_nn, F_put_nn, Nat.zero_add, Nat.add_zero, z_P_some, z_R_some, z_P_bd]
        exact ih' r u C m D hr hu hm h19 h47 hU
      · have z0 : vt i / 100 + vt i / 10 % 10 + vt i % 10 ≠ 0 := by
          clear hb ih' h47 hu hr hi hK
          intro hz
          have a1 : vt i / 100 = 0 := by omega
          have a2 : vt i / 10 % 10 = 0 := by omega
          have a3 : vt i % 10 = 0 := by omega
          clear hz
          omega
        simp (disch := omega) only [F_X11_sumsOn_B, h19, w0, w1, w2, ↓reduceIte, ↓z_letE, ↓z_bdE, nn_l2, nn_add, nn_mul, nn_sub, nn_addM, nn_div, nn_rem, nn_min, nn_max, nn_abs, nn_ltT, nn_ltF, nn_leT, nn_leF, nn_eqT, nn_eqF, nn_eqM, nn_Meq, nn_ltM, nn_Mlt, nn_leM, nn_Mle, z_ix_nn, z_inb_nn, F_at_nn, F_put_nn, Nat.zero_add, Nat.add_zero, z_P_some, z_R_some, z_P_bd]
        generalize vt i = v at hv w0 w1 w2 h0 z0 ⊢
        refine z_P_loop (fun q t => ∃ n A B G C' m', n + q = 20 ∧ n ≤ 10 ∧ A = n * (v / 100) ∧ B = n * (v / 10 % 10) ∧ G = n * (v % 10) ∧ t.1 = nn n ∧ US D t.2 C' m' ∧ mO m' ∧ SI v r u C m g1 g0 n A B G C' m') ?_ 20 N _ (by omega) ⟨0, 0, 0, 0, C, m, rfl, by omega, (Nat.zero_mul _).symm, (Nat.zero_mul _).symm, (Nat.zero_mul _).symm, rfl, hU, hm, SI_0 hu⟩
        rintro q ⟨v1, E⟩ kc ⟨n, A, B, G, C', m', hq2, hn, hA, hB, hG, rfl, hE, hm', hS⟩ kih
        dsimp only at hE ⊢
        have x0 : E 47 (4 * i) = nn (v / 100) := by rw [hE.1 47 (by decide)]; exact w0
        have x1 : E 47 (4 * i + 1) = nn (v / 10 % 10) := by rw [hE.1 47 (by decide)]; exact w1
        have x2 : E 47 (4 * i + 2) = nn (v % 10) := by rw [hE.1 47 (by decide)]; exact w2
        have bA : A ≤ 90 := hA ▸ mul_b hn (by omega)
        have bB : B ≤ 90 := hB ▸ mul_b hn (by omega)
        have bG : G ≤ 90 := hG ▸ mul_b hn (by omega)
        by_cases hh : A ≤ r / 100 ∧ B ≤ r / 10 % 10 ∧ G ≤ r % 10
        · obtain ⟨j0, j1, j2⟩ := hh
          have hn9 : n ≤ 9 := by
            by_cases y0 : 1 ≤ v / 100
            · have := mul_p (n := n) y0
              omega
            · by_cases y1 : 1 ≤ v / 10 % 10
              · have := mul_p (n := n) y1
                omega
              · have := mul_p (n := n) (x := v % 10) (by omega)
                omega
          obtain ⟨rn, hrn⟩ : ∃ rn, rn = r - (100 * A + 10 * B + G) := ⟨_, rfl⟩
          obtain ⟨s0, s1, s2⟩ := SI_u (v := v) j0 j1 j2 hrn
          have hu' := (SI_in hS ⟨j0, j1, j2⟩).1
          rw [← hrn] at hu'
          have hst := SI_st (Nat.pos_of_ne_zero h0) hm' hS j0 j1 j2 hrn
          have hmn : mO (min m' (u + n + g0 rn)) := mO_min hm' (by
            have := hb rn
            omega)
          have hrn1 : rn < 1000 := by omega
          have key := ih' rn (u + n) C' m' E hrn1 hu' hm' (by rw [hE.2.1 19 (by decide) (by decide)]; exact h19) (fun b hb => by rw [hE.1 47 (by decide)]; exact h47 b hb) ⟨fun _ _ => rfl, fun _ _ _ => rfl, hE.2.2⟩
          rw [← s0, ← s1, ← s2] at key
          clear hrn s0 s1 s2 hu' hrn1
          simp (disch := omega) only [F_X11_sumsOn_L111, x0, x1, x2, ← hA, ← hB, ← hG, ↓reduceIte, ↓z_letE, ↓z_bdE, nn_l2, nn_add, nn_mul, nn_sub, nn_addM, nn_div, nn_rem, nn_min, nn_max, nn_abs, nn_ltT, nn_ltF, nn_leT, nn_leF, nn_eqT, nn_eqF, nn_eqM, nn_Meq, nn_ltM, nn_Mlt, nn_leM, nn_Mle, z_ix_nn, z_inb_nn, F_at_nn, F_put_nn, Nat.zero_add, Nat.add_zero, z_P_some, z_R_some, z_P_bd]
          refine z_P_mono key (fun F hF => ?_)
          exact kih (q - 1) _ (by omega) ⟨n + 1, A + v / 100, B + v / 10 % 10, G + v % 10, C' + g1 rn, min m' (u + n + g0 rn), by omega, by omega, by rw [hA, Nat.add_mul, Nat.one_mul], by rw [hB, Nat.add_mul, Nat.one_mul], by rw [hG, Nat.add_mul, Nat.one_mul], rfl, hE.tr hF, hmn, hst⟩
        · obtain ⟨hC', hM'⟩ := SI_out hS hh
          rw [hC', hM'] at hE
          clear hC' hM' hS
          by_cases j0 : A ≤ r / 100
          · by_cases j1 : B ≤ r / 10 % 10
            · have j2 : ¬ G ≤ r % 10 := fun h => hh ⟨j0, j1, h⟩
              clear hh
              simp (disch := omega) only [F_X11_sumsOn_L111, x0, x1, x2, ← hA, ← hB, ← hG, ↓reduceIte, ↓z_letE, ↓z_bdE, nn_l2, nn_add, nn_mul, nn_sub, nn_addM, nn_div, nn_rem, nn_min, nn_max, nn_abs, nn_ltT, nn_ltF, nn_leT, nn_leF, nn_eqT, nn_eqF, nn_eqM, nn_Meq, nn_ltM, nn_Mlt, nn_leM, nn_Mle, z_ix_nn, z_inb_nn, F_at_nn, F_put_nn, Nat.zero_add, Nat.add_zero, z_P_some, z_R_some, z_P_bd]
              exact hE
            · clear hh
              simp (disch := omega) only [F_X11_sumsOn_L111, x0, x1, ← hA, ← hB, ↓reduceIte, ↓z_letE, ↓z_bdE, nn_l2, nn_add, nn_mul, nn_sub, nn_addM, nn_div, nn_rem, nn_min, nn_max, nn_abs, nn_ltT, nn_ltF, nn_leT, nn_leF, nn_eqT, nn_eqF, nn_eqM, nn_Meq, nn_ltM, nn_Mlt, nn_leM, nn_Mle, z_ix_nn, z_inb_nn, F_at_nn, F_put_nn, Nat.zero_add, Nat.add_zero, z_P_some, z_R_some, z_P_bd]
              exact hE
          · clear hh
            simp (disch := omega) only [F_X11_sumsOn_L111, x0, ← hA, ↓reduceIte, ↓z_letE, ↓z_bdE, nn_l2, nn_add, nn_mul, nn_sub, nn_addM, nn_div, nn_rem, nn_min, nn_max, nn_abs, nn_ltT, nn_ltF, nn_leT, nn_leF, nn_eqT, nn_eqF, nn_eqM, nn_Meq, nn_ltM, nn_Mlt, nn_leM, nn_Mle, z_ix_nn, z_inb_nn, F_at_nn, F_put_nn, Nat.zero_add, Nat.add_zero, z_P_some, z_R_some, z_P_bd]
            exact hE
