/-! ===== sums: the program's table, vat by vat; the question ===== -/
theorem holds_e {s v : Nat} (hs : s < 1000) (hv : v < 1000) (h0 : 0 < v) : F_X10_holds (nn s) (nn v) = if okh v s then nn 1 else nn 0 := by
  unfold F_X10_holds
  rw [show F_X10_partOf (nn s) 0 = nn (s / 100) from partOf_0 hs, show F_X10_partOf (nn v) 0 = nn (v / 100) from partOf_0 hv, show F_X10_partOf (nn s) 1 = nn (s / 10 % 10) from partOf_1 hs, show F_X10_partOf (nn v) 1 = nn (v / 10 % 10) from partOf_1 hv, show F_X10_partOf (nn s) 2 = nn (s % 10) from partOf_2 hs, show F_X10_partOf (nn v) 2 = nn (v % 10) from partOf_2 hv]
  cases ho : okh v s
  · have h4 := okh_f.mp ho
    unfold hl at h4
    by_cases j0 : s / 100 < v / 100
    · simp (disch := omega) only [↓reduceIte, ↓z_letE, ↓z_bdE, nn_l2, nn_add, nn_mul, nn_sub, nn_addM, nn_div, nn_rem, nn_min, nn_max, nn_abs, nn_ltT, nn_ltF, nn_leT, nn_leF, nn_eqT, nn_eqF, nn_eqM, nn_Meq, nn_ltM, nn_Mlt, nn_leM, nn_Mle, z_ix_nn, z_inb_nn, F_at_nn, F_put_nn, Nat.zero_add, Nat.add_zero, z_P_some, z_R_some, z_P_bd]
      rfl
    · by_cases j1 : s / 10 % 10 < v / 10 % 10
      · simp (disch := omega) only [↓reduceIte, ↓z_letE, ↓z_bdE, nn_l2, nn_add, nn_mul, nn_sub, nn_addM, nn_div, nn_rem, nn_min, nn_max, nn_abs, nn_ltT, nn_ltF, nn_leT, nn_leF, nn_eqT, nn_eqF, nn_eqM, nn_Meq, nn_ltM, nn_Mlt, nn_leM, nn_Mle, z_ix_nn, z_inb_nn, F_at_nn, F_put_nn, Nat.zero_add, Nat.add_zero, z_P_some, z_R_some, z_P_bd]
        rfl
      · simp (disch := omega) only [↓reduceIte, ↓z_letE, ↓z_bdE, nn_l2, nn_add, nn_mul, nn_sub, nn_addM, nn_div, nn_rem, nn_min, nn_max, nn_abs, nn_ltT, nn_ltF, nn_leT, nn_leF, nn_eqT, nn_eqF, nn_eqM, nn_Meq, nn_ltM, nn_Mlt, nn_leM, nn_Mle, z_ix_nn, z_inb_nn, F_at_nn, F_put_nn, Nat.zero_add, Nat.add_zero, z_P_some, z_R_some, z_P_bd]
        rfl
  · have h4 := okh_t.mp ho
    unfold hl at h4
    simp (disch := omega) only [↓reduceIte, ↓z_letE, ↓z_bdE, nn_l2, nn_add, nn_mul, nn_sub, nn_addM, nn_div, nn_rem, nn_min, nn_max, nn_abs, nn_ltT, nn_ltF, nn_leT, nn_leF, nn_eqT, nn_eqF, nn_eqM, nn_Meq, nn_ltM, nn_Mlt, nn_leM, nn_Mle, z_ix_nn, z_inb_nn, F_at_nn, F_put_nn, Nat.zero_add, Nat.add_zero, z_P_some, z_R_some, z_P_bd]
def F27 (D E : z_Dat) : Prop := ∀ r, r ≠ 26 → r ≠ 27 → E r = D r
theorem mixOnce_e {s p x y a c : Nat} {D : z_Dat} (hs : s < 1000) (hp : p < s) (h1 : D 27 s = nn x) (h2 : D 27 p = nn y) (h3 : D 26 s = ro a) (h4 : D 26 p = ro c) (ha : a ≤ 1000 ∨ 5000 ≤ a) (hc : c ≤ 1000 ∨ 5000 ≤ c) : ∃ E, F_X6_mixOnce (nn s) (nn p) D = E ∧ F27 D E ∧ E 27 s = nn (x + y) ∧ E 26 s = ro (min a (c + 1)) ∧ ∀ j, j ≠ s → E 27 j = D 27 j ∧ E 26 j = D 26 j := by
  rcases hc with hc | hc
  · rw [ro_s (by omega)] at h4
    rcases ha with ha | ha
    · rw [ro_s (by omega)] at h3
      by_cases hac : a ≤ c + 1
      · refine ⟨z_up D 27 s (nn (x + y)), by simp (disch := omega) only [F_X6_mixOnce, h1, h2, h3, h4, z_up_r, ↓reduceIte, ↓z_letE, ↓z_bdE, nn_l2, nn_add, nn_mul, nn_sub, nn_addM, nn_div, nn_rem, nn_min, nn_max, nn_abs, nn_ltT, nn_ltF, nn_leT, nn_leF, nn_eqT, nn_eqF, nn_eqM, nn_Meq, nn_ltM, nn_Mlt, nn_leM, nn_Mle, z_ix_nn, z_inb_nn, F_at_nn, F_put_nn, Nat.zero_add, Nat.add_zero, z_P_some, z_R_some, z_P_bd], fun r q1 q2 => by rw [z_up_ne q2], by rw [z_up_at rfl rfl], by rw [z_up_r (by decide), h3]; exact ro_v (by omega) (by omega), fun j hj => ⟨by rw [z_up_i hj], by rw [z_up_r (by decide)]⟩⟩
      · refine ⟨z_up (z_up D 27 s (nn (x + y))) 26 s (nn (c + 1)), by simp (disch := omega) only [F_X6_mixOnce, h1, h2, h3, h4, z_up_r, ↓reduceIte, ↓z_letE, ↓z_bdE, nn_l2, nn_add, nn_mul, nn_sub, nn_addM, nn_div, nn_rem, nn_min, nn_max, nn_abs, nn_ltT, nn_ltF, nn_leT, nn_leF, nn_eqT, nn_eqF, nn_eqM, nn_Meq, nn_ltM, nn_Mlt, nn_leM, nn_Mle, z_ix_nn, z_inb_nn, F_at_nn, F_put_nn, Nat.zero_add, Nat.add_zero, z_P_some, z_R_some, z_P_bd], fun r q1 q2 => by rw [z_up_ne q1, z_up_ne q2], by rw [z_up_r (by decide), z_up_at rfl rfl], by rw [z_up_at rfl rfl]; exact ro_v (by omega) (by omega), fun j hj => ⟨by rw [z_up_r (by decide), z_up_i hj], by rw [z_up_i hj, z_up_r (by decide)]⟩⟩
    · rw [ro_n (by omega)] at h3
      refine ⟨z_up (z_up D 27 s (nn (x + y))) 26 s (nn (c + 1)), by simp (disch := omega) only [F_X6_mixOnce, h1, h2, h3, h4, z_up_r, ↓reduceIte, ↓z_letE, ↓z_bdE, nn_l2, nn_add, nn_mul, nn_sub, nn_addM, nn_div, nn_rem, nn_min, nn_max, nn_abs, nn_ltT, nn_ltF, nn_leT, nn_leF, nn_eqT, nn_eqF, nn_eqM, nn_Meq, nn_ltM, nn_Mlt, nn_leM, nn_Mle, z_ix_nn, z_inb_nn, F_at_nn, F_put_nn, Nat.zero_add, Nat.add_zero, z_P_some, z_R_some, z_P_bd], fun r q1 q2 => by rw [z_up_ne q1, z_up_ne q2], by rw [z_up_r (by decide), z_up_at rfl rfl], by rw [z_up_at rfl rfl]; exact ro_v (by omega) (by omega), fun j hj => ⟨by rw [z_up_r (by decide), z_up_i hj], by rw [z_up_i hj, z_up_r (by decide)]⟩⟩
  · rw [ro_n (by omega)] at h4
    refine ⟨z_up D 27 s (nn (x + y)), by simp (disch := omega) only [F_X6_mixOnce, h1, h2, h4, z_up_r, ↓reduceIte, ↓z_letE, ↓z_bdE, nn_l2, nn_add, nn_mul, nn_sub, nn_addM, nn_div, nn_rem, nn_min, nn_max, nn_abs, nn_ltT, nn_ltF, nn_leT, nn_leF, nn_eqT, nn_eqF, nn_eqM, nn_Meq, nn_ltM, nn_Mlt, nn_leM, nn_Mle, z_ix_nn, z_inb_nn, F_at_nn, F_put_nn, Nat.zero_add, Nat.add_zero, z_P_some, z_R_some, z_P_bd], fun r q1 q2 => by rw [z_up_ne q2], by rw [z_up_at rfl rfl], by
      rw [z_up_r (by decide), h3]
      rcases ha with ha | ha
      · congr 1
        omega
      · rw [ro_n ha, ro_n (by omega)], fun j hj => ⟨by rw [z_up_i hj], by rw [z_up_r (by decide)]⟩⟩
set_option maxHeartbeats 4000000 in
theorem mixAll_P {N o ns : Nat} {vt : Nat → Nat} {D : z_Dat} (hN : 2000 < N) (ho : o = 34 ∨ 68 ≤ o) (hns : ns ≤ 6) (c5 : D o 5 = nn ns) (hv : ∀ b, b < ns → vt b < 1000 ∧ D (o + 1) b = nn (vt b)) : z_P (F_X6_mixAll N o D) (fun E => F27 D E ∧ ∀ s, s < 1000 → E 27 s = nn (PV true vt (dl true) ns s) ∧ E 26 s = ro (PV false vt (dl false) ns s)) := by
  unfold F_X6_mixAll
  rw [z_P_bd]
  refine z_P_mono (fill_P (n := 1000) (by omega) (by decide)) (fun E1 h1 => ?_)
  rw [z_P_bd]
  refine z_P_mono (fill_P (n := 1000) (by omega) (by decide)) (fun E2 h2 => ?_)
  simp (disch := omega) only [↓reduceIte, ↓z_letE, ↓z_bdE, nn_l2, nn_add, nn_mul, nn_sub, nn_addM, nn_div, nn_rem, nn_min, nn_max, nn_abs, nn_ltT, nn_ltF, nn_leT, nn_leF, nn_eqT, nn_eqF, nn_eqM, nn_Meq, nn_ltM, nn_Mlt, nn_leM, nn_Mle, z_ix_nn, z_inb_nn, F_at_nn, F_put_nn, Nat.zero_add, Nat.add_zero, z_P_some, z_R_some, z_P_bd]
  refine z_P_loop (fun q t => ∃ b, b + q = ns ∧ t.1 = nn b ∧ F27 D t.2 ∧ ∀ s, s < 1000 → t.2 27 s = nn (PV true vt (dl true) b s) ∧ t.2 26 s = ro (PV false vt (dl false) b s)) ?_ ns N _ (by omega) ⟨0, by omega, rfl, fun r q1 q2 => by dsimp only; rw [z_up_ne q1, z_up_ne q2, h2.1 r q1, h1.1 r q2], fun s hs => ?_⟩
  rotate_left
  · show _ = nn (dl true s) ∧ _ = ro (dl false s)
    by_cases h0 : s = 0
    · subst h0
      exact ⟨by dsimp only; rw [z_up_r (by decide), z_up_at rfl rfl]; rfl, by dsimp only; rw [z_up_at rfl rfl]; rfl⟩
    · have d1 : dl true s = 0 := by unfold dl; simp [h0]
      have d0 : dl false s = 5000 := by unfold dl; simp [h0]
      rw [d1, d0]
      exact ⟨by dsimp only; rw [z_up_r (by decide), z_up_i h0, h2.1 27 (by decide), h1.2 s hs]; rfl, by dsimp only; rw [z_up_i h0, z_up_r (by decide), h2.2 s hs]; rfl⟩
  rintro q ⟨v1, E⟩ kc ⟨b, hq, rfl, hF, hT⟩ ih
  dsimp only at hF hT ⊢
  have e5 : E o 5 = nn ns := by rw [hF o (by omega) (by omega)]; exact c5
  by_cases hb : b < ns
  rotate_left
  · obtain rfl : b = ns := by omega
    simp (disch := omega) only [F_X6_mixAll_L36, e5, ↓reduceIte, ↓z_letE, ↓z_bdE, nn_l2, nn_add, nn_mul, nn_sub, nn_addM, nn_div, nn_rem, nn_min, nn_max, nn_abs, nn_ltT, nn_ltF, nn_leT, nn_leF, nn_eqT, nn_eqF, nn_eqM, nn_Meq, nn_ltM, nn_Mlt, nn_leM, nn_Mle, z_ix_nn, z_inb_nn, F_at_nn, F_put_nn, Nat.zero_add, Nat.add_zero, z_P_some, z_R_some, z_P_bd]
    exact ⟨hF, hT⟩
  obtain ⟨v0, v1⟩ := hv b hb
  have e6 : E (o + 1) b = nn (vt b) := by rw [hF (o + 1) (by omega) (by omega)]; exact v1
  simp (disch := omega) only [F_X6_mixAll_L36, F_X1_vatOf, e5, e6, ↓reduceIte, ↓z_letE, ↓z_bdE, nn_l2, nn_add, nn_mul, nn_sub, nn_addM, nn_div, nn_rem, nn_min, nn_max, nn_abs, nn_ltT, nn_ltF, nn_leT, nn_leF, nn_eqT, nn_eqF, nn_eqM, nn_Meq, nn_ltM, nn_Mlt, nn_leM, nn_Mle, z_ix_nn, z_inb_nn, F_at_nn, F_put_nn, Nat.zero_add, Nat.add_zero, z_P_some, z_R_some, z_P_bd]
  have hPV : ∀ c s, PV c vt (dl c) (b + 1) s = sv c (vt b) (PV c vt (dl c) b) s := fun c s => rfl
  have hb0 : ∀ s, PV false vt (dl false) b s ≤ s ∨ 5000 ≤ PV false vt (dl false) b s := fun s => PV_b
  have hb1 : ∀ s, sv false (vt b) (PV false vt (dl false) b) s ≤ s ∨ 5000 ≤ sv false (vt b) (PV false vt (dl false) b) s := fun s => sv_b hb0 s s (Nat.le_refl _)
  have ih2 : ∀ F, F27 D F → (∀ s, s < 1000 → F 27 s = nn (sv true (vt b) (PV true vt (dl true) b) s) ∧ F 26 s = ro (sv false (vt b) (PV false vt (dl false) b) s)) → z_P (kc (nn (b + 1), F)) (fun E => F27 D E ∧ ∀ s, s < 1000 → E 27 s = nn (PV true vt (dl true) ns s) ∧ E 26 s = ro (PV false vt (dl false) ns s)) := fun F f1 f2 => ih (q - 1) _ (by omega) ⟨b + 1, by omega, rfl, f1, f2⟩
  clear ih hPV
  generalize PV true vt (dl true) b = g1 at hT ih2
  generalize PV false vt (dl false) b = g0 at hT hb0 hb1 ih2
  generalize vt b = v at v0 hb1 ih2 ⊢
  refine z_P_loop (fun q t => ∃ s, v ≤ s ∧ s + q = 1000 ∧ t.1 = nn s ∧ F27 D t.2 ∧ (∀ x, x < s → t.2 27 x = nn (sv true v g1 x) ∧ t.2 26 x = ro (sv false v g0 x)) ∧ ∀ x, s ≤ x → x < 1000 → t.2 27 x = nn (g1 x) ∧ t.2 26 x = ro (g0 x)) ?_ (1000 - v) N _ (by omega) ⟨v, by omega, by omega, rfl, hF, fun x hx => ?_, fun x _ hx => hT x hx⟩
  rotate_left
  · rw [sv_t, sv_f, okh_f.mpr (fun h => by have := hl_le h.2; omega)]
    simp only [if_false, Bool.false_eq_true, Nat.add_zero, ro_min]
    exact hT x (by omega)
  rintro q ⟨w, F⟩ kc2 ⟨s, hvs, hq, rfl, hF2, hL, hR⟩ ih
  dsimp only at hF2 hL hR ⊢
  by_cases hs : s < 1000
  rotate_left
  · obtain rfl : s = 1000 := by omega
    simp (disch := omega) only [F_X6_mixAll_L53, ↓reduceIte, ↓z_letE, ↓z_bdE, nn_l2, nn_add, nn_mul, nn_sub, nn_addM, nn_div, nn_rem, nn_min, nn_max, nn_abs, nn_ltT, nn_ltF, nn_leT, nn_leF, nn_eqT, nn_eqF, nn_eqM, nn_Meq, nn_ltM, nn_Mlt, nn_leM, nn_Mle, z_ix_nn, z_inb_nn, F_at_nn, F_put_nn, Nat.zero_add, Nat.add_zero, z_P_some, z_R_some, z_P_bd]
    exact ih2 F hF2 hL
  by_cases hv0 : v = 0
  · subst hv0
    simp (disch := omega) only [F_X6_mixAll_L53, ↓reduceIte, ↓z_letE, ↓z_bdE, nn_l2, nn_add, nn_mul, nn_sub, nn_addM, nn_div, nn_rem, nn_min, nn_max, nn_abs, nn_ltT, nn_ltF, nn_leT, nn_leF, nn_eqT, nn_eqF, nn_eqM, nn_Meq, nn_ltM, nn_Mlt, nn_leM, nn_Mle, z_ix_nn, z_inb_nn, F_at_nn, F_put_nn, Nat.zero_add, Nat.add_zero, z_P_some, z_R_some, z_P_bd]
    refine ih2 F hF2 (fun x hx => ?_)
    by_cases hx2 : x < s
    · exact hL x hx2
    · rw [sv_t, sv_f, okh_f.mpr (by omega)]
      simp only [if_false, Bool.false_eq_true, Nat.add_zero, ro_min]
      exact hR x (by omega) hx
  have eh := holds_e (v := v) hs v0 (by omega)
  cases hok : okh v s
  · rw [hok] at eh
    simp only [if_false, Bool.false_eq_true] at eh
    simp (disch := omega) only [F_X6_mixAll_L53, eh, ↓reduceIte, ↓z_letE, ↓z_bdE, nn_l2, nn_add, nn_mul, nn_sub, nn_addM, nn_div, nn_rem, nn_min, nn_max, nn_abs, nn_ltT, nn_ltF, nn_leT, nn_leF, nn_eqT, nn_eqF, nn_eqM, nn_Meq, nn_ltM, nn_Mlt, nn_leM, nn_Mle, z_ix_nn, z_inb_nn, F_at_nn, F_put_nn, Nat.zero_add, Nat.add_zero, z_P_some, z_R_some, z_P_bd]
    refine ih (q - 1) _ (by omega) ⟨s + 1, by omega, by omega, rfl, hF2, fun x hx => ?_, fun x h1 h2 => hR x (by omega) h2⟩
    by_cases hx2 : x = s
    · subst hx2
      rw [sv_t, sv_f, hok]
      simp only [if_false, Bool.false_eq_true, Nat.add_zero, ro_min]
      exact hR x (by omega) hs
    · exact hL x (by omega)
  · rw [hok] at eh
    simp only [if_true] at eh
    have h4 := okh_t.mp hok
    have h5 := hl_le h4.2
    obtain ⟨a1, a2⟩ := hR s (by omega) hs
    obtain ⟨b1, b2⟩ := hL (s - v) (by omega)
    have p0 := hb0 s
    have p1 := hb1 (s - v)
    obtain ⟨E', m1, m2, m3, m4, m5⟩ := mixOnce_e hs (by omega) a1 b1 a2 b2 (by omega) (by omega)
    simp (disch := omega) only [F_X6_mixAll_L53, eh, m1, ↓reduceIte, ↓z_letE, ↓z_bdE, nn_l2, nn_add, nn_mul, nn_sub, nn_addM, nn_div, nn_rem, nn_min, nn_max, nn_abs, nn_ltT, nn_ltF, nn_leT, nn_leF, nn_eqT, nn_eqF, nn_eqM, nn_Meq, nn_ltM, nn_Mlt, nn_leM, nn_Mle, z_ix_nn, z_inb_nn, F_at_nn, F_put_nn, Nat.zero_add, Nat.add_zero, z_P_some, z_R_some, z_P_bd]
    refine ih (q - 1) _ (by omega) ⟨s + 1, by omega, by omega, rfl, fun r q1 q2 => (m2 r q1 q2).trans (hF2 r q1 q2), fun x hx => ?_, fun x h1 h2 => ?_⟩
    · dsimp only
      by_cases hx2 : x = s
      · subst hx2
        rw [m3, m4, sv_t (s := x), sv_f (s := x), hok]
        exact ⟨rfl, rfl⟩
      · rw [(m5 x hx2).1, (m5 x hx2).2]
        exact hL x (by omega)
    · dsimp only
      rw [(m5 x (by omega)).1, (m5 x (by omega)).2]
      exact hR x (by omega) h2
set_option maxHeartbeats 4000000 in
theorem T_sums {N o n : Nat} {a1 a2 : Int32} {D : z_Dat} (hN : 2000 < N) (hJ : J o n D) : TOP (F_L_sums N o a1 a2 D) (F_X11_sums N a1 a2) (J o n) := by
  obtain ⟨ho, ns, pe, rv, hB⟩ := id hJ
  obtain ⟨⟨hns, hpe, hrv⟩, ⟨c5, c6, c7⟩, ⟨k19, k20, k21⟩, hV, hH⟩ := id hB.1
  rcases shade_or a1 with ⟨s, hs, rfl, e1, e2⟩ | ⟨e1, e2⟩
  · rcases wi_or (m := 1) (by decide) a2 with ⟨w, hw, rfl, ew⟩ | ⟨h, ew⟩
    · refine TOP_r hJ rfl (fun G hK => ?_)
      have hU := (upC hB hK).1
      obtain ⟨vt, hvt⟩ := CR_vt hU
      obtain ⟨E, m1, m2, m3⟩ := mixAll_P (N := N) hN hJ.ho hns c5 (fun b hb => ⟨(hvt b hb).1, (hvt b hb).2.1⟩)
      obtain ⟨m4, m5⟩ := m3 s hs
      obtain ⟨F, f1, f2⟩ := sumsOn_P (N := N) (ns := ns) (vt := vt) (by omega) hns ns 0 64 s 0 0 5000 (z_up (z_up (z_up G 40 0 (nn 0)) 40 46 (nn 0)) 40 47 (-nn 1)) (by omega) (by omega) hs (by omega) (Or.inr rfl) (by rw [z_up_i (by decide), z_up_i (by decide)]; exact hU.2.2.1.1) (fun b hb => by rw [z_up_ne (by decide), z_up_ne (by decide)]; exact ⟨(hvt b hb).1, (hvt b hb).2.2⟩) ⟨fun _ _ => rfl, fun _ _ _ => rfl, by rw [z_up_i (by decide), z_up_at rfl rfl], by rw [z_up_at rfl rfl]; rfl⟩
      obtain ⟨u1, u2, u3, u4⟩ := f2
      rw [EV_PV, Nat.zero_add] at u3 u4
      have eP : ro (min 5000 (PV false vt (dl false) ns s)) = ro (PV false vt (dl false) ns s) := by rw [Nat.min_comm, ro_min]
      rw [eP] at u4
      have hKF : KA G F := ⟨fun r h1 h2 => by rw [u1 r h2.1, z_up_ne h2.1, z_up_ne h2.1, z_up_ne h2.1], fun j hj => by
        unfold KK at hj
        rw [u2 j (by omega) (by omega), z_up_i (by omega), z_up_i (by omega), z_up_i (by omega)], by rw [u1 29 (by decide), z_up_r (by decide), z_up_r (by decide), z_up_r (by decide)]⟩
      have hKE : KA D E := ⟨fun r h1 h2 => m2 r (fun q => h1 (by unfold SC; omega)) (fun q => h1 (by unfold SC; omega)), fun j _ => by rw [m2 40 (by decide) (by decide)], by rw [m2 29 (by decide) (by decide)]⟩
      have hF0 : F 40 0 = nn 0 := by rw [u2 0 (by decide) (by decide), z_up_i (by decide), z_up_i (by decide), z_up_at rfl rfl]
      have hF67 : F 67 = G 67 := by rw [u1 67 (by decide), z_up_ne (by decide), z_up_ne (by decide), z_up_ne (by decide)]
      have y0 := dyeOf_0 hs
      have y1 := dyeOf_1 hs
      have y2 := dyeOf_2 hs
      have h2 : w = 0 ∨ w = 1 := by omega
      rcases h2 with rfl | rfl
      · simp (disch := omega) only [F_X10_sums, F_X10_sums_J22x, F_X6_mixesOf, F_X11_sums, F_X11_sums_J27x, e1, e2, ew, y0, y1, y2, m1, f1, dem_ok, dem_no, demT_ok, demT_no, z_bt_l, z_bt_r, z_try_l, z_try_r, nl_I, nl_N, nl_IN, nl_NI, may_okU, may_noU, z_up_at, z_up_i, z_up_r, ↓reduceIte, ↓z_letE, ↓z_bdE, nn_l2, nn_add, nn_mul, nn_sub, nn_addM, nn_div, nn_rem, nn_min, nn_max, nn_abs, nn_ltT, nn_ltF, nn_leT, nn_leF, nn_eqT, nn_eqF, nn_eqM, nn_Meq, nn_ltM, nn_Mlt, nn_leM, nn_Mle, z_ix_nn, z_inb_nn, F_at_nn, F_put_nn, Nat.zero_add, Nat.add_zero, z_P_some, z_R_some, z_P_bd]
        exact ⟨_, _, rfl, hKE, u3.trans m4.symm, hF0, hF67, hKF⟩
      · simp (disch := omega) only [F_X10_sums, F_X10_sums_J22x, F_X6_dipsOf, F_X11_sums, F_X11_sums_J27x, e1, e2, ew, y0, y1, y2, m1, f1, dem_ok, dem_no, demT_ok, demT_no, z_bt_l, z_bt_r, z_try_l, z_try_r, nl_I, nl_N, nl_IN, nl_NI, may_okU, may_noU, z_up_at, z_up_i, z_up_r, ↓reduceIte, ↓z_letE, ↓z_bdE, nn_l2, nn_add, nn_mul, nn_sub, nn_addM, nn_div, nn_rem, nn_min, nn_max, nn_abs, nn_ltT, nn_ltF, nn_leT, nn_leF, nn_eqT, nn_eqF, nn_eqM, nn_Meq, nn_ltM, nn_Mlt, nn_leM, nn_Mle, z_ix_nn, z_inb_nn, F_at_nn, F_put_nn, Nat.zero_add, Nat.add_zero, z_P_some, z_R_some, z_P_bd]
        exact ⟨_, _, rfl, hKE, u4.trans m5.symm, hF0, hF67, hKF⟩
    · refine TOP_t (c := 1) (k := 1) hJ (by decide) (by decide) (by decide) ?_ (fun G hG => ?_)
      · rcases h with h | h
        · simp (disch := omega) only [F_L_sums, F_X10_sums, F_X10_sums_J21, F_X10_sums_J22, e1, h, dem_ok, dem_no, demT_ok, demT_no, z_bt_l, z_bt_r, z_try_l, z_try_r, nl_I, nl_N, nl_IN, nl_NI, may_okU, may_noU, z_up_at, z_up_i, z_up_r, ↓reduceIte, ↓z_letE, ↓z_bdE, nn_l2, nn_add, nn_mul, nn_sub, nn_addM, nn_div, nn_rem, nn_min, nn_max, nn_abs, nn_ltT, nn_ltF, nn_leT, nn_leF, nn_eqT, nn_eqF, nn_eqM, nn_Meq, nn_ltM, nn_Mlt, nn_leM, nn_Mle, z_ix_nn, z_inb_nn, F_at_nn, F_put_nn, Nat.zero_add, Nat.add_zero, z_P_some, z_R_some, z_P_bd]
        · simp (disch := omega) only [F_L_sums, F_X10_sums, F_X10_sums_J21, F_X10_sums_J22, e1, h.1, h.2, dem_ok, dem_no, demT_ok, demT_no, z_bt_l, z_bt_r, z_try_l, z_try_r, nl_I, nl_N, nl_IN, nl_NI, may_okU, may_noU, z_up_at, z_up_i, z_up_r, ↓reduceIte, ↓z_letE, ↓z_bdE, nn_l2, nn_add, nn_mul, nn_sub, nn_addM, nn_div, nn_rem, nn_min, nn_max, nn_abs, nn_ltT, nn_ltF, nn_leT, nn_leF, nn_eqT, nn_eqF, nn_eqM, nn_Meq, nn_ltM, nn_Mlt, nn_leM, nn_Mle, z_ix_nn, z_inb_nn, F_at_nn, F_put_nn, Nat.zero_add, Nat.add_zero, z_P_some, z_R_some, z_P_bd]
      · simp (disch := omega) only [F_X11_sums, F_X11_sums_J26, F_X11_sums_J27, e2, ew, dem_ok, dem_no, demT_ok, demT_no, z_bt_l, z_bt_r, z_try_l, z_try_r, nl_I, nl_N, nl_IN, nl_NI, may_okU, may_noU, z_up_at, z_up_i, z_up_r, ↓reduceIte, ↓z_letE, ↓z_bdE, nn_l2, nn_add, nn_mul, nn_sub, nn_addM, nn_div, nn_rem, nn_min, nn_max, nn_abs, nn_ltT, nn_ltF, nn_leT, nn_leF, nn_eqT, nn_eqF, nn_eqM, nn_Meq, nn_ltM, nn_Mlt, nn_leM, nn_Mle, z_ix_nn, z_inb_nn, F_at_nn, F_put_nn, Nat.zero_add, Nat.add_zero, z_P_some, z_R_some, z_P_bd]
  · refine TOP_t (c := 1) (k := 1) hJ (by decide) (by decide) (by decide) ?_ (fun G hG => ?_)
    · simp (disch := omega) only [F_L_sums, F_X10_sums, F_X10_sums_J21, F_X10_sums_J22, e1, dem_ok, dem_no, demT_ok, demT_no, z_bt_l, z_bt_r, z_try_l, z_try_r, nl_I, nl_N, nl_IN, nl_NI, may_okU, may_noU, z_up_at, z_up_i, z_up_r, ↓reduceIte, ↓z_letE, ↓z_bdE, nn_l2, nn_add, nn_mul, nn_sub, nn_addM, nn_div, nn_rem, nn_min, nn_max, nn_abs, nn_ltT, nn_ltF, nn_leT, nn_leF, nn_eqT, nn_eqF, nn_eqM, nn_Meq, nn_ltM, nn_Mlt, nn_leM, nn_Mle, z_ix_nn, z_inb_nn, F_at_nn, F_put_nn, Nat.zero_add, Nat.add_zero, z_P_some, z_R_some, z_P_bd]
    · simp (disch := omega) only [F_X11_sums, F_X11_sums_J26, F_X11_sums_J27, e2, dem_ok, dem_no, demT_ok, demT_no, z_bt_l, z_bt_r, z_try_l, z_try_r, nl_I, nl_N, nl_IN, nl_NI, may_okU, may_noU, z_up_at, z_up_i, z_up_r, ↓reduceIte, ↓z_letE, ↓z_bdE, nn_l2, nn_add, nn_mul, nn_sub, nn_addM, nn_div, nn_rem, nn_min, nn_max, nn_abs, nn_ltT, nn_ltF, nn_leT, nn_leF, nn_eqT, nn_eqF, nn_eqM, nn_Meq, nn_ltM, nn_Mlt, nn_leM, nn_Mle, z_ix_nn, z_inb_nn, F_at_nn, F_put_nn, Nat.zero_add, Nat.add_zero, z_P_some, z_R_some, z_P_bd]
