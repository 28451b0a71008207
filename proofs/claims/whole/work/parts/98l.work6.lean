/-! ===== work: what the reference sets up before it goes ===== -/
def EXm (N : Nat) (D : z_Dat) : Option (Int32 × z_Dat) := z_bd (F_X11_take N (z_up D 40 33 (D 40 33 + 1))) (fun a_30 => z_bd (F_X11_goesSteps N 64 0 (a_30 40 32) (z_up (z_up (z_up a_30 40 35 (nn 0)) 40 36 (nn 0)) 40 37 (nn 0))) (fun a_35 => z_bd (F_X11_copies N 58 60 57 60 (nn 60) a_35) (fun a_37 => some ((z_up a_37 40 34 (a_37 40 37)) 40 36, z_up a_37 40 34 (a_37 40 37)))))
theorem L123_R {N w : Nat} (hw : w < 16) : ∀ r v nl (D : z_Dat), v + r = 60 → r < nl → D 40 33 = nn w → ∃ D', z_loop (fun kc26 s => F_X11_work_L123 N kc26 s.1 s.2) nl (nn v, D) = EXm N D' ∧ Fr 59 D D' ∧ (∀ x, x < 60 * w + v → D' 59 x = D 59 x) ∧ ∀ y, v ≤ y → y < 60 → D' 59 (60 * w + y) = D 57 y := by
  intro r
  induction r with
  | zero =>
    intro v nl D hv hn h33
    obtain ⟨nl', rfl⟩ : ∃ x, nl = x + 1 := ⟨nl - 1, by omega⟩
    obtain rfl : v = 60 := by omega
    refine ⟨D, ?_, Fr.rf, fun _ _ => rfl, fun y h1 h2 => by omega⟩
    have key : ∀ kc : (Int32 × z_Dat) → Option (Int32 × z_Dat), F_X11_work_L123 N kc (nn 60) D = EXm N D := by
      intro kc
      unfold F_X11_work_L123
      have c : (60 : Int32) ≤ nn 60 := by decide
      rw [if_pos c]
      have e : ∀ a : z_Dat, z_up (z_up (z_up a 40 35 (nn 0)) 40 36 (nn 0)) 40 37 (nn 0) 40 32 = a 40 32 := fun a => by simp (disch := omega) only [z_up_i]
      unfold EXm
      simp only [z_letE, ← nn_l2]
      congr 1
    exact key _
  | succ r ih =>
    intro v nl D hv hn h33
    obtain ⟨nl', rfl⟩ : ∃ x, nl = x + 1 := ⟨nl - 1, by omega⟩
    have key : ∀ kc : (Int32 × z_Dat) → Option (Int32 × z_Dat), F_X11_work_L123 N kc (nn v) D = kc (nn (v + 1), z_up D 59 (60 * w + v) (D 57 v)) := by
      intro kc
      unfold F_X11_work_L123
      have c : ¬ (60 : Int32) ≤ nn v := by
        show ¬ nn 60 ≤ nn v
        rw [nn_le (by decide) (by omega)]
        omega
      have i1 : z_inb (nn v) 60 := by rw [z_inb_nn (by omega) (by omega)]; trivial
      have e1 : (60 : Int32) * D 40 33 + nn v = nn (60 * w + v) := by
        rw [h33]
        show nn 60 * nn w + nn v = _
        rw [nn_mul, nn_add]
      have i2 : z_inb (nn (60 * w + v)) 960 := by rw [z_inb_nn (by omega) (by omega)]; trivial
      rw [if_neg c, if_pos i1, e1, if_pos i2, z_letE, z_letE, z_ix_nn (by omega), z_ix_nn (by omega)]
      show kc (nn v + nn 1, _) = _
      rw [nn_add]
    obtain ⟨D', h1, h2, h3, h4⟩ := ih (v + 1) nl' (z_up D 59 (60 * w + v) (D 57 v)) (by omega) (by omega) (by rw [z_up_r (by decide)]; exact h33)
    refine ⟨D', (key _).trans h1, fun r hr => by rw [h2 r hr, z_up_ne hr], fun x hx => by rw [h3 x (by omega), z_up_i (by omega)], fun y y1 y2 => ?_⟩
    by_cases hy : y = v
    · subst hy
      rw [h3 _ (by omega), z_up_at rfl rfl]
    · rw [h4 y (by omega) y2, z_up_r (by decide)]
theorem J89_R {N ni w : Nat} {F : z_Dat} (hN : 2000 < N) (h5 : F 40 5 = -nn 1) (h32 : F 40 32 = nn (3 * ni)) (hni : 3 * ni ≤ 150) (h33 : F 40 33 = nn w) (hw : w < 16) : ∃ C, F_X11_work_J89 N F = z_bd (F_X11_goesSteps N 64 0 (nn (3 * ni)) C) (fun a_35 => z_bd (F_X11_copies N 58 60 57 60 (nn 60) a_35) (fun a_37 => some ((z_up a_37 40 34 (a_37 40 37)) 40 36, z_up a_37 40 34 (a_37 40 37)))) ∧ (∀ r, r ≠ 40 → r ≠ 56 → r ≠ 58 → r ≠ 59 → C r = F r) ∧ (∀ y, y < 3 * ni → C 56 y = F 55 y) ∧ (∀ j, j < 60 → C 58 j = F 57 j) ∧ (∀ x, x < 60 * w → C 59 x = F 59 x) ∧ (∀ y, y < 60 → C 59 (60 * w + y) = F 57 y) ∧ (∀ j, j ≠ 8 → j ≠ 33 → j ≠ 35 → j ≠ 36 → j ≠ 37 → C 40 j = F 40 j) ∧ C 40 8 = -nn 1 ∧ C 40 33 = nn (w + 1) ∧ C 40 35 = nn 0 ∧ C 40 36 = nn 0 ∧ C 40 37 = nn 0 := by
  obtain ⟨F1, a1, a2, a3, a4⟩ := copies_P (N := N) (r0 := 55) (n0 := 150) (r1 := 56) (n1 := 150) (m := 3 * ni) (D := z_up F 40 8 (-nn 1)) (by decide) hni hni (by omega) (by omega)
  have f33 : F1 40 33 = nn w := by rw [a2 40 (by decide), z_up_i (by decide)]; exact h33
  obtain ⟨F2, b1, b2, b3, b4⟩ := L123_R (N := N) hw 60 0 N F1 (by omega) (by omega) f33
  obtain ⟨F3, c1, c2, c3⟩ := take_P (N := N) (D := z_up F2 40 33 (F2 40 33 + 1)) (by omega)
  have e0 : F_X11_work_J89 N F = EXm N F2 := by
    rw [← b1]
    simp (disch := omega) only [F_X11_work_J89, F_X11_result, F_X11_fine, h5, z_up_i, h32, a1, ↓reduceIte, ↓z_letE, ↓z_bdE, nn_l2, nn_add, nn_mul, nn_sub, nn_addM, nn_div, nn_rem, nn_min, nn_max, nn_abs, nn_ltT, nn_ltF, nn_leT, nn_leF, nn_eqT, nn_eqF, nn_eqM, nn_Meq, nn_ltM, nn_Mlt, nn_leM, nn_Mle, z_ix_nn, z_inb_nn, F_at_nn, F_put_nn, Nat.zero_add, Nat.add_zero, z_P_some, z_R_some, z_P_bd]
  have g40 : ∀ j, F3 40 j = z_up F2 40 33 (F2 40 33 + 1) 40 j := fun j => by rw [c2 40 (by decide)]
  have g2 : ∀ j, F2 40 j = z_up F 40 8 (-nn 1) 40 j := fun j => by rw [b2 40 (by decide), a2 40 (by decide)]
  have f32 : F3 40 32 = nn (3 * ni) := by rw [g40, z_up_i (by decide), g2, z_up_i (by decide)]; exact h32
  refine ⟨z_up (z_up (z_up F3 40 35 (nn 0)) 40 36 (nn 0)) 40 37 (nn 0), ?_, fun r h1 h2 h3 h4 => ?_, fun y hy => ?_, fun j hj => ?_, fun x hx => ?_, fun y hy => ?_, fun j j1 j2 j3 j4 j5 => ?_, ?_, ?_, ?_, ?_, ?_⟩
  · rw [e0]
    unfold EXm
    rw [c1, z_bdE, f32]
  · rw [z_up_ne h1, z_up_ne h1, z_up_ne h1, c2 r h3, z_up_ne h1, b2 r h4, a2 r h2, z_up_ne h1]
  · rw [z_up_r (by decide), z_up_r (by decide), z_up_r (by decide), c2 56 (by decide), z_up_r (by decide), b2 56 (by decide), a3 y hy, z_up_r (by decide)]
  · rw [z_up_r (by decide), z_up_r (by decide), z_up_r (by decide), c3 j hj, z_up_r (by decide), b2 57 (by decide), a2 57 (by decide), z_up_r (by decide)]
  · rw [z_up_r (by decide), z_up_r (by decide), z_up_r (by decide), c2 59 (by decide), z_up_r (by decide), b3 x (by omega), a2 59 (by decide), z_up_r (by decide)]
  · rw [z_up_r (by decide), z_up_r (by decide), z_up_r (by decide), c2 59 (by decide), z_up_r (by decide), b4 y (by omega) hy, a2 57 (by decide), z_up_r (by decide)]
  · rw [z_up_i j5, z_up_i j4, z_up_i j3, g40, z_up_i j2, g2, z_up_i j1]
  · rw [z_up_i (by decide), z_up_i (by decide), z_up_i (by decide), g40, z_up_i (by decide), g2, z_up_at rfl rfl]
  · rw [z_up_i (by decide), z_up_i (by decide), z_up_i (by decide), g40, z_up_at rfl rfl, g2, z_up_i (by decide), h33]
    exact nn_add w 1
  · rw [z_up_i (by decide), z_up_i (by decide), z_up_at rfl rfl]
  · rw [z_up_i (by decide), z_up_at rfl rfl]
  · rw [z_up_at rfl rfl]
