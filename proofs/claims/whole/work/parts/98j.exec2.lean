/-! ===== work: loops in loops are gone through alike ===== -/
def COr (N o n b k g : Nat) (D : z_Dat) : Option z_Dat := z_loop (fun kc8 s => F_X7_carryOut_L23 N o 3 kc8 s.1 s.2.1 s.2.2.1 s.2.2.2) n (nn b, nn k, nn g, D)
def MLr (N : Nat) (slf : Int32 → Int32 → z_Dat → Option z_Dat) (a1 : Int32) (nM i : Nat) (G : z_Dat) : Option z_Dat := z_loop (fun kc3 s => F_X11_goesSteps_L2 N slf a1 kc3 s.1 s.2) nM (nn (3 * i), G)
theorem CO_s {N o n b k g : Nat} {D : z_Dat} : COr N o (n + 1) b k g D = F_X7_carryOut_L23 N o 3 (fun s => z_loop (fun kc8 s => F_X7_carryOut_L23 N o 3 kc8 s.1 s.2.1 s.2.2.1 s.2.2.2) n s) (nn b) (nn k) (nn g) D := rfl
theorem ML_s {N nM i : Nat} {slf : Int32 → Int32 → z_Dat → Option z_Dat} {a1 : Int32} {G : z_Dat} : MLr N slf a1 (nM + 1) i G = F_X11_goesSteps_L2 N slf a1 (fun s => z_loop (fun kc3 s => F_X11_goesSteps_L2 N slf a1 kc3 s.1 s.2) nM s) (nn (3 * i)) G := rfl
def EPr (P D : z_Dat) : Prop := (∀ r, r ≠ 4 → r ≠ 15 → r ≠ 20 → D r = P r) ∧ D 15 5 = P 15 5
def EMr (C G : z_Dat) : Prop := (∀ r, r ≠ 40 → r ≠ 58 → G r = C r) ∧ ∀ j, j ≠ 35 → j ≠ 36 → j ≠ 37 → G 40 j = C 40 j
def XL (pe : Nat) (P C D G : z_Dat) : Prop := EPr P D ∧ EMr C G ∧ TR pe 300 (D 4) (G 58) ∧ D 15 7 = G 40 36 ∧ D 15 8 = G 40 37
def XS (pe : Nat) (P C : z_Dat) (b d : Nat) (D G : z_Dat) : Prop := XL pe P C D G ∧ G 40 35 = nn b ∧ D 15 6 = nn d
def c56 (C : z_Dat) : z_Dat := fun r => if r = 55 then C 56 else C r
theorem c56_e {C : z_Dat} : c56 C 55 = C 56 := if_pos rfl
/-- the end of a turn -/
theorem CO_end {N o n b k e g tm t d ne : Nat} {E : z_Dat} (hg : g < 1000000) (he : e < ne) (hne : ne ≤ 37) (e5 : E 15 5 = nn ne) (e16 : E 16 e = nn 7) (e17 : E 17 e = nn k) (e6 : E 15 6 = nn (d + 1)) (hd : d < 6) (e20 : E 20 d = nn (tm - t)) (ht : t < tm) (htm : tm ≤ 60) (hk : k < 37) : ∃ E', (t + 1 < tm → COr N o (n + 1) b e g E = COr N o n b (k + 1) (g + 1) E' ∧ E' 15 6 = nn (d + 1)) ∧ (¬ t + 1 < tm → COr N o (n + 1) b e g E = COr N o n b (e + 1) (g + 1) E' ∧ E' 15 6 = nn d) ∧ (∀ r, r ≠ 15 → r ≠ 20 → E' r = E r) ∧ (∀ j, j ≠ 6 → E' 15 j = E 15 j) ∧ (∀ x, x ≠ d → E' 20 x = E 20 x) ∧ E' 20 d = nn (tm - (t + 1)) := by
  have e1 : tm - t - 1 = tm - (t + 1) := by omega
  by_cases hl : t + 1 < tm
  · refine ⟨z_up E 20 d (nn (tm - (t + 1))), fun _ => ⟨?_, by rw [z_up_r (by decide)]; exact e6⟩, fun q => absurd hl q, fun r h1 h2 => by rw [z_up_ne h2], fun j hj => by rw [z_up_r (by decide)], fun x hx => by rw [z_up_i hx], by rw [z_up_at rfl rfl]⟩
    rw [CO_s]
    simp (disch := omega) only [F_X7_carryOut_L23, e5, e16, F_X7_afterTurn, e6, Nat.add_sub_cancel, e20, e1, e17, z_up_r, COr, ↓reduceIte, ↓z_letE, ↓z_bdE, nn_l2, nn_add, nn_mul, nn_sub, nn_addM, nn_div, nn_rem, nn_min, nn_max, nn_abs, nn_ltT, nn_ltF, nn_leT, nn_leF, nn_eqT, nn_eqF, nn_eqM, nn_Meq, nn_ltM, nn_Mlt, nn_leM, nn_Mle, z_ix_nn, z_inb_nn, F_at_nn, F_put_nn, Nat.zero_add, Nat.add_zero, z_P_some, z_R_some, z_P_bd]
  · refine ⟨z_up (z_up E 20 d (nn (tm - (t + 1)))) 15 6 (nn d), fun q => absurd q hl, fun _ => ⟨?_, by rw [z_up_at rfl rfl]⟩, fun r h1 h2 => by rw [z_up_ne h1, z_up_ne h2], fun j hj => by rw [z_up_i hj, z_up_r (by decide)], fun x hx => by rw [z_up_r (by decide), z_up_i hx], by rw [z_up_r (by decide), z_up_at rfl rfl]⟩
    have e0 : tm - (t + 1) = 0 := by omega
    rw [CO_s]
    simp (disch := omega) only [F_X7_carryOut_L23, e5, e16, F_X7_afterTurn, e6, Nat.add_sub_cancel, e20, e1, e0, z_up_r, COr, ↓reduceIte, ↓z_letE, ↓z_bdE, nn_l2, nn_add, nn_mul, nn_sub, nn_addM, nn_div, nn_rem, nn_min, nn_max, nn_abs, nn_ltT, nn_ltF, nn_leT, nn_leF, nn_eqT, nn_eqF, nn_eqM, nn_Meq, nn_ltM, nn_Mlt, nn_leM, nn_Mle, z_ix_nn, z_inb_nn, F_at_nn, F_put_nn, Nat.zero_add, Nat.add_zero, z_P_some, z_R_some, z_P_bd]
def INl (N o pe : Nat) (P C : z_Dat) (b d k e g n : Nat) (D G : z_Dat) (X : Option z_Dat) : Prop := ∃ E F b' g' n', COr N o n b k g D = COr N o n' b' e g' E ∧ X = some F ∧ XS pe P C b' d E F ∧ n' + g' = n + g ∧ b ≤ b' ∧ b' ≤ 200 ∧ g' + 61 * b ≤ g + 61 * b' ∧ ∀ x, x < d → E 20 x = D 20 x
def INr (N o pe : Nat) (P C : z_Dat) (b k g n : Nat) (D G : z_Dat) (X : Option z_Dat) : Prop := ∃ E F, COr N o n b k g D = some E ∧ X = some F ∧ XL pe P C E F ∧ F 40 35 = nn 200
set_option maxHeartbeats 2000000 in
theorem turn_R {N o pe : Nat} {P C : z_Dat} {slf : Int32 → Int32 → z_Dat → Option z_Dat} {k e i j d tm ne : Nat} (h5 : P 15 5 = nn ne) (hne : ne ≤ 37) (he : e < ne) (hk : k < 37) (p16 : P 16 e = nn 7) (p17 : P 17 e = nn k) (c1 : C 56 (3 * i + 1) = nn tm) (hi : 3 * i + 1 < 150) (htm : tm ≤ 60) (hd : d < 6)
    (hin : ∀ b g n D G, b ≤ 200 → g ≤ 61 * b → 30000 ≤ n + g → XS pe P C b (d + 1) D G → INl N o pe P C b (d + 1) (k + 1) e g n D G (slf (nn (3 * i + 3)) (nn (3 * j)) G) ∨ INr N o pe P C b (k + 1) g n D G (slf (nn (3 * i + 3)) (nn (3 * j)) G))
    (h200 : ∀ G, G 40 35 = nn 200 → slf (nn (3 * i + 3)) (nn (3 * j)) G = some G) :
    ∀ r t nL b g n D G (kc3 : (Int32 × z_Dat) → Option z_Dat), r + t = tm → 0 < r → b ≤ 200 → g + 60 ≤ 61 * b + t → 30000 ≤ n + g → r < nL → XS pe P C b (d + 1) D G → D 20 d = nn (tm - t) →
      (∃ E F b' g' n', COr N o n b (k + 1) g D = COr N o n' b' (e + 1) g' E ∧ z_loop (fun kc11 s => F_X11_goesSteps_L51 slf kc3 (nn (3 * i)) (nn (3 * j)) kc11 s.1 s.2) nL (nn t, G) = kc3 (nn (3 * j), F) ∧ XS pe P C b' d E F ∧ n' + g' = n + g ∧ b ≤ b' ∧ b' ≤ 200 ∧ g' + 61 * b ≤ g + (tm - t) + 61 * b' ∧ (b = 200 → F = G) ∧ ∀ x, x < d → E 20 x = D 20 x) ∨
      (∃ E F, COr N o n b (k + 1) g D = some E ∧ z_loop (fun kc11 s => F_X11_goesSteps_L51 slf kc3 (nn (3 * i)) (nn (3 * j)) kc11 s.1 s.2) nL (nn t, G) = kc3 (nn (3 * j), F) ∧ XL pe P C E F ∧ F 40 35 = nn 200 ∧ (b = 200 → F = G)) := by
  intro r
  induction r with
  | zero => intro t nL b g n D G kc3 _ h0; omega
  | succ r ih =>
    intro t nL b g n D G kc3 hr _ hb hg hn hnL hX h20
    obtain ⟨nL', rfl⟩ : ∃ x, nL = x + 1 := ⟨nL - 1, by omega⟩
    have hXG := hX
    obtain ⟨⟨hEP, hEM, hTR, hc7, hc8⟩, hb35, hd6⟩ := hX
    have g56 : G 56 (3 * i + 1) = nn tm := by rw [hEM.1 56 (by decide) (by decide)]; exact c1
    -- the model's round
    have hm200 : b = 200 → z_loop (fun kc11 s => F_X11_goesSteps_L51 slf kc3 (nn (3 * i)) (nn (3 * j)) kc11 s.1 s.2) (nL' + 1) (nn t, G) = kc3 (nn (3 * j), G) := fun q => by
      subst q
      show F_X11_goesSteps_L51 slf kc3 (nn (3 * i)) (nn (3 * j)) _ (nn t) G = _
      simp (disch := omega) only [F_X11_goesSteps_L51, g56, hb35, ↓reduceIte, ↓z_letE, ↓z_bdE, nn_l2, nn_add, nn_mul, nn_sub, nn_addM, nn_div, nn_rem, nn_min, nn_max, nn_abs, nn_ltT, nn_ltF, nn_leT, nn_leF, nn_eqT, nn_eqF, nn_eqM, nn_Meq, nn_ltM, nn_Mlt, nn_leM, nn_Mle, z_ix_nn, z_inb_nn, F_at_nn, F_put_nn, Nat.zero_add, Nat.add_zero, z_P_some, z_R_some, z_P_bd]
    have hmlt : b < 200 → ∀ F, slf (nn (3 * i + 3)) (nn (3 * j)) G = some F → z_loop (fun kc11 s => F_X11_goesSteps_L51 slf kc3 (nn (3 * i)) (nn (3 * j)) kc11 s.1 s.2) (nL' + 1) (nn t, G) = z_loop (fun kc11 s => F_X11_goesSteps_L51 slf kc3 (nn (3 * i)) (nn (3 * j)) kc11 s.1 s.2) nL' (nn (t + 1), F) := fun q F hF => by
      have key : ∀ kc : (Int32 × z_Dat) → Option z_Dat, F_X11_goesSteps_L51 slf kc3 (nn (3 * i)) (nn (3 * j)) kc (nn t) G = kc (nn (t + 1), F) := by
        intro kc
        simp (disch := omega) only [F_X11_goesSteps_L51, g56, hb35, hF, ↓reduceIte, ↓z_letE, ↓z_bdE, nn_l2, nn_add, nn_mul, nn_sub, nn_addM, nn_div, nn_rem, nn_min, nn_max, nn_abs, nn_ltT, nn_ltF, nn_leT, nn_leF, nn_eqT, nn_eqF, nn_eqM, nn_Meq, nn_ltM, nn_Mlt, nn_leM, nn_Mle, z_ix_nn, z_inb_nn, F_at_nn, F_put_nn, Nat.zero_add, Nat.add_zero, z_P_some, z_R_some, z_P_bd]
      exact key _
    -- the model's way out
    have hout : ∀ F nL, 0 < nL → EMr C F → (tm ≤ t + 1 ∨ F 40 35 = nn 200) → z_loop (fun kc11 s => F_X11_goesSteps_L51 slf kc3 (nn (3 * i)) (nn (3 * j)) kc11 s.1 s.2) nL (nn (t + 1), F) = kc3 (nn (3 * j), F) := fun F nL hnl hF hq => by
      obtain ⟨nl, rfl⟩ : ∃ x, nL = x + 1 := ⟨nL - 1, by omega⟩
      have f56 : F 56 (3 * i + 1) = nn tm := by rw [hF.1 56 (by decide) (by decide)]; exact c1
      show F_X11_goesSteps_L51 slf kc3 (nn (3 * i)) (nn (3 * j)) _ (nn (t + 1)) F = _
      by_cases h1 : tm ≤ t + 1
      · simp (disch := omega) only [F_X11_goesSteps_L51, f56, ↓reduceIte, ↓z_letE, ↓z_bdE, nn_l2, nn_add, nn_mul, nn_sub, nn_addM, nn_div, nn_rem, nn_min, nn_max, nn_abs, nn_ltT, nn_ltF, nn_leT, nn_leF, nn_eqT, nn_eqF, nn_eqM, nn_Meq, nn_ltM, nn_Mlt, nn_leM, nn_Mle, z_ix_nn, z_inb_nn, F_at_nn, F_put_nn, Nat.zero_add, Nat.add_zero, z_P_some, z_R_some, z_P_bd]
      · have h2 : F 40 35 = nn 200 := by
          rcases hq with h | h
          · exact absurd h h1
          · exact h
        simp (disch := omega) only [F_X11_goesSteps_L51, f56, h2, ↓reduceIte, ↓z_letE, ↓z_bdE, nn_l2, nn_add, nn_mul, nn_sub, nn_addM, nn_div, nn_rem, nn_min, nn_max, nn_abs, nn_ltT, nn_ltF, nn_leT, nn_leF, nn_eqT, nn_eqF, nn_eqM, nn_Meq, nn_ltM, nn_Mlt, nn_leM, nn_Mle, z_ix_nn, z_inb_nn, F_at_nn, F_put_nn, Nat.zero_add, Nat.add_zero, z_P_some, z_R_some, z_P_bd]
    rcases hin b g n D G hb (by omega) hn hXG with ⟨E, F, b1, g1, n1, a1, a2, a3, a4, a5, a6, a7, a8⟩ | ⟨E, F, a1, a2, a3, a4⟩
    · obtain ⟨⟨xEP, xEM, xTR, x7, x8⟩, x35, x6⟩ := id a3
      have hE20 : E 20 d = nn (tm - t) := by rw [a8 d (by omega)]; exact h20
      obtain ⟨n1', rfl⟩ : ∃ x, n1 = x + 1 := ⟨n1 - 1, by omega⟩
      obtain ⟨E', y1, y2, y3, y4, y5, y6⟩ := CO_end (N := N) (o := o) (n := n1') (b := b1) (k := k) (e := e) (g := g1) (tm := tm) (t := t) (d := d) (ne := ne) (E := E) (by omega) he hne (by rw [xEP.2]; exact h5) (by rw [xEP.1 16 (by decide) (by decide) (by decide)]; exact p16) (by rw [xEP.1 17 (by decide) (by decide) (by decide)]; exact p17) x6 hd hE20 (by omega) htm hk
      have hXL' : XL pe P C E' F := ⟨⟨fun r h1 h2 h3 => by rw [y3 r h2 h3]; exact xEP.1 r h1 h2 h3, by rw [y4 5 (by decide)]; exact xEP.2⟩, xEM, by rw [y3 4 (by decide) (by decide)]; exact xTR, by rw [y4 7 (by decide)]; exact x7, by rw [y4 8 (by decide)]; exact x8⟩
      have hFG : b = 200 → F = G := fun q => by
        have := h200 G (by rw [← q]; exact hb35)
        rw [this] at a2
        exact (Option.some.inj a2).symm
      by_cases hl : t + 1 < tm
      · obtain ⟨z1, z2⟩ := y1 hl
        rcases ih (t + 1) nL' b1 (g1 + 1) n1' E' F kc3 (by omega) (by omega) a6 (by omega) (by omega) (by omega) ⟨hXL', x35, z2⟩ y6 with ⟨E9, F9, b9, g9, n9, w1, w2, w3, w4, w5, w6, w7, w8, w9⟩ | ⟨E9, F9, w1, w2, w3, w4, w5⟩
        · left
          by_cases hb2 : b = 200
          · have hbb : b1 = 200 := by omega
            have f9 := w8 hbb
            have fG := hFG hb2
            refine ⟨E9, G, b9, g9, n9, (a1.trans z1).trans w1, hm200 hb2, ?_, by omega, by omega, w6, by omega, fun _ => rfl, fun x hx => ?_⟩
            · rw [← fG, ← f9]
              exact w3
            · rw [w9 x hx, y5 x (by omega), a8 x (by omega)]
          · refine ⟨E9, F9, b9, g9, n9, (a1.trans z1).trans w1, (hmlt (by omega) F a2).trans w2, w3, by omega, by omega, w6, by omega, fun q => absurd q hb2, fun x hx => ?_⟩
            rw [w9 x hx, y5 x (by omega), a8 x (by omega)]
        · right
          by_cases hb2 : b = 200
          · have hbb : b1 = 200 := by omega
            have f9 := w5 hbb
            have fG := hFG hb2
            refine ⟨E9, G, (a1.trans z1).trans w1, hm200 hb2, ?_, ?_, fun _ => rfl⟩
            · rw [← fG, ← f9]
              exact w3
            · rw [← fG, ← f9]
              exact w4
          · exact ⟨E9, F9, (a1.trans z1).trans w1, (hmlt (by omega) F a2).trans w2, w3, w4, fun q => absurd q hb2⟩
      · obtain ⟨z1, z2⟩ := y2 hl
        left
        by_cases hb2 : b = 200
        · have fG := hFG hb2
          refine ⟨E', G, b1, g1 + 1, n1', a1.trans z1, hm200 hb2, ?_, by omega, a5, a6, by omega, fun _ => rfl, fun x hx => by rw [y5 x (by omega), a8 x (by omega)]⟩
          rw [← fG]
          exact ⟨hXL', x35, z2⟩
        · exact ⟨E', F, b1, g1 + 1, n1', a1.trans z1, (hmlt (by omega) F a2).trans (hout F nL' (by omega) xEM (Or.inl (by omega))), ⟨hXL', x35, z2⟩, by omega, a5, a6, by omega, fun q => absurd q hb2, fun x hx => by rw [y5 x (by omega), a8 x (by omega)]⟩
    · right
      have hFG : b = 200 → F = G := fun q => by
        have := h200 G (by rw [← q]; exact hb35)
        rw [this] at a2
        exact (Option.some.inj a2).symm
      by_cases hb2 : b = 200
      · have fG := hFG hb2
        exact ⟨E, G, a1, hm200 hb2, fG ▸ a3, fG ▸ a4, fun _ => rfl⟩
      · exact ⟨E, F, a1, (hmlt (by omega) F a2).trans (hout F nL' (by omega) a3.2.1 (Or.inr a4)), a3, a4, fun q => absurd q hb2⟩
