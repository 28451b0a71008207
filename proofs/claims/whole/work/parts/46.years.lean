/-! ===== years that go by in a thought: when, sits, ahead ===== -/
/-- the two towns of a thought, beside all that stays -/
def YS (o ns pe rv : Nat) (D G : z_Dat) (Y : Nat) (E E' : z_Dat) : Prop := KA D E ∧ CR o ns pe rv E E' ∧ LR E E' ∧ TR pe Y (E (5 + 1)) (E' 58) ∧ E' 40 0 = nn 0 ∧ E' 67 = G 67 ∧ KA G E'
theorem z_R_w {α β : Type} {x : Option α} {y : Option β} {Q Q' : α → β → Prop} (h : z_R x y Q) (hq : ∀ a b, Q a b → Q' a b) : z_R x y Q' := z_R_mono h hq
theorem YS.cr {o ns pe rv Y : Nat} {D G E E' F F' : z_Dat} (ho : o = 34 ∨ 68 ≤ o) (h : YS o ns pe rv D G Y E E') (h1 : KA E F) (h2 : KA E' F') : CR o ns pe rv F F' ∧ LR F F' := ⟨CRL ho (CRK h.2.1 h2) h1, LRL (LRK h.2.2.1 h2) h1⟩
theorem YS_pass {N o ns pe rv Y : Nat} {D G E E' : z_Dat} (hN : 200 < N) (ho : o = 34 ∨ 68 ≤ o) (hY : Y < 1000000) (h : YS o ns pe rv D G Y E E') : z_R (F_X9_passYear N 5 (E o 6) (E o 7) E) (F_X11_passes N E') (fun F F' => YS o ns pe rv D G (Y + 1) F F') := by
  obtain ⟨hK, hC, hL, hT, h0, h67, hG⟩ := id h
  obtain ⟨⟨hns, hpe, hrv⟩, ⟨c5, c6, c7⟩, ⟨k19, k20, k21⟩, hV, hH⟩ := id hC
  rw [c6, c7]
  refine z_R_mono (passes_R (t := 5) (by omega) hpe hrv hY hT k20 k21) (fun F F' hF => ?_)
  obtain ⟨f1, f2, f3⟩ := hF
  have g1 : KA E F := KA.fr f2 (by unfold SC; omega)
  have g2 : KA E' F' := KA.fr f3 (by unfold SC; omega)
  obtain ⟨q1, q2⟩ := h.cr ho g1 g2
  exact ⟨hK.tr g1, q1, q2, f1, by rw [f3 40 (by decide)]; exact h0, by rw [f3 67 (by decide)]; exact h67, hG.tr g2⟩
theorem YS_fs {o ns pe rv Y : Nat} {D G E E' F F' : z_Dat} (ho : o = 34 ∨ 68 ≤ o) (h : YS o ns pe rv D G Y E E') (f2 : FS E F) (f3 : FS' E' F') : YS o ns pe rv D G Y F F' := by
  obtain ⟨hK, hC, hL, hT, h0, h67, hG⟩ := id h
  obtain ⟨q1, q2⟩ := h.cr ho (KA.fs f2) (KA.fs' f3)
  exact ⟨hK.tr (KA.fs f2), q1, q2, by rw [f2 6 (by decide) (by decide), f3 58 (by decide) (by decide)]; exact hT, by rw [f3 40 (by decide) (by decide)]; exact h0, by rw [f3 67 (by decide) (by decide)]; exact h67, hG.tr (KA.fs' f3)⟩
theorem YS_seat {N o ns pe rv Y p : Nat} {D G E E' : z_Dat} (hN : 200 < N) (ho : o = 34 ∨ 68 ≤ o) (hp : p < pe) (h : YS o ns pe rv D G Y E E') : z_R (F_X10_isSeated N o 5 (nn p) E) (F_X11_isSitting N (nn p) E') (fun a c => a.1 = c.1 ∧ (a.1 = nn 0 ∨ a.1 = nn 1) ∧ YS o ns pe rv D G Y a.2 c.2) := by
  refine z_R_mono (isSeated_R (t := 5) hN hp h.2.1 h.2.2.2.1 h.2.2.1) (fun a c hac => ?_)
  obtain ⟨f1, f2, f3, f4⟩ := hac
  exact ⟨f1, f2, YS_fs ho h f3 f4⟩
theorem YS_seated {N o ns pe rv Y : Nat} {D G E E' : z_Dat} (hN : 200 < N) (ho : o = 34 ∨ 68 ≤ o) (h : YS o ns pe rv D G Y E E') : z_R (F_X10_seated N o 5 E) (F_X11_sitting N E') (fun a c => a.1 = c.1 ∧ (∃ q, q ≤ pe ∧ a.1 = nn q) ∧ YS o ns pe rv D G Y a.2 c.2) := by
  refine z_R_mono (seated_R (t := 5) hN (by decide) (by omega) (by omega) h.2.1 h.2.2.2.1 h.2.2.1) (fun a c hac => ?_)
  obtain ⟨f1, f2, f3, f4⟩ := hac
  exact ⟨f1, f2, YS_fs ho h f3 f4⟩
theorem YS_unlike {N o ns pe rv Y : Nat} {D G E E' : z_Dat} (hN : 200 < N) (h : YS o ns pe rv D G Y E E') : z_R (F_X9_unlikeShades N 5 (E o 6) E) (F_X11_unlikeShades N E') (fun a c => a = c ∧ ∃ q, q ≤ pe ∧ a = nn q) := by
  obtain ⟨hK, hC, hL, hT, h0, h67, hG⟩ := id h
  obtain ⟨⟨hns, hpe, hrv⟩, ⟨c5, c6, c7⟩, ⟨k19, k20, k21⟩, hV, hH⟩ := id hC
  rw [c6]
  exact unlike_R (t := 5) hN hpe k20 hT
theorem YS_end {o ns pe rv Y : Nat} {D G E E' : z_Dat} {r : Int32} (h : YS o ns pe rv D G Y E E') : RQ D G (.inl (r, E)) (r, E') := ⟨r, E, rfl, h.1, rfl, h.2.2.2.2.1, h.2.2.2.2.2.1, h.2.2.2.2.2.2⟩
theorem YS_copy {N o ns pe rv : Nat} {D G G2 : z_Dat} {α β : Type} {f : z_Dat → Option α} {y : Option β} {Q : α → β → Prop} (hN : 200 < N) (ho : o = 34 ∨ 68 ≤ o) (hB : JB o ns pe rv D) (hA : AT o ns pe rv D G G2) (h : ∀ E, YS o ns pe rv D G 300 E G2 → z_R (f E) y Q) : z_R (z_bd (F_X9_copyFrom N 5 3 D) f) y Q := by
  rw [z_R_l]
  unfold F_X9_copyFrom
  rw [z_P_bd]
  have hc := copy_P (N := N) (r0 := 4) (n0 := 44) (r1 := 6) (n1 := 44) (a := 0) (b := 0) (m := 44) (D := D) (by decide) (by decide) (by decide) (by decide) (by decide) (by omega)
  refine z_P_mono hc (fun E hE => ?_)
  rw [z_P_some]
  obtain ⟨e1, e2, e3⟩ := hE
  obtain ⟨A1, A2, A3, A4, A5, A6⟩ := hA
  have g1 : KA D E := KA.fr e1 (by unfold SC; omega)
  refine h E ⟨g1, CRL ho A1 g1, LRL A3 g1, TR_eq A2 A1.1.2.1 (fun j hj => ?_) (fun _ _ => rfl), A4, A5, A6⟩
  have := e2 j hj
  simp only [Nat.zero_add] at this
  exact this
theorem YS_copy2 {N o ns pe rv : Nat} {D G E0 G2 : z_Dat} {α β : Type} {f : z_Dat → Option α} {y : Option β} {Q : α → β → Prop} (hN : 200 < N) (ho : o = 34 ∨ 68 ≤ o) (hB : JB o ns pe rv D) (hE0 : KA D E0) (hA : AT o ns pe rv D G G2) (h : ∀ E, YS o ns pe rv D G 300 E G2 → z_R (f E) y Q) : z_R (z_bd (F_X9_copyFrom N 5 3 E0) f) y Q := by
  rw [z_R_l]
  unfold F_X9_copyFrom
  rw [z_P_bd]
  have hc := copy_P (N := N) (r0 := 4) (n0 := 44) (r1 := 6) (n1 := 44) (a := 0) (b := 0) (m := 44) (D := E0) (by decide) (by decide) (by decide) (by decide) (by decide) (by omega)
  refine z_P_mono hc (fun E hE => ?_)
  rw [z_P_some]
  obtain ⟨e1, e2, e3⟩ := hE
  obtain ⟨A1, A2, A3, A4, A5, A6⟩ := hA
  have g1 : KA D E := hE0.tr (KA.fr e1 (by unfold SC; omega))
  refine h E ⟨g1, CRL ho A1 g1, LRL A3 g1, TR_eq A2 A1.1.2.1 (fun j hj => ?_) (fun _ _ => rfl), A4, A5, A6⟩
  have := e2 j hj
  simp only [Nat.zero_add] at this
  show E 6 j = D 4 j
  rw [this, hE0.1 4 (by unfold SC; omega) (by decide)]
set_option maxHeartbeats 4000000 in
theorem T_when {N o n : Nat} {a1 a2 : Int32} {D : z_Dat} (hN : 200 < N) (hJ : J o n D) : TOP (F_L_when N o a1 a2 D) (F_X11_when N a1 a2) (J o n) := by
  obtain ⟨ho, ns, pe, rv, hB⟩ := id hJ
  obtain ⟨hC, hT, hL, hBk, hP, hI, hX, hMI⟩ := id hB
  obtain ⟨⟨hns, hpe, hrv⟩, ⟨c5, c6, c7⟩, ⟨k19, k20, k21⟩, hV, hH⟩ := id hC
  rcases has_or (m := pe) (by omega) a1 with ⟨p, hp, rfl, ew⟩ | ⟨hout, ew⟩
  · rcases wi_or (m := 1) (by decide) a2 with ⟨b, hb, rfl, e9⟩ | ⟨hout, e9⟩
    · refine TOP_r hJ rfl (fun G hK => ?_)
      have g20 : G 40 20 = nn pe := by rw [hK.2.1 20 (by unfold KK; omega)]; exact k20
      have h2 : b = 0 ∨ b = 1 := by omega
      have key : ∀ E G2, YS o ns pe rv D G 300 E G2 → z_R (z_loop (fun kc13 s => F_X10_when_L43 N o (nn p) (nn b) kc13 s.1 s.2) N (nn 0, E)) (z_loop (fun kc13 s => F_X11_when_L37 N (nn p) (nn b) kc13 s.1 s.2) N (nn 0, G2)) (RQ D G) := fun E G2 hY => by
        refine z_R_loop (fun k s s' => ∃ y, y + k = 61 ∧ s.1 = nn y ∧ s'.1 = nn y ∧ YS o ns pe rv D G (300 + y) s.2 s'.2) ?_ 61 N N _ _ (by omega) (by omega) ⟨0, by omega, rfl, rfl, hY⟩
        rintro k ⟨v, F⟩ ⟨w, F'⟩ kc kc' ⟨y, hk, rfl, rfl, hF⟩ ih
        dsimp only at hF ⊢
        by_cases hy : y < 61
        · simp (disch := omega) only [F_X10_when_L43, F_X11_when_L37, ↓reduceIte, ↓z_letE, ↓z_bdE, nn_l2, nn_add, nn_mul, nn_sub, nn_addM, nn_div, nn_rem, nn_min, nn_max, nn_abs, nn_ltT, nn_ltF, nn_leT, nn_leF, nn_eqT, nn_eqF, nn_eqM, nn_Meq, nn_ltM, nn_Mlt, nn_leM, nn_Mle, z_ix_nn, z_inb_nn, F_at_nn, F_put_nn, Nat.zero_add, Nat.add_zero, z_P_some, z_R_some, z_P_bd]
          refine z_R_bd (z_R_mono (YS_seat hN hJ.ho hp hF) (fun a c hac => ?_))
          obtain ⟨x1, x2, x3⟩ := hac
          rw [← x1]
          have go : z_R (z_bd (F_X9_passYear N 5 (a.2 o 6) (a.2 o 7) a.2) (fun a_23 => kc (nn (y + 1), a_23))) (z_bd (F_X11_passes N c.2) (fun a_20 => kc' (nn (y + 1), a_20))) (RQ D G) := by
            refine z_R_bd (z_R_mono (YS_pass hN hJ.ho (by omega) x3) (fun q q' hq => ?_))
            exact ih (k - 1) _ _ (by omega) ⟨y + 1, by omega, rfl, rfl, hq⟩
          rcases h2 with rfl | rfl <;> rcases x2 with x2 | x2
          · simp (disch := omega) only [F_X10_when_J68x, x2, ↓reduceIte, ↓z_letE, ↓z_bdE, nn_l2, nn_add, nn_mul, nn_sub, nn_addM, nn_div, nn_rem, nn_min, nn_max, nn_abs, nn_ltT, nn_ltF, nn_leT, nn_leF, nn_eqT, nn_eqF, nn_eqM, nn_Meq, nn_ltM, nn_Mlt, nn_leM, nn_Mle, z_ix_nn, z_inb_nn, F_at_nn, F_put_nn, Nat.zero_add, Nat.add_zero, z_P_some, z_R_some, z_P_bd]
            exact YS_end x3
          · simp (disch := omega) only [F_X10_when_J68x, x2, ↓reduceIte, ↓z_letE, ↓z_bdE, nn_l2, nn_add, nn_mul, nn_sub, nn_addM, nn_div, nn_rem, nn_min, nn_max, nn_abs, nn_ltT, nn_ltF, nn_leT, nn_leF, nn_eqT, nn_eqF, nn_eqM, nn_Meq, nn_ltM, nn_Mlt, nn_leM, nn_Mle, z_ix_nn, z_inb_nn, F_at_nn, F_put_nn, Nat.zero_add, Nat.add_zero, z_P_some, z_R_some, z_P_bd]
            exact go
          · simp (disch := omega) only [F_X10_when_J68, x2, ↓reduceIte, ↓z_letE, ↓z_bdE, nn_l2, nn_add, nn_mul, nn_sub, nn_addM, nn_div, nn_rem, nn_min, nn_max, nn_abs, nn_ltT, nn_ltF, nn_leT, nn_leF, nn_eqT, nn_eqF, nn_eqM, nn_Meq, nn_ltM, nn_Mlt, nn_leM, nn_Mle, z_ix_nn, z_inb_nn, F_at_nn, F_put_nn, Nat.zero_add, Nat.add_zero, z_P_some, z_R_some, z_P_bd]
            exact go
          · simp (disch := omega) only [F_X10_when_J68, x2, ↓reduceIte, ↓z_letE, ↓z_bdE, nn_l2, nn_add, nn_mul, nn_sub, nn_addM, nn_div, nn_rem, nn_min, nn_max, nn_abs, nn_ltT, nn_ltF, nn_leT, nn_leF, nn_eqT, nn_eqF, nn_eqM, nn_Meq, nn_ltM, nn_Mlt, nn_leM, nn_Mle, z_ix_nn, z_inb_nn, F_at_nn, F_put_nn, Nat.zero_add, Nat.add_zero, z_P_some, z_R_some, z_P_bd]
            exact YS_end x3
        · simp (disch := omega) only [F_X10_when_L43, F_X11_when_L37, ↓reduceIte, ↓z_letE, ↓z_bdE, nn_l2, nn_add, nn_mul, nn_sub, nn_addM, nn_div, nn_rem, nn_min, nn_max, nn_abs, nn_ltT, nn_ltF, nn_leT, nn_leF, nn_eqT, nn_eqF, nn_eqM, nn_Meq, nn_ltM, nn_Mlt, nn_leM, nn_Mle, z_ix_nn, z_inb_nn, F_at_nn, F_put_nn, Nat.zero_add, Nat.add_zero, z_P_some, z_R_some, z_P_bd]
          exact YS_end hF
      rcases h2 with rfl | rfl
      · simp (disch := omega) only [F_X10_when, F_X10_when_J22, F_X10_when_J27, F_X1_hasPerson, c6, F_X11_when, F_X11_isPerson, g20, ew, e9, dem_ok, dem_no, demT_ok, demT_no, z_bt_l, z_bt_r, z_try_l, z_try_r, nl_I, nl_N, nl_IN, nl_NI, may_okU, may_noU, z_up_at, z_up_i, z_up_r, ↓reduceIte, ↓z_letE, ↓z_bdE, nn_l2, nn_add, nn_mul, nn_sub, nn_addM, nn_div, nn_rem, nn_min, nn_max, nn_abs, nn_ltT, nn_ltF, nn_leT, nn_leF, nn_eqT, nn_eqF, nn_eqM, nn_Meq, nn_ltM, nn_Mlt, nn_leM, nn_Mle, z_ix_nn, z_inb_nn, F_at_nn, F_put_nn, Nat.zero_add, Nat.add_zero, z_P_some, z_R_some, z_P_bd]
        refine z_R_take hN hB hK (fun G2 hA => YS_copy hN hJ.ho hB hA (fun E hE => key E G2 hE))
      · simp (disch := omega) only [F_X10_when, F_X10_when_J22, F_X10_when_J27, F_X1_hasPerson, c6, F_X11_when, F_X11_isPerson, g20, ew, e9, dem_ok, dem_no, demT_ok, demT_no, z_bt_l, z_bt_r, z_try_l, z_try_r, nl_I, nl_N, nl_IN, nl_NI, may_okU, may_noU, z_up_at, z_up_i, z_up_r, ↓reduceIte, ↓z_letE, ↓z_bdE, nn_l2, nn_add, nn_mul, nn_sub, nn_addM, nn_div, nn_rem, nn_min, nn_max, nn_abs, nn_ltT, nn_ltF, nn_leT, nn_leF, nn_eqT, nn_eqF, nn_eqM, nn_Meq, nn_ltM, nn_Mlt, nn_leM, nn_Mle, z_ix_nn, z_inb_nn, F_at_nn, F_put_nn, Nat.zero_add, Nat.add_zero, z_P_some, z_R_some, z_P_bd]
        refine z_R_take hN hB hK (fun G2 hA => YS_copy hN hJ.ho hB hA (fun E hE => key E G2 hE))
    · have h0 : ¬ a2 = nn 0 := fun q => by
        subst q
        rcases hout with h | h
        · rw [nn_ltF (by omega) (by omega)] at h; exact h
        · have := h.2; rw [nn_ltF (by omega) (by omega)] at this; exact this
      have h1 : ¬ a2 = nn 1 := fun q => by
        subst q
        rcases hout with h | h
        · rw [nn_ltF (by omega) (by omega)] at h; exact h
        · have := h.2; rw [nn_ltF (by omega) (by omega)] at this; exact this
      refine TOP_t (c := 2) (k := 1) hJ (by decide) (by decide) (by decide) ?_ (fun G hG => ?_)
      · simp (disch := omega) only [F_L_when, F_X10_when, F_X10_when_J27x, F_X1_hasPerson, c6, h0, h1, dem_ok, dem_no, demT_ok, demT_no, z_bt_l, z_bt_r, z_try_l, z_try_r, nl_I, nl_N, nl_IN, nl_NI, may_okU, may_noU, z_up_at, z_up_i, z_up_r, ↓reduceIte, ↓z_letE, ↓z_bdE, nn_l2, nn_add, nn_mul, nn_sub, nn_addM, nn_div, nn_rem, nn_min, nn_max, nn_abs, nn_ltT, nn_ltF, nn_leT, nn_leF, nn_eqT, nn_eqF, nn_eqM, nn_Meq, nn_ltM, nn_Mlt, nn_leM, nn_Mle, z_ix_nn, z_inb_nn, F_at_nn, F_put_nn, Nat.zero_add, Nat.add_zero, z_P_some, z_R_some, z_P_bd]
      · have g20 : G 40 20 = nn pe := by rw [hG 40 (by decide)]; exact k20
        simp (disch := omega) only [F_X11_when, F_X11_isPerson, g20, ew, e9, dem_ok, dem_no, demT_ok, demT_no, z_bt_l, z_bt_r, z_try_l, z_try_r, nl_I, nl_N, nl_IN, nl_NI, may_okU, may_noU, z_up_at, z_up_i, z_up_r, ↓reduceIte, ↓z_letE, ↓z_bdE, nn_l2, nn_add, nn_mul, nn_sub, nn_addM, nn_div, nn_rem, nn_min, nn_max, nn_abs, nn_ltT, nn_ltF, nn_leT, nn_leF, nn_eqT, nn_eqF, nn_eqM, nn_Meq, nn_ltM, nn_Mlt, nn_leM, nn_Mle, z_ix_nn, z_inb_nn, F_at_nn, F_put_nn, Nat.zero_add, Nat.add_zero, z_P_some, z_R_some, z_P_bd]
  · refine TOP_t (c := 1) (k := 0) hJ (by decide) (by decide) (by decide) ?_ (fun G hG => ?_)
    · rcases hout with h | h
      · simp (disch := omega) only [F_L_when, F_X10_when, F_X1_hasPerson, c6, h, dem_ok, dem_no, demT_ok, demT_no, z_bt_l, z_bt_r, z_try_l, z_try_r, nl_I, nl_N, nl_IN, nl_NI, may_okU, may_noU, z_up_at, z_up_i, z_up_r, ↓reduceIte, ↓z_letE, ↓z_bdE, nn_l2, nn_add, nn_mul, nn_sub, nn_addM, nn_div, nn_rem, nn_min, nn_max, nn_abs, nn_ltT, nn_ltF, nn_leT, nn_leF, nn_eqT, nn_eqF, nn_eqM, nn_Meq, nn_ltM, nn_Mlt, nn_leM, nn_Mle, z_ix_nn, z_inb_nn, F_at_nn, F_put_nn, Nat.zero_add, Nat.add_zero, z_P_some, z_R_some, z_P_bd]
      · simp (disch := omega) only [F_L_when, F_X10_when, F_X1_hasPerson, c6, h.1, h.2, dem_ok, dem_no, demT_ok, demT_no, z_bt_l, z_bt_r, z_try_l, z_try_r, nl_I, nl_N, nl_IN, nl_NI, may_okU, may_noU, z_up_at, z_up_i, z_up_r, ↓reduceIte, ↓z_letE, ↓z_bdE, nn_l2, nn_add, nn_mul, nn_sub, nn_addM, nn_div, nn_rem, nn_min, nn_max, nn_abs, nn_ltT, nn_ltF, nn_leT, nn_leF, nn_eqT, nn_eqF, nn_eqM, nn_Meq, nn_ltM, nn_Mlt, nn_leM, nn_Mle, z_ix_nn, z_inb_nn, F_at_nn, F_put_nn, Nat.zero_add, Nat.add_zero, z_P_some, z_R_some, z_P_bd]
    · have g20 : G 40 20 = nn pe := by rw [hG 40 (by decide)]; exact k20
      simp (disch := omega) only [F_X11_when, F_X11_isPerson, g20, ew, dem_ok, dem_no, demT_ok, demT_no, z_bt_l, z_bt_r, z_try_l, z_try_r, nl_I, nl_N, nl_IN, nl_NI, may_okU, may_noU, z_up_at, z_up_i, z_up_r, ↓reduceIte, ↓z_letE, ↓z_bdE, nn_l2, nn_add, nn_mul, nn_sub, nn_addM, nn_div, nn_rem, nn_min, nn_max, nn_abs, nn_ltT, nn_ltF, nn_leT, nn_leF, nn_eqT, nn_eqF, nn_eqM, nn_Meq, nn_ltM, nn_Mlt, nn_leM, nn_Mle, z_ix_nn, z_inb_nn, F_at_nn, F_put_nn, Nat.zero_add, Nat.add_zero, z_P_some, z_R_some, z_P_bd]
theorem or_0 (x : Int32) : x ||| nn 0 = x := Int32.or_zero
set_option maxHeartbeats 4000000 in
theorem T_sits {N o n : Nat} {a1 a2 : Int32} {D : z_Dat} (hN : 200 < N) (hJ : J o n D) : TOP (F_L_sits N o a1 a2 D) (F_X11_sits N a1 a2) (J o n) := by
  obtain ⟨ho, ns, pe, rv, hB⟩ := id hJ
  obtain ⟨hC, hT, hL, hBk, hP, hI, hX, hMI⟩ := id hB
  obtain ⟨⟨hns, hpe, hrv⟩, ⟨c5, c6, c7⟩, ⟨k19, k20, k21⟩, hV, hH⟩ := id hC
  rcases has_or (m := pe) (by omega) a1 with ⟨p, hp, rfl, ew⟩ | ⟨hout, ew⟩
  · rcases wi_or (m := 30) (by decide) a2 with ⟨b, hb, rfl, e9⟩ | ⟨hout, e9⟩
    · refine TOP_r hJ rfl (fun G hK => ?_)
      have g20 : G 40 20 = nn pe := by rw [hK.2.1 20 (by unfold KK; omega)]; exact k20
      simp (disch := omega) only [F_X10_sits, F_X10_sits_J28x, F_X1_hasPerson, c6, F_X11_sits, F_X11_isPerson, g20, ew, e9, dem_ok, dem_no, demT_ok, demT_no, z_bt_l, z_bt_r, z_try_l, z_try_r, nl_I, nl_N, nl_IN, nl_NI, may_okU, may_noU, z_up_at, z_up_i, z_up_r, ↓reduceIte, ↓z_letE, ↓z_bdE, nn_l2, nn_add, nn_mul, nn_sub, nn_addM, nn_div, nn_rem, nn_min, nn_max, nn_abs, nn_ltT, nn_ltF, nn_leT, nn_leF, nn_eqT, nn_eqF, nn_eqM, nn_Meq, nn_ltM, nn_Mlt, nn_leM, nn_Mle, z_ix_nn, z_inb_nn, F_at_nn, F_put_nn, Nat.zero_add, Nat.add_zero, z_P_some, z_R_some, z_P_bd]
      refine z_R_take hN hB hK (fun G2 hA => YS_copy hN hJ.ho hB hA (fun E hE => ?_))
      refine z_R_loop (fun k s s' => ∃ y, y + k = b ∧ s.1 = s'.1 ∧ s.2.1 = nn y ∧ s'.2.1 = nn y ∧ YS o ns pe rv D G (300 + y) s.2.2 s'.2.2) ?_ b N N _ _ (by omega) (by omega) ⟨0, by omega, rfl, rfl, rfl, hE⟩
      rintro k ⟨v, v2, F⟩ ⟨w, w2, F'⟩ kc kc' ⟨y, hk, rfl, rfl, rfl, hF⟩ ih
      dsimp only at hF ⊢
      by_cases hy : y < b
      · simp (disch := omega) only [F_X10_sits_L47x, F_X11_sits_L41, ↓reduceIte, ↓z_letE, ↓z_bdE, nn_l2, nn_add, nn_mul, nn_sub, nn_addM, nn_div, nn_rem, nn_min, nn_max, nn_abs, nn_ltT, nn_ltF, nn_leT, nn_leF, nn_eqT, nn_eqF, nn_eqM, nn_Meq, nn_ltM, nn_Mlt, nn_leM, nn_Mle, z_ix_nn, z_inb_nn, F_at_nn, F_put_nn, Nat.zero_add, Nat.add_zero, z_P_some, z_R_some, z_P_bd]
        refine z_R_bd (z_R_mono (YS_seat hN hJ.ho hp hF) (fun a c hac => ?_))
        obtain ⟨x1, x2, x3⟩ := hac
        rw [← x1]
        have go : ∀ x : Int32, z_R (z_bd (F_X9_passYear N 5 (a.2 o 6) (a.2 o 7) a.2) (fun a_23 => kc (x, nn (y + 1), a_23))) (z_bd (F_X11_passes N c.2) (fun a_20 => kc' (x, nn (y + 1), a_20))) (RQ D G) := fun x => by
          refine z_R_bd (z_R_mono (YS_pass hN hJ.ho (by omega) x3) (fun q q' hq => ?_))
          exact ih (k - 1) _ _ (by omega) ⟨y + 1, by omega, rfl, rfl, rfl, hq⟩
        rcases x2 with x2 | x2
        · simp (disch := omega) only [F_X10_sits_J72x, x2, or_0, ↓reduceIte, ↓z_letE, ↓z_bdE, nn_l2, nn_add, nn_mul, nn_sub, nn_addM, nn_div, nn_rem, nn_min, nn_max, nn_abs, nn_ltT, nn_ltF, nn_leT, nn_leF, nn_eqT, nn_eqF, nn_eqM, nn_Meq, nn_ltM, nn_Mlt, nn_leM, nn_Mle, z_ix_nn, z_inb_nn, F_at_nn, F_put_nn, Nat.zero_add, Nat.add_zero, z_P_some, z_R_some, z_P_bd]
          exact go _
        · simp (disch := omega) only [F_X10_sits_J72x, x2, or_0, ↓reduceIte, ↓z_letE, ↓z_bdE, nn_l2, nn_add, nn_mul, nn_sub, nn_addM, nn_div, nn_rem, nn_min, nn_max, nn_abs, nn_ltT, nn_ltF, nn_leT, nn_leF, nn_eqT, nn_eqF, nn_eqM, nn_Meq, nn_ltM, nn_Mlt, nn_leM, nn_Mle, z_ix_nn, z_inb_nn, F_at_nn, F_put_nn, Nat.zero_add, Nat.add_zero, z_P_some, z_R_some, z_P_bd]
          exact go _
      · simp (disch := omega) only [F_X10_sits_L47x, F_X11_sits_L41, ↓reduceIte, ↓z_letE, ↓z_bdE, nn_l2, nn_add, nn_mul, nn_sub, nn_addM, nn_div, nn_rem, nn_min, nn_max, nn_abs, nn_ltT, nn_ltF, nn_leT, nn_leF, nn_eqT, nn_eqF, nn_eqM, nn_Meq, nn_ltM, nn_Mlt, nn_leM, nn_Mle, z_ix_nn, z_inb_nn, F_at_nn, F_put_nn, Nat.zero_add, Nat.add_zero, z_P_some, z_R_some, z_P_bd]
        exact YS_end hF
    · refine TOP_t (c := 2) (k := 1) hJ (by decide) (by decide) (by decide) ?_ (fun G hG => ?_)
      · rcases hout with h | h
        · simp (disch := omega) only [F_L_sits, F_X10_sits, F_X10_sits_J27, F_X10_sits_J28, F_X1_hasPerson, c6, h, dem_ok, dem_no, demT_ok, demT_no, z_bt_l, z_bt_r, z_try_l, z_try_r, nl_I, nl_N, nl_IN, nl_NI, may_okU, may_noU, z_up_at, z_up_i, z_up_r, ↓reduceIte, ↓z_letE, ↓z_bdE, nn_l2, nn_add, nn_mul, nn_sub, nn_addM, nn_div, nn_rem, nn_min, nn_max, nn_abs, nn_ltT, nn_ltF, nn_leT, nn_leF, nn_eqT, nn_eqF, nn_eqM, nn_Meq, nn_ltM, nn_Mlt, nn_leM, nn_Mle, z_ix_nn, z_inb_nn, F_at_nn, F_put_nn, Nat.zero_add, Nat.add_zero, z_P_some, z_R_some, z_P_bd]
        · simp (disch := omega) only [F_L_sits, F_X10_sits, F_X10_sits_J27, F_X10_sits_J28, F_X1_hasPerson, c6, h.1, h.2, dem_ok, dem_no, demT_ok, demT_no, z_bt_l, z_bt_r, z_try_l, z_try_r, nl_I, nl_N, nl_IN, nl_NI, may_okU, may_noU, z_up_at, z_up_i, z_up_r, ↓reduceIte, ↓z_letE, ↓z_bdE, nn_l2, nn_add, nn_mul, nn_sub, nn_addM, nn_div, nn_rem, nn_min, nn_max, nn_abs, nn_ltT, nn_ltF, nn_leT, nn_leF, nn_eqT, nn_eqF, nn_eqM, nn_Meq, nn_ltM, nn_Mlt, nn_leM, nn_Mle, z_ix_nn, z_inb_nn, F_at_nn, F_put_nn, Nat.zero_add, Nat.add_zero, z_P_some, z_R_some, z_P_bd]
      · have g20 : G 40 20 = nn pe := by rw [hG 40 (by decide)]; exact k20
        simp (disch := omega) only [F_X11_sits, F_X11_isPerson, g20, ew, e9, dem_ok, dem_no, demT_ok, demT_no, z_bt_l, z_bt_r, z_try_l, z_try_r, nl_I, nl_N, nl_IN, nl_NI, may_okU, may_noU, z_up_at, z_up_i, z_up_r, ↓reduceIte, ↓z_letE, ↓z_bdE, nn_l2, nn_add, nn_mul, nn_sub, nn_addM, nn_div, nn_rem, nn_min, nn_max, nn_abs, nn_ltT, nn_ltF, nn_leT, nn_leF, nn_eqT, nn_eqF, nn_eqM, nn_Meq, nn_ltM, nn_Mlt, nn_leM, nn_Mle, z_ix_nn, z_inb_nn, F_at_nn, F_put_nn, Nat.zero_add, Nat.add_zero, z_P_some, z_R_some, z_P_bd]
  · refine TOP_t (c := 1) (k := 0) hJ (by decide) (by decide) (by decide) ?_ (fun G hG => ?_)
    · rcases hout with h | h
      · simp (disch := omega) only [F_L_sits, F_X10_sits, F_X1_hasPerson, c6, h, dem_ok, dem_no, demT_ok, demT_no, z_bt_l, z_bt_r, z_try_l, z_try_r, nl_I, nl_N, nl_IN, nl_NI, may_okU, may_noU, z_up_at, z_up_i, z_up_r, ↓reduceIte, ↓z_letE, ↓z_bdE, nn_l2, nn_add, nn_mul, nn_sub, nn_addM, nn_div, nn_rem, nn_min, nn_max, nn_abs, nn_ltT, nn_ltF, nn_leT, nn_leF, nn_eqT, nn_eqF, nn_eqM, nn_Meq, nn_ltM, nn_Mlt, nn_leM, nn_Mle, z_ix_nn, z_inb_nn, F_at_nn, F_put_nn, Nat.zero_add, Nat.add_zero, z_P_some, z_R_some, z_P_bd]
      · simp (disch := omega) only [F_L_sits, F_X10_sits, F_X1_hasPerson, c6, h.1, h.2, dem_ok, dem_no, demT_ok, demT_no, z_bt_l, z_bt_r, z_try_l, z_try_r, nl_I, nl_N, nl_IN, nl_NI, may_okU, may_noU, z_up_at, z_up_i, z_up_r, ↓reduceIte, ↓z_letE, ↓z_bdE, nn_l2, nn_add, nn_mul, nn_sub, nn_addM, nn_div, nn_rem, nn_min, nn_max, nn_abs, nn_ltT, nn_ltF, nn_leT, nn_leF, nn_eqT, nn_eqF, nn_eqM, nn_Meq, nn_ltM, nn_Mlt, nn_leM, nn_Mle, z_ix_nn, z_inb_nn, F_at_nn, F_put_nn, Nat.zero_add, Nat.add_zero, z_P_some, z_R_some, z_P_bd]
    · have g20 : G 40 20 = nn pe := by rw [hG 40 (by decide)]; exact k20
      simp (disch := omega) only [F_X11_sits, F_X11_isPerson, g20, ew, dem_ok, dem_no, demT_ok, demT_no, z_bt_l, z_bt_r, z_try_l, z_try_r, nl_I, nl_N, nl_IN, nl_NI, may_okU, may_noU, z_up_at, z_up_i, z_up_r, ↓reduceIte, ↓z_letE, ↓z_bdE, nn_l2, nn_add, nn_mul, nn_sub, nn_addM, nn_div, nn_rem, nn_min, nn_max, nn_abs, nn_ltT, nn_ltF, nn_leT, nn_leF, nn_eqT, nn_eqF, nn_eqM, nn_Meq, nn_ltM, nn_Mlt, nn_leM, nn_Mle, z_ix_nn, z_inb_nn, F_at_nn, F_put_nn, Nat.zero_add, Nat.add_zero, z_P_some, z_R_some, z_P_bd]
/-- a digit of the row of digits -/
def cv (w : Nat → Nat) (j : Nat) : Nat := if j % 3 = 0 then w (j / 3) / 100 else if j % 3 = 1 then w (j / 3) / 10 % 10 else w (j / 3) % 10
theorem cv_sum (w : Nat → Nat) : ∀ p, sumS (fun _ => true) (cv w) (3 * p) = sumS (fun _ => true) (fun p => w p / 100 + w p / 10 % 10 + w p % 10) p
  | 0 => rfl
  | p + 1 => by
    have h := cv_sum w p
    rw [show 3 * (p + 1) = 3 * p + 1 + 1 + 1 by omega, sumS_t rfl, sumS_t rfl, sumS_t rfl, sumS_t rfl, h]
    have e0 : cv w (3 * p) = w p / 100 := by
      unfold cv
      rw [if_pos (by omega), show 3 * p / 3 = p by omega]
    have e1 : cv w (3 * p + 1) = w p / 10 % 10 := by
      unfold cv
      rw [if_neg (by omega), if_pos (by omega), show (3 * p + 1) / 3 = p by omega]
    have e2 : cv w (3 * p + 2) = w p % 10 := by
      unfold cv
      rw [if_neg (by omega), if_neg (by omega), show (3 * p + 2) / 3 = p by omega]
    omega
theorem cv_at {w : Nat → Nat} {D' : z_Dat} {pe : Nat} (h : ∀ p, p < pe → D' 58 (3 * p) = nn (w p / 100) ∧ D' 58 (3 * p + 1) = nn (w p / 10 % 10) ∧ D' 58 (3 * p + 2) = nn (w p % 10)) {j : Nat} (hj : j < 3 * pe) : D' 58 j = nn (cv w j) := by
  obtain ⟨h1, h2, h3⟩ := h (j / 3) (by omega)
  unfold cv
  have hm : j % 3 = 0 ∨ j % 3 = 1 ∨ j % 3 = 2 := by omega
  rcases hm with hm | hm | hm
  · rw [if_pos hm, ← h1, show 3 * (j / 3) = j by omega]
  · rw [if_neg (by omega), if_pos hm, ← h2, show 3 * (j / 3) + 1 = j by omega]
  · rw [if_neg (by omega), if_neg (by omega), ← h3, show 3 * (j / 3) + 2 = j by omega]
set_option maxHeartbeats 4000000 in
theorem T_ahead {N o n : Nat} {a1 a2 : Int32} {D : z_Dat} (hN : 200 < N) (hJ : J o n D) : TOP (F_L_ahead N o a1 a2 D) (F_X11_ahead N a1 a2) (J o n) := by
  obtain ⟨ho, ns, pe, rv, hB⟩ := id hJ
  obtain ⟨hC, hT, hL, hBk, hP, hI, hX, hMI⟩ := id hB
  obtain ⟨⟨hns, hpe, hrv⟩, ⟨c5, c6, c7⟩, ⟨k19, k20, k21⟩, hV, hH⟩ := id hC
  rcases wi_or (m := 100) (by decide) a1 with ⟨b, hb, rfl, ew⟩ | ⟨hout, ew⟩
  · rcases wi_or (m := 2) (by decide) a2 with ⟨w, hw, rfl, e9⟩ | ⟨hout, e9⟩
    · refine TOP_r hJ rfl (fun G hK => ?_)
      have g20 : G 40 20 = nn pe := by rw [hK.2.1 20 (by unfold KK; omega)]; exact k20
      simp (disch := omega) only [F_X10_ahead, F_X10_ahead_J25x, F_X11_ahead, F_X11_ahead_J30x, ew, e9, dem_ok, dem_no, demT_ok, demT_no, z_bt_l, z_bt_r, z_try_l, z_try_r, nl_I, nl_N, nl_IN, nl_NI, may_okU, may_noU, z_up_at, z_up_i, z_up_r, ↓reduceIte, ↓z_letE, ↓z_bdE, nn_l2, nn_add, nn_mul, nn_sub, nn_addM, nn_div, nn_rem, nn_min, nn_max, nn_abs, nn_ltT, nn_ltF, nn_leT, nn_leF, nn_eqT, nn_eqF, nn_eqM, nn_Meq, nn_ltM, nn_Mlt, nn_leM, nn_Mle, z_ix_nn, z_inb_nn, F_at_nn, F_put_nn, Nat.zero_add, Nat.add_zero, z_P_some, z_R_some, z_P_bd]
      refine z_R_take hN hB hK (fun G2 hA => YS_copy hN hJ.ho hB hA (fun E hE => ?_))
      refine z_R_loop (fun k s s' => ∃ y, y + k = b ∧ s.1 = nn y ∧ s'.1 = nn y ∧ YS o ns pe rv D G (300 + y) s.2 s'.2) ?_ b N N _ _ (by omega) (by omega) ⟨0, by omega, rfl, rfl, hE⟩
      rintro k ⟨v, F⟩ ⟨w1, F'⟩ kc kc' ⟨y, hk, rfl, rfl, hF⟩ ih
      dsimp only at hF ⊢
      by_cases hy : y < b
      · simp (disch := omega) only [F_X10_ahead_L41x, F_X11_ahead_L46x, ↓reduceIte, ↓z_letE, ↓z_bdE, nn_l2, nn_add, nn_mul, nn_sub, nn_addM, nn_div, nn_rem, nn_min, nn_max, nn_abs, nn_ltT, nn_ltF, nn_leT, nn_leF, nn_eqT, nn_eqF, nn_eqM, nn_Meq, nn_ltM, nn_Mlt, nn_leM, nn_Mle, z_ix_nn, z_inb_nn, F_at_nn, F_put_nn, Nat.zero_add, Nat.add_zero, z_P_some, z_R_some, z_P_bd]
        refine z_R_bd (z_R_mono (YS_pass hN hJ.ho (by omega) hF) (fun q q' hq => ?_))
        exact ih (k - 1) _ _ (by omega) ⟨y + 1, by omega, rfl, rfl, hq⟩
      · have h3 : w = 0 ∨ w = 1 ∨ w = 2 := by omega
        rcases h3 with rfl | rfl | rfl
        · simp (disch := omega) only [F_X10_ahead_L41x, F_X11_ahead_L46x, ↓reduceIte, ↓z_letE, ↓z_bdE, nn_l2, nn_add, nn_mul, nn_sub, nn_addM, nn_div, nn_rem, nn_min, nn_max, nn_abs, nn_ltT, nn_ltF, nn_leT, nn_leF, nn_eqT, nn_eqF, nn_eqM, nn_Meq, nn_ltM, nn_Mlt, nn_leM, nn_Mle, z_ix_nn, z_inb_nn, F_at_nn, F_put_nn, Nat.zero_add, Nat.add_zero, z_P_some, z_R_some, z_P_bd]
          refine z_R_bd (z_R_mono (YS_seated hN hJ.ho hF) (fun a c hac => ?_))
          obtain ⟨x1, x2, x3⟩ := hac
          rw [z_R_some, ← x1]
          exact YS_end x3
        · obtain ⟨d1, d2, d3, d4, d5, d6, d7⟩ := id hF
          have f6 := d2.2.1.2.1
          have f20 := d2.2.2.1.2.1
          obtain ⟨q, q1, q2, u, q3, q4⟩ := dyes_R (N := N) (t := 5) hN hpe d4
          simp (disch := omega) only [F_X10_ahead_L41x, F_X11_ahead_L46x, f6, q1, ↓reduceIte, ↓z_letE, ↓z_bdE, nn_l2, nn_add, nn_mul, nn_sub, nn_addM, nn_div, nn_rem, nn_min, nn_max, nn_abs, nn_ltT, nn_ltF, nn_leT, nn_leF, nn_eqT, nn_eqF, nn_eqM, nn_Meq, nn_ltM, nn_Mlt, nn_leM, nn_Mle, z_ix_nn, z_inb_nn, F_at_nn, F_put_nn, Nat.zero_add, Nat.add_zero, z_P_some, z_R_some, z_P_bd]
          have key : z_P (z_loop (fun kc52 s => F_X11_ahead_L85x F' kc52 s.1 s.2) N (nn 0, nn 0)) (fun c => c = (nn q, F')) := by
            refine z_P_loop (fun k s => ∃ i, i + k = 3 * pe ∧ s.1 = nn (sumS (fun _ => true) (cv u) i) ∧ s.2 = nn i) ?_ (3 * pe) N _ (by omega) ⟨0, by omega, rfl, rfl⟩
            rintro k ⟨v1, v2⟩ kc ⟨i, hi, rfl, rfl⟩ ih
            dsimp only
            by_cases hip : i < 3 * pe
            · simp (disch := omega) only [F_X11_ahead_L85x, f20, cv_at q3 hip, ↓reduceIte, ↓z_letE, ↓z_bdE, nn_l2, nn_add, nn_mul, nn_sub, nn_addM, nn_div, nn_rem, nn_min, nn_max, nn_abs, nn_ltT, nn_ltF, nn_leT, nn_leF, nn_eqT, nn_eqF, nn_eqM, nn_Meq, nn_ltM, nn_Mlt, nn_leM, nn_Mle, z_ix_nn, z_inb_nn, F_at_nn, F_put_nn, Nat.zero_add, Nat.add_zero, z_P_some, z_R_some, z_P_bd]
              exact ih (k - 1) _ (by omega) ⟨i + 1, by omega, by rw [sumS_t rfl], rfl⟩
            · have hii : i = 3 * pe := by omega
              subst hii
              simp (disch := omega) only [F_X11_ahead_L85x, f20, ↓reduceIte, ↓z_letE, ↓z_bdE, nn_l2, nn_add, nn_mul, nn_sub, nn_addM, nn_div, nn_rem, nn_min, nn_max, nn_abs, nn_ltT, nn_ltF, nn_leT, nn_leF, nn_eqT, nn_eqF, nn_eqM, nn_Meq, nn_ltM, nn_Mlt, nn_leM, nn_Mle, z_ix_nn, z_inb_nn, F_at_nn, F_put_nn, Nat.zero_add, Nat.add_zero, z_P_some, z_R_some, z_P_bd]
              rw [cv_sum, ← q4]
          obtain ⟨c, m1, rfl⟩ := key
          rw [m1, z_R_some]
          exact YS_end hF
        · simp (disch := omega) only [F_X10_ahead_L41x, F_X11_ahead_L46x, ↓reduceIte, ↓z_letE, ↓z_bdE, nn_l2, nn_add, nn_mul, nn_sub, nn_addM, nn_div, nn_rem, nn_min, nn_max, nn_abs, nn_ltT, nn_ltF, nn_leT, nn_leF, nn_eqT, nn_eqF, nn_eqM, nn_Meq, nn_ltM, nn_Mlt, nn_leM, nn_Mle, z_ix_nn, z_inb_nn, F_at_nn, F_put_nn, Nat.zero_add, Nat.add_zero, z_P_some, z_R_some, z_P_bd]
          refine z_R_bd (z_R_mono (YS_unlike hN hF) (fun a c hac => ?_))
          obtain ⟨rfl, -⟩ := hac
          rw [z_R_some]
          exact YS_end hF
    · refine TOP_t (c := 1) (k := 1) hJ (by decide) (by decide) (by decide) ?_ (fun G hG => ?_)
      · rcases hout with h | h
        · simp (disch := omega) only [F_L_ahead, F_X10_ahead, F_X10_ahead_J24, F_X10_ahead_J25, h, dem_ok, dem_no, demT_ok, demT_no, z_bt_l, z_bt_r, z_try_l, z_try_r, nl_I, nl_N, nl_IN, nl_NI, may_okU, may_noU, z_up_at, z_up_i, z_up_r, ↓reduceIte, ↓z_letE, ↓z_bdE, nn_l2, nn_add, nn_mul, nn_sub, nn_addM, nn_div, nn_rem, nn_min, nn_max, nn_abs, nn_ltT, nn_ltF, nn_leT, nn_leF, nn_eqT, nn_eqF, nn_eqM, nn_Meq, nn_ltM, nn_Mlt, nn_leM, nn_Mle, z_ix_nn, z_inb_nn, F_at_nn, F_put_nn, Nat.zero_add, Nat.add_zero, z_P_some, z_R_some, z_P_bd]
        · simp (disch := omega) only [F_L_ahead, F_X10_ahead, F_X10_ahead_J24, F_X10_ahead_J25, h.1, h.2, dem_ok, dem_no, demT_ok, demT_no, z_bt_l, z_bt_r, z_try_l, z_try_r, nl_I, nl_N, nl_IN, nl_NI, may_okU, may_noU, z_up_at, z_up_i, z_up_r, ↓reduceIte, ↓z_letE, ↓z_bdE, nn_l2, nn_add, nn_mul, nn_sub, nn_addM, nn_div, nn_rem, nn_min, nn_max, nn_abs, nn_ltT, nn_ltF, nn_leT, nn_leF, nn_eqT, nn_eqF, nn_eqM, nn_Meq, nn_ltM, nn_Mlt, nn_leM, nn_Mle, z_ix_nn, z_inb_nn, F_at_nn, F_put_nn, Nat.zero_add, Nat.add_zero, z_P_some, z_R_some, z_P_bd]
      · simp (disch := omega) only [F_X11_ahead, F_X11_ahead_J29, F_X11_ahead_J30, ew, e9, dem_ok, dem_no, demT_ok, demT_no, z_bt_l, z_bt_r, z_try_l, z_try_r, nl_I, nl_N, nl_IN, nl_NI, may_okU, may_noU, z_up_at, z_up_i, z_up_r, ↓reduceIte, ↓z_letE, ↓z_bdE, nn_l2, nn_add, nn_mul, nn_sub, nn_addM, nn_div, nn_rem, nn_min, nn_max, nn_abs, nn_ltT, nn_ltF, nn_leT, nn_leF, nn_eqT, nn_eqF, nn_eqM, nn_Meq, nn_ltM, nn_Mlt, nn_leM, nn_Mle, z_ix_nn, z_inb_nn, F_at_nn, F_put_nn, Nat.zero_add, Nat.add_zero, z_P_some, z_R_some, z_P_bd]
  · refine TOP_t (c := 1) (k := 1) hJ (by decide) (by decide) (by decide) ?_ (fun G hG => ?_)
    · rcases hout with h | h
      · simp (disch := omega) only [F_L_ahead, F_X10_ahead, F_X10_ahead_J24, F_X10_ahead_J25, h, dem_ok, dem_no, demT_ok, demT_no, z_bt_l, z_bt_r, z_try_l, z_try_r, nl_I, nl_N, nl_IN, nl_NI, may_okU, may_noU, z_up_at, z_up_i, z_up_r, ↓reduceIte, ↓z_letE, ↓z_bdE, nn_l2, nn_add, nn_mul, nn_sub, nn_addM, nn_div, nn_rem, nn_min, nn_max, nn_abs, nn_ltT, nn_ltF, nn_leT, nn_leF, nn_eqT, nn_eqF, nn_eqM, nn_Meq, nn_ltM, nn_Mlt, nn_leM, nn_Mle, z_ix_nn, z_inb_nn, F_at_nn, F_put_nn, Nat.zero_add, Nat.add_zero, z_P_some, z_R_some, z_P_bd]
      · simp (disch := omega) only [F_L_ahead, F_X10_ahead, F_X10_ahead_J24, F_X10_ahead_J25, h.1, h.2, dem_ok, dem_no, demT_ok, demT_no, z_bt_l, z_bt_r, z_try_l, z_try_r, nl_I, nl_N, nl_IN, nl_NI, may_okU, may_noU, z_up_at, z_up_i, z_up_r, ↓reduceIte, ↓z_letE, ↓z_bdE, nn_l2, nn_add, nn_mul, nn_sub, nn_addM, nn_div, nn_rem, nn_min, nn_max, nn_abs, nn_ltT, nn_ltF, nn_leT, nn_leF, nn_eqT, nn_eqF, nn_eqM, nn_Meq, nn_ltM, nn_Mlt, nn_leM, nn_Mle, z_ix_nn, z_inb_nn, F_at_nn, F_put_nn, Nat.zero_add, Nat.add_zero, z_P_some, z_R_some, z_P_bd]
    · simp (disch := omega) only [F_X11_ahead, F_X11_ahead_J29, F_X11_ahead_J30, ew, dem_ok, dem_no, demT_ok, demT_no, z_bt_l, z_bt_r, z_try_l, z_try_r, nl_I, nl_N, nl_IN, nl_NI, may_okU, may_noU, z_up_at, z_up_i, z_up_r, ↓reduceIte, ↓z_letE, ↓z_bdE, nn_l2, nn_add, nn_mul, nn_sub, nn_addM, nn_div, nn_rem, nn_min, nn_max, nn_abs, nn_ltT, nn_ltF, nn_leT, nn_leF, nn_eqT, nn_eqF, nn_eqM, nn_Meq, nn_ltM, nn_Mlt, nn_leM, nn_Mle, z_ix_nn, z_inb_nn, F_at_nn, F_put_nn, Nat.zero_add, Nat.add_zero, z_P_some, z_R_some, z_P_bd]
