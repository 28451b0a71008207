/-! ===== the small questions: told ===== -/
theorem z_R_at {α β : Type} {X : Option α} {Y : Option β} {Q : α → β → Prop} {a : α} (h : z_R X Y Q) (hx : X = some a) : z_P Y (fun c => Q a c) := by
  obtain ⟨b, c, h1, h2, h3⟩ := h
  rw [hx] at h1
  cases h1
  exact ⟨c, h2, h3⟩
theorem z_R_x {α β : Type} {X : Option α} {Y : Option β} {Q : α → β → Prop} (h : z_R X Y Q) : z_P X (fun a => ∃ c, Q a c) := by
  obtain ⟨b, c, h1, h2, h3⟩ := h
  exact ⟨b, h1, c, h3⟩
theorem may_okU {c k : Int32} {G : z_Dat} : F_X11_may (nn 1) c k (z_up G 40 0 (nn 0)) = some (nn 1, z_up G 40 0 (nn 0)) := may_ok (z_up_at rfl rfl)
theorem may_noU {c k : Nat} {G : z_Dat} (hc : 1 ≤ c) (hc2 : c ≤ 2) (hk : k < 2) : F_X11_may (nn 0) (nn c) (nn k) (z_up G 40 0 (nn 0)) = some (nn 0, z_up (z_up (z_up G 40 0 (nn 0)) 40 0 (nn c)) 41 k (G 41 k + nn 1)) := by
  rw [may_no (z_up_at rfl rfl) hc hc2 hk, z_up_r (D := G) (b := 41) (by decide)]
/-- the model's town as it is taken -/
def mt (D : z_Dat) : z_Dat := fun r j => if r = 58 then D 57 j else D r j
theorem mt58 {D : z_Dat} : mt D 58 = D 57 := by
  funext j
  exact if_pos rfl
theorem mtK {D : z_Dat} : KA D (mt D) := ⟨fun r h1 _ => by
  funext j
  exact if_neg (fun q => h1 (by unfold SC; omega)), fun j _ => if_neg (by decide), if_neg (by decide)⟩
theorem mtJ {o ns pe rv : Nat} {D : z_Dat} (hB : JB o ns pe rv D) : CR o ns pe rv D (mt D) ∧ TR pe 300 (D 4) (mt D 58) ∧ LR D (mt D) := ⟨CRK hB.1 mtK, by rw [mt58]; exact hB.2.1, LRK hB.2.2.1 mtK⟩
def AT (o ns pe rv : Nat) (D G G2 : z_Dat) : Prop := CR o ns pe rv D G2 ∧ TR pe 300 (D 4) (G2 58) ∧ LR D G2 ∧ G2 40 0 = nn 0 ∧ G2 67 = G 67 ∧ KA G G2
theorem z_P_take {N o ns pe rv : Nat} {D G : z_Dat} {Q : z_Dat → Prop} (hN : 200 < N) (hB : JB o ns pe rv D) (hK : KA D G) (h : ∀ G2, AT o ns pe rv D G G2 → Q G2) : z_P (F_X11_take N (z_up G 40 0 (nn 0))) Q := by
  refine z_P_mono (take_P hN) (fun G2 hG => h G2 ?_)
  obtain ⟨hF, h58⟩ := hG
  have hKG : KA G G2 := (KA.rf.up (Or.inr ⟨rfl, by unfold KK; omega⟩)).tr (KA.fr hF (by unfold SC; omega))
  refine ⟨CRK hB.1 (hK.tr hKG), TR_eq hB.2.1 hB.1.1.2.1 (fun _ _ => rfl) (fun j hj => ?_), LRK hB.2.2.1 (hK.tr hKG), ?_, ?_, hKG⟩
  · rw [h58 j hj, z_up_r (by decide), hK.1 57 (by unfold SC; omega) (by decide)]
  · rw [hF 40 (by decide), z_up_at rfl rfl]
  · rw [hF 67 (by decide), z_up_ne (by decide)]
theorem within_M {a : Int32} : F_X11_within a (nn 0) (-nn 1) = nn 0 := by
  by_cases h : a < nn 0
  · exact within_out (Or.inl h)
  · refine within_out (Or.inr ?_)
    have h1 := Int32.le_iff_toInt_le.mp (Int32.not_lt.mp h)
    rw [nn_toInt (by omega)] at h1
    exact Int32.lt_iff_toInt_lt.mpr (by rw [nn_m1v]; omega)
theorem nn_pre0 : nn 0 - nn 1 = -nn 1 := by decide
theorem nn_le_of {a b : Int32} (h : ¬ a ≤ b) : b < a := Int32.not_le.mp h
theorem has_or {m : Nat} (hm : m < 1000) (a : Int32) : (∃ b, b < m ∧ a = nn b ∧ F_X11_within a (nn 0) (nn (m - 1)) = nn 1) ∨ ((a < nn 0 ∨ (¬ a < nn 0 ∧ nn m ≤ a)) ∧ F_X11_within a (nn 0) (nn m - nn 1) = nn 0) := by
  by_cases h0 : a < nn 0
  · exact Or.inr ⟨Or.inl h0, within_out (Or.inl h0)⟩
  · by_cases h1 : nn m ≤ a
    · refine Or.inr ⟨Or.inr ⟨h0, h1⟩, ?_⟩
      by_cases hz : m = 0
      · subst hz
        rw [nn_pre0, within_M]
      · rw [nn_sub (by omega)]
        refine within_out (Or.inr ?_)
        have h2 := Int32.le_iff_toInt_le.mp h1
        rw [nn_toInt (by omega)] at h2
        exact Int32.lt_iff_toInt_lt.mpr (by rw [nn_toInt (by omega)]; omega)
    · have h2 : a < nn m := nn_le_of h1
      have h3 := Int32.lt_iff_toInt_lt.mp h2
      rw [nn_toInt (by omega)] at h3
      obtain ⟨b, hb, rfl⟩ := n_of (a := a) (b := m) h0 (fun q => by
        have := Int32.lt_iff_toInt_lt.mp q
        rw [nn_toInt (by omega)] at this
        omega) (by omega)
      have hb2 : b < m := by
        rw [nn_toInt (by omega)] at h3
        omega
      refine Or.inl ⟨b, hb2, rfl, ?_⟩
      exact within_in (by omega) (by omega)
theorem in_or {m : Nat} (hm : m < 2147483648) (a : Int32) : (∃ b, b ≤ m ∧ a = nn b) ∨ (a < nn 0 ∨ (¬ a < nn 0 ∧ nn m < a)) := by
  by_cases h0 : a < nn 0
  · exact Or.inr (Or.inl h0)
  · by_cases h1 : nn m < a
    · exact Or.inr (Or.inr ⟨h0, h1⟩)
    · exact Or.inl (n_of h0 h1 hm)
set_option maxHeartbeats 4000000 in
theorem T_told {N o n : Nat} {a : Int32} {D : z_Dat} (hN : 200 < N) (hJ : J o n D) : TOP (F_L_told N o a D) (F_X11_told N a) (J o n) := by
  obtain ⟨ho, ns, pe, rv, hB⟩ := id hJ
  obtain ⟨hC, hT, hL, hBk, hP, hI, hX, hMI⟩ := id hB
  obtain ⟨⟨hns, hpe, hrv⟩, ⟨c5, c6, c7⟩, ⟨k19, k20, k21⟩, hV, hH⟩ := id hC
  obtain ⟨hC0, hT0, hL0⟩ := mtJ hB
  rcases in_or (m := 9) (by decide) a with ⟨k, hk, rfl⟩ | hout
  · have e9 := within_in (k := k) (b := 9) hk (by decide)
    have h10 : k = 0 ∨ k = 1 ∨ k = 2 ∨ k = 3 ∨ k = 4 ∨ k = 5 ∨ k = 6 ∨ k = 7 ∨ k = 8 ∨ k = 9 := by omega
    rcases h10 with rfl | rfl | rfl | rfl | rfl | rfl | rfl | rfl | rfl | rfl
    · refine TOP_q (X := some (D o 5, D)) hJ (fun r E h => ?_) ⟨_, rfl, KA.rf⟩ (fun r E G h hK => ?_)
      · cases h
        simp (disch := omega) only [F_L_told, F_X10_told, F_X10_told_J16x, dem_ok, dem_no, demT_ok, demT_no, z_bt_l, z_bt_r, z_try_l, z_try_r, nl_I, nl_N, nl_IN, nl_NI, may_okU, may_noU, z_up_at, z_up_i, z_up_r, ↓reduceIte, ↓z_letE, ↓z_bdE, nn_l2, nn_add, nn_mul, nn_sub, nn_addM, nn_div, nn_rem, nn_min, nn_max, nn_abs, nn_ltT, nn_ltF, nn_leT, nn_leF, nn_eqT, nn_eqF, nn_eqM, nn_Meq, nn_ltM, nn_Mlt, nn_leM, nn_Mle, z_ix_nn, z_inb_nn, F_at_nn, F_put_nn, Nat.zero_add, Nat.add_zero, z_P_some, z_R_some, z_P_bd]
      · cases h
        simp (disch := omega) only [F_X11_told, e9, dem_ok, dem_no, demT_ok, demT_no, z_bt_l, z_bt_r, z_try_l, z_try_r, nl_I, nl_N, nl_IN, nl_NI, may_okU, may_noU, z_up_at, z_up_i, z_up_r, ↓reduceIte, ↓z_letE, ↓z_bdE, nn_l2, nn_add, nn_mul, nn_sub, nn_addM, nn_div, nn_rem, nn_min, nn_max, nn_abs, nn_ltT, nn_ltF, nn_leT, nn_leF, nn_eqT, nn_eqF, nn_eqM, nn_Meq, nn_ltM, nn_Mlt, nn_leM, nn_Mle, z_ix_nn, z_inb_nn, F_at_nn, F_put_nn, Nat.zero_add, Nat.add_zero, z_P_some, z_R_some, z_P_bd]
        refine z_P_take hN hB hK (fun G2 hA => ?_)
        obtain ⟨A1, A2, A3, A4, A5, A6⟩ := hA
        exact ⟨by rw [c5]; exact A1.2.2.1.1, A4, A5, A6⟩
    · refine TOP_q (X := some (D o 6, D)) hJ (fun r E h => ?_) ⟨_, rfl, KA.rf⟩ (fun r E G h hK => ?_)
      · cases h
        simp (disch := omega) only [F_L_told, F_X10_told, F_X10_told_J16x, dem_ok, dem_no, demT_ok, demT_no, z_bt_l, z_bt_r, z_try_l, z_try_r, nl_I, nl_N, nl_IN, nl_NI, may_okU, may_noU, z_up_at, z_up_i, z_up_r, ↓reduceIte, ↓z_letE, ↓z_bdE, nn_l2, nn_add, nn_mul, nn_sub, nn_addM, nn_div, nn_rem, nn_min, nn_max, nn_abs, nn_ltT, nn_ltF, nn_leT, nn_leF, nn_eqT, nn_eqF, nn_eqM, nn_Meq, nn_ltM, nn_Mlt, nn_leM, nn_Mle, z_ix_nn, z_inb_nn, F_at_nn, F_put_nn, Nat.zero_add, Nat.add_zero, z_P_some, z_R_some, z_P_bd]
      · cases h
        simp (disch := omega) only [F_X11_told, e9, dem_ok, dem_no, demT_ok, demT_no, z_bt_l, z_bt_r, z_try_l, z_try_r, nl_I, nl_N, nl_IN, nl_NI, may_okU, may_noU, z_up_at, z_up_i, z_up_r, ↓reduceIte, ↓z_letE, ↓z_bdE, nn_l2, nn_add, nn_mul, nn_sub, nn_addM, nn_div, nn_rem, nn_min, nn_max, nn_abs, nn_ltT, nn_ltF, nn_leT, nn_leF, nn_eqT, nn_eqF, nn_eqM, nn_Meq, nn_ltM, nn_Mlt, nn_leM, nn_Mle, z_ix_nn, z_inb_nn, F_at_nn, F_put_nn, Nat.zero_add, Nat.add_zero, z_P_some, z_R_some, z_P_bd]
        refine z_P_take hN hB hK (fun G2 hA => ?_)
        obtain ⟨A1, A2, A3, A4, A5, A6⟩ := hA
        exact ⟨by rw [c6]; exact A1.2.2.1.2.1, A4, A5, A6⟩
    · obtain ⟨y, hy, y1, y2⟩ := hT.2.2
      refine TOP_q (X := some (D 4 43, D)) hJ (fun r E h => ?_) ⟨_, rfl, KA.rf⟩ (fun r E G h hK => ?_)
      · cases h
        simp (disch := omega) only [F_L_told, F_X10_told, F_X10_told_J16x, F_X9_year, dem_ok, dem_no, demT_ok, demT_no, z_bt_l, z_bt_r, z_try_l, z_try_r, nl_I, nl_N, nl_IN, nl_NI, may_okU, may_noU, z_up_at, z_up_i, z_up_r, ↓reduceIte, ↓z_letE, ↓z_bdE, nn_l2, nn_add, nn_mul, nn_sub, nn_addM, nn_div, nn_rem, nn_min, nn_max, nn_abs, nn_ltT, nn_ltF, nn_leT, nn_leF, nn_eqT, nn_eqF, nn_eqM, nn_Meq, nn_ltM, nn_Mlt, nn_leM, nn_Mle, z_ix_nn, z_inb_nn, F_at_nn, F_put_nn, Nat.zero_add, Nat.add_zero, z_P_some, z_R_some, z_P_bd]
      · cases h
        simp (disch := omega) only [F_X11_told, e9, dem_ok, dem_no, demT_ok, demT_no, z_bt_l, z_bt_r, z_try_l, z_try_r, nl_I, nl_N, nl_IN, nl_NI, may_okU, may_noU, z_up_at, z_up_i, z_up_r, ↓reduceIte, ↓z_letE, ↓z_bdE, nn_l2, nn_add, nn_mul, nn_sub, nn_addM, nn_div, nn_rem, nn_min, nn_max, nn_abs, nn_ltT, nn_ltF, nn_leT, nn_leF, nn_eqT, nn_eqF, nn_eqM, nn_Meq, nn_ltM, nn_Mlt, nn_leM, nn_Mle, z_ix_nn, z_inb_nn, F_at_nn, F_put_nn, Nat.zero_add, Nat.add_zero, z_P_some, z_R_some, z_P_bd]
        refine z_P_take hN hB hK (fun G2 hA => ?_)
        obtain ⟨A1, A2, A3, A4, A5, A6⟩ := hA
        obtain ⟨y', hy', z1, z2⟩ := A2.2.2
        exact ⟨z2.trans z1.symm, A4, A5, A6⟩
    · refine TOP_q (X := F_X10_seated N o 3 D) hJ (fun r E h => ?_) ?_ (fun r E G h hK => ?_)
      · simp (disch := omega) only [F_L_told, F_X10_told, F_X10_told_J16x, h, dem_ok, dem_no, demT_ok, demT_no, z_bt_l, z_bt_r, z_try_l, z_try_r, nl_I, nl_N, nl_IN, nl_NI, may_okU, may_noU, z_up_at, z_up_i, z_up_r, ↓reduceIte, ↓z_letE, ↓z_bdE, nn_l2, nn_add, nn_mul, nn_sub, nn_addM, nn_div, nn_rem, nn_min, nn_max, nn_abs, nn_ltT, nn_ltF, nn_leT, nn_leF, nn_eqT, nn_eqF, nn_eqM, nn_Meq, nn_ltM, nn_Mlt, nn_leM, nn_Mle, z_ix_nn, z_inb_nn, F_at_nn, F_put_nn, Nat.zero_add, Nat.add_zero, z_P_some, z_R_some, z_P_bd]
      · refine z_P_mono (z_R_x (seated_R (t := 3) hN (by decide) (by omega) (by omega) hC0 hT0 hL0)) (fun a ha => ?_)
        obtain ⟨c, -, -, h3, -⟩ := ha
        exact KA.fs h3
      · simp (disch := omega) only [F_X11_told, e9, dem_ok, dem_no, demT_ok, demT_no, z_bt_l, z_bt_r, z_try_l, z_try_r, nl_I, nl_N, nl_IN, nl_NI, may_okU, may_noU, z_up_at, z_up_i, z_up_r, ↓reduceIte, ↓z_letE, ↓z_bdE, nn_l2, nn_add, nn_mul, nn_sub, nn_addM, nn_div, nn_rem, nn_min, nn_max, nn_abs, nn_ltT, nn_ltF, nn_leT, nn_leF, nn_eqT, nn_eqF, nn_eqM, nn_Meq, nn_ltM, nn_Mlt, nn_leM, nn_Mle, z_ix_nn, z_inb_nn, F_at_nn, F_put_nn, Nat.zero_add, Nat.add_zero, z_P_some, z_R_some, z_P_bd]
        refine z_P_take hN hB hK (fun G2 hA => ?_)
        obtain ⟨A1, A2, A3, A4, A5, A6⟩ := hA
        refine z_P_mono (z_R_at (seated_R (t := 3) hN (by decide) (by omega) (by omega) A1 A2 A3) h) (fun c hc => ?_)
        obtain ⟨q1, q2, q3, q4⟩ := hc
        exact ⟨q1.symm, by rw [q4 40 (by decide) (by decide)]; exact A4, by rw [q4 67 (by decide) (by decide)]; exact A5, A6.tr (KA.fs' q4)⟩
    · refine TOP_q (X := z_bd (F_X9_married N 3 (nn pe) D) (fun a => some (a, D))) hJ (fun r E h => ?_) ?_ (fun r E G h hK => ?_)
      · obtain ⟨q, c, m1, m2, rfl⟩ := married_R (N := N) (t := 3) hN hpe hC0.2.2.1.2.1 hT0
        rw [m1, z_bdE] at h
        cases h
        simp (disch := omega) only [F_L_told, F_X10_told, F_X10_told_J16x, c6, m1, dem_ok, dem_no, demT_ok, demT_no, z_bt_l, z_bt_r, z_try_l, z_try_r, nl_I, nl_N, nl_IN, nl_NI, may_okU, may_noU, z_up_at, z_up_i, z_up_r, ↓reduceIte, ↓z_letE, ↓z_bdE, nn_l2, nn_add, nn_mul, nn_sub, nn_addM, nn_div, nn_rem, nn_min, nn_max, nn_abs, nn_ltT, nn_ltF, nn_leT, nn_leF, nn_eqT, nn_eqF, nn_eqM, nn_Meq, nn_ltM, nn_Mlt, nn_leM, nn_Mle, z_ix_nn, z_inb_nn, F_at_nn, F_put_nn, Nat.zero_add, Nat.add_zero, z_P_some, z_R_some, z_P_bd]
      · rw [z_P_bd]
        refine z_P_mono (z_R_x (married_R (t := 3) hN hpe hC0.2.2.1.2.1 hT0)) (fun a ha => ?_)
        rw [z_P_some]
        exact KA.rf
      · obtain ⟨q, c, m1, m2, rfl⟩ := married_R (N := N) (t := 3) hN hpe hC0.2.2.1.2.1 hT0
        rw [m1, z_bdE] at h
        cases h
        simp (disch := omega) only [F_X11_told, e9, dem_ok, dem_no, demT_ok, demT_no, z_bt_l, z_bt_r, z_try_l, z_try_r, nl_I, nl_N, nl_IN, nl_NI, may_okU, may_noU, z_up_at, z_up_i, z_up_r, ↓reduceIte, ↓z_letE, ↓z_bdE, nn_l2, nn_add, nn_mul, nn_sub, nn_addM, nn_div, nn_rem, nn_min, nn_max, nn_abs, nn_ltT, nn_ltF, nn_leT, nn_leF, nn_eqT, nn_eqF, nn_eqM, nn_Meq, nn_ltM, nn_Mlt, nn_leM, nn_Mle, z_ix_nn, z_inb_nn, F_at_nn, F_put_nn, Nat.zero_add, Nat.add_zero, z_P_some, z_R_some, z_P_bd]
        refine z_P_take hN hB hK (fun G2 hA => ?_)
        obtain ⟨A1, A2, A3, A4, A5, A6⟩ := hA
        refine z_P_mono (z_R_at (married_R (t := 3) hN hpe A1.2.2.1.2.1 A2) m1) (fun c hc => ?_)
        exact ⟨hc.symm, A4, A5, A6⟩
    · obtain ⟨q, m1, rfl⟩ := unsalted_P (N := N) (t := 3) (pe := pe) (D := D) (by omega) hpe
      have hcl := cntS_le (uS (D (3 + 1))) pe
      refine TOP_q (X := some (nn (pe - cntS (uS (D (3 + 1))) pe), D)) hJ (fun r E h => ?_) ⟨_, rfl, KA.rf⟩ (fun r E G h hK => ?_)
      · cases h
        simp (disch := omega) only [F_L_told, F_X10_told, F_X10_told_J16x, c6, m1, dem_ok, dem_no, demT_ok, demT_no, z_bt_l, z_bt_r, z_try_l, z_try_r, nl_I, nl_N, nl_IN, nl_NI, may_okU, may_noU, z_up_at, z_up_i, z_up_r, ↓reduceIte, ↓z_letE, ↓z_bdE, nn_l2, nn_add, nn_mul, nn_sub, nn_addM, nn_div, nn_rem, nn_min, nn_max, nn_abs, nn_ltT, nn_ltF, nn_leT, nn_leF, nn_eqT, nn_eqF, nn_eqM, nn_Meq, nn_ltM, nn_Mlt, nn_leM, nn_Mle, z_ix_nn, z_inb_nn, F_at_nn, F_put_nn, Nat.zero_add, Nat.add_zero, z_P_some, z_R_some, z_P_bd]
      · cases h
        simp (disch := omega) only [F_X11_told, e9, dem_ok, dem_no, demT_ok, demT_no, z_bt_l, z_bt_r, z_try_l, z_try_r, nl_I, nl_N, nl_IN, nl_NI, may_okU, may_noU, z_up_at, z_up_i, z_up_r, ↓reduceIte, ↓z_letE, ↓z_bdE, nn_l2, nn_add, nn_mul, nn_sub, nn_addM, nn_div, nn_rem, nn_min, nn_max, nn_abs, nn_ltT, nn_ltF, nn_leT, nn_leF, nn_eqT, nn_eqF, nn_eqM, nn_Meq, nn_ltM, nn_Mlt, nn_leM, nn_Mle, z_ix_nn, z_inb_nn, F_at_nn, F_put_nn, Nat.zero_add, Nat.add_zero, z_P_some, z_R_some, z_P_bd]
        refine z_P_take hN hB hK (fun G2 hA => ?_)
        obtain ⟨A1, A2, A3, A4, A5, A6⟩ := hA
        refine z_P_mono (salted_P (u := uS (D (3 + 1))) hN hpe A1.2.2.1.2.1 (fun p hp => ?_)) (fun c hc => ?_)
        · obtain ⟨n, hn, q0, q, q4, q5, q6, q7⟩ := A2.1 p hp
          unfold uS
          rw [q5]
        · exact ⟨hc, A4, A5, A6⟩
    · refine TOP_q (X := some (D 12 2, D)) hJ (fun r E h => ?_) ⟨_, rfl, KA.rf⟩ (fun r E G h hK => ?_)
      · cases h
        simp (disch := omega) only [F_L_told, F_X10_told, F_X10_told_J16x, dem_ok, dem_no, demT_ok, demT_no, z_bt_l, z_bt_r, z_try_l, z_try_r, nl_I, nl_N, nl_IN, nl_NI, may_okU, may_noU, z_up_at, z_up_i, z_up_r, ↓reduceIte, ↓z_letE, ↓z_bdE, nn_l2, nn_add, nn_mul, nn_sub, nn_addM, nn_div, nn_rem, nn_min, nn_max, nn_abs, nn_ltT, nn_ltF, nn_leT, nn_leF, nn_eqT, nn_eqF, nn_eqM, nn_Meq, nn_ltM, nn_Mlt, nn_leM, nn_Mle, z_ix_nn, z_inb_nn, F_at_nn, F_put_nn, Nat.zero_add, Nat.add_zero, z_P_some, z_R_some, z_P_bd]
      · cases h
        simp (disch := omega) only [F_X11_told, e9, dem_ok, dem_no, demT_ok, demT_no, z_bt_l, z_bt_r, z_try_l, z_try_r, nl_I, nl_N, nl_IN, nl_NI, may_okU, may_noU, z_up_at, z_up_i, z_up_r, ↓reduceIte, ↓z_letE, ↓z_bdE, nn_l2, nn_add, nn_mul, nn_sub, nn_addM, nn_div, nn_rem, nn_min, nn_max, nn_abs, nn_ltT, nn_ltF, nn_leT, nn_leF, nn_eqT, nn_eqF, nn_eqM, nn_Meq, nn_ltM, nn_Mlt, nn_leM, nn_Mle, z_ix_nn, z_inb_nn, F_at_nn, F_put_nn, Nat.zero_add, Nat.add_zero, z_P_some, z_R_some, z_P_bd]
        refine z_P_take hN hB hK (fun G2 hA => ?_)
        obtain ⟨A1, A2, A3, A4, A5, A6⟩ := hA
        exact ⟨by rw [hBk.2.1, A6.2.1 43 (by unfold KK; omega), hK.2.1 43 (by unfold KK; omega)], A4, A5, A6⟩
    · refine TOP_q (X := some (D 0 12, D)) hJ (fun r E h => ?_) ⟨_, rfl, KA.rf⟩ (fun r E G h hK => ?_)
      · cases h
        simp (disch := omega) only [F_L_told, F_X10_told, F_X10_told_J16x, dem_ok, dem_no, demT_ok, demT_no, z_bt_l, z_bt_r, z_try_l, z_try_r, nl_I, nl_N, nl_IN, nl_NI, may_okU, may_noU, z_up_at, z_up_i, z_up_r, ↓reduceIte, ↓z_letE, ↓z_bdE, nn_l2, nn_add, nn_mul, nn_sub, nn_addM, nn_div, nn_rem, nn_min, nn_max, nn_abs, nn_ltT, nn_ltF, nn_leT, nn_leF, nn_eqT, nn_eqF, nn_eqM, nn_Meq, nn_ltM, nn_Mlt, nn_leM, nn_Mle, z_ix_nn, z_inb_nn, F_at_nn, F_put_nn, Nat.zero_add, Nat.add_zero, z_P_some, z_R_some, z_P_bd]
      · cases h
        simp (disch := omega) only [F_X11_told, e9, dem_ok, dem_no, demT_ok, demT_no, z_bt_l, z_bt_r, z_try_l, z_try_r, nl_I, nl_N, nl_IN, nl_NI, may_okU, may_noU, z_up_at, z_up_i, z_up_r, ↓reduceIte, ↓z_letE, ↓z_bdE, nn_l2, nn_add, nn_mul, nn_sub, nn_addM, nn_div, nn_rem, nn_min, nn_max, nn_abs, nn_ltT, nn_ltF, nn_leT, nn_leF, nn_eqT, nn_eqF, nn_eqM, nn_Meq, nn_ltM, nn_Mlt, nn_leM, nn_Mle, z_ix_nn, z_inb_nn, F_at_nn, F_put_nn, Nat.zero_add, Nat.add_zero, z_P_some, z_R_some, z_P_bd]
        refine z_P_take hN hB hK (fun G2 hA => ?_)
        obtain ⟨A1, A2, A3, A4, A5, A6⟩ := hA
        exact ⟨by rw [hMI.1, A6.2.1 34 (by unfold KK; omega), hK.2.1 34 (by unfold KK; omega)], A4, A5, A6⟩
    · refine TOP_q (X := z_bd (F_X9_unlikeShades N 3 (nn pe) D) (fun a => some (a, D))) hJ (fun r E h => ?_) ?_ (fun r E G h hK => ?_)
      · obtain ⟨q, c, m1, m2, rfl, -⟩ := unlike_R (N := N) (t := 3) hN hpe hC0.2.2.1.2.1 hT0
        rw [m1, z_bdE] at h
        cases h
        simp (disch := omega) only [F_L_told, F_X10_told, F_X10_told_J16x, c6, m1, dem_ok, dem_no, demT_ok, demT_no, z_bt_l, z_bt_r, z_try_l, z_try_r, nl_I, nl_N, nl_IN, nl_NI, may_okU, may_noU, z_up_at, z_up_i, z_up_r, ↓reduceIte, ↓z_letE, ↓z_bdE, nn_l2, nn_add, nn_mul, nn_sub, nn_addM, nn_div, nn_rem, nn_min, nn_max, nn_abs, nn_ltT, nn_ltF, nn_leT, nn_leF, nn_eqT, nn_eqF, nn_eqM, nn_Meq, nn_ltM, nn_Mlt, nn_leM, nn_Mle, z_ix_nn, z_inb_nn, F_at_nn, F_put_nn, Nat.zero_add, Nat.add_zero, z_P_some, z_R_some, z_P_bd]
      · rw [z_P_bd]
        refine z_P_mono (z_R_x (unlike_R (t := 3) hN hpe hC0.2.2.1.2.1 hT0)) (fun a ha => ?_)
        rw [z_P_some]
        exact KA.rf
      · obtain ⟨q, c, m1, m2, rfl, -⟩ := unlike_R (N := N) (t := 3) hN hpe hC0.2.2.1.2.1 hT0
        rw [m1, z_bdE] at h
        cases h
        simp (disch := omega) only [F_X11_told, e9, dem_ok, dem_no, demT_ok, demT_no, z_bt_l, z_bt_r, z_try_l, z_try_r, nl_I, nl_N, nl_IN, nl_NI, may_okU, may_noU, z_up_at, z_up_i, z_up_r, ↓reduceIte, ↓z_letE, ↓z_bdE, nn_l2, nn_add, nn_mul, nn_sub, nn_addM, nn_div, nn_rem, nn_min, nn_max, nn_abs, nn_ltT, nn_ltF, nn_leT, nn_leF, nn_eqT, nn_eqF, nn_eqM, nn_Meq, nn_ltM, nn_Mlt, nn_leM, nn_Mle, z_ix_nn, z_inb_nn, F_at_nn, F_put_nn, Nat.zero_add, Nat.add_zero, z_P_some, z_R_some, z_P_bd]
        refine z_P_take hN hB hK (fun G2 hA => ?_)
        obtain ⟨A1, A2, A3, A4, A5, A6⟩ := hA
        refine z_P_mono (z_R_at (unlike_R (t := 3) hN hpe A1.2.2.1.2.1 A2) m1) (fun c hc => ?_)
        exact ⟨hc.1.symm, A4, A5, A6⟩
    · refine TOP_q (X := some (D o 7, D)) hJ (fun r E h => ?_) ⟨_, rfl, KA.rf⟩ (fun r E G h hK => ?_)
      · cases h
        simp (disch := omega) only [F_L_told, F_X10_told, F_X10_told_J16x, dem_ok, dem_no, demT_ok, demT_no, z_bt_l, z_bt_r, z_try_l, z_try_r, nl_I, nl_N, nl_IN, nl_NI, may_okU, may_noU, z_up_at, z_up_i, z_up_r, ↓reduceIte, ↓z_letE, ↓z_bdE, nn_l2, nn_add, nn_mul, nn_sub, nn_addM, nn_div, nn_rem, nn_min, nn_max, nn_abs, nn_ltT, nn_ltF, nn_leT, nn_leF, nn_eqT, nn_eqF, nn_eqM, nn_Meq, nn_ltM, nn_Mlt, nn_leM, nn_Mle, z_ix_nn, z_inb_nn, F_at_nn, F_put_nn, Nat.zero_add, Nat.add_zero, z_P_some, z_R_some, z_P_bd]
      · cases h
        simp (disch := omega) only [F_X11_told, e9, dem_ok, dem_no, demT_ok, demT_no, z_bt_l, z_bt_r, z_try_l, z_try_r, nl_I, nl_N, nl_IN, nl_NI, may_okU, may_noU, z_up_at, z_up_i, z_up_r, ↓reduceIte, ↓z_letE, ↓z_bdE, nn_l2, nn_add, nn_mul, nn_sub, nn_addM, nn_div, nn_rem, nn_min, nn_max, nn_abs, nn_ltT, nn_ltF, nn_leT, nn_leF, nn_eqT, nn_eqF, nn_eqM, nn_Meq, nn_ltM, nn_Mlt, nn_leM, nn_Mle, z_ix_nn, z_inb_nn, F_at_nn, F_put_nn, Nat.zero_add, Nat.add_zero, z_P_some, z_R_some, z_P_bd]
        refine z_P_take hN hB hK (fun G2 hA => ?_)
        obtain ⟨A1, A2, A3, A4, A5, A6⟩ := hA
        exact ⟨by rw [c7]; exact A1.2.2.1.2.2, A4, A5, A6⟩
  · have e9 : F_X11_within a (nn 0) (nn 9) = nn 0 := within_out (by rcases hout with h | h; exact Or.inl h; exact Or.inr h.2)
    refine TOP_t (c := 1) (k := 1) hJ (by decide) (by decide) (by decide) ?_ (fun G hG => ?_)
    · rcases hout with h | h
      · simp (disch := omega) only [F_L_told, F_X10_told, F_X10_told_J15, F_X10_told_J16, h, dem_ok, dem_no, demT_ok, demT_no, z_bt_l, z_bt_r, z_try_l, z_try_r, nl_I, nl_N, nl_IN, nl_NI, may_okU, may_noU, z_up_at, z_up_i, z_up_r, ↓reduceIte, ↓z_letE, ↓z_bdE, nn_l2, nn_add, nn_mul, nn_sub, nn_addM, nn_div, nn_rem, nn_min, nn_max, nn_abs, nn_ltT, nn_ltF, nn_leT, nn_leF, nn_eqT, nn_eqF, nn_eqM, nn_Meq, nn_ltM, nn_Mlt, nn_leM, nn_Mle, z_ix_nn, z_inb_nn, F_at_nn, F_put_nn, Nat.zero_add, Nat.add_zero, z_P_some, z_R_some, z_P_bd]
      · simp (disch := omega) only [F_L_told, F_X10_told, F_X10_told_J15, F_X10_told_J16, h.1, h.2, dem_ok, dem_no, demT_ok, demT_no, z_bt_l, z_bt_r, z_try_l, z_try_r, nl_I, nl_N, nl_IN, nl_NI, may_okU, may_noU, z_up_at, z_up_i, z_up_r, ↓reduceIte, ↓z_letE, ↓z_bdE, nn_l2, nn_add, nn_mul, nn_sub, nn_addM, nn_div, nn_rem, nn_min, nn_max, nn_abs, nn_ltT, nn_ltF, nn_leT, nn_leF, nn_eqT, nn_eqF, nn_eqM, nn_Meq, nn_ltM, nn_Mlt, nn_leM, nn_Mle, z_ix_nn, z_inb_nn, F_at_nn, F_put_nn, Nat.zero_add, Nat.add_zero, z_P_some, z_R_some, z_P_bd]
    · simp (disch := omega) only [F_X11_told, e9, dem_ok, dem_no, demT_ok, demT_no, z_bt_l, z_bt_r, z_try_l, z_try_r, nl_I, nl_N, nl_IN, nl_NI, may_okU, may_noU, z_up_at, z_up_i, z_up_r, ↓reduceIte, ↓z_letE, ↓z_bdE, nn_l2, nn_add, nn_mul, nn_sub, nn_addM, nn_div, nn_rem, nn_min, nn_max, nn_abs, nn_ltT, nn_ltF, nn_leT, nn_leF, nn_eqT, nn_eqF, nn_eqM, nn_Meq, nn_ltM, nn_Mlt, nn_leM, nn_Mle, z_ix_nn, z_inb_nn, F_at_nn, F_put_nn, Nat.zero_add, Nat.add_zero, z_P_some, z_R_some, z_P_bd]
