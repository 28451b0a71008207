/-! ===== the small questions: of a street, of a person, of a stock, of shades ===== -/
def RQ (D G : z_Dat) (a : (Int32 × z_Dat) ⊕ (String × z_Dat)) (c : Int32 × z_Dat) : Prop := ∃ r E, a = .inl (r, E) ∧ KA D E ∧ c.1 = r ∧ c.2 40 0 = nn 0 ∧ c.2 67 = G 67 ∧ KA G c.2
theorem TOP_r {o n : Nat} {D : z_Dat} {X : Option ((Int32 × z_Dat) ⊕ (String × z_Dat))} {FL : Option (Int32 × z_Dat)} {g : String × z_Dat → Option (Int32 × z_Dat)} {FM : z_Dat → Option (Int32 × z_Dat)} (hJ : J o n D) (hFL : FL = z_try X (fun a => some (0, z_upJ a.2 67 0 a.1.toInt64)) g)
    (hR : ∀ G, KA D G → z_R X (FM G) (RQ D G)) : TOP FL FM (J o n) := by
  obtain ⟨a, c, h1, h2, r, E, rfl, hE, -⟩ := hR D KA.rf
  have hK : KA D (z_upJ E 67 0 r.toInt64) := KA.upJ hE
  obtain ⟨a', c', k1, k2, r', E', e1, -, e2, e3, e4, e5⟩ := hR _ hK
  rw [h1] at k1
  cases k1
  cases e1
  obtain ⟨x, D2⟩ := c'
  have e2 : x = r := e2
  subst e2
  refine ⟨0, x, _, D2, ?_, k2, e3, fun _ => ?_, hJ.keep (hK.tr e5)⟩
  · rw [hFL, h1, z_try_l]
  · rw [ld_row e4, z_upJ_same]
    exact lg_self _
theorem z_R_take {N o ns pe rv : Nat} {D G : z_Dat} {α β : Type} {X : Option α} {f : z_Dat → Option β} {Q : α → β → Prop} (hN : 200 < N) (hB : JB o ns pe rv D) (hK : KA D G) (h : ∀ G2, AT o ns pe rv D G G2 → z_R X (f G2) Q) : z_R X (z_bd (F_X11_take N (z_up G 40 0 (nn 0))) f) Q := by
  rw [z_R_r]
  exact z_P_take hN hB hK h
theorem z_R_kt {α β : Type} {x : Option α} {Q : α → β → Prop} {b : β} : z_R x (some b) Q = z_P x (fun a => Q a b) := propext ⟨fun ⟨a, c, h1, h2, h3⟩ => by cases h2; exact ⟨a, h1, h3⟩, fun ⟨a, h1, h3⟩ => ⟨a, b, h1, rfl, h3⟩⟩
theorem z_R_tk {α β : Type} {a : α} {y : Option β} {Q : α → β → Prop} : z_R (some a) y Q = z_P y (fun b => Q a b) := propext ⟨fun ⟨x, c, h1, h2, h3⟩ => by cases h1; exact ⟨c, h2, h3⟩, fun ⟨c, h1, h3⟩ => ⟨a, c, rfl, h1, h3⟩⟩
theorem upK {G : z_Dat} : KA G (z_up G 40 0 (nn 0)) := KA.rf.up (Or.inr ⟨rfl, by unfold KK; omega⟩)
set_option maxHeartbeats 4000000 in
theorem seeming_R {N o ns pe rv b : Nat} {D G2 : z_Dat} (hN : 200 < N) (hb : b < ns) (hC : CR o ns pe rv D G2) (hT : TR pe 300 (D (3 + 1)) (G2 58)) :
    z_R (F_X10_seeming N o (nn b) D) (z_loop (fun kc14 s => F_X11_street_L68 N (nn b) (nn 2) G2 kc14 s.1 s.2) N (nn 0, nn 0)) (fun a c => c = (a, G2)) := by
  obtain ⟨⟨hns, hpe, -⟩, ⟨-, c6, -⟩, ⟨-, k20, -⟩, -, -⟩ := id hC
  unfold F_X10_seeming
  refine z_R_loop (fun k s s' => ∃ p q, p + k = pe ∧ s.1 = nn q ∧ s'.1 = nn q ∧ s.2 = nn p ∧ s'.2 = nn p) ?_ pe N N _ _ (by omega) (by omega) ⟨0, 0, by omega, rfl, rfl, rfl, rfl⟩
  rintro k ⟨v1, v2⟩ ⟨w1, w2⟩ kc kc' ⟨p, q, hk, rfl, rfl, rfl, rfl⟩ ih
  dsimp only
  by_cases hp : p < pe
  · obtain ⟨n, hn, q0, ⟨q1, q2, q3⟩, -⟩ := hT.1 p hp
    have eS : F_X11_shadeOf (nn p) G2 = some (nn n) := shadeOf_e (by omega) q1 q2 q3
    simp (disch := omega) only [F_X10_seeming_L4, F_X11_street_L68, F_X9_has, c6, k20, q0, eS, ↓reduceIte, ↓z_letE, ↓z_bdE, nn_l2, nn_add, nn_mul, nn_sub, nn_addM, nn_div, nn_rem, nn_min, nn_max, nn_abs, nn_ltT, nn_ltF, nn_leT, nn_leF, nn_eqT, nn_eqF, nn_eqM, nn_Meq, nn_ltM, nn_Mlt, nn_leM, nn_Mle, z_ix_nn, z_inb_nn, F_at_nn, F_put_nn, Nat.zero_add, Nat.add_zero, z_P_some, z_R_some, z_P_bd]
    refine z_R_bd (z_R_mono (nearest_R hN hn hC) (fun a c hac => ?_))
    obtain ⟨rfl, -⟩ := hac
    by_cases hab : a = nn b
    · simp (disch := omega) only [F_X11_street_J103, hab, ↓reduceIte, ↓z_letE, ↓z_bdE, nn_l2, nn_add, nn_mul, nn_sub, nn_addM, nn_div, nn_rem, nn_min, nn_max, nn_abs, nn_ltT, nn_ltF, nn_leT, nn_leF, nn_eqT, nn_eqF, nn_eqM, nn_Meq, nn_ltM, nn_Mlt, nn_leM, nn_Mle, z_ix_nn, z_inb_nn, F_at_nn, F_put_nn, Nat.zero_add, Nat.add_zero, z_P_some, z_R_some, z_P_bd]
      exact ih (k - 1) _ _ (by omega) ⟨p + 1, q + 1, by omega, rfl, rfl, rfl, rfl⟩
    · simp (disch := omega) only [F_X11_street_J103, hab, ↓reduceIte, ↓z_letE, ↓z_bdE, nn_l2, nn_add, nn_mul, nn_sub, nn_addM, nn_div, nn_rem, nn_min, nn_max, nn_abs, nn_ltT, nn_ltF, nn_leT, nn_leF, nn_eqT, nn_eqF, nn_eqM, nn_Meq, nn_ltM, nn_Mlt, nn_leM, nn_Mle, z_ix_nn, z_inb_nn, F_at_nn, F_put_nn, Nat.zero_add, Nat.add_zero, z_P_some, z_R_some, z_P_bd]
      exact ih (k - 1) _ _ (by omega) ⟨p + 1, q, by omega, rfl, rfl, rfl, rfl⟩
  · simp (disch := omega) only [F_X10_seeming_L4, F_X11_street_L68, c6, k20, ↓reduceIte, ↓z_letE, ↓z_bdE, nn_l2, nn_add, nn_mul, nn_sub, nn_addM, nn_div, nn_rem, nn_min, nn_max, nn_abs, nn_ltT, nn_ltF, nn_leT, nn_leF, nn_eqT, nn_eqF, nn_eqM, nn_Meq, nn_ltM, nn_Mlt, nn_leM, nn_Mle, z_ix_nn, z_inb_nn, F_at_nn, F_put_nn, Nat.zero_add, Nat.add_zero, z_P_some, z_R_some, z_P_bd]
set_option maxHeartbeats 4000000 in
theorem bornIn_R {N o ns pe rv b : Nat} {D G2 : z_Dat} (hN : 200 < N) (hC : CR o ns pe rv D G2) :
    z_R (F_X1_bornIn N o (nn b) D) (z_loop (fun kc14 s => F_X11_street_L68 N (nn b) (nn 3) G2 kc14 s.1 s.2) N (nn 0, nn 0)) (fun a c => c = (a, G2)) := by
  obtain ⟨⟨hns, hpe, -⟩, ⟨-, c6, -⟩, ⟨-, k20, -⟩, -, hH⟩ := id hC
  unfold F_X1_bornIn
  refine z_R_loop (fun k s s' => ∃ p q, p + k = pe ∧ s.1 = nn q ∧ s'.1 = nn q ∧ s.2 = nn p ∧ s'.2 = nn p) ?_ pe N N _ _ (by omega) (by omega) ⟨0, 0, by omega, rfl, rfl, rfl, rfl⟩
  rintro k ⟨v1, v2⟩ ⟨w1, w2⟩ kc kc' ⟨p, q, hk, rfl, rfl, rfl, rfl⟩ ih
  dsimp only
  by_cases hp : p < pe
  · have hh := hH p hp
    by_cases hab : G2 48 p = nn b
    · simp (disch := omega) only [F_X1_bornIn_L4, F_X11_street_L68, F_X1_homeOf, F_X11_street_J103, c6, k20, hh, hab, ↓reduceIte, ↓z_letE, ↓z_bdE, nn_l2, nn_add, nn_mul, nn_sub, nn_addM, nn_div, nn_rem, nn_min, nn_max, nn_abs, nn_ltT, nn_ltF, nn_leT, nn_leF, nn_eqT, nn_eqF, nn_eqM, nn_Meq, nn_ltM, nn_Mlt, nn_leM, nn_Mle, z_ix_nn, z_inb_nn, F_at_nn, F_put_nn, Nat.zero_add, Nat.add_zero, z_P_some, z_R_some, z_P_bd]
      exact ih (k - 1) _ _ (by omega) ⟨p + 1, q + 1, by omega, rfl, rfl, rfl, rfl⟩
    · simp (disch := omega) only [F_X1_bornIn_L4, F_X11_street_L68, F_X1_homeOf, F_X11_street_J103, c6, k20, hh, hab, ↓reduceIte, ↓z_letE, ↓z_bdE, nn_l2, nn_add, nn_mul, nn_sub, nn_addM, nn_div, nn_rem, nn_min, nn_max, nn_abs, nn_ltT, nn_ltF, nn_leT, nn_leF, nn_eqT, nn_eqF, nn_eqM, nn_Meq, nn_ltM, nn_Mlt, nn_leM, nn_Mle, z_ix_nn, z_inb_nn, F_at_nn, F_put_nn, Nat.zero_add, Nat.add_zero, z_P_some, z_R_some, z_P_bd]
      exact ih (k - 1) _ _ (by omega) ⟨p + 1, q, by omega, rfl, rfl, rfl, rfl⟩
  · simp (disch := omega) only [F_X1_bornIn_L4, F_X11_street_L68, c6, k20, ↓reduceIte, ↓z_letE, ↓z_bdE, nn_l2, nn_add, nn_mul, nn_sub, nn_addM, nn_div, nn_rem, nn_min, nn_max, nn_abs, nn_ltT, nn_ltF, nn_leT, nn_leF, nn_eqT, nn_eqF, nn_eqM, nn_Meq, nn_ltM, nn_Mlt, nn_leM, nn_Mle, z_ix_nn, z_inb_nn, F_at_nn, F_put_nn, Nat.zero_add, Nat.add_zero, z_P_some, z_R_some, z_P_bd]
set_option maxHeartbeats 4000000 in
theorem T_street {N o n : Nat} {a1 a2 : Int32} {D : z_Dat} (hN : 200 < N) (hJ : J o n D) : TOP (F_L_street N o a1 a2 D) (F_X11_street N a1 a2) (J o n) := by
  obtain ⟨ho, ns, pe, rv, hB⟩ := id hJ
  obtain ⟨hC, hT, hL, hBk, hP, hI, hX, hMI⟩ := id hB
  obtain ⟨⟨hns, hpe, hrv⟩, ⟨c5, c6, c7⟩, ⟨k19, k20, k21⟩, hV, hH⟩ := id hC
  rcases has_or (m := ns) (by omega) a1 with ⟨b, hb, rfl, ew⟩ | ⟨hout, ew⟩
  · rcases in_or (m := 3) (by decide) a2 with ⟨k, hk, rfl⟩ | hout
    · have e9 := within_in (k := k) (b := 3) hk (by decide)
      refine TOP_r hJ rfl (fun G hK => ?_)
      have g19 : G 40 19 = nn ns := by rw [hK.2.1 19 (by unfold KK; omega)]; exact k19
      obtain ⟨v, hv, v0, ⟨v1, v2, v3⟩, v4⟩ := hV b hb
      have h4 : k = 0 ∨ k = 1 ∨ k = 2 ∨ k = 3 := by omega
      rcases h4 with rfl | rfl | rfl | rfl
      · simp (disch := omega) only [F_X10_street, F_X10_street_J27x, F_X1_hasStreet, F_X1_vatOf, c5, v0, F_X11_street, F_X11_isStreet, g19, ew, e9, dem_ok, dem_no, demT_ok, demT_no, z_bt_l, z_bt_r, z_try_l, z_try_r, nl_I, nl_N, nl_IN, nl_NI, may_okU, may_noU, z_up_at, z_up_i, z_up_r, ↓reduceIte, ↓z_letE, ↓z_bdE, nn_l2, nn_add, nn_mul, nn_sub, nn_addM, nn_div, nn_rem, nn_min, nn_max, nn_abs, nn_ltT, nn_ltF, nn_leT, nn_leF, nn_eqT, nn_eqF, nn_eqM, nn_Meq, nn_ltM, nn_Mlt, nn_leM, nn_Mle, z_ix_nn, z_inb_nn, F_at_nn, F_put_nn, Nat.zero_add, Nat.add_zero, z_P_some, z_R_some, z_P_bd]
        refine z_R_take hN hB hK (fun G2 hA => ?_)
        obtain ⟨A1, A2, A3, A4, A5, A6⟩ := hA
        obtain ⟨v', hv', w0, ⟨w1, w2, w3⟩, w4⟩ := A1.2.2.2.1 b hb
        rw [vatOf_e (by omega) w1 w2 w3, z_bdE, z_R_some]
        exact ⟨_, _, rfl, KA.rf, by rw [← w0, v0], A4, A5, A6⟩
      · simp (disch := omega) only [F_X10_street, F_X10_street_J27x, F_X1_hasStreet, F_X1_rankOf, c5, F_X11_street, F_X11_isStreet, g19, ew, e9, dem_ok, dem_no, demT_ok, demT_no, z_bt_l, z_bt_r, z_try_l, z_try_r, nl_I, nl_N, nl_IN, nl_NI, may_okU, may_noU, z_up_at, z_up_i, z_up_r, ↓reduceIte, ↓z_letE, ↓z_bdE, nn_l2, nn_add, nn_mul, nn_sub, nn_addM, nn_div, nn_rem, nn_min, nn_max, nn_abs, nn_ltT, nn_ltF, nn_leT, nn_leF, nn_eqT, nn_eqF, nn_eqM, nn_Meq, nn_ltM, nn_Mlt, nn_leM, nn_Mle, z_ix_nn, z_inb_nn, F_at_nn, F_put_nn, Nat.zero_add, Nat.add_zero, z_P_some, z_R_some, z_P_bd]
        refine z_R_take hN hB hK (fun G2 hA => ?_)
        obtain ⟨A1, A2, A3, A4, A5, A6⟩ := hA
        obtain ⟨v', hv', w0, ⟨w1, w2, w3⟩, w4⟩ := A1.2.2.2.1 b hb
        rw [z_R_some]
        exact ⟨_, _, rfl, KA.rf, w4.symm, A4, A5, A6⟩
      · simp (disch := omega) only [F_X10_street, F_X10_street_J27x, F_X1_hasStreet, c5, F_X11_street, F_X11_isStreet, g19, ew, e9, dem_ok, dem_no, demT_ok, demT_no, z_bt_l, z_bt_r, z_try_l, z_try_r, nl_I, nl_N, nl_IN, nl_NI, may_okU, may_noU, z_up_at, z_up_i, z_up_r, ↓reduceIte, ↓z_letE, ↓z_bdE, nn_l2, nn_add, nn_mul, nn_sub, nn_addM, nn_div, nn_rem, nn_min, nn_max, nn_abs, nn_ltT, nn_ltF, nn_leT, nn_leF, nn_eqT, nn_eqF, nn_eqM, nn_Meq, nn_ltM, nn_Mlt, nn_leM, nn_Mle, z_ix_nn, z_inb_nn, F_at_nn, F_put_nn, Nat.zero_add, Nat.add_zero, z_P_some, z_R_some, z_P_bd]
        refine z_R_take hN hB hK (fun G2 hA => ?_)
        obtain ⟨A1, A2, A3, A4, A5, A6⟩ := hA
        obtain ⟨a, c, m1, m2, rfl⟩ := seeming_R hN hb A1 A2
        rw [m1, z_bdE, m2, z_R_some]
        exact ⟨_, _, rfl, KA.rf, rfl, A4, A5, A6⟩
      · simp (disch := omega) only [F_X10_street, F_X10_street_J27x, F_X1_hasStreet, c5, F_X11_street, F_X11_isStreet, g19, ew, e9, dem_ok, dem_no, demT_ok, demT_no, z_bt_l, z_bt_r, z_try_l, z_try_r, nl_I, nl_N, nl_IN, nl_NI, may_okU, may_noU, z_up_at, z_up_i, z_up_r, ↓reduceIte, ↓z_letE, ↓z_bdE, nn_l2, nn_add, nn_mul, nn_sub, nn_addM, nn_div, nn_rem, nn_min, nn_max, nn_abs, nn_ltT, nn_ltF, nn_leT, nn_leF, nn_eqT, nn_eqF, nn_eqM, nn_Meq, nn_ltM, nn_Mlt, nn_leM, nn_Mle, z_ix_nn, z_inb_nn, F_at_nn, F_put_nn, Nat.zero_add, Nat.add_zero, z_P_some, z_R_some, z_P_bd]
        refine z_R_take hN hB hK (fun G2 hA => ?_)
        obtain ⟨A1, A2, A3, A4, A5, A6⟩ := hA
        obtain ⟨a, c, m1, m2, rfl⟩ := bornIn_R (b := b) hN A1
        rw [m1, z_bdE, m2, z_R_some]
        exact ⟨_, _, rfl, KA.rf, rfl, A4, A5, A6⟩
    · have e9 : F_X11_within a2 (nn 0) (nn 3) = nn 0 := within_out (by rcases hout with h | h; exact Or.inl h; exact Or.inr h.2)
      refine TOP_t (c := 2) (k := 1) hJ (by decide) (by decide) (by decide) ?_ (fun G hG => ?_)
      · rcases hout with h | h
        · simp (disch := omega) only [F_L_street, F_X10_street, F_X10_street_J26, F_X10_street_J27, F_X1_hasStreet, c5, h, dem_ok, dem_no, demT_ok, demT_no, z_bt_l, z_bt_r, z_try_l, z_try_r, nl_I, nl_N, nl_IN, nl_NI, may_okU, may_noU, z_up_at, z_up_i, z_up_r, ↓reduceIte, ↓z_letE, ↓z_bdE, nn_l2, nn_add, nn_mul, nn_sub, nn_addM, nn_div, nn_rem, nn_min, nn_max, nn_abs, nn_ltT, nn_ltF, nn_leT, nn_leF, nn_eqT, nn_eqF, nn_eqM, nn_Meq, nn_ltM, nn_Mlt, nn_leM, nn_Mle, z_ix_nn, z_inb_nn, F_at_nn, F_put_nn, Nat.zero_add, Nat.add_zero, z_P_some, z_R_some, z_P_bd]
        · simp (disch := omega) only [F_L_street, F_X10_street, F_X10_street_J26, F_X10_street_J27, F_X1_hasStreet, c5, h.1, h.2, dem_ok, dem_no, demT_ok, demT_no, z_bt_l, z_bt_r, z_try_l, z_try_r, nl_I, nl_N, nl_IN, nl_NI, may_okU, may_noU, z_up_at, z_up_i, z_up_r, ↓reduceIte, ↓z_letE, ↓z_bdE, nn_l2, nn_add, nn_mul, nn_sub, nn_addM, nn_div, nn_rem, nn_min, nn_max, nn_abs, nn_ltT, nn_ltF, nn_leT, nn_leF, nn_eqT, nn_eqF, nn_eqM, nn_Meq, nn_ltM, nn_Mlt, nn_leM, nn_Mle, z_ix_nn, z_inb_nn, F_at_nn, F_put_nn, Nat.zero_add, Nat.add_zero, z_P_some, z_R_some, z_P_bd]
      · have g19 : G 40 19 = nn ns := by rw [hG 40 (by decide)]; exact k19
        simp (disch := omega) only [F_X11_street, F_X11_isStreet, g19, ew, e9, dem_ok, dem_no, demT_ok, demT_no, z_bt_l, z_bt_r, z_try_l, z_try_r, nl_I, nl_N, nl_IN, nl_NI, may_okU, may_noU, z_up_at, z_up_i, z_up_r, ↓reduceIte, ↓z_letE, ↓z_bdE, nn_l2, nn_add, nn_mul, nn_sub, nn_addM, nn_div, nn_rem, nn_min, nn_max, nn_abs, nn_ltT, nn_ltF, nn_leT, nn_leF, nn_eqT, nn_eqF, nn_eqM, nn_Meq, nn_ltM, nn_Mlt, nn_leM, nn_Mle, z_ix_nn, z_inb_nn, F_at_nn, F_put_nn, Nat.zero_add, Nat.add_zero, z_P_some, z_R_some, z_P_bd]
  · refine TOP_t (c := 1) (k := 0) hJ (by decide) (by decide) (by decide) ?_ (fun G hG => ?_)
    · rcases hout with h | h
      · simp (disch := omega) only [F_L_street, F_X10_street, F_X1_hasStreet, c5, h, dem_ok, dem_no, demT_ok, demT_no, z_bt_l, z_bt_r, z_try_l, z_try_r, nl_I, nl_N, nl_IN, nl_NI, may_okU, may_noU, z_up_at, z_up_i, z_up_r, ↓reduceIte, ↓z_letE, ↓z_bdE, nn_l2, nn_add, nn_mul, nn_sub, nn_addM, nn_div, nn_rem, nn_min, nn_max, nn_abs, nn_ltT, nn_ltF, nn_leT, nn_leF, nn_eqT, nn_eqF, nn_eqM, nn_Meq, nn_ltM, nn_Mlt, nn_leM, nn_Mle, z_ix_nn, z_inb_nn, F_at_nn, F_put_nn, Nat.zero_add, Nat.add_zero, z_P_some, z_R_some, z_P_bd]
      · simp (disch := omega) only [F_L_street, F_X10_street, F_X1_hasStreet, c5, h.1, h.2, dem_ok, dem_no, demT_ok, demT_no, z_bt_l, z_bt_r, z_try_l, z_try_r, nl_I, nl_N, nl_IN, nl_NI, may_okU, may_noU, z_up_at, z_up_i, z_up_r, ↓reduceIte, ↓z_letE, ↓z_bdE, nn_l2, nn_add, nn_mul, nn_sub, nn_addM, nn_div, nn_rem, nn_min, nn_max, nn_abs, nn_ltT, nn_ltF, nn_leT, nn_leF, nn_eqT, nn_eqF, nn_eqM, nn_Meq, nn_ltM, nn_Mlt, nn_leM, nn_Mle, z_ix_nn, z_inb_nn, F_at_nn, F_put_nn, Nat.zero_add, Nat.add_zero, z_P_some, z_R_some, z_P_bd]
    · have g19 : G 40 19 = nn ns := by rw [hG 40 (by decide)]; exact k19
      simp (disch := omega) only [F_X11_street, F_X11_isStreet, g19, ew, dem_ok, dem_no, demT_ok, demT_no, z_bt_l, z_bt_r, z_try_l, z_try_r, nl_I, nl_N, nl_IN, nl_NI, may_okU, may_noU, z_up_at, z_up_i, z_up_r, ↓reduceIte, ↓z_letE, ↓z_bdE, nn_l2, nn_add, nn_mul, nn_sub, nn_addM, nn_div, nn_rem, nn_min, nn_max, nn_abs, nn_ltT, nn_ltF, nn_leT, nn_leF, nn_eqT, nn_eqF, nn_eqM, nn_Meq, nn_ltM, nn_Mlt, nn_leM, nn_Mle, z_ix_nn, z_inb_nn, F_at_nn, F_put_nn, Nat.zero_add, Nat.add_zero, z_P_some, z_R_some, z_P_bd]
