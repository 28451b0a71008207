/-! ===== who sits, on both sides ===== -/
def seatQ (D D' : z_Dat) (a c : Int32 × z_Dat) : Prop := a.1 = c.1 ∧ (a.1 = nn 0 ∨ a.1 = nn 1) ∧ FS D a.2 ∧ FS' D' c.2
theorem z_bd_as {α β γ : Type} {x : Option α} {f : α → Option β} {g : β → Option γ} : z_bd (z_bd x f) g = z_bd x (fun a => z_bd (f a) g) := by
  cases x with
  | none => rfl
  | some a => rfl
set_option maxHeartbeats 4000000 in
theorem seats_R {N n : Nat} {a1 a2 a3 a4 a5 : Int32} {D D' : z_Dat} (hN : 200 < N) (hn : n < 1000) (hL : LR D D') :
    z_R (F_X5_seats N (nn n) a1 a2 a3 a4 a5 D) (F_X11_sitsBy N (nn n) a1 a2 a3 a4 a5 D') (seatQ D D') := by
  rcases hL with ⟨h6, h28⟩ | ⟨m, dep, h0, hm, h6, h4, h28, hd0, hE⟩
  · by_cases hc : nn (n / 100 + n / 10 % 10 + n % 10) - nn 9 ≤ nn 0
    · simp (disch := omega) only [F_X5_seats, F_X11_sitsBy, F_X11_sitsNow, h6, h28, darkness_10, dyeOf_0, dyeOf_1, dyeOf_2, z_up_at, z_up_i, z_up_r, hc, ↓reduceIte, ↓z_letE, ↓z_bdE, nn_l2, nn_add, nn_mul, nn_sub, nn_addM, nn_div, nn_rem, nn_min, nn_max, nn_abs, nn_ltT, nn_ltF, nn_leT, nn_leF, nn_eqT, nn_eqF, nn_lt, nn_le, nn_eq, nn_eqM, nn_Meq, nn_ltM, nn_Mlt, nn_leM, nn_Mle, z_ix_nn, z_inb_nn, F_at_nn, F_put_nn, Nat.zero_add, Nat.add_zero, z_P_some, z_R_some, z_P_bd]
      exact ⟨rfl, Or.inl rfl, FS.rf, by repeat (first | exact FS'.rf | refine FS'.up ?_ (Or.inr rfl))⟩
    · simp (disch := omega) only [F_X5_seats, F_X11_sitsBy, F_X11_sitsNow, h6, h28, darkness_10, dyeOf_0, dyeOf_1, dyeOf_2, z_up_at, z_up_i, z_up_r, hc, ↓reduceIte, ↓z_letE, ↓z_bdE, nn_l2, nn_add, nn_mul, nn_sub, nn_addM, nn_div, nn_rem, nn_min, nn_max, nn_abs, nn_ltT, nn_ltF, nn_leT, nn_leF, nn_eqT, nn_eqF, nn_lt, nn_le, nn_eq, nn_eqM, nn_Meq, nn_ltM, nn_Mlt, nn_leM, nn_Mle, z_ix_nn, z_inb_nn, F_at_nn, F_put_nn, Nat.zero_add, Nat.add_zero, z_P_some, z_R_some, z_P_bd]
      exact ⟨rfl, Or.inr rfl, FS.rf, by repeat (first | exact FS'.rf | refine FS'.up ?_ (Or.inr rfl))⟩
  · have hne : ¬ m = 0 := by omega
    simp (disch := omega) only [F_X5_seats, F_X5_seats_J26xxx, F_X5_seats_J26xx, F_X5_seats_J26x, F_X5_seats_J26, F_X11_sitsBy, F_X11_sitsNow, h6, h28, darkness_10, partOf_0, partOf_1, partOf_2, dyeOf_0, dyeOf_1, dyeOf_2, z_up_at, z_up_i, z_up_r, z_bd_as, ↓reduceIte, ↓z_letE, ↓z_bdE, nn_l2, nn_add, nn_mul, nn_sub, nn_addM, nn_div, nn_rem, nn_min, nn_max, nn_abs, nn_ltT, nn_ltF, nn_leT, nn_leF, nn_eqT, nn_eqF, nn_lt, nn_le, nn_eq, nn_eqM, nn_Meq, nn_ltM, nn_Mlt, nn_leM, nn_Mle, z_ix_nn, z_inb_nn, F_at_nn, F_put_nn, Nat.zero_add, Nat.add_zero, z_P_some, z_R_some, z_P_bd]
    refine z_R_bd (z_R_mono (worth_R (dep := dep) hN h0 hm (by simp (disch := omega) only [z_up_r, h4]) (by simp (disch := omega) only [z_up_r, h28]) hd0 (fun k hk => (hE k hk).keep (by simp (disch := omega) only [z_up_ne]) (by simp (disch := omega) only [z_up_ne]) (by simp (disch := omega) only [z_up_ne])) (fun j hj => ?_)) (fun a c hac => ?_))
    · have h9 : j = 0 ∨ j = 1 ∨ j = 2 ∨ j = 3 ∨ j = 4 ∨ j = 5 ∨ j = 6 ∨ j = 7 ∨ j = 8 := by omega
      rcases h9 with rfl | rfl | rfl | rfl | rfl | rfl | rfl | rfl | rfl <;> simp (disch := omega) only [z_up_at, z_up_i]
    · obtain ⟨h1, h2, h3⟩ := hac
      have g2 : FS D a.2 := FS.tr (by repeat (first | exact FS.rf | refine FS.up ?_ (Or.inr rfl))) h2
      have g3 : FS' D' c.2 := FS'.tr (by repeat (first | exact FS'.rf | refine FS'.up ?_ (Or.inr rfl))) h3
      rw [← h1]
      by_cases hc : a.1 ≤ nn 0
      · simp (disch := omega) only [hc, ↓reduceIte, ↓z_letE, ↓z_bdE, nn_l2, nn_add, nn_mul, nn_sub, nn_addM, nn_div, nn_rem, nn_min, nn_max, nn_abs, nn_ltT, nn_ltF, nn_leT, nn_leF, nn_eqT, nn_eqF, nn_lt, nn_le, nn_eq, nn_eqM, nn_Meq, nn_ltM, nn_Mlt, nn_leM, nn_Mle, z_ix_nn, z_inb_nn, F_at_nn, F_put_nn, Nat.zero_add, Nat.add_zero, z_P_some, z_R_some, z_P_bd]
        exact ⟨rfl, Or.inl rfl, g2, g3⟩
      · simp (disch := omega) only [hc, ↓reduceIte, ↓z_letE, ↓z_bdE, nn_l2, nn_add, nn_mul, nn_sub, nn_addM, nn_div, nn_rem, nn_min, nn_max, nn_abs, nn_ltT, nn_ltF, nn_leT, nn_leF, nn_eqT, nn_eqF, nn_lt, nn_le, nn_eq, nn_eqM, nn_Meq, nn_ltM, nn_Mlt, nn_leM, nn_Mle, z_ix_nn, z_inb_nn, F_at_nn, F_put_nn, Nat.zero_add, Nat.add_zero, z_P_some, z_R_some, z_P_bd]
        exact ⟨rfl, Or.inr rfl, g2, g3⟩
set_option maxHeartbeats 4000000 in
theorem nearest_R {N o ns pe rv n : Nat} {D D' : z_Dat} (hN : 200 < N) (hn : n < 1000) (hC : CR o ns pe rv D D') :
    z_R (F_X1_nearest N o (nn n) D) (F_X11_seemsOf N (nn n) D') (fun a c => a = c ∧ (a = -nn 1 ∨ ∃ b, b < ns ∧ a = nn b)) := by
  obtain ⟨⟨hns, -, -⟩, ⟨h5, -, -⟩, ⟨h19, -, -⟩, hV, -⟩ := hC
  unfold F_X1_nearest F_X11_seemsOf
  refine z_R_loop (fun k s s' => ∃ b, b + k = ns ∧ s.2.2 = nn b ∧ s'.2 = nn b ∧ ((s.1 = -nn 1 ∧ s'.1 = -nn 1) ∨ ∃ c w, c < b ∧ w < 1000 ∧ D (o + 1) c = nn w ∧ s.1 = nn c ∧ s'.1 = nn c ∧ s.2.1 = nn (ap n w))) ?_ ns N N _ _ (by omega) (by omega) ⟨0, by omega, rfl, rfl, Or.inl ⟨rfl, rfl⟩⟩
  rintro k ⟨v1, v2, v3⟩ ⟨w1, w2⟩ kc kc' ⟨b, hk, rfl, rfl, hcase⟩ ih
  dsimp only at hcase ⊢
  by_cases hb : b < ns
  · obtain ⟨v, hv, e0, ⟨e1, e2, e3⟩, e4⟩ := hV b hb
    have eb : F_X11_vatOf (nn b) D' = some (nn v) := vatOf_e (by omega) e1 e2 e3
    have hle := ap_le hn hv
    rcases hcase with ⟨rfl, rfl⟩ | ⟨c, w, hc, hw, g0, rfl, rfl, rfl⟩
    · simp (disch := omega) only [F_X1_nearest_L7, F_X11_seemsOf_L4, h5, h19, F_X1_vatOf, e0, apart_10, ↓reduceIte, ↓z_letE, ↓z_bdE, nn_l2, nn_add, nn_mul, nn_sub, nn_addM, nn_div, nn_rem, nn_min, nn_max, nn_abs, nn_ltT, nn_ltF, nn_leT, nn_leF, nn_eqT, nn_eqF, nn_lt, nn_le, nn_eq, nn_eqM, nn_Meq, nn_ltM, nn_Mlt, nn_leM, nn_Mle, z_ix_nn, z_inb_nn, F_at_nn, F_put_nn, Nat.zero_add, Nat.add_zero, z_P_some, z_R_some, z_P_bd]
      exact ih (k - 1) _ _ (by omega) ⟨b + 1, by omega, rfl, rfl, Or.inr ⟨b, v, by omega, hv, e0, rfl, rfl, rfl⟩⟩
    · obtain ⟨w', hw', f0, ⟨f1, f2, f3⟩, f4⟩ := hV c (by omega)
      have hww : w' = w := nn_inj (by omega) (by omega) (f0.symm.trans g0)
      subst hww
      have ec : F_X11_vatOf (nn c) D' = some (nn w') := vatOf_e (by omega) f1 f2 f3
      have hle2 := ap_le hn hw'
      by_cases hcmp : ap n w' ≤ ap n v
      · simp (disch := omega) only [F_X1_nearest_L7, F_X11_seemsOf_L4, h5, h19, F_X1_vatOf, e0, eb, ec, apart_10, apart_11, ↓reduceIte, ↓z_letE, ↓z_bdE, nn_l2, nn_add, nn_mul, nn_sub, nn_addM, nn_div, nn_rem, nn_min, nn_max, nn_abs, nn_ltT, nn_ltF, nn_leT, nn_leF, nn_eqT, nn_eqF, nn_lt, nn_le, nn_eq, nn_eqM, nn_Meq, nn_ltM, nn_Mlt, nn_leM, nn_Mle, z_ix_nn, z_inb_nn, F_at_nn, F_put_nn, Nat.zero_add, Nat.add_zero, z_P_some, z_R_some, z_P_bd]
        exact ih (k - 1) _ _ (by omega) ⟨b + 1, by omega, rfl, rfl, Or.inr ⟨c, w', by omega, hw', f0, rfl, rfl, rfl⟩⟩
      · simp (disch := omega) only [F_X1_nearest_L7, F_X11_seemsOf_L4, h5, h19, F_X1_vatOf, e0, eb, ec, apart_10, apart_11, ↓reduceIte, ↓z_letE, ↓z_bdE, nn_l2, nn_add, nn_mul, nn_sub, nn_addM, nn_div, nn_rem, nn_min, nn_max, nn_abs, nn_ltT, nn_ltF, nn_leT, nn_leF, nn_eqT, nn_eqF, nn_lt, nn_le, nn_eq, nn_eqM, nn_Meq, nn_ltM, nn_Mlt, nn_leM, nn_Mle, z_ix_nn, z_inb_nn, F_at_nn, F_put_nn, Nat.zero_add, Nat.add_zero, z_P_some, z_R_some, z_P_bd]
        exact ih (k - 1) _ _ (by omega) ⟨b + 1, by omega, rfl, rfl, Or.inr ⟨b, v, by omega, hv, e0, rfl, rfl, rfl⟩⟩
  · have hbb : b = ns := by omega
    subst hbb
    rcases hcase with ⟨rfl, rfl⟩ | ⟨c, w, hc, hw, g0, rfl, rfl, rfl⟩
    · simp (disch := omega) only [F_X1_nearest_L7, F_X11_seemsOf_L4, h5, h19, ↓reduceIte, ↓z_letE, ↓z_bdE, nn_l2, nn_add, nn_mul, nn_sub, nn_addM, nn_div, nn_rem, nn_min, nn_max, nn_abs, nn_ltT, nn_ltF, nn_leT, nn_leF, nn_eqT, nn_eqF, nn_lt, nn_le, nn_eq, nn_eqM, nn_Meq, nn_ltM, nn_Mlt, nn_leM, nn_Mle, z_ix_nn, z_inb_nn, F_at_nn, F_put_nn, Nat.zero_add, Nat.add_zero, z_P_some, z_R_some, z_P_bd]
      exact ⟨trivial, Or.inl trivial⟩
    · simp (disch := omega) only [F_X1_nearest_L7, F_X11_seemsOf_L4, h5, h19, ↓reduceIte, ↓z_letE, ↓z_bdE, nn_l2, nn_add, nn_mul, nn_sub, nn_addM, nn_div, nn_rem, nn_min, nn_max, nn_abs, nn_ltT, nn_ltF, nn_leT, nn_leF, nn_eqT, nn_eqF, nn_lt, nn_le, nn_eq, nn_eqM, nn_Meq, nn_ltM, nn_Mlt, nn_leM, nn_Mle, z_ix_nn, z_inb_nn, F_at_nn, F_put_nn, Nat.zero_add, Nat.add_zero, z_P_some, z_R_some, z_P_bd]
      exact ⟨trivial, Or.inr ⟨c, hc, rfl⟩⟩
set_option maxHeartbeats 4000000 in
theorem isSeated_R {N o t ns pe rv Y p : Nat} {D D' : z_Dat} (hN : 200 < N) (hp : p < pe) (hC : CR o ns pe rv D D') (hT : TR pe Y (D (t + 1)) (D' 58)) (hL : LR D D') :
    z_R (F_X10_isSeated N o t (nn p) D) (F_X11_isSitting N (nn p) D') (seatQ D D') := by
  obtain ⟨n, hn, q0, ⟨q1, q2, q3⟩, q4, q5, q6, q7⟩ := hT.1 p hp
  obtain ⟨y, hy, y1, y2⟩ := hT.2.2
  obtain ⟨⟨hns, hpe, -⟩, ⟨h5, -, -⟩, ⟨h19, -, -⟩, hV, hB⟩ := id hC
  have eS : F_X11_shadeOf (nn p) D' = some (nn n) := shadeOf_e (by omega) q1 q2 q3
  have hb := hB p hp
  have fin : ∀ (a2 a5 : Int32), z_R (z_bd (F_X5_seats N (nn n) (D' 58 (48 + p)) a2 (D' 58 (40 + p)) (nn y) a5 D) (fun a_15 => some (a_15.1, a_15.2))) (z_bd (z_bd (F_X11_sitsBy N (nn n) (D' 58 (48 + p)) a2 (D' 58 (40 + p)) (nn y) a5 D') (fun a_14 => some (a_14.1, a_14.2))) (fun a => some a)) (seatQ D D') := fun a2 a5 => by
    rw [z_bd_as]
    refine z_R_bd (z_R_mono (seats_R hN hn hL) (fun a c hac => ?_))
    simp only [z_bdE, z_R_some]
    exact hac
  unfold F_X10_isSeated F_X11_isSitting
  simp (disch := omega) only [F_X9_has, q0, eS, ↓reduceIte, ↓z_letE, ↓z_bdE, nn_l2, nn_add, nn_mul, nn_sub, nn_addM, nn_div, nn_rem, nn_min, nn_max, nn_abs, nn_ltT, nn_ltF, nn_leT, nn_leF, nn_eqT, nn_eqF, nn_lt, nn_le, nn_eq, nn_eqM, nn_Meq, nn_ltM, nn_Mlt, nn_leM, nn_Mle, z_ix_nn, z_inb_nn, F_at_nn, F_put_nn, Nat.zero_add, Nat.add_zero, z_P_some, z_R_some, z_P_bd]
  refine z_R_bd (z_R_mono (nearest_R hN hn hC) (fun a c hac => ?_))
  obtain ⟨rfl, h⟩ := hac
  have fin2 : ∀ (a2 a5 : Int32), z_R (z_bd (F_X5_seats N (nn n) (D' 58 (48 + p)) a2 (D' 58 (40 + p)) (nn y) a5 D) (fun a_15 => some (a_15.1, a_15.2))) (z_bd (F_X11_sitsBy N (nn n) (D' 58 (48 + p)) a2 (D' 58 (40 + p)) (nn y) a5 D') (fun a_14 => some (a_14.1, a_14.2))) (seatQ D D') := fun a2 a5 => by
    refine z_R_bd (z_R_mono (seats_R hN hn hL) (fun a c hac => ?_))
    simp only [z_R_some]
    exact hac
  rcases h with rfl | ⟨b, hb2, rfl⟩
  · by_cases hh : -nn 1 = D' 48 p
    · simp (disch := omega) only [F_X10_isSeated_J35, F_X11_isSitting_J44, F_X9_has, F_X9_year, F_X1_rankOf, F_X1_homeOf, F_at_M, hb, q4, q7, y1, y2, ← hh, ↓reduceIte, ↓z_letE, ↓z_bdE, nn_l2, nn_add, nn_mul, nn_sub, nn_addM, nn_div, nn_rem, nn_min, nn_max, nn_abs, nn_ltT, nn_ltF, nn_leT, nn_leF, nn_eqT, nn_eqF, nn_lt, nn_le, nn_eq, nn_eqM, nn_Meq, nn_ltM, nn_Mlt, nn_leM, nn_Mle, z_ix_nn, z_inb_nn, F_at_nn, F_put_nn, Nat.zero_add, Nat.add_zero, z_P_some, z_R_some, z_P_bd]
      exact fin2 (nn 0) (nn 1)
    · simp (disch := omega) only [F_X10_isSeated_J35x, F_X11_isSitting_J44, F_X9_has, F_X9_year, F_X1_rankOf, F_X1_homeOf, F_at_M, hb, q4, q7, y1, y2, hh, ↓reduceIte, ↓z_letE, ↓z_bdE, nn_l2, nn_add, nn_mul, nn_sub, nn_addM, nn_div, nn_rem, nn_min, nn_max, nn_abs, nn_ltT, nn_ltF, nn_leT, nn_leF, nn_eqT, nn_eqF, nn_lt, nn_le, nn_eq, nn_eqM, nn_Meq, nn_ltM, nn_Mlt, nn_leM, nn_Mle, z_ix_nn, z_inb_nn, F_at_nn, F_put_nn, Nat.zero_add, Nat.add_zero, z_P_some, z_R_some, z_P_bd]
      exact fin2 (nn 0) (nn 0)
  · obtain ⟨v, hv, e0, e1, e4⟩ := hV b hb2
    by_cases hh : nn b = D' 48 p
    · simp (disch := omega) only [F_X10_isSeated_J35, F_X11_isSitting_J44x, F_X9_has, F_X9_year, F_X1_rankOf, F_X1_homeOf, hb, q4, q7, y1, y2, e4, ← hh, ↓reduceIte, ↓z_letE, ↓z_bdE, nn_l2, nn_add, nn_mul, nn_sub, nn_addM, nn_div, nn_rem, nn_min, nn_max, nn_abs, nn_ltT, nn_ltF, nn_leT, nn_leF, nn_eqT, nn_eqF, nn_lt, nn_le, nn_eq, nn_eqM, nn_Meq, nn_ltM, nn_Mlt, nn_leM, nn_Mle, z_ix_nn, z_inb_nn, F_at_nn, F_put_nn, Nat.zero_add, Nat.add_zero, z_P_some, z_R_some, z_P_bd]
      exact fin2 (D' 47 (4 * b + 3)) (nn 1)
    · simp (disch := omega) only [F_X10_isSeated_J35x, F_X11_isSitting_J44x, F_X9_has, F_X9_year, F_X1_rankOf, F_X1_homeOf, hb, q4, q7, y1, y2, e4, hh, ↓reduceIte, ↓z_letE, ↓z_bdE, nn_l2, nn_add, nn_mul, nn_sub, nn_addM, nn_div, nn_rem, nn_min, nn_max, nn_abs, nn_ltT, nn_ltF, nn_leT, nn_leF, nn_eqT, nn_eqF, nn_lt, nn_le, nn_eq, nn_eqM, nn_Meq, nn_ltM, nn_Mlt, nn_leM, nn_Mle, z_ix_nn, z_inb_nn, F_at_nn, F_put_nn, Nat.zero_add, Nat.add_zero, z_P_some, z_R_some, z_P_bd]
      exact fin2 (D' 47 (4 * b + 3)) (nn 0)
set_option maxHeartbeats 4000000 in
theorem seated_R {N o t ns pe rv Y : Nat} {D D' : z_Dat} (hN : 200 < N) (hto : t + 1 ≠ 10 ∧ t + 1 ≠ 11) (ho : 12 ≤ o) (ho2 : o ≠ 53 ∧ o ≠ 54) (hC : CR o ns pe rv D D') (hT : TR pe Y (D (t + 1)) (D' 58)) (hL : LR D D') :
    z_R (F_X10_seated N o t D) (F_X11_sitting N D') (fun a c => a.1 = c.1 ∧ (∃ q, q ≤ pe ∧ a.1 = nn q) ∧ FS D a.2 ∧ FS' D' c.2) := by
  obtain ⟨⟨hns, hpe, -⟩, ⟨-, h6, -⟩, ⟨-, h20, -⟩, -, -⟩ := id hC
  unfold F_X10_seated F_X11_sitting
  refine z_R_loop (fun k s s' => ∃ p q, p + k = pe ∧ q ≤ p ∧ s.1 = nn q ∧ s'.1 = nn q ∧ s.2.1 = nn p ∧ s'.2.1 = nn p ∧ FS D s.2.2 ∧ FS' D' s'.2.2) ?_ pe N N _ _ (by omega) (by omega) ⟨0, 0, by omega, by omega, rfl, rfl, rfl, rfl, FS.rf, FS'.rf⟩
  rintro k ⟨v1, v2, E⟩ ⟨w1, w2, E'⟩ kc kc' ⟨p, q, hk, hq, rfl, rfl, rfl, rfl, hF, hF'⟩ ih
  dsimp only at hF hF' ⊢
  have g6 : E o 6 = nn pe := by rw [hF o (by omega) (by omega)]; exact h6
  have g20 : E' 40 20 = nn pe := by rw [hF' 40 (by decide) (by decide)]; exact h20
  by_cases hp : p < pe
  · have hC2 : CR o ns pe rv E E' := hC.keep (hF o (by omega) (by omega)) (hF _ (by omega) (by omega)) (hF _ (by omega) (by omega)) (hF _ (by omega) (by omega)) (by rw [hF' 40 (by decide) (by decide)]) (by rw [hF' 40 (by decide) (by decide)]) (by rw [hF' 40 (by decide) (by decide)]) (hF' 47 (by decide) (by decide)) (hF' 48 (by decide) (by decide))
    have hT2 : TR pe Y (E (t + 1)) (E' 58) := by rw [hF _ hto.1 hto.2, hF' 58 (by decide) (by decide)]; exact hT
    have hL2 : LR E E' := hL.keep (hF 7 (by decide) (by decide)) (hF 8 (by decide) (by decide)) (by rw [hF' 40 (by decide) (by decide)]) (hF' 51 (by decide) (by decide)) (hF' 52 (by decide) (by decide))
    simp (disch := omega) only [F_X10_seated_L4, F_X11_sitting_L4, g6, g20, ↓reduceIte, ↓z_letE, ↓z_bdE, nn_l2, nn_add, nn_mul, nn_sub, nn_addM, nn_div, nn_rem, nn_min, nn_max, nn_abs, nn_ltT, nn_ltF, nn_leT, nn_leF, nn_eqT, nn_eqF, nn_lt, nn_le, nn_eq, nn_eqM, nn_Meq, nn_ltM, nn_Mlt, nn_leM, nn_Mle, z_ix_nn, z_inb_nn, F_at_nn, F_put_nn, Nat.zero_add, Nat.add_zero, z_P_some, z_R_some, z_P_bd]
    refine z_R_bd (z_R_mono (isSeated_R hN hp hC2 hT2 hL2) (fun a c hac => ?_))
    obtain ⟨h1, h2, h3, h4⟩ := hac
    rw [← h1]
    rcases h2 with h2 | h2
    · simp (disch := omega) only [h2, ↓reduceIte, ↓z_letE, ↓z_bdE, nn_l2, nn_add, nn_mul, nn_sub, nn_addM, nn_div, nn_rem, nn_min, nn_max, nn_abs, nn_ltT, nn_ltF, nn_leT, nn_leF, nn_eqT, nn_eqF, nn_lt, nn_le, nn_eq, nn_eqM, nn_Meq, nn_ltM, nn_Mlt, nn_leM, nn_Mle, z_ix_nn, z_inb_nn, F_at_nn, F_put_nn, Nat.zero_add, Nat.add_zero, z_P_some, z_R_some, z_P_bd]
      exact ih (k - 1) _ _ (by omega) ⟨p + 1, q, by omega, by omega, rfl, rfl, rfl, rfl, hF.tr h3, hF'.tr h4⟩
    · simp (disch := omega) only [h2, ↓reduceIte, ↓z_letE, ↓z_bdE, nn_l2, nn_add, nn_mul, nn_sub, nn_addM, nn_div, nn_rem, nn_min, nn_max, nn_abs, nn_ltT, nn_ltF, nn_leT, nn_leF, nn_eqT, nn_eqF, nn_lt, nn_le, nn_eq, nn_eqM, nn_Meq, nn_ltM, nn_Mlt, nn_leM, nn_Mle, z_ix_nn, z_inb_nn, F_at_nn, F_put_nn, Nat.zero_add, Nat.add_zero, z_P_some, z_R_some, z_P_bd]
      exact ih (k - 1) _ _ (by omega) ⟨p + 1, q + 1, by omega, by omega, rfl, rfl, rfl, rfl, hF.tr h3, hF'.tr h4⟩
  · have hpp : p = pe := by omega
    subst hpp
    simp (disch := omega) only [F_X10_seated_L4, F_X11_sitting_L4, g6, g20, ↓reduceIte, ↓z_letE, ↓z_bdE, nn_l2, nn_add, nn_mul, nn_sub, nn_addM, nn_div, nn_rem, nn_min, nn_max, nn_abs, nn_ltT, nn_ltF, nn_leT, nn_leF, nn_eqT, nn_eqF, nn_lt, nn_le, nn_eq, nn_eqM, nn_Meq, nn_ltM, nn_Mlt, nn_leM, nn_Mle, z_ix_nn, z_inb_nn, F_at_nn, F_put_nn, Nat.zero_add, Nat.add_zero, z_P_some, z_R_some, z_P_bd]
    first | exact ⟨trivial, ⟨q, hq, rfl⟩, hF, hF'⟩ | exact ⟨rfl, ⟨q, hq, rfl⟩, hF, hF'⟩
