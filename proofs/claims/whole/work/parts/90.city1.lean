/-! ===== a new city: one clause ===== -/
def CDb (n b : Nat) (D G : z_Dat) : Prop := (∃ v, v < 1000 ∧ D (n + 1) b = nn v ∧ (G 43 (4 * b) = nn (v / 100) ∧ G 43 (4 * b + 1) = nn (v / 10 % 10) ∧ G 43 (4 * b + 2) = nn (v % 10))) ∧ D (n + 2) b = G 43 (4 * b + 3)
def CDp (n p : Nat) (D G : z_Dat) : Prop := D (n + 3) p = G 44 p ∧ D (n + 4) p = G 45 p
def CDs (n d : Nat) (D G : z_Dat) : Prop := ∃ s, s ≤ 200 ∧ D (n + 5) d = nn s ∧ G 46 d = nn s
def CD (n ns pe rv : Nat) (D G : z_Dat) : Prop := (ns ≤ 6 ∧ pe ≤ 8 ∧ rv ≤ 20) ∧ (D n 5 = nn ns ∧ D n 6 = nn pe ∧ D n 7 = nn rv) ∧ (G 40 16 = nn ns ∧ G 40 17 = nn pe ∧ G 40 18 = nn rv) ∧ (∀ b, b < ns → CDb n b D G) ∧ (∀ p, p < pe → CDp n p D G) ∧ ∀ d, d < 3 → CDs n d D G
def XP (n : Nat) (D E : z_Dat) : Prop := (∀ r, r ≠ 1 → (r < n ∨ n + 5 < r) → E r = D r) ∧ ∀ j, j < 3 → E 1 j = D 1 j
def XM (G F : z_Dat) : Prop := (∀ r, r ≠ 40 → (r < 43 ∨ 46 < r) → F r = G r) ∧ ∀ j, (j < 4 ∨ (6 < j ∧ j < 16) ∨ 18 < j) → F 40 j = G 40 j
theorem XP.rf {n : Nat} {D : z_Dat} : XP n D D := ⟨fun _ _ _ => rfl, fun _ _ => rfl⟩
theorem XM.rf {G : z_Dat} : XM G G := ⟨fun _ _ _ => rfl, fun _ _ => rfl⟩
theorem XP.tr {n : Nat} {D E F : z_Dat} (h : XP n D E) (h2 : XP n E F) : XP n D F := ⟨fun r a b => (h2.1 r a b).trans (h.1 r a b), fun j a => (h2.2 j a).trans (h.2 j a)⟩
theorem XM.tr {D E F : z_Dat} (h : XM D E) (h2 : XM E F) : XM D F := ⟨fun r a b => (h2.1 r a b).trans (h.1 r a b), fun j a => (h2.2 j a).trans (h.2 j a)⟩
theorem XP.rp {n : Nat} {D E : z_Dat} (h : RP D E) : XP n D E := ⟨fun r a _ => h.1 r a, h.2⟩
theorem XM.rm {D E : z_Dat} (h : RM D E) : XM D E := ⟨fun r a _ => h.1 r a, fun j hj => h.2 j (by omega)⟩
theorem XP.up {n a i : Nat} {x : Int32} {D E : z_Dat} (hn : 68 ≤ n) (h : XP n D E) (h1 : n ≤ a) (h2 : a ≤ n + 5) : XP n D (z_up E a i x) := ⟨fun r p q => by rw [z_up_ne (by omega)]; exact h.1 r p q, fun j hj => by rw [z_up_r (by omega)]; exact h.2 j hj⟩
theorem XP.put {n a k : Nat} {i x : Int32} {D E : z_Dat} (hn : 68 ≤ n) (h : XP n D E) (h1 : n ≤ a) (h2 : a ≤ n + 5) : XP n D (F_X10_put a k i x E) := ⟨fun r p q => by rw [put_any r (by omega)]; exact h.1 r p q, fun j hj => by rw [put_any 1 (by omega)]; exact h.2 j hj⟩
theorem XM.up {a i : Nat} {x : Int32} {D E : z_Dat} (h : XM D E) (h1 : (43 ≤ a ∧ a ≤ 46) ∨ (a = 40 ∧ 16 ≤ i ∧ i ≤ 18)) : XM D (z_up E a i x) := ⟨fun r p q => by rw [z_up_ne (by omega)]; exact h.1 r p q, fun j hj => by
  rcases h1 with h1 | ⟨h1, h2⟩
  · rw [z_up_r (by omega)]
    exact h.2 j hj
  · rw [z_up_i (by omega)]
    exact h.2 j hj⟩
theorem CD.keep {n ns pe rv : Nat} {D G E F : z_Dat} (hn : 68 ≤ n) (h : CD n ns pe rv D G) (h1 : RP D E) (h2 : RM G F) : CD n ns pe rv E F := by
  unfold CD CDb CDp CDs at h ⊢
  rw [h1.1 n (by omega), h1.1 (n + 1) (by omega), h1.1 (n + 2) (by omega), h1.1 (n + 3) (by omega), h1.1 (n + 4) (by omega), h1.1 (n + 5) (by omega), h2.1 43 (by decide), h2.1 44 (by decide), h2.1 45 (by decide), h2.1 46 (by decide), h2.2 16 (by omega), h2.2 17 (by omega), h2.2 18 (by omega)]
  exact h
theorem q10 : nn 9 = nn 10 - nn 1 := by decide
theorem q3 : nn 2 = nn 3 - nn 1 := by decide
theorem q61 : nn 60 = nn 61 - nn 1 := by decide
theorem q21 : nn 20 = nn 21 - nn 1 := by decide
theorem q201 : nn 200 = nn 201 - nn 1 := by decide
theorem q1000 : nn 999 = nn 1000 - nn 1 := by decide
/-- after a clause: what is told, or a fault -/
def CQ (t : Nat → Nat) (L m n : Nat) (D G : z_Dat) : Prop := RC t L m D G ∧ (OK D → ∃ ns pe rv, CD n ns pe rv D G)
set_option maxHeartbeats 1000000 in
theorem street_R {t : Nat → Nat} {N L m n ns pe rv : Nat} {D G : z_Dat} (hN : 2000 < N) (hn : 68 ≤ n) (hC : RC t L m D G) (hD : CD n ns pe rv D G) (hns : ns < 6) : z_R (F_X1_readRest N n (nn 0) D) (F_X11_readRow N (nn (wcd 3)) G) (fun E F => XP n D E ∧ XM G F ∧ CQ t L m n E F) := by
  obtain ⟨hb, ⟨d5, d6, d7⟩, ⟨g16, g17, g18⟩, hB, hP, hS⟩ := id hD
  have e3 := of_e (N := N) (id := 3) hN (by decide) (by decide)
  simp (disch := omega) only [F_X1_readRest, F_X1_readRest_J9xxx, F_X11_readRow, e3, g16, F_X11_readRow_J18xxxx, ↓reduceIte, ↓z_letE, ↓z_bdE, nn_l2, nn_add, nn_mul, nn_sub, nn_addM, nn_div, nn_rem, nn_min, nn_max, nn_abs, nn_ltT, nn_ltF, nn_leT, nn_leF, nn_eqT, nn_eqF, nn_eqM, nn_Meq, nn_ltM, nn_Mlt, nn_leM, nn_Mle, z_ix_nn, z_inb_nn, F_at_nn, F_put_nn, Nat.zero_add, Nat.add_zero, z_P_some, z_R_some, z_P_bd]
  refine z_R_bd (z_R_mono (num_C hN hC q10 (by decide)) (fun a c hac => ?_))
  obtain ⟨a, E1⟩ := a
  obtain ⟨c, F1⟩ := c
  obtain ⟨p1, p2, p3, p4⟩ := hac
  dsimp only at p1 p2 p3 p4 ⊢
  simp (disch := omega) only [F_X1_readRest_J9xx, F_X11_readRow_J18xxx, ↓reduceIte, ↓z_letE, ↓z_bdE, nn_l2, nn_add, nn_mul, nn_sub, nn_addM, nn_div, nn_rem, nn_min, nn_max, nn_abs, nn_ltT, nn_ltF, nn_leT, nn_leF, nn_eqT, nn_eqF, nn_eqM, nn_Meq, nn_ltM, nn_Mlt, nn_leM, nn_Mle, z_ix_nn, z_inb_nn, F_at_nn, F_put_nn, Nat.zero_add, Nat.add_zero, z_P_some, z_R_some, z_P_bd]
  refine z_R_bd (z_R_mono (num_C hN (p3.upM (a := 43) (i := 4 * ns) (x := c) (Or.inl (by decide)) (by decide)) q10 (by decide)) (fun a2 c2 hac => ?_))
  obtain ⟨a2, E2⟩ := a2
  obtain ⟨c2, F2⟩ := c2
  obtain ⟨r1, r2, r3, r4⟩ := hac
  dsimp only at r1 r2 r3 r4 ⊢
  simp (disch := omega) only [F_X1_readRest_J9x, F_X11_readRow_J18xx, ↓reduceIte, ↓z_letE, ↓z_bdE, nn_l2, nn_add, nn_mul, nn_sub, nn_addM, nn_div, nn_rem, nn_min, nn_max, nn_abs, nn_ltT, nn_ltF, nn_leT, nn_leF, nn_eqT, nn_eqF, nn_eqM, nn_Meq, nn_ltM, nn_Mlt, nn_leM, nn_Mle, z_ix_nn, z_inb_nn, F_at_nn, F_put_nn, Nat.zero_add, Nat.add_zero, z_P_some, z_R_some, z_P_bd]
  refine z_R_bd (z_R_mono (num_C hN (r3.upM (a := 43) (i := 4 * ns + 1) (x := c2) (Or.inl (by decide)) (by decide)) q10 (by decide)) (fun a3 c3 hac => ?_))
  obtain ⟨a3, E3⟩ := a3
  obtain ⟨c3, F3⟩ := c3
  obtain ⟨s1, s2, s3, s4⟩ := hac
  dsimp only at s1 s2 s3 s4 ⊢
  have x5 : E3 n 5 = nn ns := by rw [s1.1 n (by omega), r1.1 n (by omega), p1.1 n (by omega)]; exact d5
  simp (disch := omega) only [F_X1_readRest_J9, F_X11_readRow_J18x, x5, ↓reduceIte, ↓z_letE, ↓z_bdE, nn_l2, nn_add, nn_mul, nn_sub, nn_addM, nn_div, nn_rem, nn_min, nn_max, nn_abs, nn_ltT, nn_ltF, nn_leT, nn_leF, nn_eqT, nn_eqF, nn_eqM, nn_Meq, nn_ltM, nn_Mlt, nn_leM, nn_Mle, z_ix_nn, z_inb_nn, F_at_nn, F_put_nn, Nat.zero_add, Nat.add_zero, z_P_some, z_R_some, z_P_bd]
  refine z_R_bd (z_R_mono (num_C hN ((s3.upM (a := 43) (i := 4 * ns + 2) (x := c3) (Or.inl (by decide)) (by decide)).upP (a := n + 1) (i := ns) (by omega) (by omega)) q10 (by decide)) (fun a4 c4 hac => ?_))
  obtain ⟨a4, E4⟩ := a4
  obtain ⟨c4, F4⟩ := c4
  obtain ⟨u1, u2, u3, u4⟩ := hac
  dsimp only at u1 u2 u3 u4 ⊢
  have y5 : E4 n 5 = nn ns := by rw [u1.1 n (by omega), z_up_r (by omega)]; exact x5
  have z16 : F4 40 16 = nn ns := by
    rw [u2.2 16 (by omega), z_up_r (by decide), s2.2 16 (by omega), z_up_r (by decide), r2.2 16 (by omega), z_up_r (by decide), p2.2 16 (by omega)]
    exact g16
  simp (disch := omega) only [F_X11_readRow_J18, x5, y5, z16, z_up_r, ↓reduceIte, ↓z_letE, ↓z_bdE, nn_l2, nn_add, nn_mul, nn_sub, nn_addM, nn_div, nn_rem, nn_min, nn_max, nn_abs, nn_ltT, nn_ltF, nn_leT, nn_leF, nn_eqT, nn_eqF, nn_eqM, nn_Meq, nn_ltM, nn_Mlt, nn_leM, nn_Mle, z_ix_nn, z_inb_nn, F_at_nn, F_put_nn, Nat.zero_add, Nat.add_zero, z_P_some, z_R_some, z_P_bd]
  have hxp : XP n D E4 := ((XP.rp p1).tr ((XP.rp r1).tr ((XP.rp s1).tr ((XP.up hn XP.rf (a := n + 1) (by omega) (by omega)).tr (XP.rp u1)))))
  have hxm : XM G F4 := (XM.rm p2).tr ((XM.up XM.rf (a := 43) (Or.inl ⟨by decide, by decide⟩)).tr ((XM.rm r2).tr ((XM.up XM.rf (a := 43) (Or.inl ⟨by decide, by decide⟩)).tr ((XM.rm s2).tr ((XM.up XM.rf (a := 43) (Or.inl ⟨by decide, by decide⟩)).tr (XM.rm u2))))))
  refine ⟨(hxp.up hn (a := n + 2) (by omega) (by omega)).up hn (a := n) (by omega) (by omega), (hxm.up (Or.inl ⟨by decide, by decide⟩)).up (Or.inr ⟨rfl, by decide, by decide⟩), ?_⟩
  refine ⟨(((u3.upP (a := n + 2) (by omega) (by omega)).upP (a := n) (by omega) (by omega)).upM (a := 43) (Or.inl (by decide)) (by decide)).upM (a := 40) (Or.inr (Or.inl (by decide))) (by decide), fun ho => ?_⟩
  rw [OK.up (by omega), OK.up (by omega)] at ho
  obtain ⟨o4, -, v4, l4, rfl, rfl⟩ := u4 ho
  rw [OK.up (by omega)] at o4
  obtain ⟨o3, -, v3, l3, rfl, rfl⟩ := s4 o4
  obtain ⟨o2, -, v2, l2, rfl, rfl⟩ := r4 o3
  obtain ⟨o1, -, v1, l1, rfl, rfl⟩ := p4 o2
  have fr : ∀ r, r ≠ 1 → r ≠ n + 1 → E4 r = D r := fun r h1 h2 => by rw [u1.1 r h1, z_up_ne h2, s1.1 r h1, r1.1 r h1, p1.1 r h1]
  have f0 := fr n (by omega) (by omega)
  have f2 := fr (n + 2) (by omega) (by omega)
  have f3 := fr (n + 3) (by omega) (by omega)
  have f4 := fr (n + 4) (by omega) (by omega)
  have f5 := fr (n + 5) (by omega) (by omega)
  have f1 := u1.1 (n + 1) (by omega)
  have f1' : E3 (n + 1) = D (n + 1) := by rw [s1.1 _ (by omega), r1.1 _ (by omega), p1.1 _ (by omega)]
  have ge : ∀ r, r ≠ 40 → r ≠ 43 → F4 r = G r := fun r h1 h2 => by rw [u2.1 r h1, z_up_ne h2, s2.1 r h1, z_up_ne h2, r2.1 r h1, z_up_ne h2, p2.1 r h1]
  have g44 := ge 44 (by decide) (by decide)
  have g45 := ge 45 (by decide) (by decide)
  have g46 := ge 46 (by decide) (by decide)
  have gc : ∀ j, 6 < j → F4 40 j = G 40 j := fun j hj => by rw [u2.2 j (Or.inr hj), z_up_r (by decide), s2.2 j (Or.inr hj), z_up_r (by decide), r2.2 j (Or.inr hj), z_up_r (by decide), p2.2 j (Or.inr hj)]
  have c17 := gc 17 (by decide)
  have c18 := gc 18 (by decide)
  have w1 := u2.1 43 (by decide)
  have w2 := s2.1 43 (by decide)
  have w3 := r2.1 43 (by decide)
  have w4 := p2.1 43 (by decide)
  refine ⟨ns + 1, pe, rv, ⟨by omega, hb.2⟩, ⟨by rw [z_up_at rfl rfl], ?_, ?_⟩, ⟨by rw [z_up_at rfl rfl], ?_, ?_⟩, fun b hbb => ?_, fun p hp => ?_, fun d hd => ?_⟩
  · simp (disch := omega) only [f0, d6, z_up_r, z_up_i]
  · simp (disch := omega) only [f0, d7, z_up_r, z_up_i]
  · simp (disch := omega) only [c17, g17, z_up_r, z_up_i]
  · simp (disch := omega) only [c18, g18, z_up_r, z_up_i]
  · by_cases hbn : b = ns
    · subst hbn
      refine ⟨⟨100 * v1 + 10 * v2 + v3, by omega, ?_, ?_, ?_, ?_⟩, ?_⟩
      · simp (disch := omega) only [f1, z_up_r, z_up_at, unitOf_0, unitOf_1, unitOf_2, nn_mul, nn_add, Nat.zero_add]
        congr 1
        omega
      · simp (disch := omega) only [w1, w2, w3, w4, z_up_r, z_up_at, z_up_i]
        congr 1
        omega
      · simp (disch := omega) only [w1, w2, w3, w4, z_up_r, z_up_at, z_up_i]
        congr 1
        omega
      · simp (disch := omega) only [w1, w2, w3, w4, z_up_r, z_up_at, z_up_i]
        congr 1
        omega
      · simp (disch := omega) only [z_up_r, z_up_at]
    · obtain ⟨⟨v, q1, q2, q3, q4, q5⟩, q6⟩ := hB b (by omega)
      refine ⟨⟨v, q1, ?_, ?_, ?_, ?_⟩, ?_⟩
      · simp (disch := omega) only [f1, f1', z_up_r, z_up_i, q2]
      · simp (disch := omega) only [w1, w2, w3, w4, z_up_r, z_up_i, q3]
      · simp (disch := omega) only [w1, w2, w3, w4, z_up_r, z_up_i, q4]
      · simp (disch := omega) only [w1, w2, w3, w4, z_up_r, z_up_i, q5]
      · simp (disch := omega) only [w1, w2, w3, w4, f2, z_up_r, z_up_i, q6]
  · obtain ⟨q1, q2⟩ := hP p hp
    exact ⟨by simp (disch := omega) only [f3, g44, z_up_r, q1], by simp (disch := omega) only [f4, g45, z_up_r, q2]⟩
  · obtain ⟨v, q1, q2, q3⟩ := hS d hd
    exact ⟨v, q1, by simp (disch := omega) only [f5, z_up_r, q2], by simp (disch := omega) only [g46, z_up_r, q3]⟩
set_option maxHeartbeats 1000000 in
theorem person_R {t : Nat → Nat} {N L m n ns pe rv : Nat} {D G : z_Dat} (hN : 2000 < N) (hn : 68 ≤ n) (hC : RC t L m D G) (hD : CD n ns pe rv D G) (hpe : pe < 8) : z_R (F_X1_readRest N n (nn 1) D) (F_X11_readRow N (nn (wcd 4)) G) (fun E F => XP n D E ∧ XM G F ∧ CQ t L m n E F) := by
  obtain ⟨hb, ⟨d5, d6, d7⟩, ⟨g16, g17, g18⟩, hB, hP, hS⟩ := id hD
  have e3 := of_e (N := N) (id := 3) hN (by decide) (by decide)
  have e4 := of_e (N := N) (id := 4) hN (by decide) (by decide)
  have n43 : (nn (wcd 4) = nn (wcd 3)) = False := eq_false (by decide +kernel)
  have t44 : (nn (wcd 4) = nn (wcd 4)) = True := eq_true rfl
  simp only [F_X1_readRest, F_X11_readRow, e3, e4, ↓z_bdE, nn_l2, n43, t44, ↓reduceIte, d5, g16, show (nn 1 = nn 0) = False from eq_false (by decide), show (nn 1 = nn 1) = True from eq_true rfl]
  refine z_R_bd (z_R_mono (num_C hN hC rfl (by omega)) (fun a c hac => ?_))
  obtain ⟨a, E1⟩ := a
  obtain ⟨c, F1⟩ := c
  obtain ⟨p1, p2, p3, p4⟩ := hac
  dsimp only at p1 p2 p3 p4 ⊢
  have x6 : E1 n 6 = nn pe := by rw [p1.1 n (by omega)]; exact d6
  simp (disch := omega) only [d6, g17, ↓reduceIte, ↓z_letE, ↓z_bdE, nn_l2, nn_add, nn_mul, nn_sub, nn_addM, nn_div, nn_rem, nn_min, nn_max, nn_abs, nn_ltT, nn_ltF, nn_leT, nn_leF, nn_eqT, nn_eqF, nn_eqM, nn_Meq, nn_ltM, nn_Mlt, nn_leM, nn_Mle, z_ix_nn, z_inb_nn, F_at_nn, F_put_nn, Nat.zero_add, Nat.add_zero, z_P_some, z_R_some, z_P_bd]
  refine z_R_bd (z_R_mono (num_C hN ((p3.upM (a := 44) (i := pe) (x := c) (Or.inl (by decide)) (by decide)).upP (a := n + 3) (i := pe) (x := a) (by omega) (by omega)) q61 (by decide)) (fun a2 c2 hac => ?_))
  obtain ⟨a2, E2⟩ := a2
  obtain ⟨c2, F2⟩ := c2
  obtain ⟨r1, r2, r3, r4⟩ := hac
  dsimp only at r1 r2 r3 r4 ⊢
  have y6 : E2 n 6 = nn pe := by rw [r1.1 n (by omega), z_up_r (by omega)]; exact x6
  have x17 : F1 40 17 = nn pe := by rw [p2.2 17 (by omega)]; exact g17
  have y17 : F2 40 17 = nn pe := by rw [r2.2 17 (by omega), z_up_r (by decide)]; exact x17
  simp (disch := omega) only [x6, y6, x17, y17, d6, z_up_r, ↓reduceIte, ↓z_letE, ↓z_bdE, nn_l2, nn_add, nn_mul, nn_sub, nn_addM, nn_div, nn_rem, nn_min, nn_max, nn_abs, nn_ltT, nn_ltF, nn_leT, nn_leF, nn_eqT, nn_eqF, nn_eqM, nn_Meq, nn_ltM, nn_Mlt, nn_leM, nn_Mle, z_ix_nn, z_inb_nn, F_at_nn, F_put_nn, Nat.zero_add, Nat.add_zero, z_P_some, z_R_some, z_P_bd]
  have hxp : XP n D E2 := ((XP.rp p1).tr ((XP.up hn XP.rf (a := n + 3) (by omega) (by omega)).tr (XP.rp r1)))
  have hxm : XM G F2 := (XM.rm p2).tr ((XM.up XM.rf (a := 44) (Or.inl ⟨by decide, by decide⟩)).tr (XM.rm r2))
  refine ⟨(hxp.up hn (a := n + 4) (by omega) (by omega)).up hn (a := n) (by omega) (by omega), (hxm.up (Or.inl ⟨by decide, by decide⟩)).up (Or.inr ⟨rfl, by decide, by decide⟩), ?_⟩
  refine ⟨(((r3.upP (a := n + 4) (by omega) (by omega)).upP (a := n) (by omega) (by omega)).upM (a := 45) (Or.inl (by decide)) (by decide)).upM (a := 40) (Or.inr (Or.inl (by decide))) (by decide), fun ho => ?_⟩
  rw [OK.up (by omega), OK.up (by omega)] at ho
  obtain ⟨o2, -, v2, l2, rfl, rfl⟩ := r4 ho
  rw [OK.up (by omega)] at o2
  obtain ⟨o1, -, v1, l1, rfl, rfl⟩ := p4 o2
  have fr : ∀ r, r ≠ 1 → r ≠ n + 3 → E2 r = D r := fun r h1 h2 => by rw [r1.1 r h1, z_up_ne h2, p1.1 r h1]
  have f0 := fr n (by omega) (by omega)
  have f1 := fr (n + 1) (by omega) (by omega)
  have f2 := fr (n + 2) (by omega) (by omega)
  have f4 := fr (n + 4) (by omega) (by omega)
  have f5 := fr (n + 5) (by omega) (by omega)
  have f3 := r1.1 (n + 3) (by omega)
  have f3' := p1.1 (n + 3) (by omega)
  have ge : ∀ r, r ≠ 40 → r ≠ 44 → F2 r = G r := fun r h1 h2 => by rw [r2.1 r h1, z_up_ne h2, p2.1 r h1]
  have g43 := ge 43 (by decide) (by decide)
  have g45 := ge 45 (by decide) (by decide)
  have g46 := ge 46 (by decide) (by decide)
  have gc : ∀ j, 6 < j → F2 40 j = G 40 j := fun j hj => by rw [r2.2 j (Or.inr hj), z_up_r (by decide), p2.2 j (Or.inr hj)]
  have c16 := gc 16 (by decide)
  have c18 := gc 18 (by decide)
  have w1 := r2.1 44 (by decide)
  have w2 := p2.1 44 (by decide)
  refine ⟨ns, pe + 1, rv, ⟨hb.1, by omega, hb.2.2⟩, ⟨?_, by rw [z_up_at rfl rfl], ?_⟩, ⟨?_, by rw [z_up_at rfl rfl], ?_⟩, fun b hbb => ?_, fun p hp => ?_, fun d hd => ?_⟩
  · simp (disch := omega) only [f0, d5, z_up_r, z_up_i]
  · simp (disch := omega) only [f0, d7, z_up_r, z_up_i]
  · simp (disch := omega) only [c16, g16, z_up_r, z_up_i]
  · simp (disch := omega) only [c18, g18, z_up_r, z_up_i]
  · obtain ⟨⟨v, q1, q2, q3, q4, q5⟩, q6⟩ := hB b (by omega)
    refine ⟨⟨v, q1, ?_, ?_, ?_, ?_⟩, ?_⟩
    · simp (disch := omega) only [f1, z_up_r, z_up_i, q2]
    · simp (disch := omega) only [g43, z_up_r, z_up_i, q3]
    · simp (disch := omega) only [g43, z_up_r, z_up_i, q4]
    · simp (disch := omega) only [g43, z_up_r, z_up_i, q5]
    · simp (disch := omega) only [g43, f2, z_up_r, z_up_i, q6]
  · by_cases hpp : p = pe
    · subst hpp
      exact ⟨by simp (disch := omega) only [f3, w1, z_up_r, z_up_at], by simp (disch := omega) only [z_up_r, z_up_at]⟩
    · obtain ⟨q1, q2⟩ := hP p (by omega)
      exact ⟨by simp (disch := omega) only [f3, f3', w1, w2, z_up_r, z_up_i, q1], by simp (disch := omega) only [f4, g45, z_up_r, z_up_i, q2]⟩
  · obtain ⟨v, q1, q2, q3⟩ := hS d hd
    exact ⟨v, q1, by simp (disch := omega) only [f5, z_up_r, q2], by simp (disch := omega) only [g46, z_up_r, q3]⟩
set_option maxHeartbeats 1000000 in
theorem stock_R {t : Nat → Nat} {N L m n ns pe rv : Nat} {D G : z_Dat} (hN : 2000 < N) (hn : 68 ≤ n) (hC : RC t L m D G) (hD : CD n ns pe rv D G) : z_R (F_X1_readRest N n (nn 2) D) (F_X11_readRow N (nn (wcd 5)) G) (fun E F => XP n D E ∧ XM G F ∧ CQ t L m n E F) := by
  obtain ⟨hb, ⟨d5, d6, d7⟩, ⟨g16, g17, g18⟩, hB, hP, hS⟩ := id hD
  have e3 := of_e (N := N) (id := 3) hN (by decide) (by decide)
  have e4 := of_e (N := N) (id := 4) hN (by decide) (by decide)
  have e5 := of_e (N := N) (id := 5) hN (by decide) (by decide)
  have n53 : (nn (wcd 5) = nn (wcd 3)) = False := eq_false (by decide +kernel)
  have n54 : (nn (wcd 5) = nn (wcd 4)) = False := eq_false (by decide +kernel)
  have t55 : (nn (wcd 5) = nn (wcd 5)) = True := eq_true rfl
  simp only [F_X1_readRest, F_X11_readRow, e3, e4, e5, ↓z_bdE, nn_l2, n53, n54, t55, ↓reduceIte, show (nn 2 = nn 0) = False from eq_false (by decide), show (nn 2 = nn 1) = False from eq_false (by decide), show (nn 2 = nn 2) = True from eq_true rfl]
  refine z_R_bd (z_R_mono (num_C hN hC q3 (by omega)) (fun a c hac => ?_))
  obtain ⟨a, E1⟩ := a
  obtain ⟨c, F1⟩ := c
  obtain ⟨p1, p2, p3, p4⟩ := hac
  dsimp only at p1 p2 p3 p4 ⊢
  refine z_R_bd (z_R_mono (num_C hN p3 q201 (by decide)) (fun a2 c2 hac => ?_))
  obtain ⟨a2, E2⟩ := a2
  obtain ⟨c2, F2⟩ := c2
  obtain ⟨r1, r2, r3, r4⟩ := hac
  dsimp only at r1 r2 r3 r4 ⊢
  have hxp : XP n D E2 := (XP.rp p1).tr (XP.rp r1)
  have hxm : XM G F2 := (XM.rm p2).tr (XM.rm r2)
  by_cases ho : OK E2
  rotate_left
  · have hf := (r3.nf ho).2
    simp (disch := omega) only [hf, ↓reduceIte, ↓z_letE, ↓z_bdE, nn_l2, nn_add, nn_mul, nn_sub, nn_addM, nn_div, nn_rem, nn_min, nn_max, nn_abs, nn_ltT, nn_ltF, nn_leT, nn_leF, nn_eqT, nn_eqF, nn_eqM, nn_Meq, nn_ltM, nn_Mlt, nn_leM, nn_Mle, z_ix_nn, z_inb_nn, F_at_nn, F_put_nn, Nat.zero_add, Nat.add_zero, z_P_some, z_R_some, z_P_bd]
    exact ⟨hxp.put hn (by omega) (by omega), hxm, r3.put (by omega) (by omega), fun q => absurd ((OK.put (by omega)).mp q) ho⟩
  · have hf := (r3.ff ho).2
    obtain ⟨o2, -, v2, l2, rfl, rfl⟩ := r4 ho
    obtain ⟨o1, -, v1, l1, rfl, rfl⟩ := p4 o2
    simp (disch := omega) only [hf, ↓reduceIte, ↓z_letE, ↓z_bdE, nn_l2, nn_add, nn_mul, nn_sub, nn_addM, nn_div, nn_rem, nn_min, nn_max, nn_abs, nn_ltT, nn_ltF, nn_leT, nn_leF, nn_eqT, nn_eqF, nn_eqM, nn_Meq, nn_ltM, nn_Mlt, nn_leM, nn_Mle, z_ix_nn, z_inb_nn, F_at_nn, F_put_nn, Nat.zero_add, Nat.add_zero, z_P_some, z_R_some, z_P_bd]
    refine ⟨hxp.up hn (a := n + 5) (by omega) (by omega), hxm.up (Or.inl ⟨by decide, by decide⟩), (r3.upP (by omega) (by omega)).upM (Or.inl (by decide)) (by decide), fun _ => ?_⟩
    have hD2 := (hD.keep hn p1 p2).keep hn r1 r2
    obtain ⟨hb, ⟨d5, d6, d7⟩, ⟨g16, g17, g18⟩, hB, hP, hS⟩ := id hD2
    refine ⟨ns, pe, rv, hb, ⟨?_, ?_, ?_⟩, ⟨?_, ?_, ?_⟩, fun b hbb => ?_, fun p hp => ?_, fun d hd => ?_⟩
    · simp (disch := omega) only [d5, z_up_r]
    · simp (disch := omega) only [d6, z_up_r]
    · simp (disch := omega) only [d7, z_up_r]
    · simp (disch := omega) only [g16, z_up_r]
    · simp (disch := omega) only [g17, z_up_r]
    · simp (disch := omega) only [g18, z_up_r]
    · obtain ⟨⟨v, q1, q2, q3, q4, q5⟩, q6⟩ := hB b (by omega)
      exact ⟨⟨v, q1, by simp (disch := omega) only [q2, z_up_r], by simp (disch := omega) only [q3, z_up_r], by simp (disch := omega) only [q4, z_up_r], by simp (disch := omega) only [q5, z_up_r]⟩, by simp (disch := omega) only [q6, z_up_r]⟩
    · obtain ⟨q1, q2⟩ := hP p hp
      exact ⟨by simp (disch := omega) only [q1, z_up_r], by simp (disch := omega) only [q2, z_up_r]⟩
    · by_cases hdv : d = v1
      · subst hdv
        exact ⟨v2, by omega, by simp (disch := omega) only [z_up_at], by simp (disch := omega) only [z_up_at]⟩
      · obtain ⟨v, q1, q2, q3⟩ := hS d hd
        exact ⟨v, q1, by simp (disch := omega) only [z_up_i, q2], by simp (disch := omega) only [z_up_i, q3]⟩
set_option maxHeartbeats 1000000 in
theorem river_R {t : Nat → Nat} {N L m n ns pe rv : Nat} {D G : z_Dat} (hN : 2000 < N) (hn : 68 ≤ n) (hC : RC t L m D G) (hD : CD n ns pe rv D G) : z_R (F_X1_readRest N n (nn 3) D) (F_X11_readRow N (nn (wcd 6)) G) (fun E F => XP n D E ∧ XM G F ∧ CQ t L m n E F) := by
  have e3 := of_e (N := N) (id := 3) hN (by decide) (by decide)
  have e4 := of_e (N := N) (id := 4) hN (by decide) (by decide)
  have e5 := of_e (N := N) (id := 5) hN (by decide) (by decide)
  have n53 : (nn (wcd 6) = nn (wcd 3)) = False := eq_false (by decide +kernel)
  have n54 : (nn (wcd 6) = nn (wcd 4)) = False := eq_false (by decide +kernel)
  have n55 : (nn (wcd 6) = nn (wcd 5)) = False := eq_false (by decide +kernel)
  simp only [F_X1_readRest, F_X11_readRow, e3, e4, e5, ↓z_bdE, nn_l2, n53, n54, n55, ↓reduceIte, show (nn 3 = nn 0) = False from eq_false (by decide), show (nn 3 = nn 1) = False from eq_false (by decide), show (nn 3 = nn 2) = False from eq_false (by decide)]
  refine z_R_bd (z_R_mono (num_C hN hC q21 (by omega)) (fun a c hac => ?_))
  obtain ⟨a, E1⟩ := a
  obtain ⟨c, F1⟩ := c
  obtain ⟨p1, p2, p3, p4⟩ := hac
  dsimp only at p1 p2 p3 p4 ⊢
  simp (disch := omega) only [↓reduceIte, ↓z_letE, ↓z_bdE, nn_l2, nn_add, nn_mul, nn_sub, nn_addM, nn_div, nn_rem, nn_min, nn_max, nn_abs, nn_ltT, nn_ltF, nn_leT, nn_leF, nn_eqT, nn_eqF, nn_eqM, nn_Meq, nn_ltM, nn_Mlt, nn_leM, nn_Mle, z_ix_nn, z_inb_nn, F_at_nn, F_put_nn, Nat.zero_add, Nat.add_zero, z_P_some, z_R_some, z_P_bd]
  refine ⟨(XP.rp p1).up hn (a := n) (by omega) (by omega), (XM.rm p2).up (Or.inr ⟨rfl, by decide, by decide⟩), (p3.upP (by omega) (by omega)).upM (Or.inr (Or.inl (by decide))) (by decide), fun ho => ?_⟩
  rw [OK.up (by omega)] at ho
  obtain ⟨o1, -, v1, l1, rfl, rfl⟩ := p4 ho
  obtain ⟨hb, ⟨d5, d6, d7⟩, ⟨g16, g17, g18⟩, hB, hP, hS⟩ := id (hD.keep hn p1 p2)
  refine ⟨ns, pe, v1, ⟨hb.1, hb.2.1, by omega⟩, ⟨?_, ?_, ?_⟩, ⟨?_, ?_, ?_⟩, fun b hbb => ?_, fun p hp => ?_, fun d hd => ?_⟩
  · simp (disch := omega) only [d5, z_up_i]
  · simp (disch := omega) only [d6, z_up_i]
  · simp (disch := omega) only [z_up_at]
  · simp (disch := omega) only [g16, z_up_i]
  · simp (disch := omega) only [g17, z_up_i]
  · simp (disch := omega) only [z_up_at]
  · obtain ⟨⟨v, q1, q2, q3, q4, q5⟩, q6⟩ := hB b (by omega)
    exact ⟨⟨v, q1, by simp (disch := omega) only [q2, z_up_r], by simp (disch := omega) only [q3, z_up_r], by simp (disch := omega) only [q4, z_up_r], by simp (disch := omega) only [q5, z_up_r]⟩, by simp (disch := omega) only [q6, z_up_r]⟩
  · obtain ⟨q1, q2⟩ := hP p hp
    exact ⟨by simp (disch := omega) only [q1, z_up_r], by simp (disch := omega) only [q2, z_up_r]⟩
  · obtain ⟨v, q1, q2, q3⟩ := hS d hd
    exact ⟨v, q1, by simp (disch := omega) only [z_up_r, q2], by simp (disch := omega) only [z_up_r, q3]⟩
