/-! ===== a book ===== -/
def BP (D E : z_Dat) : Prop := (∀ r, r ≠ 1 → r ≠ 14 → E r = D r) ∧ ∀ j, j < 3 → E 1 j = D 1 j
def BM (G F : z_Dat) : Prop := (∀ r, r ≠ 40 → r ≠ 60 → F r = G r) ∧ ∀ j, (j < 4 ∨ 6 < j) → F 40 j = G 40 j
theorem BP.tr {D E F : z_Dat} (h : BP D E) (h2 : BP E F) : BP D F := ⟨fun r a b => (h2.1 r a b).trans (h.1 r a b), fun j a => (h2.2 j a).trans (h.2 j a)⟩
theorem BM.tr {D E F : z_Dat} (h : BM D E) (h2 : BM E F) : BM D F := ⟨fun r a b => (h2.1 r a b).trans (h.1 r a b), fun j a => (h2.2 j a).trans (h.2 j a)⟩
theorem BP.rp {D E : z_Dat} (h : RP D E) : BP D E := ⟨fun r a _ => h.1 r a, h.2⟩
theorem BM.rm {D E : z_Dat} (h : RM D E) : BM D E := ⟨fun r a _ => h.1 r a, h.2⟩
theorem BP.put {i v : Int32} {D : z_Dat} : BP D (F_X10_put 14 3 i v D) := ⟨fun r _ h => put_any r h, fun j _ => by rw [put_any 1 (by decide)]⟩
theorem FA.put {k pl : Nat} {i v : Int32} {D G : z_Dat} (h : FA k pl D G) : FA k pl (F_X10_put 14 3 i v D) G := by
  unfold FA at h ⊢
  rw [put_any 1 (by decide)]
  exact h
set_option maxHeartbeats 1000000 in
theorem book_R {t : Nat → Nat} {N L : Nat} {D0 G0 : z_Dat} {Q : z_Dat → Int32 × z_Dat → Prop} (hN : 2000 < N) (hL : L ≤ 60) (hC0 : RC t L 0 D0 G0) (hB0 : ∀ d, d < 3 → D0 14 d = G0 60 d)
    (hbad : ∀ k pl v D' F', BP D0 D' → BM G0 F' → FA k pl D' F' → z_R (some D') (F_X11_book_J157 N v F') Q)
    (hgood : ∀ k D' F', k ≤ 60 → BP D0 D' → BM G0 F' → OK D' → RC t L 0 D' F' → (∀ d, d < 3 → D' 14 d = F' 60 d) → z_R (F_X0_read_J84 N (nn k) D') (F_X11_book_J157 N (nn k) F') Q) :
    z_R (z_loop (fun kc5 s => F_X0_read_L10 N kc5 s.1 s.2) N (nn 0, D0)) (z_loop (fun kc19 s => F_X11_book_L66 N kc19 s.1 s.2) N (nn 0, G0)) Q := by
  refine z_R_loopA (fun q s u => ∃ k m, m + q = 61 ∧ k ≤ m ∧ k ≤ 60 ∧ s.1 = nn k ∧ u.1 = nn k ∧ BP D0 s.2 ∧ BM G0 u.2 ∧ RC t L m s.2 u.2 ∧ (OK s.2 → ∀ d, d < 3 → s.2 14 d = u.2 60 d)) (fun s E => F_X8_failed s.2 = nn 1 ∧ (∃ k, k ≤ 61 ∧ s.1 = nn k) ∧ E = s.2) ?_ ?_ 61 N N _ _ (by omega) (by omega) ⟨0, 0, by omega, by omega, by omega, rfl, rfl, ⟨fun _ _ _ => rfl, fun _ _ => rfl⟩, ⟨fun _ _ _ => rfl, fun _ _ => rfl⟩, hC0, fun _ => hB0⟩
  · rintro kc ⟨v, E⟩ E' ⟨h1, ⟨k, hk, rfl⟩, rfl⟩
    dsimp only at h1 ⊢
    by_cases h60 : 60 ≤ k
    · simp (disch := omega) only [F_X0_read_L10, F_X0_read_J84, h1, ↓reduceIte, ↓z_letE, ↓z_bdE, nn_l2, nn_add, nn_mul, nn_sub, nn_addM, nn_div, nn_rem, nn_min, nn_max, nn_abs, nn_ltT, nn_ltF, nn_leT, nn_leF, nn_eqT, nn_eqF, nn_eqM, nn_Meq, nn_ltM, nn_Mlt, nn_leM, nn_Mle, z_ix_nn, z_inb_nn, F_at_nn, F_put_nn, Nat.zero_add, Nat.add_zero, z_P_some, z_R_some, z_P_bd]
    · simp (disch := omega) only [F_X0_read_L10, F_X0_read_J84, h1, ↓reduceIte, ↓z_letE, ↓z_bdE, nn_l2, nn_add, nn_mul, nn_sub, nn_addM, nn_div, nn_rem, nn_min, nn_max, nn_abs, nn_ltT, nn_ltF, nn_leT, nn_leF, nn_eqT, nn_eqF, nn_eqM, nn_Meq, nn_ltM, nn_Mlt, nn_leM, nn_Mle, z_ix_nn, z_inb_nn, F_at_nn, F_put_nn, Nat.zero_add, Nat.add_zero, z_P_some, z_R_some, z_P_bd]
  rintro q ⟨v, D⟩ ⟨u, G⟩ kc kc' ⟨k, m, hq, hkm, hk, rfl, rfl, hP, hM, hC, hB⟩ hx ih
  dsimp only at hP hM hC hB ⊢
  by_cases ho : OK D
  rotate_left
  · obtain ⟨f1, f2⟩ := hC.nf ho
    obtain ⟨ka, pl, hA⟩ := hC.fa ho
    by_cases h60 : 60 ≤ k
    · simp (disch := omega) only [F_X0_read_L10, F_X0_read_J84, f1, F_X11_book_L66, f2, ↓reduceIte, ↓z_letE, ↓z_bdE, nn_l2, nn_add, nn_mul, nn_sub, nn_addM, nn_div, nn_rem, nn_min, nn_max, nn_abs, nn_ltT, nn_ltF, nn_leT, nn_leF, nn_eqT, nn_eqF, nn_eqM, nn_Meq, nn_ltM, nn_Mlt, nn_leM, nn_Mle, z_ix_nn, z_inb_nn, F_at_nn, F_put_nn, Nat.zero_add, Nat.add_zero, z_P_some, z_R_some, z_P_bd]
      exact hbad ka pl _ D G hP hM hA
    · simp (disch := omega) only [F_X0_read_L10, F_X0_read_J84, f1, F_X11_book_L66, f2, ↓reduceIte, ↓z_letE, ↓z_bdE, nn_l2, nn_add, nn_mul, nn_sub, nn_addM, nn_div, nn_rem, nn_min, nn_max, nn_abs, nn_ltT, nn_ltF, nn_leT, nn_leF, nn_eqT, nn_eqF, nn_eqM, nn_Meq, nn_ltM, nn_Mlt, nn_leM, nn_Mle, z_ix_nn, z_inb_nn, F_at_nn, F_put_nn, Nat.zero_add, Nat.add_zero, z_P_some, z_R_some, z_P_bd]
      exact hbad ka pl _ D G hP hM hA
  obtain ⟨f1, f2⟩ := hC.ff ho
  obtain ⟨h, F, hmh, hRM, hI, hRC, n1, n2, n3, -, n4⟩ := next_C (N := N) hN hC ho
  have hhL := hI.1.2.1
  have hBF : ∀ d, d < 3 → D 14 d = F 60 d := fun d hd => by rw [hRM.1 60 (by decide)]; exact hB ho d hd
  by_cases hh : h < L
  rotate_left
  · rw [if_neg hh] at n1 n3
    have hg := hgood k D F hk hP (hM.tr (BM.rm hRM)) ho (hRC.le (by omega)) hBF
    by_cases h60 : 60 ≤ k
    · simp (disch := omega) only [F_X0_read_L10, F_X11_book_L66, f2, n3, ↓reduceIte, ↓z_letE, ↓z_bdE, nn_l2, nn_add, nn_mul, nn_sub, nn_addM, nn_div, nn_rem, nn_min, nn_max, nn_abs, nn_ltT, nn_ltF, nn_leT, nn_leF, nn_eqT, nn_eqF, nn_eqM, nn_Meq, nn_ltM, nn_Mlt, nn_leM, nn_Mle, z_ix_nn, z_inb_nn, F_at_nn, F_put_nn, Nat.zero_add, Nat.add_zero, z_P_some, z_R_some, z_P_bd]
      exact hg
    · simp (disch := omega) only [F_X0_read_L10, f1, n1, F_X11_book_L66, f2, n3, ↓reduceIte, ↓z_letE, ↓z_bdE, nn_l2, nn_add, nn_mul, nn_sub, nn_addM, nn_div, nn_rem, nn_min, nn_max, nn_abs, nn_ltT, nn_ltF, nn_leT, nn_leF, nn_eqT, nn_eqF, nn_eqM, nn_Meq, nn_ltM, nn_Mlt, nn_leM, nn_Mle, z_ix_nn, z_inb_nn, F_at_nn, F_put_nn, Nat.zero_add, Nat.add_zero, z_P_some, z_R_some, z_P_bd]
      exact hg
  rw [if_pos hh] at n1 n3
  have htb := (hRC.1.2.1 h (by omega)).1
  have hk60 : k < 60 := by omega
  -- a line that fails
  have bad : ∀ ka pl (a : Int32) (vv : Int32) (E' F' : z_Dat), FA ka pl E' F' → BP D E' → BM F F' → z_R (F_X0_read_J58 N kc (nn k) a E') (F_X11_book_J117 N kc' (nn k) vv F') Q := fun ka pl a vv E' F' hA x1 x2 => by
    obtain ⟨e1, e2⟩ := num_A (N := N) (q := nn 9) hA
    have hA2 : FA ka pl (F_X10_put 14 3 a (nn 0) E') F' := hA.put
    obtain ⟨e3, e4⟩ := sign_A (N := N) (c := 59) hA2
    have e5 := hA.T.2
    have e6 := hx (by omega) (nn (k + 1), F_X10_put 14 3 a (nn 0) E') _ ⟨hA2.T.1, ⟨k + 1, by omega, rfl⟩, rfl⟩
    dsimp only at e6
    simp only [F_X0_read_J58, F_X11_book_J117, nn_l2, e1, e2, e3, e4, e5, e6, ↓z_bdE, ↓z_letE, ↓reduceIte, nn_add]
    exact hbad ka pl _ _ F' (hP.tr (x1.tr BP.put)) ((hM.tr (BM.rm hRM)).tr x2) hA2
  have numr := num_I (N := N) (q := nn 2) (qb := 3) hN hRC.1 hI q3 (by decide)
  have stp : z_R (z_bd (F_X8_needNumber N (nn 2) D) (fun a_20 => if (F_X10_at 14 3 a_20.1 a_20.2) = (-nn 1) then (F_X0_read_J58 N kc (nn k) a_20.1 a_20.2) else (z_let (F_X8_fail (nn 2) (a_20.2 1 4) a_20.2) (fun a_34 => F_X0_read_J58 N kc (nn k) a_20.1 a_34)))) (z_bd (F_X11_readNumber N (nn 0) (nn 2) F) (fun a_35 => if (F_X11_fine a_35.2) = nn 0 then (F_X11_book_J117 N kc' (nn k) a_35.1 a_35.2)
  else (if z_inb a_35.1 3 then (if (a_35.2 60 (z_ix a_35.1)) = (-nn 1) then (F_X11_book_J117 N kc' (nn k) a_35.1 a_35.2)
  else (z_let (F_X11_wrong (nn 2) (nn h) a_35.2) (fun a_51 => F_X11_book_J117 N kc' (nn k) a_35.1 a_51))) else none))) Q := by
    refine z_R_bd (z_R_mono numr (fun a c hac => ?_))
    obtain ⟨a, E1⟩ := a
    obtain ⟨c, F1⟩ := c
    obtain ⟨p1, p2, p3⟩ := hac
    dsimp only at p1 p2 p3 ⊢
    rcases p3 with ⟨v, h', p', rfl, rfl, hv, hh', hI1, hmk⟩ | ⟨ka, hA⟩
    rotate_left
    · have g5 := hA.T.2
      have hfl := fail_A (x := nn 2) (y := E1 1 4) hA
      have hb := bad ka h a c E1 F1 hA (BP.rp p1) (BM.rm p2)
      rw [if_pos g5, hfl, z_letE]
      split
      · exact hb
      · exact hb
    have g5 := hI1.T.2
    have hT1 := hRC.1.keep p1 p2
    have e14 : E1 14 v = F1 60 v := by rw [p1.1 14 (by decide), p2.1 60 (by decide)]; exact hBF v hv
    have ng : ¬ F_X11_fine F1 = nn 0 := by rw [g5]; decide
    have zi : z_inb (nn v) 3 := by rw [z_inb_nn hv (by omega)]; trivial
    rw [if_neg ng, if_pos zi, F_at_nn hv (by decide), z_ix_nn (by omega), e14]
    by_cases hM1 : F1 60 v = -nn 1
    rotate_left
    · rw [if_neg hM1, if_neg hM1, hmk, z_letE, z_letE]
      obtain ⟨a1, a2, a3⟩ := fail_I (k := 2) (pl := h) hI1 (by decide) (by decide) (by omega)
      exact bad 2 h _ _ _ _ a1 ((BP.rp p1).tr (BP.rp a2)) ((BM.rm p2).tr (BM.rm a3))
    rw [if_pos hM1, if_pos hM1]
    unfold F_X0_read_J58 F_X11_book_J117
    refine z_R_bd (z_R_mono (num_C (m := h + 1) hN ⟨hT1, Or.inl ⟨h', p', hh', hI1⟩⟩ q10 (by decide)) (fun a c hac => ?_))
    obtain ⟨a2, E2⟩ := a
    obtain ⟨c2, F2⟩ := c
    obtain ⟨r1, r2, r3, r4⟩ := hac
    dsimp only at r1 r2 r3 r4 ⊢
    rw [z_letE]
    refine z_R_bd (z_R_mono (sign_C (c := 59) hN (r3.put (a := 14) (n := 3) (i := nn v) (v := a2) (by decide) (by decide)) (by decide) (by decide)) (fun E3 F3 hEF => ?_))
    obtain ⟨s1, s2, s3, s4⟩ := hEF
    have hPE : BP D0 E3 := hP.tr ((BP.rp p1).tr ((BP.rp r1).tr (BP.put.tr (BP.rp s1))))
    have hMF : BM G0 F3 := (hM.tr (BM.rm hRM)).tr ((BM.rm p2).tr ((BM.rm r2).tr (BM.rm s2)))
    by_cases ho3 : OK E3
    rotate_left
    · obtain ⟨x1, x2⟩ := s3.nf ho3
      obtain ⟨ka, pl, hA⟩ := s3.fa ho3
      have e6 := hx (by omega) (nn (k + 1), E3) E3 ⟨x1, ⟨k + 1, by omega, rfl⟩, rfl⟩
      have e7 : (nn k + 1 : Int32) = nn (k + 1) := nn_add k 1
      have x2' : F_X11_fine F3 = 0 := x2
      rw [z_letE, e7, e6, if_pos x2']
      exact hbad ka pl _ _ _ hPE hMF hA
    · obtain ⟨x1, x2⟩ := s3.ff ho3
      obtain ⟨o2, s5⟩ := s4 ho3
      rw [OK.put (by decide)] at o2
      obtain ⟨-, r5, v2, v3, rfl, rfl⟩ := r4 o2
      have e7 : (nn k + 1 : Int32) = nn (k + 1) := nn_add k 1
      have ng3 : ¬ F_X11_fine F3 = 0 := by rw [x2]; decide
      rw [z_letE, e7, if_neg ng3, if_pos zi, z_letE, z_letE, z_ix_nn (by omega)]
      have hz : BM F3 (z_up F3 60 v (nn v2)) := ⟨fun r h1 h2 => by rw [z_up_ne h2], fun j hj => by rw [z_up_r (by decide)]⟩
      refine ih (61 - (h + 1)) _ _ (by omega) ⟨k + 1, h + 1, by omega, by omega, by omega, rfl, rfl, hPE, hMF.tr hz, (s5.le (by omega)).upM (Or.inl (by decide)) (by decide), fun _ d hd => ?_⟩
      dsimp only
      rw [s1.1 14 (by decide), F_put_nn hv (by decide)]
      by_cases hdv : d = v
      · rw [hdv, z_up_at rfl rfl, z_up_at rfl rfl]
      · rw [z_up_i hdv, z_up_i hdv, r1.1 14 (by decide), p1.1 14 (by decide), s2.1 60 (by decide), r2.1 60 (by decide), p2.1 60 (by decide)]
        exact hBF d hd
  have hfin : nn (t h) ≠ -nn 1 := fun q => by
    have := congrArg Int32.toInt q
    rw [nn_toInt (by omega), nn_m1v] at this
    omega
  simp (disch := omega) only [F_X0_read_L10, nn_l2, nn_leF, ↓reduceIte, f1, n1, hfin, ↓z_bdE, F_X11_book_L66, f2, n3, ↓z_letE, n4, nn_eqF]
  exact stp
theorem z_R_l' {α α' β : Type} {x : Option α} {f : α → Option α'} {y : Option β} {Q : α' → β → Prop} : z_R (z_bd x f) y Q = z_R x y (fun a b => ∃ c, f a = some c ∧ Q c b) := propext (by
  cases x with
  | none => exact ⟨fun ⟨b, c, h1, _⟩ => (by cases h1), fun ⟨b, c, h1, _⟩ => (by cases h1)⟩
  | some a =>
    constructor
    · rintro ⟨b, c, h1, h2, h3⟩
      exact ⟨a, c, rfl, h2, b, h1, h3⟩
    · rintro ⟨a', c, h1, h2, d, h3, h4⟩
      cases h1
      exact ⟨d, c, h3, h2, h4⟩)
set_option maxHeartbeats 2000000 in
theorem T_book {N o n : Nat} {a1 : Int32} {D : z_Dat} (hN : 2000 < N) (hJ : J o n D) : TOP (F_L_book N a1 D) (F_X11_book N a1) (J o n) := by
  obtain ⟨ho, ns, pe, rv, hB⟩ := id hJ
  obtain ⟨hC, hT, hLR, hBR, hPA, hIM, ⟨⟨fd, hfd, fd1, fd2⟩, htape, hflt⟩, hM⟩ := id hB
  rcases has_bad (a1 := a1) (b := 60) hfd (by decide) fd1 fd2 with ⟨L, hL, hL2, rfl, hhas⟩ | ⟨hhas, hout⟩
  rotate_left
  · refine TOP_t (c := 1) (k := 1) hJ (by decide) (by decide) (by decide) ?_ (fun G hG => ?_)
    · simp (disch := omega) only [F_L_book, F_X10_book, hhas, dem_ok, dem_no, demT_ok, demT_no, z_bt_l, z_bt_r, z_try_l, z_try_r, nl_I, nl_N, nl_IN, nl_NI, may_okU, may_noU, z_up_at, z_up_i, z_up_r, ↓reduceIte, ↓z_letE, ↓z_bdE, nn_l2, nn_add, nn_mul, nn_sub, nn_addM, nn_div, nn_rem, nn_min, nn_max, nn_abs, nn_ltT, nn_ltF, nn_leT, nn_leF, nn_eqT, nn_eqF, nn_eqM, nn_Meq, nn_ltM, nn_Mlt, nn_leM, nn_Mle, z_ix_nn, z_inb_nn, F_at_nn, F_put_nn, Nat.zero_add, Nat.add_zero, z_P_some, z_R_some, z_P_bd]
    · have g2 : G 40 2 = nn fd := by rw [hG 40 (by decide)]; exact fd2
      rcases hout with h | h | h
      · simp (disch := omega) only [F_X11_book, F_X11_book_J28, F_X11_book_J29, h, dem_ok, dem_no, demT_ok, demT_no, z_bt_l, z_bt_r, z_try_l, z_try_r, nl_I, nl_N, nl_IN, nl_NI, may_okU, may_noU, z_up_at, z_up_i, z_up_r, ↓reduceIte, ↓z_letE, ↓z_bdE, nn_l2, nn_add, nn_mul, nn_sub, nn_addM, nn_div, nn_rem, nn_min, nn_max, nn_abs, nn_ltT, nn_ltF, nn_leT, nn_leF, nn_eqT, nn_eqF, nn_eqM, nn_Meq, nn_ltM, nn_Mlt, nn_leM, nn_Mle, z_ix_nn, z_inb_nn, F_at_nn, F_put_nn, Nat.zero_add, Nat.add_zero, z_P_some, z_R_some, z_P_bd]
      · simp (disch := omega) only [F_X11_book, F_X11_book_J28, F_X11_book_J29, g2, h.1, h.2, dem_ok, dem_no, demT_ok, demT_no, z_bt_l, z_bt_r, z_try_l, z_try_r, nl_I, nl_N, nl_IN, nl_NI, may_okU, may_noU, z_up_at, z_up_i, z_up_r, ↓reduceIte, ↓z_letE, ↓z_bdE, nn_l2, nn_add, nn_mul, nn_sub, nn_addM, nn_div, nn_rem, nn_min, nn_max, nn_abs, nn_ltT, nn_ltF, nn_leT, nn_leF, nn_eqT, nn_eqF, nn_eqM, nn_Meq, nn_ltM, nn_Mlt, nn_leM, nn_Mle, z_ix_nn, z_inb_nn, F_at_nn, F_put_nn, Nat.zero_add, Nat.add_zero, z_P_some, z_R_some, z_P_bd]
      · simp (disch := omega) only [F_X11_book, F_X11_book_J28, F_X11_book_J29, g2, h.1, h.2.1, h.2.2, dem_ok, dem_no, demT_ok, demT_no, z_bt_l, z_bt_r, z_try_l, z_try_r, nl_I, nl_N, nl_IN, nl_NI, may_okU, may_noU, z_up_at, z_up_i, z_up_r, ↓reduceIte, ↓z_letE, ↓z_bdE, nn_l2, nn_add, nn_mul, nn_sub, nn_addM, nn_div, nn_rem, nn_min, nn_max, nn_abs, nn_ltT, nn_ltF, nn_leT, nn_leF, nn_eqT, nn_eqF, nn_eqM, nn_Meq, nn_ltM, nn_Mlt, nn_leM, nn_Mle, z_ix_nn, z_inb_nn, F_at_nn, F_put_nn, Nat.zero_add, Nat.add_zero, z_P_some, z_R_some, z_P_bd]
  refine TOP_w (D := D) rfl (fun G hG => ?_)
  obtain ⟨t, E, ht, m1, m2, m3, m4, m5⟩ := begin_C (L := L) hN ⟨⟨fd, hfd, fd1, fd2⟩, htape, hflt⟩ (by omega)
  have g2 : G 40 2 = nn fd := by rw [hG 40 (by decide) (by decide)]; exact fd2
  have hR0 := m5 (z_up G 40 0 (nn 0)) (by rw [z_up_ne (by decide), hG 42 (by decide) (by decide)])
  have hb : F_X11_begins (nn L) (z_up G 40 0 (nn 0)) = z_up (z_up (z_up (z_up (z_up (z_up (z_up G 40 0 (nn 0)) 40 2 (nn 0)) 40 8 (-nn 1)) 40 3 (nn L)) 40 4 (nn 0)) 40 5 (-nn 1)) 40 7 (nn 0) := rfl
  generalize hG1 : F_X11_begins (nn L) (z_up G 40 0 (nn 0)) = G1 at hR0 hb
  obtain ⟨E0, c1, c2, c3⟩ := fill_P (N := N) (r := 14) (n := 3) (v := -nn 1) (D := E) (by omega) (by decide)
  generalize hG2 : z_up (z_up (z_up G1 60 0 (-nn 1)) 60 1 (-nn 1)) 60 2 (-nn 1) = G2
  have hG2' := hG2.symm
  have hR2 : RC t L 0 E0 G2 := by
    rw [hG2']
    exact ((((hR0.cg (c2 1 (by decide)) (c2 2 (by decide)) rfl (fun _ _ _ => rfl)).upM (Or.inl (by decide)) (by decide)).upM (Or.inl (by decide)) (by decide)).upM (Or.inl (by decide)) (by decide))
  have hB0 : ∀ d, d < 3 → E0 14 d = G2 60 d := fun d hd => by
    rw [c3 d hd, hG2']
    rcases (show d = 0 ∨ d = 1 ∨ d = 2 by omega) with rfl | rfl | rfl
    · simp (disch := omega) only [z_up_i, z_up_at]
    · simp (disch := omega) only [z_up_i, z_up_at]
    · simp (disch := omega) only [z_up_at]
  have hX0 : F_X10_book N (nn L) D = z_bd (z_loop (fun kc5 s => F_X0_read_L10 N kc5 s.1 s.2) N (nn 0, E0)) (fun a_7 => if (F_X8_failed a_7) = nn 0 then (some (.inl (a_7 12 2, a_7))) else (some (.inl (F_X8_verdict a_7, a_7)))) := by
    simp (disch := omega) only [F_X10_book, hhas, m1, F_X0_read, c1, dem_ok, dem_no, demT_ok, demT_no, z_bt_l, z_bt_r, z_try_l, z_try_r, nl_I, nl_N, nl_IN, nl_NI, may_okU, may_noU, z_up_at, z_up_i, z_up_r, ↓reduceIte, ↓z_letE, ↓z_bdE, nn_l2, nn_add, nn_mul, nn_sub, nn_addM, nn_div, nn_rem, nn_min, nn_max, nn_abs, nn_ltT, nn_ltF, nn_leT, nn_leF, nn_eqT, nn_eqF, nn_eqM, nn_Meq, nn_ltM, nn_Mlt, nn_leM, nn_Mle, z_ix_nn, z_inb_nn, F_at_nn, F_put_nn, Nat.zero_add, Nat.add_zero, z_P_some, z_R_some, z_P_bd]
  have hM0 : F_X11_book N (nn L) G = z_loop (fun kc19 s => F_X11_book_L66 N kc19 s.1 s.2) N (nn 0, G2) := by
    simp (disch := omega) only [F_X11_book, F_X11_book_J29x, F_X11_book_J46xxx, F_X11_book_J46xx, F_X11_book_J46x, F_X11_book_J46, g2, dem_ok, dem_no, demT_ok, demT_no, z_bt_l, z_bt_r, z_try_l, z_try_r, nl_I, nl_N, nl_IN, nl_NI, may_okU, may_noU, z_up_at, z_up_i, z_up_r, ↓reduceIte, ↓z_letE, ↓z_bdE, nn_l2, nn_add, nn_mul, nn_sub, nn_addM, nn_div, nn_rem, nn_min, nn_max, nn_abs, nn_ltT, nn_ltF, nn_leT, nn_leF, nn_eqT, nn_eqF, nn_eqM, nn_Meq, nn_ltM, nn_Mlt, nn_leM, nn_Mle, z_ix_nn, z_inb_nn, F_at_nn, F_put_nn, Nat.zero_add, Nat.add_zero, z_P_some, z_R_some, z_P_bd]
    rw [hG1, hG2]
  rw [hX0, hM0, z_R_l']
  have hE0 : ∀ P, BP E0 P → (∀ r, r ≠ 1 → r ≠ 14 → P r = D r) ∧ P 1 1 = nn 0 := fun P hP => ⟨fun r h1 h2 => by rw [hP.1 r h1 h2, c2 r h2, m2 r h1], by rw [hP.2 1 (by decide), c2 1 (by decide)]; exact m3⟩
  have hF0 : ∀ F, BM G2 F → (∀ r, r ≠ 40 → r ≠ 60 → F r = G r) ∧ (∀ j, 8 < j → F 40 j = G 40 j) ∧ F 40 0 = nn 0 ∧ F 40 2 = nn 0 := fun F hF => ⟨fun r h1 h2 => by rw [hF.1 r h1 h2, hG2', z_up_ne h2, z_up_ne h2, z_up_ne h2, hb, z_up_ne h1, z_up_ne h1, z_up_ne h1, z_up_ne h1, z_up_ne h1, z_up_ne h1, z_up_ne h1], fun j hj => by
    rw [hF.2 j (by omega), hG2', hb]
    simp (disch := omega) only [z_up_r, z_up_i], by
    rw [hF.2 0 (by omega), hG2', hb]
    simp (disch := omega) only [z_up_r, z_up_i, z_up_at], by
    rw [hF.2 2 (by omega), hG2', hb]
    simp (disch := omega) only [z_up_r, z_up_i, z_up_at]⟩
  -- J again, whatever the book
  have fin : ∀ (P W : z_Dat), (∀ q, (q < 40 ∨ 67 < q) → q ≠ 1 → q ≠ 12 → q ≠ 13 → q ≠ 14 → W q = D q) → (∀ q, 40 < q → q ≤ 66 → q ≠ 60 → q ≠ 61 → W q = D q) → (∀ j, 8 < j → j ≠ 43 → W 40 j = D 40 j) → (∀ d, d < 3 → W 13 d = W 61 d) → W 12 2 = W 40 43 → W 1 1 = nn 0 → W 40 2 = nn 0 → W 1 6 = W 40 8 → J o n W := fun P W wp wm wc b1 b2 x1 x2 x3 => by
    refine ⟨ho, ns, pe, rv, hC.keep (wp _ (by omega) (by omega) (by omega) (by omega) (by omega)) (wp _ (by omega) (by omega) (by omega) (by omega) (by omega)) (wp _ (by omega) (by omega) (by omega) (by omega) (by omega)) (wp _ (by omega) (by omega) (by omega) (by omega) (by omega)) (wc 19 (by decide) (by decide)) (wc 20 (by decide) (by decide)) (wc 21 (by decide) (by decide)) (wm 47 (by decide) (by decide) (by decide) (by decide)) (wm 48 (by decide) (by decide) (by decide) (by decide)), by rw [wp 4 (by decide) (by decide) (by decide) (by decide) (by decide), wm 57 (by decide) (by decide) (by decide) (by decide)]; exact hT, hLR.keep (wp 7 (by decide) (by decide) (by decide) (by decide) (by decide)) (wp 8 (by decide) (by decide) (by decide) (by decide) (by decide)) (wc 28 (by decide) (by decide)) (wm 51 (by decide) (by decide) (by decide) (by decide)) (wm 52 (by decide) (by decide) (by decide) (by decide)), ⟨b1, b2, by rw [wp 29 (by decide) (by decide) (by decide) (by decide) (by decide)]; exact hBR.2.2⟩, ?_, ?_, ⟨⟨0, by omega, x1, x2⟩, fun j hj => ?_, x3⟩, ?_⟩
    · unfold PA; rw [wp 21 (by decide) (by decide) (by decide) (by decide) (by decide), wp 22 (by decide) (by decide) (by decide) (by decide) (by decide), wm 59 (by decide) (by decide) (by decide) (by decide), wc 33 (by decide) (by decide)]; exact hPA
    · unfold IM; rw [wp 21 (by decide) (by decide) (by decide) (by decide) (by decide), wp 23 (by decide) (by decide) (by decide) (by decide) (by decide), wp 24 (by decide) (by decide) (by decide) (by decide) (by decide), wm 66 (by decide) (by decide) (by decide) (by decide), wc 54 (by decide) (by decide)]; exact hIM
    · rw [wp 2 (by decide) (by decide) (by decide) (by decide) (by decide), wm 42 (by decide) (by decide) (by decide) (by decide)]; exact htape j hj
    · unfold MI; rw [wp 0 (by decide) (by decide) (by decide) (by decide) (by decide), wm 41 (by decide) (by decide) (by decide) (by decide), wc 34 (by decide) (by decide)]; exact hM
  have main := book_R (N := N) (Q := fun P c => ∃ r E, (if (F_X8_failed P) = nn 0 then (.inl (P 12 2, P)) else (.inl (F_X8_verdict P, P)) : (Int32 × z_Dat) ⊕ (String × z_Dat)) = .inl (r, E) ∧ (∀ q, 40 ≤ q → q ≤ 66 → E q = D q) ∧ c.1 = r ∧ c.2 40 0 = nn 0 ∧ (∀ q, (q < 40 ∨ 66 < q) → c.2 q = G q) ∧ ((∀ q, (q < 40 ∨ 67 < q) → c.2 q = E q) → J o n c.2)) hN hL2 hR2 hB0 (fun k pl v P F hP hF hA => by
    obtain ⟨k1, k2, k3, k4, k5, k6, k7⟩ := id hA
    have hr : F_X11_book_J157 N v F = some (nn k - nn 10, z_up F 40 8 (nn pl)) := by
      simp (disch := omega) only [F_X11_book_J157, F_X11_result, F_X11_fine, k6, k7, z_up_i, ↓reduceIte, ↓z_letE, ↓z_bdE, nn_l2, nn_add, nn_mul, nn_sub, nn_addM, nn_div, nn_rem, nn_min, nn_max, nn_abs, nn_ltT, nn_ltF, nn_leT, nn_leF, nn_eqT, nn_eqF, nn_eqM, nn_Meq, nn_ltM, nn_Mlt, nn_leM, nn_Mle, z_ix_nn, z_inb_nn, F_at_nn, F_put_nn, Nat.zero_add, Nat.add_zero, z_P_some, z_R_some, z_P_bd]
    have hf := hA.T.1
    obtain ⟨e1, e2⟩ := hE0 P hP
    obtain ⟨y1, y2, y3, y4⟩ := hF0 F hF
    rw [hr, z_R_some]
    refine ⟨_, P, by rw [if_neg (by rw [hf]; decide)], fun q a b => e1 q (by omega) (by omega), ?_, ?_, fun q hq => ?_, fun hW => ?_⟩
    · unfold F_X8_verdict
      rw [k4]
      rfl
    · dsimp only
      rw [z_up_i (by decide)]
      exact y3
    · dsimp only
      rw [z_up_ne (by omega), y1 q (by omega) (by omega)]
    · dsimp only at hW ⊢
      refine fin P _ (fun q h1 h2 h3 h4 h5 => by rw [hW q h1, e1 q h2 h5]) (fun q h1 h2 h3 h4 => by rw [z_up_ne (by omega), y1 q (by omega) h3, hG q (by omega) h2]) (fun j h1 h2 => by rw [z_up_i (by omega), y2 j h1, hG 40 (by decide) (by decide)]) (fun d hd => ?_) ?_ ?_ ?_ ?_
      · rw [hW 13 (by decide), e1 13 (by decide) (by decide), z_up_ne (by decide), y1 61 (by decide) (by decide), hG 61 (by decide) (by decide)]
        exact hBR.1 d hd
      · rw [hW 12 (by decide), e1 12 (by decide) (by decide), z_up_i (by decide), y2 43 (by decide), hG 40 (by decide) (by decide)]
        exact hBR.2.1
      · rw [hW 1 (by decide)]; exact e2
      · rw [z_up_i (by decide)]; exact y4
      · rw [hW 1 (by decide), z_up_at rfl rfl]; exact k5) (fun k P F hk hP hF hok hRC hBB => by
    obtain ⟨h', p', -, hI⟩ := hRC.fi hok
    have f5 := hI.2.2.2.2.2
    have hf := OKf hok
    obtain ⟨e1, e2⟩ := hE0 P hP
    obtain ⟨y1, y2, y3, y4⟩ := hF0 F hF
    obtain ⟨P1, u1, u2, u3, u4⟩ := copy_P (N := N) (r0 := 14) (n0 := 3) (r1 := 13) (n1 := 3) (a := 0) (b := 0) (m := 3) (D := P) (by decide) (by decide) (by decide) (by decide) (by decide) (by omega)
    obtain ⟨Q1, v1, v2, v3, v4⟩ := copies_P (N := N) (r0 := 60) (n0 := 3) (r1 := 61) (n1 := 3) (m := 3) (D := z_up (z_up F 40 8 (-nn 1)) 40 43 (nn k)) (by decide) (by decide) (by decide) (by decide) (by omega)
    have hx : F_X0_read_J84 N (nn k) P = some (z_up P1 12 2 (nn k)) := by simp (disch := omega) only [F_X0_read_J84, hf, u1, ↓reduceIte, ↓z_letE, ↓z_bdE, nn_l2, nn_add, nn_mul, nn_sub, nn_addM, nn_div, nn_rem, nn_min, nn_max, nn_abs, nn_ltT, nn_ltF, nn_leT, nn_leF, nn_eqT, nn_eqF, nn_eqM, nn_Meq, nn_ltM, nn_Mlt, nn_leM, nn_Mle, z_ix_nn, z_inb_nn, F_at_nn, F_put_nn, Nat.zero_add, Nat.add_zero, z_P_some, z_R_some, z_P_bd]
    have hy : F_X11_book_J157 N (nn k) F = some (nn k, Q1) := by simp (disch := omega) only [F_X11_book_J157, F_X11_result, F_X11_fine, f5, z_up_i, v1, ↓reduceIte, ↓z_letE, ↓z_bdE, nn_l2, nn_add, nn_mul, nn_sub, nn_addM, nn_div, nn_rem, nn_min, nn_max, nn_abs, nn_ltT, nn_ltF, nn_leT, nn_leF, nn_eqT, nn_eqF, nn_eqM, nn_Meq, nn_ltM, nn_Mlt, nn_leM, nn_Mle, z_ix_nn, z_inb_nn, F_at_nn, F_put_nn, Nat.zero_add, Nat.add_zero, z_P_some, z_R_some, z_P_bd]
    have hf2 : F_X8_failed (z_up P1 12 2 (nn k)) = nn 0 := by
      unfold F_X8_failed at hf ⊢
      rw [z_up_r (by decide), u2 1 (by decide)]
      exact hf
    rw [hx, hy, z_R_some]
    refine ⟨_, _, by rw [if_pos hf2], fun q a b => by rw [z_up_ne (by omega), u2 q (by omega), e1 q (by omega) (by omega)], ?_, ?_, fun q hq => ?_, fun hW => ?_⟩
    · rw [z_up_at rfl rfl]
    · dsimp only
      rw [v2 40 (by decide), z_up_i (by decide), z_up_i (by decide)]
      exact y3
    · dsimp only
      rw [v2 q (by omega), z_up_ne (by omega), z_up_ne (by omega), y1 q (by omega) (by omega)]
    · dsimp only at hW ⊢
      refine fin P _ (fun q h1 h2 h3 h4 h5 => by rw [hW q h1, z_up_ne h3, u2 q h4, e1 q h2 h5]) (fun q h1 h2 h3 h4 => by rw [v2 q h4, z_up_ne (by omega), z_up_ne (by omega), y1 q (by omega) h3, hG q (by omega) h2]) (fun j h1 h2 => by rw [v2 40 (by decide), z_up_i h2, z_up_i (by omega), y2 j h1, hG 40 (by decide) (by decide)]) (fun d hd => ?_) ?_ ?_ ?_ ?_
      · have := u3 d hd
        rw [Nat.zero_add] at this
        rw [hW 13 (by decide), z_up_r (by decide), this, v3 d hd, z_up_r (by decide), z_up_r (by decide)]
        exact hBB d hd
      · rw [hW 12 (by decide), z_up_at rfl rfl, v2 40 (by decide), z_up_at rfl rfl]
      · rw [hW 1 (by decide), z_up_r (by decide), u2 1 (by decide)]; exact e2
      · rw [v2 40 (by decide), z_up_i (by decide), z_up_i (by decide)]; exact y4
      · rw [hW 1 (by decide), z_up_r (by decide), u2 1 (by decide), v2 40 (by decide), z_up_i (by decide), z_up_at rfl rfl]
        exact hI.2.2.2.1)
  refine z_R_mono main (fun P c hPc => ?_)
  obtain ⟨r, E', h1, h2⟩ := hPc
  by_cases hf : F_X8_failed P = nn 0
  · rw [if_pos hf] at h1
    refine ⟨_, by rw [if_pos hf], r, E', h1, h2⟩
  · rw [if_neg hf] at h1
    refine ⟨_, by rw [if_neg hf], r, E', h1, h2⟩
