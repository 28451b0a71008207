/-! ===== a new city: clause after clause ===== -/
theorem z_R_loopA {σ τ β γ : Type} {body : (σ → Option β) → σ → Option β} {body' : (τ → Option γ) → τ → Option γ} {Q : β → γ → Prop} (I : Nat → σ → τ → Prop) (IL : σ → β → Prop) (hL : ∀ kc s b, IL s b → body kc s = some b)
    (step : ∀ (k : Nat) (s : σ) (t : τ) (kc : σ → Option β) (kc' : τ → Option γ), I k s t → (1 ≤ k → ∀ s' b, IL s' b → kc s' = some b) → (∀ (k' : Nat) (s' : σ) (t' : τ), k' < k → I k' s' t' → z_R (kc s') (kc' t') Q) → z_R (body kc s) (body' kc' t) Q) :
    ∀ (k N N' : Nat) (s : σ) (t : τ), k < N → k < N' → I k s t → z_R (z_loop body N s) (z_loop body' N' t) Q := by
  intro k
  induction k using Nat.strongRecOn with
  | _ k ih =>
    intro N N' s t hN hN' hI
    cases N with
    | zero => omega
    | succ N =>
      cases N' with
      | zero => omega
      | succ N' =>
        refine step k s t (z_loop body N) (z_loop body' N') hI (fun hk s' b hb => ?_) (fun k' s' t' hk ht => ih k' hk N N' s' t' (by omega) (by omega) ht)
        cases N with
        | zero => omega
        | succ N => exact hL _ s' b hb
theorem RC.any {t : Nat → Nat} {L m m' : Nat} {D G : z_Dat} (h : RC t L m D G) (ho : ¬ OK D) : RC t L m' D G := ⟨h.1, Or.inr (h.fa ho)⟩
theorem isRow_e {N c : Nat} (hN : 2000 < N) (hc : c < 1073741824) : F_X11_isRow N (nn c) = some (if c = wcd 3 ∨ c = wcd 4 ∨ c = wcd 5 ∨ c = wcd 6 then nn 1 else nn 0) := by
  have e3 := of_e (N := N) (id := 3) hN (by decide) (by decide)
  have e4 := of_e (N := N) (id := 4) hN (by decide) (by decide)
  have e5 := of_e (N := N) (id := 5) hN (by decide) (by decide)
  have e6 := of_e (N := N) (id := 6) hN (by decide) (by decide)
  have b3 := wcd_b 3 (by decide) (by decide)
  have b4 := wcd_b 4 (by decide) (by decide)
  have b5 := wcd_b 5 (by decide) (by decide)
  have b6 := wcd_b 6 (by decide) (by decide)
  generalize wcd 3 = w3 at *
  generalize wcd 4 = w4 at *
  generalize wcd 5 = w5 at *
  generalize wcd 6 = w6 at *
  by_cases h3 : c = w3
  · simp (disch := omega) only [F_X11_isRow, e3, ↓reduceIte, ↓z_letE, ↓z_bdE, nn_l2, nn_add, nn_mul, nn_sub, nn_addM, nn_div, nn_rem, nn_min, nn_max, nn_abs, nn_ltT, nn_ltF, nn_leT, nn_leF, nn_eqT, nn_eqF, nn_eqM, nn_Meq, nn_ltM, nn_Mlt, nn_leM, nn_Mle, z_ix_nn, z_inb_nn, F_at_nn, F_put_nn, Nat.zero_add, Nat.add_zero, z_P_some, z_R_some, z_P_bd]
    rw [if_pos (Or.inl h3)]
  · by_cases h4 : c = w4
    · simp (disch := omega) only [F_X11_isRow, e3, e4, ↓reduceIte, ↓z_letE, ↓z_bdE, nn_l2, nn_add, nn_mul, nn_sub, nn_addM, nn_div, nn_rem, nn_min, nn_max, nn_abs, nn_ltT, nn_ltF, nn_leT, nn_leF, nn_eqT, nn_eqF, nn_eqM, nn_Meq, nn_ltM, nn_Mlt, nn_leM, nn_Mle, z_ix_nn, z_inb_nn, F_at_nn, F_put_nn, Nat.zero_add, Nat.add_zero, z_P_some, z_R_some, z_P_bd]
      rw [if_pos (Or.inr (Or.inl h4))]
    · by_cases h5 : c = w5
      · simp (disch := omega) only [F_X11_isRow, e3, e4, e5, ↓reduceIte, ↓z_letE, ↓z_bdE, nn_l2, nn_add, nn_mul, nn_sub, nn_addM, nn_div, nn_rem, nn_min, nn_max, nn_abs, nn_ltT, nn_ltF, nn_leT, nn_leF, nn_eqT, nn_eqF, nn_eqM, nn_Meq, nn_ltM, nn_Mlt, nn_leM, nn_Mle, z_ix_nn, z_inb_nn, F_at_nn, F_put_nn, Nat.zero_add, Nat.add_zero, z_P_some, z_R_some, z_P_bd]
        rw [if_pos (Or.inr (Or.inr (Or.inl h5)))]
      · by_cases h6 : c = w6
        · simp (disch := omega) only [F_X11_isRow, e3, e4, e5, e6, ↓reduceIte, ↓z_letE, ↓z_bdE, nn_l2, nn_add, nn_mul, nn_sub, nn_addM, nn_div, nn_rem, nn_min, nn_max, nn_abs, nn_ltT, nn_ltF, nn_leT, nn_leF, nn_eqT, nn_eqF, nn_eqM, nn_Meq, nn_ltM, nn_Mlt, nn_leM, nn_Mle, z_ix_nn, z_inb_nn, F_at_nn, F_put_nn, Nat.zero_add, Nat.add_zero, z_P_some, z_R_some, z_P_bd]
          rw [if_pos (Or.inr (Or.inr (Or.inr h6)))]
        · simp (disch := omega) only [F_X11_isRow, e3, e4, e5, e6, ↓reduceIte, ↓z_letE, ↓z_bdE, nn_l2, nn_add, nn_mul, nn_sub, nn_addM, nn_div, nn_rem, nn_min, nn_max, nn_abs, nn_ltT, nn_ltF, nn_leT, nn_leF, nn_eqT, nn_eqF, nn_eqM, nn_Meq, nn_ltM, nn_Mlt, nn_leM, nn_Mle, z_ix_nn, z_inb_nn, F_at_nn, F_put_nn, Nat.zero_add, Nat.add_zero, z_P_some, z_R_some, z_P_bd]
          rw [if_neg (by omega)]
theorem fail_X {k pl : Nat} {D G : z_Dat} (e5 : D 1 5 = nn 0) (g5 : G 40 5 = -nn 1) (k1 : 1 ≤ k) (k2 : k ≤ 3) (hp : pl ≤ 600) : FA k pl (F_X8_fail (nn k) (nn pl) D) (F_X11_wrong (nn k) (nn pl) G) ∧ RP D (F_X8_fail (nn k) (nn pl) D) ∧ RM G (F_X11_wrong (nn k) (nn pl) G) := by
  have e : F_X8_fail (nn k) (nn pl) D = z_up (z_up D 1 5 (nn k)) 1 6 (nn pl) := by simp (disch := omega) only [F_X8_fail, e5, ↓reduceIte, ↓z_letE, ↓z_bdE, nn_l2, nn_add, nn_mul, nn_sub, nn_addM, nn_div, nn_rem, nn_min, nn_max, nn_abs, nn_ltT, nn_ltF, nn_leT, nn_leF, nn_eqT, nn_eqF, nn_eqM, nn_Meq, nn_ltM, nn_Mlt, nn_leM, nn_Mle, z_ix_nn, z_inb_nn, F_at_nn, F_put_nn, Nat.zero_add, Nat.add_zero, z_P_some, z_R_some, z_P_bd]
  have g : F_X11_wrong (nn k) (nn pl) G = z_up (z_up G 40 5 (nn pl)) 40 6 (nn k) := by simp (disch := omega) only [F_X11_wrong, g5, ↓reduceIte, ↓z_letE, ↓z_bdE, nn_l2, nn_add, nn_mul, nn_sub, nn_addM, nn_div, nn_rem, nn_min, nn_max, nn_abs, nn_ltT, nn_ltF, nn_leT, nn_leF, nn_eqT, nn_eqF, nn_eqM, nn_Meq, nn_ltM, nn_Mlt, nn_leM, nn_Mle, z_ix_nn, z_inb_nn, F_at_nn, F_put_nn, Nat.zero_add, Nat.add_zero, z_P_some, z_R_some, z_P_bd]
  rw [e, g]
  exact ⟨⟨k1, k2, hp, by rw [z_up_i (by decide), z_up_at rfl rfl], by rw [z_up_at rfl rfl], by rw [z_up_i (by decide), z_up_at rfl rfl], by rw [z_up_at rfl rfl]⟩, (RP.rf.up (by decide)).up (by decide), (RM.rf.up (by decide) (by decide)).up (by decide) (by decide)⟩
theorem z_bd_id {α : Type} {x : Option α} : z_bd x (fun a => some a) = x := by cases x <;> rfl
theorem q60 {k : Nat} (h : ¬ k = 60) (hk : k ≤ 60) : k < 60 := by omega
theorem XM.wr {k pl : Nat} {G F : z_Dat} (h : XM G F) (h2 : RM F (F_X11_wrong (nn k) (nn pl) F)) : XM G (F_X11_wrong (nn k) (nn pl) F) := h.tr (XM.rm h2)
set_option maxHeartbeats 2000000 in
theorem city_R {t : Nat → Nat} {N L n : Nat} {D0 G0 : z_Dat} (hN : 2000 < N) (hn : 68 ≤ n) (hC0 : CQ t L 0 n D0 G0) (hT : ∀ E F, XP n D0 E → XM G0 F → CQ t L 0 n E F → (∃ x, F_X11_city_J164 N F = some x)) :
    z_R (F_X1_read N n D0) (z_loop (fun kc14 s => F_X11_city_L44x N kc14 s.1 s.2) N (nn 0, G0)) (fun E x => ∃ F, XP n D0 E ∧ XM G0 F ∧ CQ t L 0 n E F ∧ F_X11_city_J164 N F = some x) := by
  have hL := hC0.1.1.1
  unfold F_X1_read
  refine z_R_loopA (fun q s u => ∃ k m, m + q = 601 ∧ k ≤ 60 ∧ s.1 = nn k ∧ u.1 = nn k ∧ XP n D0 s.2 ∧ XM G0 u.2 ∧ CQ t L m n s.2 u.2) (fun s E => F_X8_failed s.2 = nn 1 ∧ (∃ k, k ≤ 61 ∧ s.1 = nn k) ∧ E = s.2) ?_ ?_ 601 N N _ _ (by omega) (by omega) ⟨0, 0, by omega, by omega, rfl, rfl, XP.rf, XM.rf, hC0⟩
  · rintro kc ⟨v, E⟩ E' ⟨h1, ⟨k, hk, rfl⟩, rfl⟩
    dsimp only at h1 ⊢
    simp (disch := omega) only [F_X1_read_L2, h1, ↓reduceIte, ↓z_letE, ↓z_bdE, nn_l2, nn_add, nn_mul, nn_sub, nn_addM, nn_div, nn_rem, nn_min, nn_max, nn_abs, nn_ltT, nn_ltF, nn_leT, nn_leF, nn_eqT, nn_eqF, nn_eqM, nn_Meq, nn_ltM, nn_Mlt, nn_leM, nn_Mle, z_ix_nn, z_inb_nn, F_at_nn, F_put_nn, Nat.zero_add, Nat.add_zero, z_P_some, z_R_some, z_P_bd]
  rintro q ⟨v, D⟩ ⟨u, G⟩ kc kc' ⟨k, m, hq, hk, rfl, rfl, hXP, hXM, hC, hD⟩ hx ih
  dsimp only at hXP hXM hC hD ⊢
  have fin : ∀ F, XM G0 F → RC t L 0 D F → (OK D → ∃ ns pe rv, CD n ns pe rv D F) → z_R (some D) (F_X11_city_J164 N F) (fun E x => ∃ F, XP n D0 E ∧ XM G0 F ∧ CQ t L 0 n E F ∧ F_X11_city_J164 N F = some x) := fun F f1 f2 f3 => by
    obtain ⟨x, hx⟩ := hT D F hXP f1 ⟨f2, f3⟩
    rw [hx, z_R_some]
    exact ⟨F, hXP, f1, ⟨f2, f3⟩, hx⟩
  by_cases ho : OK D
  rotate_left
  · obtain ⟨h1, h2⟩ := hC.nf ho
    simp (disch := omega) only [F_X1_read_L2, h1, F_X11_city_L44x, h2, ↓reduceIte, ↓z_letE, ↓z_bdE, nn_l2, nn_add, nn_mul, nn_sub, nn_addM, nn_div, nn_rem, nn_min, nn_max, nn_abs, nn_ltT, nn_ltF, nn_leT, nn_leF, nn_eqT, nn_eqF, nn_eqM, nn_Meq, nn_ltM, nn_Mlt, nn_leM, nn_Mle, z_ix_nn, z_inb_nn, F_at_nn, F_put_nn, Nat.zero_add, Nat.add_zero, z_P_some, z_R_some, z_P_bd]
    exact fin G hXM (hC.any ho) hD
  obtain ⟨ns, pe, rv, hCD⟩ := hD ho
  obtain ⟨f1, f2⟩ := hC.ff ho
  obtain ⟨h, F, hmh, hRM, hI, hRC, n1, n2, n3, -, n4⟩ := next_C (N := N) hN hC ho
  have hRP : RP D D := RP.rf
  have hCD1 := hCD.keep hn hRP hRM
  by_cases hh : h < L
  rotate_left
  · rw [if_neg hh] at n1 n3
    simp (disch := omega) only [F_X1_read_L2, f1, n1, F_X11_city_L44x, f2, n3, ↓reduceIte, ↓z_letE, ↓z_bdE, nn_l2, nn_add, nn_mul, nn_sub, nn_addM, nn_div, nn_rem, nn_min, nn_max, nn_abs, nn_ltT, nn_ltF, nn_leT, nn_leF, nn_eqT, nn_eqF, nn_eqM, nn_Meq, nn_ltM, nn_Mlt, nn_leM, nn_Mle, z_ix_nn, z_inb_nn, F_at_nn, F_put_nn, Nat.zero_add, Nat.add_zero, z_P_some, z_R_some, z_P_bd]
    exact fin F (hXM.tr (XM.rm hRM)) (hRC.le (by omega)) (fun _ => ⟨ns, pe, rv, hCD1⟩)
  rw [if_pos hh] at n1 n3
  have htb := (hC.1.2.1 h (by omega)).1
  have hT1 := hRC.1
  obtain ⟨e, e1, e2, e3, e4⟩ := run_D t lt_ L (L - h) h (by omega)
  obtain ⟨r, rfl⟩ : ∃ r, e = h + r := ⟨e - h, by omega⟩
  have hr : LR_ t L h r := ⟨e2, e3, e4⟩
  obtain ⟨⟨c, F2⟩, w1, w2, w3, w4, w5, w6⟩ := word_P (N := N) hN hT1 hI.1 n4 hr
  dsimp only at w2 w3 w4 w5 w6
  subst w2
  have hcb := cdr_b hr
  have hI2 : FI t L h h D F2 := ⟨hI.1, hI.2.1, hI.2.2.1, hI.2.2.2.1, w6, by rw [w4]; exact hI.2.2.2.2.2⟩
  have hT2 : TP t L D F2 := hT1.keep RP.rf w3
  have hXM2 : XM G0 F2 := (hXM.tr (XM.rm hRM)).tr (XM.rm w3)
  have hCD2 := hCD1.keep hn hRP w3
  have row := isRow_e (N := N) hN hcb
  have o3 := of_e (N := N) (id := 3) hN (by decide) (by decide)
  have o4 := of_e (N := N) (id := 4) hN (by decide) (by decide)
  have b3 := wcd_b 3 (by decide) (by decide)
  have b4 := wcd_b 4 (by decide) (by decide)
  have g16 := hCD2.2.2.1.1
  have g17 := hCD2.2.2.1.2.1
  have d5 := hCD.2.1.1
  have d6 := hCD.2.1.2.1
  have bnd := hCD.1
  have hq1 : 1 ≤ q := by omega
  -- a clause that fails: the program goes once more round
  have bad : ∀ (E : z_Dat) (F' : z_Dat), XP n D0 E → XM G0 F' → RC t L 0 E F' → ¬ OK E → z_R (z_bd (F_X8_needSign N (nn 59) E) (fun a_13 => kc (nn (k + 1), a_13))) (F_X11_city_J164 N F') (fun E x => ∃ F, XP n D0 E ∧ XM G0 F ∧ CQ t L 0 n E F ∧ F_X11_city_J164 N F = some x) := fun E F' x1 x2 x3 x4 => by
    obtain ⟨ka, pl, hA⟩ := x3.fa x4
    have hk2 := hx hq1 (nn (k + 1), E) E ⟨hA.T.1, ⟨k + 1, by omega, rfl⟩, rfl⟩
    rw [(sign_A (N := N) (c := 59) hA).1, z_bdE, hk2]
    obtain ⟨x, hx⟩ := hT E F' x1 x2 ⟨x3, fun q => absurd q x4⟩
    rw [hx, z_R_some]
    exact ⟨F', x1, x2, ⟨x3, fun q => absurd q x4⟩, hx⟩
  obtain ⟨⟨a, E⟩, k1, k2⟩ := takes_P (N := N) (w := 0) hN hC.1 hI.2.1 f1 hr (by decide)
  rcases k2 with ⟨j, hj, hW, k3, k4⟩ | ⟨hno, k3⟩
  rotate_left
  · have hn3 := fun j (hj : j < nw 0) => (not_congr (WM_c hr (ws_at 0 (by decide) j hj).2.2.2.1 (ws_at 0 (by decide) j hj).2.2.1)).mp (hno j hj)
    have c3 := hn3 0 (by decide)
    have c4 := hn3 1 (by decide)
    have c5 := hn3 2 (by decide)
    have c6 := hn3 3 (by decide)
    rw [if_neg (fun q => by
      rcases q with q | q | q | q
      · exact c3 q
      · exact c4 q
      · exact c5 q
      · exact c6 q)] at row
    cases k3
    obtain ⟨a1, a2, a3⟩ := fail_I (k := 1) (pl := h) hI2 (by decide) (by decide) (by omega)
    have q2 := a1.T.2
    have rd : F_X1_readClause N n (nn k) D = some (F_X8_fail (nn 1) (nn h) D) := by
      by_cases h60 : 60 ≤ k
      · simp (disch := omega) only [F_X1_readClause, k1, F_X1_readClause_J40, F_X1_readClause_J45, hI.2.1, ↓reduceIte, ↓z_letE, ↓z_bdE, nn_l2, nn_add, nn_mul, nn_sub, nn_addM, nn_div, nn_rem, nn_min, nn_max, nn_abs, nn_ltT, nn_ltF, nn_leT, nn_leF, nn_eqT, nn_eqF, nn_eqM, nn_Meq, nn_ltM, nn_Mlt, nn_leM, nn_Mle, z_ix_nn, z_inb_nn, F_at_nn, F_put_nn, Nat.zero_add, Nat.add_zero, z_P_some, z_R_some, z_P_bd]
      · simp (disch := omega) only [F_X1_readClause, k1, F_X1_readClause_J26, F_X1_readClause_J44, F_X1_readClause_J45x, hI.2.1, ↓reduceIte, ↓z_letE, ↓z_bdE, nn_l2, nn_add, nn_mul, nn_sub, nn_addM, nn_div, nn_rem, nn_min, nn_max, nn_abs, nn_ltT, nn_ltF, nn_leT, nn_leF, nn_eqT, nn_eqF, nn_eqM, nn_Meq, nn_ltM, nn_Mlt, nn_leM, nn_Mle, z_ix_nn, z_inb_nn, F_at_nn, F_put_nn, Nat.zero_add, Nat.add_zero, z_P_some, z_R_some, z_P_bd]
    simp (disch := omega) only [F_X1_read_L2, f1, n1, rd, F_X11_city_L44x, f2, n3, w1, row, w6, F_X11_city_J133x, q2, ↓reduceIte, ↓z_letE, ↓z_bdE, nn_l2, nn_add, nn_mul, nn_sub, nn_addM, nn_div, nn_rem, nn_min, nn_max, nn_abs, nn_ltT, nn_ltF, nn_leT, nn_leF, nn_eqT, nn_eqF, nn_eqM, nn_Meq, nn_ltM, nn_Mlt, nn_leM, nn_Mle, z_ix_nn, z_inb_nn, F_at_nn, F_put_nn, Nat.zero_add, Nat.add_zero, z_P_some, z_R_some, z_P_bd]
    exact bad _ _ (hXP.tr (XP.rp a2)) (hXM2.tr (XM.rm a3)) ⟨hT2.keep a2 a3, Or.inr ⟨1, h, a1⟩⟩ a1.no
  obtain ⟨j1, j2, j3, j4, j5, j6, j7, -⟩ := ws_at 0 (by decide) j hj
  have hcode := (WM_c hr j4 j3).mp hW
  obtain ⟨E', p1, p2, p3, p4, p5, h', p6, p7, p8, p9, p10⟩ := pass_P (m := r) hN hC.1 hI.2.1 e2
  dsimp only at k3 k4
  rw [k4] at p1
  cases p1
  subst k3
  have hr3 : 3 ≤ r := by rw [hW.1, j5]; exact j6
  have hE5 : E 1 5 = nn 0 := by rw [p3]; exact hI.2.2.1
  have hE6 : E 1 6 = -nn 1 := by rw [p4]; exact hI.2.2.2.1
  have hF5 : F2 40 5 = -nn 1 := hI2.2.2.2.2.2
  have dE5 : E n 5 = nn ns := by rw [p2.1 n (by omega)]; exact d5
  have dE6 : E n 6 = nn pe := by rw [p2.1 n (by omega)]; exact d6
  have hXP2 : XP n D0 E := hXP.tr (XP.rp p2)
  obtain ⟨F3, y1, y2, y3, y4, y5⟩ := mpass_P (N := N) hN hT2 w6 hr
  have hI3 : FI t L h' (h + r) E F3 := ⟨⟨p6, p7, p8, p9⟩, p10, hE5, hE6, y5, by rw [y3]; exact hF5⟩
  have hC3 : RC t L (h + 1) E F3 := ⟨hT2.keep p2 y2, Or.inl ⟨h', h + r, by omega, hI3⟩⟩
  have hCD3 : CD n ns pe rv E F3 := hCD2.keep hn p2 y2
  have hXM3 : XM G0 F3 := hXM2.tr (XM.rm y2)
  -- too many
  obtain ⟨a1, a2, a3⟩ := fail_X (k := 3) (pl := h) hE5 hF5 (by decide) (by decide) (by omega)
  have aq2 := a1.T.2
  have many := bad _ _ (hXP2.tr (XP.rp a2)) (hXM2.tr (XM.rm a3)) ⟨hT2.keep (p2.tr a2) a3, Or.inr ⟨3, h, a1⟩⟩ a1.no
  have fF2 := hI2.T.2
  have fwd : k < 60 → z_R (F_X1_readRest N n (nn j) E) (F_X11_readRow N (nn (cdr t h r)) F3) (fun E' F' => XP n E E' ∧ XM F3 F' ∧ CQ t L (h + 1) n E' F') → z_R (z_bd (F_X1_readRest N n (nn j) E) (fun a_11 => z_bd (F_X8_needSign N (nn 59) a_11) (fun a_13 => kc (nn (k + 1), a_13)))) (z_bd (F_X11_readRow N (nn (cdr t h r)) F3) (fun a_95 => z_bd (F_X11_sign N (nn 59) a_95) (fun a_97 => kc' (nn (k + 1), a_97)))) (fun E x => ∃ F, XP n D0 E ∧ XM G0 F ∧ CQ t L 0 n E F ∧ F_X11_city_J164 N F = some x) := fun hk6 hR => by
    refine z_R_bd (z_R_mono hR (fun E1 F1 hEF => ?_))
    obtain ⟨v1, v2, v3, v4⟩ := hEF
    refine z_R_bd (z_R_mono (sign_C hN v3 (by decide) (by decide)) (fun E2 F4 hEF => ?_))
    obtain ⟨z1, z2, z3, z4⟩ := hEF
    refine ih (601 - (h + 1)) _ _ (by omega) ⟨k + 1, h + 1, by omega, by omega, rfl, rfl, (hXP2.tr v1).tr (XP.rp z1), (hXM3.tr v2).tr (XM.rm z2), z3, fun q => ?_⟩
    obtain ⟨o1, -⟩ := z4 q
    obtain ⟨ns', pe', rv', v5⟩ := v4 o1
    exact ⟨ns', pe', rv', v5.keep hn z1 z2⟩
  rw [if_pos (by
    have hj4 : j < 4 := hj
    rcases (show j = 0 ∨ j = 1 ∨ j = 2 ∨ j = 3 by omega) with rfl | rfl | rfl | rfl
    · exact Or.inl hcode
    · exact Or.inr (Or.inl hcode)
    · exact Or.inr (Or.inr (Or.inl hcode))
    · exact Or.inr (Or.inr (Or.inr hcode)))] at row
  have hj4 : j < 4 := hj
  by_cases h60 : k = 60
  · subst h60
    have rd : F_X1_readClause N n (nn 60) D = some (F_X8_fail (nn 3) (nn h) E) := by
      simp (disch := omega) only [F_X1_readClause, k1, F_X1_readClause_J40, F_X1_readClause_J45, p5, ↓reduceIte, ↓z_letE, ↓z_bdE, nn_l2, nn_add, nn_mul, nn_sub, nn_addM, nn_div, nn_rem, nn_min, nn_max, nn_abs, nn_ltT, nn_ltF, nn_leT, nn_leF, nn_eqT, nn_eqF, nn_eqM, nn_Meq, nn_ltM, nn_Mlt, nn_leM, nn_Mle, z_ix_nn, z_inb_nn, F_at_nn, F_put_nn, Nat.zero_add, Nat.add_zero, z_P_some, z_R_some, z_P_bd]
    simp (disch := omega) only [F_X1_read_L2, f1, n1, rd, F_X11_city_L44x, f2, n3, w1, row, w6, F_X11_city_J124x, F_X11_city_J133x, aq2, ↓reduceIte, ↓z_letE, ↓z_bdE, nn_l2, nn_add, nn_mul, nn_sub, nn_addM, nn_div, nn_rem, nn_min, nn_max, nn_abs, nn_ltT, nn_ltF, nn_leT, nn_leF, nn_eqT, nn_eqF, nn_eqM, nn_Meq, nn_ltM, nn_Mlt, nn_leM, nn_Mle, z_ix_nn, z_inb_nn, F_at_nn, F_put_nn, Nat.zero_add, Nat.add_zero, z_P_some, z_R_some, z_P_bd]
    exact many
  have hk6 := q60 h60 hk
  have e43 : (wcd 4 = wcd 3) = False := eq_false (by decide +kernel)
  have e53 : (wcd 5 = wcd 3) = False := eq_false (by decide +kernel)
  have e54 : (wcd 5 = wcd 4) = False := eq_false (by decide +kernel)
  have e63 : (wcd 6 = wcd 3) = False := eq_false (by decide +kernel)
  have e64 : (wcd 6 = wcd 4) = False := eq_false (by decide +kernel)
  have e34 : (wcd 3 = wcd 4) = False := eq_false (by decide +kernel)
  have x4 : ∀ x, (nn x = nn x) = True := fun x => eq_true rfl
  have b5 := wcd_b 5 (by decide) (by decide)
  have b6 := wcd_b 6 (by decide) (by decide)
  rcases (show j = 0 ∨ j = 1 ∨ j = 2 ∨ j = 3 by omega) with rfl | rfl | rfl | rfl
  · have hcode : cdr t h r = wcd 3 := hcode
    by_cases h6 : ns = 6
    · subst h6
      have rd : F_X1_readClause N n (nn k) D = some (F_X8_fail (nn 3) (nn h) E) := by
        simp (disch := omega) only [F_X1_readClause, k1, F_X1_readClause_J40, F_X1_readClause_J45, p5, dE5, ↓reduceIte, ↓z_letE, ↓z_bdE, nn_l2, nn_add, nn_mul, nn_sub, nn_addM, nn_div, nn_rem, nn_min, nn_max, nn_abs, nn_ltT, nn_ltF, nn_leT, nn_leF, nn_eqT, nn_eqF, nn_eqM, nn_Meq, nn_ltM, nn_Mlt, nn_leM, nn_Mle, z_ix_nn, z_inb_nn, F_at_nn, F_put_nn, Nat.zero_add, Nat.add_zero, z_P_some, z_R_some, z_P_bd]
      rw [hcode] at w1 row
      simp (maxSteps := 2000000) (disch := omega) only [F_X1_read_L2, nn_l2, ↓reduceIte, nn_leT, nn_leF, ↓z_bdE, ↓z_letE, f1, n1, rd, F_X11_city_L44x, f2, n3, w1, row, w6, F_X11_city_J124x, F_X11_city_J133x, aq2, nn_eqF, nn_eqT, o3, x4, g16, nn_eqM, nn_add]
      exact many
    · have rd : F_X1_readClause N n (nn k) D = F_X1_readRest N n (nn 0) E := by
        simp (disch := omega) only [F_X1_readClause, k1, F_X1_readClause_J26, F_X1_readClause_J44, F_X1_readClause_J45x, dE5, dE6, z_bd_id, ↓reduceIte, ↓z_letE, ↓z_bdE, nn_l2, nn_add, nn_mul, nn_sub, nn_addM, nn_div, nn_rem, nn_min, nn_max, nn_abs, nn_ltT, nn_ltF, nn_leT, nn_leF, nn_eqT, nn_eqF, nn_eqM, nn_Meq, nn_ltM, nn_Mlt, nn_leM, nn_Mle, z_ix_nn, z_inb_nn, F_at_nn, F_put_nn, Nat.zero_add, Nat.add_zero, z_P_some, z_R_some, z_P_bd]
      have hR := street_R hN hn hC3 hCD3 (by omega)
      have hf := fwd hk6 (by rw [hcode]; exact hR)
      rw [hcode] at w1 row hf
      simp (maxSteps := 2000000) (disch := omega) only [F_X1_read_L2, nn_l2, ↓reduceIte, nn_leT, nn_leF, ↓z_bdE, ↓z_letE, f1, n1, rd, F_X11_city_L44x, f2, n3, w1, row, F_X11_city_J106x, F_X11_city_J133x, fF2, nn_eqF, nn_eqT, o3, o4, x4, e34, nn_eq, g16, y1, nn_eqM, nn_add]
      exact hf
  · have hcode : cdr t h r = wcd 4 := hcode
    by_cases h8 : pe = 8
    · subst h8
      have rd : F_X1_readClause N n (nn k) D = some (F_X8_fail (nn 3) (nn h) E) := by
        simp (disch := omega) only [F_X1_readClause, k1, F_X1_readClause_J26, F_X1_readClause_J40, F_X1_readClause_J45, p5, dE5, dE6, ↓reduceIte, ↓z_letE, ↓z_bdE, nn_l2, nn_add, nn_mul, nn_sub, nn_addM, nn_div, nn_rem, nn_min, nn_max, nn_abs, nn_ltT, nn_ltF, nn_leT, nn_leF, nn_eqT, nn_eqF, nn_eqM, nn_Meq, nn_ltM, nn_Mlt, nn_leM, nn_Mle, z_ix_nn, z_inb_nn, F_at_nn, F_put_nn, Nat.zero_add, Nat.add_zero, z_P_some, z_R_some, z_P_bd]
      rw [hcode] at w1 row
      simp (maxSteps := 2000000) (disch := omega) only [F_X1_read_L2, nn_l2, ↓reduceIte, nn_leT, nn_leF, ↓z_bdE, ↓z_letE, f1, n1, rd, F_X11_city_L44x, f2, n3, w1, row, w6, F_X11_city_J106x, F_X11_city_J124x, F_X11_city_J133x, aq2, nn_eqF, nn_eqT, o3, o4, x4, e43, nn_eq, g17, nn_eqM, nn_add]
      exact many
    · have rd : F_X1_readClause N n (nn k) D = F_X1_readRest N n (nn 1) E := by
        simp (disch := omega) only [F_X1_readClause, k1, F_X1_readClause_J26, F_X1_readClause_J44, F_X1_readClause_J45x, dE5, dE6, z_bd_id, ↓reduceIte, ↓z_letE, ↓z_bdE, nn_l2, nn_add, nn_mul, nn_sub, nn_addM, nn_div, nn_rem, nn_min, nn_max, nn_abs, nn_ltT, nn_ltF, nn_leT, nn_leF, nn_eqT, nn_eqF, nn_eqM, nn_Meq, nn_ltM, nn_Mlt, nn_leM, nn_Mle, z_ix_nn, z_inb_nn, F_at_nn, F_put_nn, Nat.zero_add, Nat.add_zero, z_P_some, z_R_some, z_P_bd]
      have hR := person_R hN hn hC3 hCD3 (by omega)
      have hf := fwd hk6 (by rw [hcode]; exact hR)
      rw [hcode] at w1 row hf
      simp (maxSteps := 2000000) (disch := omega) only [F_X1_read_L2, nn_l2, ↓reduceIte, nn_leT, nn_leF, ↓z_bdE, ↓z_letE, f1, n1, rd, F_X11_city_L44x, f2, n3, w1, row, F_X11_city_J106x, F_X11_city_J133x, fF2, nn_eqF, nn_eqT, o3, o4, x4, e43, nn_eq, g17, y1, nn_eqM, nn_add]
      exact hf
  · have hcode : cdr t h r = wcd 5 := hcode
    have rd : F_X1_readClause N n (nn k) D = F_X1_readRest N n (nn 2) E := by
      simp (disch := omega) only [F_X1_readClause, k1, F_X1_readClause_J26, F_X1_readClause_J44, F_X1_readClause_J45x, dE5, dE6, z_bd_id, ↓reduceIte, ↓z_letE, ↓z_bdE, nn_l2, nn_add, nn_mul, nn_sub, nn_addM, nn_div, nn_rem, nn_min, nn_max, nn_abs, nn_ltT, nn_ltF, nn_leT, nn_leF, nn_eqT, nn_eqF, nn_eqM, nn_Meq, nn_ltM, nn_Mlt, nn_leM, nn_Mle, z_ix_nn, z_inb_nn, F_at_nn, F_put_nn, Nat.zero_add, Nat.add_zero, z_P_some, z_R_some, z_P_bd]
    have hR := stock_R hN hn hC3 hCD3
    have hf := fwd hk6 (by rw [hcode]; exact hR)
    rw [hcode] at w1 row hf
    simp (maxSteps := 2000000) (disch := omega) only [F_X1_read_L2, nn_l2, ↓reduceIte, nn_leT, nn_leF, ↓z_bdE, ↓z_letE, f1, n1, rd, F_X11_city_L44x, f2, n3, w1, row, F_X11_city_J106x, F_X11_city_J133x, fF2, nn_eqF, nn_eqT, o3, o4, x4, e53, e54, nn_eq, y1, nn_eqM, nn_add]
    exact hf
  · have hcode : cdr t h r = wcd 6 := hcode
    have rd : F_X1_readClause N n (nn k) D = F_X1_readRest N n (nn 3) E := by
      simp (disch := omega) only [F_X1_readClause, k1, F_X1_readClause_J26, F_X1_readClause_J44, F_X1_readClause_J45x, dE5, dE6, z_bd_id, ↓reduceIte, ↓z_letE, ↓z_bdE, nn_l2, nn_add, nn_mul, nn_sub, nn_addM, nn_div, nn_rem, nn_min, nn_max, nn_abs, nn_ltT, nn_ltF, nn_leT, nn_leF, nn_eqT, nn_eqF, nn_eqM, nn_Meq, nn_ltM, nn_Mlt, nn_leM, nn_Mle, z_ix_nn, z_inb_nn, F_at_nn, F_put_nn, Nat.zero_add, Nat.add_zero, z_P_some, z_R_some, z_P_bd]
    have hR := river_R hN hn hC3 hCD3
    have hf := fwd hk6 (by rw [hcode]; exact hR)
    rw [hcode] at w1 row hf
    simp (maxSteps := 2000000) (disch := omega) only [F_X1_read_L2, nn_l2, ↓reduceIte, nn_leT, nn_leF, ↓z_bdE, ↓z_letE, f1, n1, rd, F_X11_city_L44x, f2, n3, w1, row, F_X11_city_J106x, F_X11_city_J133x, fF2, nn_eqF, nn_eqT, o3, o4, x4, e63, e64, nn_eq, y1, nn_eqM, nn_add]
    exact hf
