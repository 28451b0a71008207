/-! ===== reading a law: entries, what both have drafted ===== -/
def LPq (D E : z_Dat) : Prop := (∀ r, r ≠ 1 → r ≠ 7 → r ≠ 9 → E r = D r) ∧ (∀ j, j < 3 → E 1 j = D 1 j) ∧ ∀ j, j ≠ 5 → E 7 j = D 7 j
def LMq (G F : z_Dat) : Prop := (∀ r, r ≠ 40 → r ≠ 49 → r ≠ 50 → F r = G r) ∧ ∀ j, (j < 4 ∨ (7 < j ∧ j ≠ 27)) → F 40 j = G 40 j
theorem LPq.rf {D : z_Dat} : LPq D D := ⟨fun _ _ _ _ => rfl, fun _ _ => rfl, fun _ _ => rfl⟩
theorem LMq.rf {D : z_Dat} : LMq D D := ⟨fun _ _ _ _ => rfl, fun _ _ => rfl⟩
theorem LPq.tr {D E F : z_Dat} (h : LPq D E) (h2 : LPq E F) : LPq D F := ⟨fun r a b c => (h2.1 r a b c).trans (h.1 r a b c), fun j a => (h2.2.1 j a).trans (h.2.1 j a), fun j a => (h2.2.2 j a).trans (h.2.2 j a)⟩
theorem LMq.tr {D E F : z_Dat} (h : LMq D E) (h2 : LMq E F) : LMq D F := ⟨fun r a b c => (h2.1 r a b c).trans (h.1 r a b c), fun j a => (h2.2 j a).trans (h.2 j a)⟩
theorem LPq.rp {D E : z_Dat} (h : RP D E) : LPq D E := ⟨fun r a _ _ => h.1 r a, h.2, fun j _ => by rw [h.1 7 (by decide)]⟩
theorem LMq.rm {D E : z_Dat} (h : RM D E) : LMq D E := ⟨fun r a _ _ => h.1 r a, fun j hj => h.2 j (by omega)⟩
def ENd (D G : z_Dat) (dep : Nat → Nat) (k : Nat) : Prop :=
  (∃ v, v < 1000 ∧ D 9 k = nn v ∧ G 49 k = nn 0 ∧ G 50 k = nn v ∧ dep (k + 1) = dep k + 1) ∨ (∃ f, f < 9 ∧ D 9 k = nn (1000 + f) ∧ G 49 k = nn 1 ∧ G 50 k = nn f ∧ dep (k + 1) = dep k + 1) ∨ (∃ c, c < 6 ∧ D 9 k = nn (2000 + c) ∧ G 49 k = nn (opm c) ∧ 2 ≤ dep k ∧ dep (k + 1) = dep k - 1)
def DRf (nd x : Nat) (D G : z_Dat) : Prop := ∃ dep : Nat → Nat, dep 0 = 0 ∧ dep nd = x ∧ ∀ k, k < nd → ENd D G dep k
theorem DRf.keep {nd x : Nat} {D G E F : z_Dat} (h : DRf nd x D G) (h1 : E 9 = D 9) (h2 : F 49 = G 49) (h3 : F 50 = G 50) : DRf nd x E F := by
  obtain ⟨dep, a, b, c⟩ := h
  refine ⟨dep, a, b, fun k hk => ?_⟩
  unfold ENd
  rw [h1, h2, h3]
  exact c k hk
def LSm (t : Nat → Nat) (L m e op x : Nat) (D G : z_Dat) : Prop := RC t L m D G ∧ (OK D → ∃ nd, nd + e ≤ m ∧ D 7 5 = nn nd ∧ G 40 27 = nn nd ∧ G 40 7 = nn op ∧ DRf nd x D G)
theorem LSm.any {t : Nat → Nat} {L m m' e e' op op' x x' : Nat} {D G : z_Dat} (h : LSm t L m e op x D G) (ho : ¬ OK D) : LSm t L m' e' op' x' D G := ⟨h.1.any ho, fun q => absurd q ho⟩
theorem LSm.no {t : Nat → Nat} {L m m' e op x : Nat} {D G : z_Dat} (h : RC t L m D G) (ho : ¬ OK D) : LSm t L m' e op x D G := ⟨h.any ho, fun q => absurd q ho⟩
theorem LSm.cap {t : Nat → Nat} {L m e op x : Nat} {D G : z_Dat} (h : LSm t L m e op x D G) (hL : L ≤ 150) : LSm t L (min m 150) e op x D G := by
  by_cases ho : OK D
  · obtain ⟨h', p, h1, hI⟩ := h.1.fi ho
    have h2 := hI.1.2.1
    have e : min m 150 = m := by omega
    rw [e]
    exact h
  · exact h.any ho
/-- what both pass over keeps the drafts -/
theorem LSm.rp {t : Nat → Nat} {L m m2 d e op x : Nat} {D G E F : z_Dat} (h : LSm t L m e op x D G) (h1 : RP D E) (h2 : RM G F) (h3 : RC t L m2 E F) (h4 : OK E → OK D ∧ m + d ≤ m2) : LSm t L m2 (e + d) op x E F := ⟨h3, fun q => by
  obtain ⟨q1, q2⟩ := h4 q
  obtain ⟨nd, a, b, c, d, f⟩ := h.2 q1
  exact ⟨nd, by omega, by rw [h1.1 7 (by decide)]; exact b, by rw [h2.2 27 (by omega)]; exact c, by rw [h2.2 7 (by omega)]; exact d, f.keep (h1.1 9 (by decide)) (h2.1 49 (by decide)) (h2.1 50 (by decide))⟩⟩
def EK (a c v : Int32) (x x' : Nat) : Prop := (∃ w, w < 1000 ∧ a = nn w ∧ c = nn 0 ∧ v = nn w ∧ x' = x + 1) ∨ (∃ f, f < 9 ∧ a = nn (1000 + f) ∧ c = nn 1 ∧ v = nn f ∧ x' = x + 1) ∨ (∃ s, s < 6 ∧ a = nn (2000 + s) ∧ c = nn (opm s) ∧ 2 ≤ x ∧ x' = x - 1)
theorem put_row {r n : Nat} {i v : Int32} {D : z_Dat} : ∀ r', r' ≠ r → F_X10_put r n i v D r' = D r' := put_any
theorem write_r {a : Int32} {D : z_Dat} : (∀ r, r ≠ 7 → r ≠ 9 → F_X5_write a D r = D r) ∧ ∀ j, j ≠ 5 → F_X5_write a D 7 j = D 7 j := by
  unfold F_X5_write
  refine ⟨fun r h7 h9 => ?_, fun j hj => ?_⟩
  · show z_up (F_X10_put 9 150 (D 7 5) a D) 7 5 _ r = _
    rw [z_up_ne h7, put_any r h9]
  · show z_up (F_X10_put 9 150 (D 7 5) a D) 7 5 _ 7 j = _
    rw [z_up_i hj, put_any 7 (by decide)]
theorem write_LP {a : Int32} {D : z_Dat} : LPq D (F_X5_write a D) := ⟨fun r _ h7 h9 => write_r.1 r h7 h9, fun j _ => by rw [write_r.1 1 (by decide) (by decide)], write_r.2⟩
theorem write_OK {a : Int32} {D : z_Dat} : OK (F_X5_write a D) ↔ OK D := by
  unfold OK
  rw [write_r.1 1 (by decide) (by decide)]
theorem emit_C {t : Nat → Nat} {L m e op x x' : Nat} {a c v : Int32} {D G : z_Dat} (hL : L ≤ 150) (h : LSm t L m (e + 1) op x D G) (hE : OK D → EK a c v x x') : ∃ F, F_X11_emit c v G = some F ∧ LMq G F ∧ LSm t L m e op x' (F_X5_write a D) F := by
  by_cases ho : OK D
  rotate_left
  · have hf := (h.1.nf ho).2
    refine ⟨G, by simp (disch := omega) only [F_X11_emit, hf, ↓reduceIte, ↓z_letE, ↓z_bdE, nn_l2, nn_add, nn_mul, nn_sub, nn_addM, nn_div, nn_rem, nn_min, nn_max, nn_abs, nn_ltT, nn_ltF, nn_leT, nn_leF, nn_eqT, nn_eqF, nn_eqM, nn_Meq, nn_ltM, nn_Mlt, nn_leM, nn_Mle, z_ix_nn, z_inb_nn, F_at_nn, F_put_nn, Nat.zero_add, Nat.add_zero, z_P_some, z_R_some, z_P_bd], LMq.rf, LSm.no (m := m) (h.1.cg (write_r.1 1 (by decide) (by decide)) (write_r.1 2 (by decide) (by decide)) rfl (fun _ _ _ => rfl)) (fun q => ho (write_OK.mp q))⟩
  have hf := (h.1.ff ho).2
  obtain ⟨nd, h1, h2, h3, h4, dep, d0, dn, dk⟩ := h.2 ho
  obtain ⟨h', p, hm, hI⟩ := h.1.fi ho
  have hhL := hI.1.2.1
  have hw : F_X5_write a D = z_up (z_up D 9 nd a) 7 5 (nn (nd + 1)) := by simp (disch := omega) only [F_X5_write, h2, z_up_r, ↓reduceIte, ↓z_letE, ↓z_bdE, nn_l2, nn_add, nn_mul, nn_sub, nn_addM, nn_div, nn_rem, nn_min, nn_max, nn_abs, nn_ltT, nn_ltF, nn_leT, nn_leF, nn_eqT, nn_eqF, nn_eqM, nn_Meq, nn_ltM, nn_Mlt, nn_leM, nn_Mle, z_ix_nn, z_inb_nn, F_at_nn, F_put_nn, Nat.zero_add, Nat.add_zero, z_P_some, z_R_some, z_P_bd]
  refine ⟨z_up (z_up (z_up G 49 nd c) 50 nd v) 40 27 (nn (nd + 1)), by simp (disch := omega) only [F_X11_emit, hf, h3, z_up_r, ↓reduceIte, ↓z_letE, ↓z_bdE, nn_l2, nn_add, nn_mul, nn_sub, nn_addM, nn_div, nn_rem, nn_min, nn_max, nn_abs, nn_ltT, nn_ltF, nn_leT, nn_leF, nn_eqT, nn_eqF, nn_eqM, nn_Meq, nn_ltM, nn_Mlt, nn_leM, nn_Mle, z_ix_nn, z_inb_nn, F_at_nn, F_put_nn, Nat.zero_add, Nat.add_zero, z_P_some, z_R_some, z_P_bd], ⟨fun r a b c => by rw [z_up_ne a, z_up_ne c, z_up_ne b], fun j hj => by rw [z_up_i (by omega), z_up_r (by decide), z_up_r (by decide)]⟩, ?_, fun _ => ⟨nd + 1, by omega, ?_, ?_, ?_, fun k => if k = nd + 1 then x' else dep k, ?_, ?_, fun k hk => ?_⟩⟩
  · exact h.1.cg (write_r.1 1 (by decide) (by decide)) (write_r.1 2 (by decide) (by decide)) (by rw [z_up_ne (by decide), z_up_ne (by decide), z_up_ne (by decide)]) (fun j a b => by rw [z_up_i (by omega), z_up_r (by decide), z_up_r (by decide)])
  · rw [hw, z_up_at rfl rfl]
  · rw [z_up_at rfl rfl]
  · rw [z_up_i (by decide), z_up_r (by decide), z_up_r (by decide)]
    exact h4
  · show (if 0 = nd + 1 then x' else dep 0) = 0
    rw [if_neg (by omega)]
    exact d0
  · exact if_pos rfl
  · rw [hw]
    by_cases hkn : k = nd
    · subst hkn
      unfold ENd
      simp (disch := omega) only [z_up_r, z_up_i, z_up_at, if_pos, if_neg, Nat.left_eq_add, Nat.succ_ne_self]
      rw [dn]
      rcases hE ho with ⟨w, w1, w2, w3, w4, w5⟩ | ⟨w, w1, w2, w3, w4, w5⟩ | ⟨w, w1, w2, w3, w4, w5⟩
      · exact Or.inl ⟨w, w1, w2, w3, w4, by simp [w5]⟩
      · exact Or.inr (Or.inl ⟨w, w1, w2, w3, w4, by simp [w5]⟩)
      · exact Or.inr (Or.inr ⟨w, w1, w2, w3, by simpa using w4, by simp [w5]⟩)
    · have := dk k (by omega)
      unfold ENd at this ⊢
      simp (disch := omega) only [z_up_r, z_up_i, if_neg]
      exact this
theorem here_id {t : Nat → Nat} {N L h : Nat} {D G : z_Dat} (hN : 2000 < N) (hT : TP t L D G) (h1 : h ≤ L) (h2 : h < L → t h ≠ 32) (h4 : G 40 4 = nn h) : F_X11_here N G = some (cvt t L h, G) := by
  obtain ⟨hL, ht, -, h3⟩ := hT
  unfold F_X11_here cvt
  cases N with
  | zero => omega
  | succ N =>
    show F_X11_here_L0 _ G = _
    by_cases hh : h < L
    · have eb := (ht h (by omega)).2.2
      have hb := (ht h (by omega)).1
      have h32 := h2 hh
      simp (disch := omega) only [F_X11_here_L0, F_X11_here_J38, h3, h4, eb, ↓reduceIte, ↓z_letE, ↓z_bdE, nn_l2, nn_add, nn_mul, nn_sub, nn_addM, nn_div, nn_rem, nn_min, nn_max, nn_abs, nn_ltT, nn_ltF, nn_leT, nn_leF, nn_eqT, nn_eqF, nn_eqM, nn_Meq, nn_ltM, nn_Mlt, nn_leM, nn_Mle, z_ix_nn, z_inb_nn, F_at_nn, F_put_nn, Nat.zero_add, Nat.add_zero, z_P_some, z_R_some, z_P_bd]
      rw [if_pos hh]
    · simp (disch := omega) only [F_X11_here_L0, F_X11_here_J38, h3, h4, ↓reduceIte, ↓z_letE, ↓z_bdE, nn_l2, nn_add, nn_mul, nn_sub, nn_addM, nn_div, nn_rem, nn_min, nn_max, nn_abs, nn_ltT, nn_ltF, nn_leT, nn_leF, nn_eqT, nn_eqF, nn_eqM, nn_Meq, nn_ltM, nn_Mlt, nn_leM, nn_Mle, z_ix_nn, z_inb_nn, F_at_nn, F_put_nn, Nat.zero_add, Nat.add_zero, z_P_some, z_R_some, z_P_bd]
      rw [if_neg hh]
theorem word_id {t : Nat → Nat} {N L h r : Nat} {D G : z_Dat} (hN : 2000 < N) (hT : TP t L D G) (h1 : h ≤ L) (h2 : h < L → t h ≠ 32) (h4 : G 40 4 = nn h) (hr : LR_ t L h r) : F_X11_word N G = some (nn (cdr t h r), G) := by
  have hH := here_id hN hT h1 h2 h4
  obtain ⟨⟨v, F⟩, e1, e2, -⟩ := word_P (N := N) hN hT ⟨Nat.le_refl _, h1, fun j a b => by omega, h2⟩ h4 hr
  dsimp only at e2
  subst e2
  rw [e1]
  have : F = G := by
    have hx : z_P (F_X11_word N G) (fun x => x.2 = G) := by
      unfold F_X11_word
      rw [hH, z_bdE, z_letE]
      dsimp only
      rw [h4]
      have hL := hT.1
      have hr1 := hr.1
      refine z_P_loop (fun q s => ∃ n, n + q = r ∧ (∃ c, s.1 = nn c ∧ (n ≤ 6 → c < 2 ^ (5 * n)) ∧ c < 1073741824) ∧ s.2.1 = nn n ∧ s.2.2 = nn (h + n)) ?_ r N _ (by omega) ⟨0, by omega, ⟨0, rfl, fun _ => by simp, by decide⟩, rfl, rfl⟩
      rintro q ⟨v1, v2, v3⟩ kc ⟨n, hq, ⟨c, rfl, hc, hc2⟩, rfl, rfl⟩ ih
      dsimp only
      have e3 := hT.2.2.2
      by_cases hn : n < r
      · have hx := hr.2.1 (h + n) (by omega) (by omega)
        have hx2 := (let_t hx).2
        have b1 := (hT.2.1 (h + n) (by omega)).2.2
        unfold lt_ at hx
        by_cases h6 : 6 ≤ n
        · simp (disch := omega) only [F_X11_word_L14, e3, b1, hx2, ↓reduceIte, ↓z_letE, ↓z_bdE, nn_l2, nn_add, nn_mul, nn_sub, nn_addM, nn_div, nn_rem, nn_min, nn_max, nn_abs, nn_ltT, nn_ltF, nn_leT, nn_leF, nn_eqT, nn_eqF, nn_eqM, nn_Meq, nn_ltM, nn_Mlt, nn_leM, nn_Mle, z_ix_nn, z_inb_nn, F_at_nn, F_put_nn, Nat.zero_add, Nat.add_zero, z_P_some, z_R_some, z_P_bd]
          exact ih (q - 1) _ (by omega) ⟨n + 1, by omega, ⟨0, rfl, fun q => by omega, by decide⟩, rfl, rfl⟩
        · have hb := hc (by omega)
          have hp2 : 2 ^ (5 * n) ≤ 2 ^ 25 := Nat.pow_le_pow_right (by decide) (by omega)
          have eo := shl_or (v := c) (c := t (h + n) - 96) (by omega) (by omega)
          simp (disch := omega) only [F_X11_word_L14, e3, b1, hx2, eo, ↓reduceIte, ↓z_letE, ↓z_bdE, nn_l2, nn_add, nn_mul, nn_sub, nn_addM, nn_div, nn_rem, nn_min, nn_max, nn_abs, nn_ltT, nn_ltF, nn_leT, nn_leF, nn_eqT, nn_eqF, nn_eqM, nn_Meq, nn_ltM, nn_Mlt, nn_leM, nn_Mle, z_ix_nn, z_inb_nn, F_at_nn, F_put_nn, Nat.zero_add, Nat.add_zero, z_P_some, z_R_some, z_P_bd]
          refine ih (q - 1) _ (by omega) ⟨n + 1, by omega, ⟨c * 32 + (t (h + n) - 96), rfl, fun _ => ?_, by omega⟩, rfl, rfl⟩
          have e : 2 ^ (5 * (n + 1)) = 2 ^ (5 * n) * 32 := by rw [show 5 * (n + 1) = 5 * n + 5 from by omega, Nat.pow_add]
          rw [e]
          omega
      · obtain rfl : n = r := by omega
        have fin : z_P (if nn n ≤ nn 6 then some (nn c, G) else some (nn 0, G)) (fun x => x.2 = G) := by
          split <;> (rw [z_P_some])
        by_cases hl : h + n < L
        · have hx2 := (let_f (hT.2.1 (h + n) (by omega)).1 (hr.2.2 hl)).2
          have b1 := (hT.2.1 (h + n) (by omega)).2.2
          simp (disch := omega) only [F_X11_word_L14, nn_l2, e3, nn_leT, nn_leF, ↓reduceIte, z_inb_nn, z_ix_nn, b1, hx2]
          exact fin
        · simp (disch := omega) only [F_X11_word_L14, nn_l2, e3, nn_leT, nn_leF, ↓reduceIte]
          exact fin
    obtain ⟨y, y1, y2⟩ := hx
    rw [e1] at y1
    cases y1
    exact y2
  rw [this]
theorem takesS {t : Nat → Nat} {N L h c : Nat} {D F : z_Dat} (hN : 2000 < N) (hT : TP t L D F) (hI : FI t L h h D F) (hc0 : 0 < c) (hc : c < 256) : (h < L ∧ t h = c ∧ cvt t L h = nn c ∧ ∃ E, F_X8_takesSign N (nn c) D = some (nn 1, E) ∧ RP D E ∧ E 1 4 = nn h ∧ ∃ h', h + 1 ≤ h' ∧ FI t L h' (h + 1) E (z_up F 40 4 (nn (h + 1)))) ∨ (¬ (h < L ∧ t h = c) ∧ cvt t L h ≠ nn c ∧ F_X8_takesSign N (nn c) D = some (nn 0, D)) := by
  obtain ⟨hp, e3, e5, e6, g4, g5⟩ := id hI
  have q1 := hI.T.1
  have hL := hT.1
  have eb := byteAt_e (k := h) hT (by omega)
  by_cases hh : h < L
  · have hb := (hT.2.1 h (by omega)).1
    by_cases hc2 : t h = c
    · left
      rw [if_pos hh, hc2] at eb
      obtain ⟨E, m1, m2, m3, m4, m5, h', m6, m7, m8, m9, m10⟩ := pass_P (m := 1) hN hT e3 (by omega)
      refine ⟨hh, hc2, by unfold cvt; rw [if_pos hh, hc2], E, by simp (disch := omega) only [F_X8_takesSign, q1, e3, eb, m1, ↓reduceIte, ↓z_letE, ↓z_bdE, nn_l2, nn_add, nn_mul, nn_sub, nn_addM, nn_div, nn_rem, nn_min, nn_max, nn_abs, nn_ltT, nn_ltF, nn_leT, nn_leF, nn_eqT, nn_eqF, nn_eqM, nn_Meq, nn_ltM, nn_Mlt, nn_leM, nn_Mle, z_ix_nn, z_inb_nn, F_at_nn, F_put_nn, Nat.zero_add, Nat.add_zero, z_P_some, z_R_some, z_P_bd], m2, m5, h', m6, ⟨m6, m7, m8, m9⟩, m10, by rw [m3]; exact e5, by rw [m4]; exact e6, by rw [z_up_at rfl rfl], by rw [z_up_i (by decide)]; exact g5⟩
    · right
      rw [if_pos hh] at eb
      exact ⟨fun q => hc2 q.2, by unfold cvt; rw [if_pos hh]; exact fun q => hc2 (nn_inj (by omega) (by omega) q), by simp (disch := omega) only [F_X8_takesSign, q1, e3, eb, ↓reduceIte, ↓z_letE, ↓z_bdE, nn_l2, nn_add, nn_mul, nn_sub, nn_addM, nn_div, nn_rem, nn_min, nn_max, nn_abs, nn_ltT, nn_ltF, nn_leT, nn_leF, nn_eqT, nn_eqF, nn_eqM, nn_Meq, nn_ltM, nn_Mlt, nn_leM, nn_Mle, z_ix_nn, z_inb_nn, F_at_nn, F_put_nn, Nat.zero_add, Nat.add_zero, z_P_some, z_R_some, z_P_bd]⟩
  · right
    rw [if_neg hh] at eb
    exact ⟨fun q => hh q.1, by unfold cvt; rw [if_neg hh]; exact fun q => by have := nn_inj (by omega) (by omega) q; omega, by simp (disch := omega) only [F_X8_takesSign, q1, e3, eb, ↓reduceIte, ↓z_letE, ↓z_bdE, nn_l2, nn_add, nn_mul, nn_sub, nn_addM, nn_div, nn_rem, nn_min, nn_max, nn_abs, nn_ltT, nn_ltF, nn_leT, nn_leF, nn_eqT, nn_eqF, nn_eqM, nn_Meq, nn_ltM, nn_Mlt, nn_leM, nn_Mle, z_ix_nn, z_inb_nn, F_at_nn, F_put_nn, Nat.zero_add, Nat.add_zero, z_P_some, z_R_some, z_P_bd]⟩
theorem byteAt_T {k : Int32} {D : z_Dat} : ∃ v, F_X8_byteAt k D = some v := by
  unfold F_X8_byteAt
  by_cases h0 : k < 0
  · exact ⟨_, if_pos h0⟩
  · rw [if_neg h0]
    by_cases h1 : D 1 2 ≤ k
    · exact ⟨_, if_pos h1⟩
    · rw [if_neg h1]
      by_cases h2 : 600 ≤ k
      · exact ⟨_, if_pos h2⟩
      · rw [if_neg h2]
        obtain ⟨n, hn, rfl⟩ := n_of (b := 599) h0 (fun q => h2 (by
          have := Int32.lt_iff_toInt_lt.mp q
          rw [nn_toInt (by decide)] at this
          exact Int32.le_iff_toInt_le.mpr (by
            show (600 : Int) ≤ _
            omega))) (by decide)
        exact ⟨_, if_pos (by rw [z_inb_nn (by omega) (by omega)]; trivial)⟩
