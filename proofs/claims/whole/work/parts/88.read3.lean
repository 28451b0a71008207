/-! ===== reading: words ===== -/
def lt_ (c : Nat) : Prop := 97 ≤ c ∧ c ≤ 122
theorem let_t {c : Nat} (h : lt_ c) : F_X10_isLetter (nn c) = nn 1 ∧ F_X11_isSmall (nn c) = nn 1 := by
  unfold lt_ at h
  exact ⟨by simp (disch := omega) only [F_X10_isLetter, ↓reduceIte, ↓z_letE, ↓z_bdE, nn_l2, nn_add, nn_mul, nn_sub, nn_addM, nn_div, nn_rem, nn_min, nn_max, nn_abs, nn_ltT, nn_ltF, nn_leT, nn_leF, nn_eqT, nn_eqF, nn_eqM, nn_Meq, nn_ltM, nn_Mlt, nn_leM, nn_Mle, z_ix_nn, z_inb_nn, F_at_nn, F_put_nn, Nat.zero_add, Nat.add_zero, z_P_some, z_R_some, z_P_bd], by simp (disch := omega) only [F_X11_isSmall, ↓reduceIte, ↓z_letE, ↓z_bdE, nn_l2, nn_add, nn_mul, nn_sub, nn_addM, nn_div, nn_rem, nn_min, nn_max, nn_abs, nn_ltT, nn_ltF, nn_leT, nn_leF, nn_eqT, nn_eqF, nn_eqM, nn_Meq, nn_ltM, nn_Mlt, nn_leM, nn_Mle, z_ix_nn, z_inb_nn, F_at_nn, F_put_nn, Nat.zero_add, Nat.add_zero, z_P_some, z_R_some, z_P_bd]⟩
theorem let_f {c : Nat} (hc : c < 256) (h : ¬ lt_ c) : F_X10_isLetter (nn c) = nn 0 ∧ F_X11_isSmall (nn c) = nn 0 := by
  unfold lt_ at h
  by_cases h1 : c < 97
  · exact ⟨by simp (disch := omega) only [F_X10_isLetter, ↓reduceIte, ↓z_letE, ↓z_bdE, nn_l2, nn_add, nn_mul, nn_sub, nn_addM, nn_div, nn_rem, nn_min, nn_max, nn_abs, nn_ltT, nn_ltF, nn_leT, nn_leF, nn_eqT, nn_eqF, nn_eqM, nn_Meq, nn_ltM, nn_Mlt, nn_leM, nn_Mle, z_ix_nn, z_inb_nn, F_at_nn, F_put_nn, Nat.zero_add, Nat.add_zero, z_P_some, z_R_some, z_P_bd], by simp (disch := omega) only [F_X11_isSmall, ↓reduceIte, ↓z_letE, ↓z_bdE, nn_l2, nn_add, nn_mul, nn_sub, nn_addM, nn_div, nn_rem, nn_min, nn_max, nn_abs, nn_ltT, nn_ltF, nn_leT, nn_leF, nn_eqT, nn_eqF, nn_eqM, nn_Meq, nn_ltM, nn_Mlt, nn_leM, nn_Mle, z_ix_nn, z_inb_nn, F_at_nn, F_put_nn, Nat.zero_add, Nat.add_zero, z_P_some, z_R_some, z_P_bd]⟩
  · exact ⟨by simp (disch := omega) only [F_X10_isLetter, ↓reduceIte, ↓z_letE, ↓z_bdE, nn_l2, nn_add, nn_mul, nn_sub, nn_addM, nn_div, nn_rem, nn_min, nn_max, nn_abs, nn_ltT, nn_ltF, nn_leT, nn_leF, nn_eqT, nn_eqF, nn_eqM, nn_Meq, nn_ltM, nn_Mlt, nn_leM, nn_Mle, z_ix_nn, z_inb_nn, F_at_nn, F_put_nn, Nat.zero_add, Nat.add_zero, z_P_some, z_R_some, z_P_bd], by simp (disch := omega) only [F_X11_isSmall, ↓reduceIte, ↓z_letE, ↓z_bdE, nn_l2, nn_add, nn_mul, nn_sub, nn_addM, nn_div, nn_rem, nn_min, nn_max, nn_abs, nn_ltT, nn_ltF, nn_leT, nn_leF, nn_eqT, nn_eqF, nn_eqM, nn_Meq, nn_ltM, nn_Mlt, nn_leM, nn_Mle, z_ix_nn, z_inb_nn, F_at_nn, F_put_nn, Nat.zero_add, Nat.add_zero, z_P_some, z_R_some, z_P_bd]⟩
theorem let_M : F_X10_isLetter (-nn 1) = nn 0 := by decide
def wc (w k : Nat) : Nat := ((z_sby.getD w []).getD k 0).toInt.toNat
def wl (w : Nat) : Nat := z_slen.getD w 0
theorem chr_e : ∀ w, w < 24 → ∀ k, k < wl w → z_chr w (nn k) = nn (wc w k) ∧ wc w k < 128 := by decide +kernel
def wlens (w : Nat) : List Nat := if w = 0 then [6, 6, 5, 5] else if w = 1 then [6, 6, 4, 4, 3, 4, 4, 4, 5, 5, 4] else [3, 4, 4, 4, 5, 4, 5]
def wids (w : Nat) : List Nat := if w = 0 then [3, 4, 5, 6] else if w = 1 then [9, 10, 11, 12, 13, 14, 15, 16, 17, 7, 8] else [21, 19, 20, 18, 22, 16, 23]
def nw (w : Nat) : Nat := (wlens w).length
def wj (w j : Nat) : Nat := (wlens w).getD j 0
def wst (w : Nat) : Nat → Nat
  | 0 => 0
  | j + 1 => wst w j + wj w j + 1
def wid (w j : Nat) : Nat := (wids w).getD j 0
theorem ws_end : ∀ w, w < 3 → wst w (nw w) = wl w ∧ nw w ≤ 11 ∧ wl w ≤ 60 := by decide +kernel
theorem ws_at : ∀ w, w < 3 → ∀ j, j < nw w → wc w (wst w j + wj w j) = 32 ∧ wst w j + wj w j < wl w ∧ 3 ≤ wid w j ∧ wid w j < 24 ∧ wl (wid w j) = wj w j ∧ 3 ≤ wj w j ∧ wj w j ≤ 6 ∧ ∀ i, i < wj w j → wc w (wst w j + i) = wc (wid w j) i ∧ 97 ≤ wc (wid w j) i ∧ wc (wid w j) i ≤ 122 := by decide +kernel
/-- the letters from h on are just the word -/
def WM (t : Nat → Nat) (h r id : Nat) : Prop := r = wl id ∧ ∀ i, i < r → t (h + i) = wc id i
/-- the letters from h on end at h + r -/
def LR_ (t : Nat → Nat) (L h r : Nat) : Prop := h + r ≤ L ∧ (∀ j, h ≤ j → j < h + r → lt_ (t j)) ∧ (h + r < L → ¬ lt_ (t (h + r)))
theorem comes_P {t : Nat → Nat} {N L h r w j : Nat} {D G : z_Dat} (hN : 2000 < N) (hT : TP t L D G) (h3 : D 1 3 = nn h) (h5 : F_X8_failed D = nn 0) (hr : LR_ t L h r) (hw : w < 3) (hj : j < nw w) : z_P (F_X8_comesNext N w (nn (wst w j)) (nn (wst w j + wj w j)) D) (fun x => (WM t h r (wid w j) ∧ x = nn 1) ∨ (¬ WM t h r (wid w j) ∧ x = nn 0)) := by
  obtain ⟨a1, a2, a3, a4, a5, a6, a7, a8⟩ := ws_at w hw j hj
  obtain ⟨-, -, b3⟩ := ws_end w hw
  obtain ⟨r1, r2, r3⟩ := hr
  have hL := hT.1
  have hb : ∀ k, k < 10000 → F_X8_byteAt (nn k) D = some (if k < L then nn (t k) else -nn 1) := fun k hk => byteAt_e hT hk
  have esl : z_slg w = nn (wl w) := rfl
  have ein : z_slen.getD w 0 = wl w := rfl
  unfold F_X8_comesNext
  refine z_P_loop (fun q v => ∃ i, i + q = wj w j ∧ v = nn (wst w j + i) ∧ i ≤ r ∧ ∀ x, x < i → t (h + x) = wc (wid w j) x) ?_ (wj w j) N _ (by omega) ⟨0, by omega, rfl, by omega, fun x hx => absurd hx (by omega)⟩
  rintro q v kc ⟨i, hq, rfl, hir, hpre⟩ ih
  have eb := hb (h + i) (by omega)
  have ea : h + (wst w j + i) - wst w j = h + i := by omega
  by_cases hi : i < wj w j
  · obtain ⟨c1, c2, c3⟩ := a8 i hi
    obtain ⟨d1, d2⟩ := chr_e w (by omega) (wst w j + i) (by omega)
    rw [c1] at d1 d2
    by_cases hl : h + i < L
    · rw [if_pos hl] at eb
      have ht := (hT.2.1 (h + i) (by omega)).1
      by_cases he : t (h + i) = wc (wid w j) i
      · simp (disch := omega) only [F_X8_comesNext_L3, esl, ein, h3, ea, eb, d1, ↓reduceIte, ↓z_letE, ↓z_bdE, nn_l2, nn_add, nn_mul, nn_sub, nn_addM, nn_div, nn_rem, nn_min, nn_max, nn_abs, nn_ltT, nn_ltF, nn_leT, nn_leF, nn_eqT, nn_eqF, nn_eqM, nn_Meq, nn_ltM, nn_Mlt, nn_leM, nn_Mle, z_ix_nn, z_inb_nn, F_at_nn, F_put_nn, Nat.zero_add, Nat.add_zero, z_P_some, z_R_some, z_P_bd]
        refine ih (q - 1) _ (by omega) ⟨i + 1, by omega, rfl, ?_, fun x hx => ?_⟩
        · by_cases hir2 : i < r
          · omega
          · exfalso
            have hir3 : i = r := by omega
            subst hir3
            exact r3 hl (by rw [he]; exact ⟨c2, c3⟩)
        · by_cases hxi : x = i
          · rw [hxi]
            exact he
          · exact hpre x (by omega)
      · simp (disch := omega) only [F_X8_comesNext_L3, esl, ein, h3, ea, eb, d1, ↓reduceIte, ↓z_letE, ↓z_bdE, nn_l2, nn_add, nn_mul, nn_sub, nn_addM, nn_div, nn_rem, nn_min, nn_max, nn_abs, nn_ltT, nn_ltF, nn_leT, nn_leF, nn_eqT, nn_eqF, nn_eqM, nn_Meq, nn_ltM, nn_Mlt, nn_leM, nn_Mle, z_ix_nn, z_inb_nn, F_at_nn, F_put_nn, Nat.zero_add, Nat.add_zero, z_P_some, z_R_some, z_P_bd]
        refine Or.inr ⟨fun hW => ?_, trivial⟩
        have := hW.2 i (by rw [hW.1, a5]; exact hi)
        exact he this
    · rw [if_neg hl] at eb
      simp (disch := omega) only [F_X8_comesNext_L3, esl, ein, h3, ea, eb, d1, ↓reduceIte, ↓z_letE, ↓z_bdE, nn_l2, nn_add, nn_mul, nn_sub, nn_addM, nn_div, nn_rem, nn_min, nn_max, nn_abs, nn_ltT, nn_ltF, nn_leT, nn_leF, nn_eqT, nn_eqF, nn_eqM, nn_Meq, nn_ltM, nn_Mlt, nn_leM, nn_Mle, z_ix_nn, z_inb_nn, F_at_nn, F_put_nn, Nat.zero_add, Nat.add_zero, z_P_some, z_R_some, z_P_bd]
      refine Or.inr ⟨fun hW => ?_, trivial⟩
      have := hW.1
      omega
  · obtain rfl : i = wj w j := by omega
    by_cases hl : h + wj w j < L
    · rw [if_pos hl] at eb
      have ht := (hT.2.1 (h + wj w j) (by omega)).1
      have ea2 : h + (wst w j + wj w j) - wst w j = h + wj w j := by omega
      by_cases hlt : lt_ (t (h + wj w j))
      · have hx := (let_t hlt).1
        simp (disch := omega) only [F_X8_comesNext_L3, F_X8_comesNext_J53, h5, h3, ea2, eb, hx, ↓reduceIte, ↓z_letE, ↓z_bdE, nn_l2, nn_add, nn_mul, nn_sub, nn_addM, nn_div, nn_rem, nn_min, nn_max, nn_abs, nn_ltT, nn_ltF, nn_leT, nn_leF, nn_eqT, nn_eqF, nn_eqM, nn_Meq, nn_ltM, nn_Mlt, nn_leM, nn_Mle, z_ix_nn, z_inb_nn, F_at_nn, F_put_nn, Nat.zero_add, Nat.add_zero, z_P_some, z_R_some, z_P_bd]
        refine Or.inr ⟨fun hW => ?_, trivial⟩
        have hrw := hW.1
        rw [a5] at hrw
        exact r3 (by omega) (by rw [hrw]; exact hlt)
      · have hx := (let_f ht hlt).1
        simp (disch := omega) only [F_X8_comesNext_L3, F_X8_comesNext_J53, h5, h3, ea2, eb, hx, ↓reduceIte, ↓z_letE, ↓z_bdE, nn_l2, nn_add, nn_mul, nn_sub, nn_addM, nn_div, nn_rem, nn_min, nn_max, nn_abs, nn_ltT, nn_ltF, nn_leT, nn_leF, nn_eqT, nn_eqF, nn_eqM, nn_Meq, nn_ltM, nn_Mlt, nn_leM, nn_Mle, z_ix_nn, z_inb_nn, F_at_nn, F_put_nn, Nat.zero_add, Nat.add_zero, z_P_some, z_R_some, z_P_bd]
        refine Or.inl ⟨⟨?_, fun x hx => hpre x ?_⟩, trivial⟩
        · rw [a5]
          by_cases hrr : wj w j < r
          · exact absurd (r2 (h + wj w j) (by omega) (by omega)) hlt
          · omega
        · by_cases hrr : wj w j < r
          · exact absurd (r2 (h + wj w j) (by omega) (by omega)) hlt
          · omega
    · rw [if_neg hl] at eb
      have ea2 : h + (wst w j + wj w j) - wst w j = h + wj w j := by omega
      simp (disch := omega) only [F_X8_comesNext_L3, F_X8_comesNext_J53, h5, h3, ea2, eb, let_M, ↓reduceIte, ↓z_letE, ↓z_bdE, nn_l2, nn_add, nn_mul, nn_sub, nn_addM, nn_div, nn_rem, nn_min, nn_max, nn_abs, nn_ltT, nn_ltF, nn_leT, nn_leF, nn_eqT, nn_eqF, nn_eqM, nn_Meq, nn_ltM, nn_Mlt, nn_leM, nn_Mle, z_ix_nn, z_inb_nn, F_at_nn, F_put_nn, Nat.zero_add, Nat.add_zero, z_P_some, z_R_some, z_P_bd]
      exact Or.inl ⟨⟨by omega, fun x hx => hpre x (by omega)⟩, trivial⟩
theorem takes_P {t : Nat → Nat} {N L h r w : Nat} {D G : z_Dat} (hN : 2000 < N) (hT : TP t L D G) (h3 : D 1 3 = nn h) (h5 : F_X8_failed D = nn 0) (hr : LR_ t L h r) (hw : w < 3) : z_P (F_X8_takesWordOf N w D) (fun a => (∃ j, j < nw w ∧ WM t h r (wid w j) ∧ a.1 = nn j ∧ F_X8_pass N (nn r) D = some a.2) ∨ ((∀ j, j < nw w → ¬ WM t h r (wid w j)) ∧ a = (-nn 1, D))) := by
  obtain ⟨b1, b2, b3⟩ := ws_end w hw
  have esl : z_slg w = nn (wl w) := rfl
  have ein : z_slen.getD w 0 = wl w := rfl
  unfold F_X8_takesWordOf
  refine z_P_loop (fun q s => ∃ j k, k + q = wl w ∧ j ≤ nw w ∧ s.1 = nn j ∧ s.2.1 = nn (wst w j) ∧ s.2.2 = nn k ∧ wst w j ≤ k ∧ (j < nw w → k ≤ wst w j + wj w j) ∧ ∀ x, x < j → ¬ WM t h r (wid w x)) ?_ (wl w) N _ (by omega) ⟨0, 0, by omega, by omega, rfl, rfl, rfl, Nat.le_refl _, fun _ => Nat.zero_le _, fun x hx => absurd hx (by omega)⟩
  rintro q ⟨v1, v2, v3⟩ kc ⟨j, k, hq, hj, rfl, rfl, rfl, hk1, hk2, hno⟩ ih
  dsimp only
  by_cases hjn : j < nw w
  · obtain ⟨a1, a2, a3, a4, a5, a6, a7, a8⟩ := ws_at w hw j hjn
    have hk2 := hk2 hjn
    obtain ⟨d1, d2⟩ := chr_e w (by omega) k (by omega)
    by_cases hke : k = wst w j + wj w j
    · subst hke
      rw [a1] at d1
      obtain ⟨x, m1, m2⟩ := comes_P (N := N) hN hT h3 h5 hr hw hjn
      rcases m2 with ⟨m2, rfl⟩ | ⟨m2, rfl⟩
      · obtain ⟨E, m3, -⟩ := pass_P (m := r) hN hT h3 hr.1
        have er : wst w j + wj w j - wst w j = r := by rw [m2.1, a5]; omega
        simp (disch := omega) only [F_X8_takesWordOf_L7, esl, ein, d1, m1, er, m3, ↓reduceIte, ↓z_letE, ↓z_bdE, nn_l2, nn_add, nn_mul, nn_sub, nn_addM, nn_div, nn_rem, nn_min, nn_max, nn_abs, nn_ltT, nn_ltF, nn_leT, nn_leF, nn_eqT, nn_eqF, nn_eqM, nn_Meq, nn_ltM, nn_Mlt, nn_leM, nn_Mle, z_ix_nn, z_inb_nn, F_at_nn, F_put_nn, Nat.zero_add, Nat.add_zero, z_P_some, z_R_some, z_P_bd]
        exact Or.inl ⟨j, hjn, m2, by first | rfl | trivial, by first | rfl | trivial | exact m3⟩
      · simp (disch := omega) only [F_X8_takesWordOf_L7, esl, ein, d1, m1, ↓reduceIte, ↓z_letE, ↓z_bdE, nn_l2, nn_add, nn_mul, nn_sub, nn_addM, nn_div, nn_rem, nn_min, nn_max, nn_abs, nn_ltT, nn_ltF, nn_leT, nn_leF, nn_eqT, nn_eqF, nn_eqM, nn_Meq, nn_ltM, nn_Mlt, nn_leM, nn_Mle, z_ix_nn, z_inb_nn, F_at_nn, F_put_nn, Nat.zero_add, Nat.add_zero, z_P_some, z_R_some, z_P_bd]
        exact ih (q - 1) _ (by omega) ⟨j + 1, wst w j + wj w j + 1, by omega, by omega, rfl, rfl, rfl, Nat.le_refl _, fun _ => by show wst w j + wj w j + 1 ≤ wst w j + wj w j + 1 + _; omega, fun x hx => by
          by_cases hxj : x = j
          · rw [hxj]
            exact m2
          · exact hno x (by omega)⟩
    · obtain ⟨c1, c2, c3⟩ := a8 (k - wst w j) (by omega)
      have ek : wst w j + (k - wst w j) = k := by omega
      rw [ek] at c1
      simp (disch := omega) only [F_X8_takesWordOf_L7, esl, ein, d1, ↓reduceIte, ↓z_letE, ↓z_bdE, nn_l2, nn_add, nn_mul, nn_sub, nn_addM, nn_div, nn_rem, nn_min, nn_max, nn_abs, nn_ltT, nn_ltF, nn_leT, nn_leF, nn_eqT, nn_eqF, nn_eqM, nn_Meq, nn_ltM, nn_Mlt, nn_leM, nn_Mle, z_ix_nn, z_inb_nn, F_at_nn, F_put_nn, Nat.zero_add, Nat.add_zero, z_P_some, z_R_some, z_P_bd]
      exact ih (q - 1) _ (by omega) ⟨j, k + 1, by omega, hj, rfl, rfl, rfl, by omega, fun _ => by omega, hno⟩
  · obtain rfl : j = nw w := by omega
    have hkk : wl w ≤ k := by omega
    simp (disch := omega) only [F_X8_takesWordOf_L7, esl, ↓reduceIte, ↓z_letE, ↓z_bdE, nn_l2, nn_add, nn_mul, nn_sub, nn_addM, nn_div, nn_rem, nn_min, nn_max, nn_abs, nn_ltT, nn_ltF, nn_leT, nn_leF, nn_eqT, nn_eqF, nn_eqM, nn_Meq, nn_ltM, nn_Mlt, nn_leM, nn_Mle, z_ix_nn, z_inb_nn, F_at_nn, F_put_nn, Nat.zero_add, Nat.add_zero, z_P_some, z_R_some, z_P_bd]
    exact Or.inr ⟨hno, trivial⟩
/-- a word as a number -/
def cdn (t : Nat → Nat) (h : Nat) : Nat → Nat
  | 0 => 0
  | n + 1 => cdn t h n * 32 + (t (h + n) - 96)
theorem cdn_lt {t : Nat → Nat} {h : Nat} : ∀ n, (∀ j, j < n → lt_ (t (h + j))) → n ≤ 6 → cdn t h n < 2 ^ (5 * n) := by
  intro n
  induction n with
  | zero => exact fun _ _ => by simp [cdn]
  | succ n ih =>
    intro h1 h2
    have := ih (fun j hj => h1 j (by omega)) (by omega)
    have h3 := h1 n (by omega)
    unfold lt_ at h3
    have e : 2 ^ (5 * (n + 1)) = 2 ^ (5 * n) * 32 := by rw [show 5 * (n + 1) = 5 * n + 5 from by omega, Nat.pow_add]
    unfold cdn
    rw [e]
    omega
theorem cdn_b {t : Nat → Nat} {h n : Nat} (hn : ∀ j, j < n → lt_ (t (h + j))) (h6 : n ≤ 6) : cdn t h n < 1073741824 := by
  have h1 := cdn_lt n hn h6
  have h2 : 2 ^ (5 * n) ≤ 2 ^ 30 := Nat.pow_le_pow_right (by decide) (by omega)
  omega
theorem cdn_inj {t u : Nat → Nat} {h g : Nat} : ∀ n m, (∀ j, j < n → lt_ (t (h + j))) → (∀ j, j < m → lt_ (u (g + j))) → cdn t h n = cdn u g m → n = m ∧ ∀ i, i < n → t (h + i) = u (g + i) := by
  intro n
  induction n with
  | zero =>
    intro m h1 h2 h3
    cases m with
    | zero => exact ⟨rfl, fun i hi => absurd hi (by omega)⟩
    | succ m =>
      have := h2 m (by omega)
      unfold lt_ at this
      unfold cdn at h3
      omega
  | succ n ih =>
    intro m h1 h2 h3
    cases m with
    | zero =>
      have := h1 n (by omega)
      unfold lt_ at this
      unfold cdn at h3
      omega
    | succ m =>
      have x1 := h1 n (by omega)
      have x2 := h2 m (by omega)
      unfold lt_ at x1 x2
      unfold cdn at h3
      have e1 : t (h + n) = u (g + m) := by omega
      obtain ⟨i1, i2⟩ := ih m (fun j hj => h1 j (by omega)) (fun j hj => h2 j (by omega)) (by omega)
      subst i1
      exact ⟨rfl, fun i hi => by
        by_cases hin : i = n
        · rw [hin]
          exact e1
        · exact i2 i (by omega)⟩
def wcd (id : Nat) : Nat := cdn (wc id) 0 (wl id)
theorem wc_l : ∀ id, id < 24 → 3 ≤ id → (∀ i, i < wl id → 97 ≤ wc id i ∧ wc id i ≤ 122) ∧ wl id ≤ 6 ∧ 3 ≤ wl id := by decide +kernel
def cdr (t : Nat → Nat) (h r : Nat) : Nat := if r ≤ 6 then cdn t h r else 0
theorem cdr_b {t : Nat → Nat} {L h r : Nat} (hr : LR_ t L h r) : cdr t h r < 1073741824 := by
  unfold cdr
  split
  · exact cdn_b (fun j hj => hr.2.1 (h + j) (by omega) (by omega)) (by assumption)
  · omega
theorem WM_c {t : Nat → Nat} {L h r id : Nat} (hr : LR_ t L h r) (h1 : id < 24) (h2 : 3 ≤ id) : WM t h r id ↔ cdr t h r = wcd id := by
  obtain ⟨a1, a2, a3⟩ := wc_l id h1 h2
  have hl : ∀ j, j < wl id → lt_ (wc id (0 + j)) := fun j hj => by rw [Nat.zero_add]; exact a1 j hj
  constructor
  · intro hW
    have e6 : r ≤ 6 := by rw [hW.1]; exact a2
    unfold cdr wcd
    rw [if_pos e6, hW.1]
    have : ∀ n, n ≤ wl id → cdn t h n = cdn (wc id) 0 n := by
      intro n
      induction n with
      | zero => exact fun _ => rfl
      | succ n ih =>
        intro hn
        unfold cdn
        rw [ih (by omega), hW.2 n (by rw [hW.1]; omega), Nat.zero_add]
    exact this _ (Nat.le_refl _)
  · intro he
    unfold cdr at he
    by_cases h6 : r ≤ 6
    · rw [if_pos h6] at he
      obtain ⟨i1, i2⟩ := cdn_inj r (wl id) (fun j hj => hr.2.1 (h + j) (by omega) (by omega)) hl he
      exact ⟨i1, fun i hi => by rw [i2 i hi, Nat.zero_add]⟩
    · rw [if_neg h6] at he
      unfold wcd at he
      have := cdn_inj (t := t) (h := h) 0 (wl id) (fun j hj => absurd hj (by omega)) hl he
      omega
theorem WM_one {t : Nat → Nat} {L h r a b : Nat} (hr : LR_ t L h r) (ha : a < 24) (ha3 : 3 ≤ a) (hb : b < 24) (hb3 : 3 ≤ b) (h1 : WM t h r a) (h2 : WM t h r b) : wcd a = wcd b := by
  rw [← (WM_c hr ha ha3).mp h1, ← (WM_c hr hb hb3).mp h2]
theorem wcd_inj : ∀ a, a < 24 → 3 ≤ a → ∀ b, b < 24 → 3 ≤ b → wcd a = wcd b → a = b := by decide +kernel
theorem wcd_b : ∀ a, a < 24 → 3 ≤ a → wcd a < 1073741824 := by decide +kernel
theorem shl_or {v c : Nat} (hv : v < 67108864) (hc : c < 32) : z_shl (nn v) (nn 5) ||| nn c = nn (v * 32 + c) := by
  have h5 : (nn 5 &&& 31) = 5 := by decide
  unfold z_shl
  rw [h5]
  apply Int32.toBitVec.inj
  apply BitVec.eq_of_toNat_eq
  have e1 : (nn v <<< 5 ||| nn c).toBitVec = (BitVec.ofNat 32 v <<< 5) ||| BitVec.ofNat 32 c := rfl
  have e2 : (nn (v * 32 + c)).toBitVec = BitVec.ofNat 32 (v * 32 + c) := rfl
  rw [e1, e2, BitVec.toNat_or, BitVec.toNat_shiftLeft, BitVec.toNat_ofNat, BitVec.toNat_ofNat, BitVec.toNat_ofNat, Nat.mod_eq_of_lt (show v < 2 ^ 32 by omega), Nat.mod_eq_of_lt (show c < 2 ^ 32 by omega), Nat.mod_eq_of_lt (show v * 32 + c < 2 ^ 32 by omega), Nat.shiftLeft_eq, Nat.mod_eq_of_lt (show v * 2 ^ 5 < 2 ^ 32 by omega)]
  have h := Nat.shiftLeft_add_eq_or_of_lt (show c < 2 ^ 5 by omega) v
  rw [Nat.shiftLeft_eq] at h
  exact h.symm
theorem of_e {N id : Nat} (hN : 2000 < N) (h1 : id < 24) (h2 : 3 ≤ id) : F_X11_of N id = some (nn (wcd id)) := by
  obtain ⟨a1, a2, a3⟩ := wc_l id h1 h2
  have esl : z_slg id = nn (wl id) := rfl
  have ein : z_slen.getD id 0 = wl id := rfl
  have h : z_P (F_X11_of N id) (fun x => x = nn (wcd id)) := by
    unfold F_X11_of
    refine z_P_loop (fun q s => ∃ k, k + q = wl id ∧ s.1 = nn (cdn (wc id) 0 k) ∧ s.2 = nn k) ?_ (wl id) N _ (by omega) ⟨0, by omega, rfl, rfl⟩
    rintro q ⟨v1, v2⟩ kc ⟨k, hq, rfl, rfl⟩ ih
    dsimp only
    by_cases hk : k < wl id
    · obtain ⟨c1, c2⟩ := a1 k hk
      obtain ⟨d1, d2⟩ := chr_e id h1 k hk
      have hb := cdn_lt (t := wc id) (h := 0) k (fun j hj => by rw [Nat.zero_add]; exact a1 j (by omega)) (by omega)
      have hp : 2 ^ (5 * k) ≤ 2 ^ 25 := Nat.pow_le_pow_right (by decide) (by omega)
      have eo := shl_or (v := cdn (wc id) 0 k) (c := wc id k - 96) (by omega) (by omega)
      simp (disch := omega) only [F_X11_of_L4, esl, ein, d1, eo, ↓reduceIte, ↓z_letE, ↓z_bdE, nn_l2, nn_add, nn_mul, nn_sub, nn_addM, nn_div, nn_rem, nn_min, nn_max, nn_abs, nn_ltT, nn_ltF, nn_leT, nn_leF, nn_eqT, nn_eqF, nn_eqM, nn_Meq, nn_ltM, nn_Mlt, nn_leM, nn_Mle, z_ix_nn, z_inb_nn, F_at_nn, F_put_nn, Nat.zero_add, Nat.add_zero, z_P_some, z_R_some, z_P_bd]
      exact ih (q - 1) _ (by omega) ⟨k + 1, by omega, by
        show nn (cdn (wc id) 0 k * 32 + (wc id k - 96)) = nn (cdn (wc id) 0 k * 32 + (wc id (0 + k) - 96))
        rw [Nat.zero_add], rfl⟩
    · obtain rfl : k = wl id := by omega
      simp (disch := omega) only [F_X11_of_L4, esl, ↓reduceIte, ↓z_letE, ↓z_bdE, nn_l2, nn_add, nn_mul, nn_sub, nn_addM, nn_div, nn_rem, nn_min, nn_max, nn_abs, nn_ltT, nn_ltF, nn_leT, nn_leF, nn_eqT, nn_eqF, nn_eqM, nn_Meq, nn_ltM, nn_Mlt, nn_leM, nn_Mle, z_ix_nn, z_inb_nn, F_at_nn, F_put_nn, Nat.zero_add, Nat.add_zero, z_P_some, z_R_some, z_P_bd]
      rfl
  obtain ⟨x, m1, m2⟩ := h
  rw [m1, m2]
theorem word_P {t : Nat → Nat} {N L h p r : Nat} {D G : z_Dat} (hN : 2000 < N) (hT : TP t L D G) (hp : p ≤ h ∧ h ≤ L ∧ (∀ j, p ≤ j → j < h → t j = 32) ∧ (h < L → t h ≠ 32)) (h4 : G 40 4 = nn p) (hr : LR_ t L h r) : z_P (F_X11_word N G) (fun x => x.1 = nn (cdr t h r) ∧ RM G x.2 ∧ x.2 40 5 = G 40 5 ∧ x.2 40 6 = G 40 6 ∧ x.2 40 4 = nn h) := by
  obtain ⟨⟨v, F⟩, f1, f2, f3, f4, f5, f6⟩ := here_P hN hT hp h4
  dsimp only at f2 f3 f4 f5 f6
  have hL := hT.1
  have e3 : F 40 3 = nn L := by rw [f3.2 3 (Or.inl (by decide))]; exact hT.2.2.2
  have hr1 := hr.1
  unfold F_X11_word
  rw [f1, z_bdE, z_letE]
  dsimp only
  rw [f6]
  refine z_P_loop (fun q s => ∃ n, n + q = r ∧ s.1 = nn (cdr t h n) ∧ s.2.1 = nn n ∧ s.2.2 = nn (h + n)) ?_ r N _ (by omega) ⟨0, by omega, rfl, rfl, rfl⟩
  rintro q ⟨v1, v2, v3⟩ kc ⟨n, hq, rfl, rfl, rfl⟩ ih
  dsimp only
  by_cases hn : n < r
  · have hx := hr.2.1 (h + n) (by omega) (by omega)
    have hx2 := (let_t hx).2
    have b1 : F 42 (h + n) = nn (t (h + n)) := by rw [f3.1 42 (by decide)]; exact (hT.2.1 (h + n) (by omega)).2.2
    unfold lt_ at hx
    by_cases h6 : 6 ≤ n
    · simp (disch := omega) only [F_X11_word_L14, e3, b1, hx2, ↓reduceIte, ↓z_letE, ↓z_bdE, nn_l2, nn_add, nn_mul, nn_sub, nn_addM, nn_div, nn_rem, nn_min, nn_max, nn_abs, nn_ltT, nn_ltF, nn_leT, nn_leF, nn_eqT, nn_eqF, nn_eqM, nn_Meq, nn_ltM, nn_Mlt, nn_leM, nn_Mle, z_ix_nn, z_inb_nn, F_at_nn, F_put_nn, Nat.zero_add, Nat.add_zero, z_P_some, z_R_some, z_P_bd]
      exact ih (q - 1) _ (by omega) ⟨n + 1, by omega, by unfold cdr; rw [if_neg (by omega)], rfl, rfl⟩
    · have hb := cdn_lt (t := t) (h := h) n (fun j hj => hr.2.1 (h + j) (by omega) (by omega)) (by omega)
      have hp2 : 2 ^ (5 * n) ≤ 2 ^ 25 := Nat.pow_le_pow_right (by decide) (by omega)
      have ec : cdr t h n = cdn t h n := if_pos (by omega)
      have eo := shl_or (v := cdn t h n) (c := t (h + n) - 96) (by omega) (by omega)
      simp (disch := omega) only [F_X11_word_L14, e3, b1, hx2, ec, eo, ↓reduceIte, ↓z_letE, ↓z_bdE, nn_l2, nn_add, nn_mul, nn_sub, nn_addM, nn_div, nn_rem, nn_min, nn_max, nn_abs, nn_ltT, nn_ltF, nn_leT, nn_leF, nn_eqT, nn_eqF, nn_eqM, nn_Meq, nn_ltM, nn_Mlt, nn_leM, nn_Mle, z_ix_nn, z_inb_nn, F_at_nn, F_put_nn, Nat.zero_add, Nat.add_zero, z_P_some, z_R_some, z_P_bd]
      exact ih (q - 1) _ (by omega) ⟨n + 1, by omega, by unfold cdr; rw [if_pos (by omega)]; rfl, rfl, rfl⟩
  · obtain rfl : n = r := by omega
    have fin : ∀ z : Prop, [Decidable z] → z_P (if nn n ≤ nn 6 then some (nn (cdr t h n), F) else some (nn 0, F)) (fun x => x.1 = nn (cdr t h n) ∧ RM G x.2 ∧ x.2 40 5 = G 40 5 ∧ x.2 40 6 = G 40 6 ∧ x.2 40 4 = nn h) := fun z _ => by
      by_cases h6 : n ≤ 6
      · rw [if_pos (by rw [nn_le (by omega) (by omega)]; exact h6), z_P_some]
        exact ⟨rfl, f3, f4, f5, f6⟩
      · have ec : cdr t h n = 0 := if_neg h6
        rw [if_neg (by rw [nn_le (by omega) (by omega)]; exact h6), z_P_some]
        exact ⟨by rw [ec], f3, f4, f5, f6⟩
    by_cases hl : h + n < L
    · have hx2 := (let_f (hT.2.1 (h + n) (by omega)).1 (hr.2.2 hl)).2
      have b1 : F 42 (h + n) = nn (t (h + n)) := by rw [f3.1 42 (by decide)]; exact (hT.2.1 (h + n) (by omega)).2.2
      simp (disch := omega) only [F_X11_word_L14, nn_l2, e3, nn_leT, nn_leF, ↓reduceIte, z_inb_nn, z_ix_nn, b1, hx2]
      exact fin True
    · simp (disch := omega) only [F_X11_word_L14, nn_l2, e3, nn_leT, nn_leF, ↓reduceIte]
      exact fin True
theorem mpass_P {t : Nat → Nat} {N L h r : Nat} {D G : z_Dat} (hN : 2000 < N) (hT : TP t L D G) (h4 : G 40 4 = nn h) (hr : LR_ t L h r) : z_P (F_X11_pass N G) (fun F => RM G F ∧ F 40 5 = G 40 5 ∧ F 40 6 = G 40 6 ∧ F 40 4 = nn (h + r)) := by
  have hL := hT.1
  have hr1 := hr.1
  unfold F_X11_pass
  refine z_P_loop (fun q F => ∃ n, n + q = r ∧ RM G F ∧ F 40 5 = G 40 5 ∧ F 40 6 = G 40 6 ∧ F 40 4 = nn (h + n)) ?_ r N _ (by omega) ⟨0, by omega, RM.rf, rfl, rfl, h4⟩
  rintro q F kc ⟨n, hq, hR, e5, e6, e4⟩ ih
  have e3 : F 40 3 = nn L := by rw [hR.2 3 (Or.inl (by decide))]; exact hT.2.2.2
  by_cases hn : n < r
  · have hx2 := (let_t (hr.2.1 (h + n) (by omega) (by omega))).2
    have b1 : F 42 (h + n) = nn (t (h + n)) := by rw [hR.1 42 (by decide)]; exact (hT.2.1 (h + n) (by omega)).2.2
    simp (disch := omega) only [F_X11_pass_L0, e3, e4, b1, hx2, ↓reduceIte, ↓z_letE, ↓z_bdE, nn_l2, nn_add, nn_mul, nn_sub, nn_addM, nn_div, nn_rem, nn_min, nn_max, nn_abs, nn_ltT, nn_ltF, nn_leT, nn_leF, nn_eqT, nn_eqF, nn_eqM, nn_Meq, nn_ltM, nn_Mlt, nn_leM, nn_Mle, z_ix_nn, z_inb_nn, F_at_nn, F_put_nn, Nat.zero_add, Nat.add_zero, z_P_some, z_R_some, z_P_bd]
    exact ih (q - 1) _ (by omega) ⟨n + 1, by omega, hR.up (by decide) (by decide), by rw [z_up_i (by decide)]; exact e5, by rw [z_up_i (by decide)]; exact e6, by rw [z_up_at rfl rfl]; rfl⟩
  · obtain rfl : n = r := by omega
    by_cases hl : h + n < L
    · have hx2 := (let_f (hT.2.1 (h + n) (by omega)).1 (hr.2.2 hl)).2
      have b1 : F 42 (h + n) = nn (t (h + n)) := by rw [hR.1 42 (by decide)]; exact (hT.2.1 (h + n) (by omega)).2.2
      simp (disch := omega) only [F_X11_pass_L0, e3, e4, b1, hx2, ↓reduceIte, ↓z_letE, ↓z_bdE, nn_l2, nn_add, nn_mul, nn_sub, nn_addM, nn_div, nn_rem, nn_min, nn_max, nn_abs, nn_ltT, nn_ltF, nn_leT, nn_leF, nn_eqT, nn_eqF, nn_eqM, nn_Meq, nn_ltM, nn_Mlt, nn_leM, nn_Mle, z_ix_nn, z_inb_nn, F_at_nn, F_put_nn, Nat.zero_add, Nat.add_zero, z_P_some, z_R_some, z_P_bd]
      exact ⟨hR, e5, e6, trivial⟩
    · simp (disch := omega) only [F_X11_pass_L0, e3, e4, ↓reduceIte, ↓z_letE, ↓z_bdE, nn_l2, nn_add, nn_mul, nn_sub, nn_addM, nn_div, nn_rem, nn_min, nn_max, nn_abs, nn_ltT, nn_ltF, nn_leT, nn_leF, nn_eqT, nn_eqF, nn_eqM, nn_Meq, nn_ltM, nn_Mlt, nn_leM, nn_Mle, z_ix_nn, z_inb_nn, F_at_nn, F_put_nn, Nat.zero_add, Nat.add_zero, z_P_some, z_R_some, z_P_bd]
      exact ⟨hR, e5, e6, trivial⟩
