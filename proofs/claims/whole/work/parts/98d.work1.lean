/-! ===== work: blocks of steps on both sides ===== -/
def STp (ns pe k i : Nat) (D G : z_Dat) : Prop := ∃ c a b, c ≤ 5 ∧ D 16 k = nn c ∧ D 17 k = nn a ∧ D 18 k = nn b ∧ G 55 (3 * i) = nn c ∧ G 55 (3 * i + 1) = nn a ∧ G 55 (3 * i + 2) = nn b ∧ (c = 0 → a < pe ∧ b < ns) ∧ (c = 1 → a < pe) ∧ (c = 2 → a < pe) ∧ (c = 4 → a < pe ∧ b < pe ∧ a ≠ b)
def BK (ns pe : Nat) (D G : z_Dat) : Nat → Nat → Nat → Nat → Nat → Nat → Prop
  | 0, _, _, _, _, _ => False
  | f + 1, dd, k, e, i, j => (k = e ∧ i = j) ∨ (STp ns pe k i D G ∧ BK ns pe D G f dd (k + 1) e (i + 1) j) ∨ (∃ tm e' j', (tm ≤ 60 ∧ 1 ≤ dd) ∧ (D 16 k = nn 6 ∧ D 17 k = nn tm ∧ D 18 k = nn e') ∧ (G 55 (3 * i) = nn 6 ∧ G 55 (3 * i + 1) = nn tm ∧ G 55 (3 * i + 2) = nn (3 * j')) ∧ BK ns pe D G f (dd - 1) (k + 1) e' (i + 1) j' ∧ (D 16 e' = nn 7 ∧ D 17 e' = nn k) ∧ BK ns pe D G f dd (e' + 1) e j' j)
theorem BK.le {ns pe : Nat} {D G : z_Dat} : ∀ f dd k e i j, BK ns pe D G f dd k e i j → k ≤ e ∧ i ≤ j := by
  intro f
  induction f with
  | zero => exact fun dd k e i j h => h.elim
  | succ f ih =>
    intro dd k e i j h
    rcases h with ⟨h1, h2⟩ | ⟨-, h2⟩ | ⟨tm, e', j', -, -, -, h1, -, h2⟩
    · omega
    · have := ih _ _ _ _ _ h2
      omega
    · have a := ih _ _ _ _ _ h1
      have b := ih _ _ _ _ _ h2
      omega
theorem BK.mono {ns pe : Nat} {D G : z_Dat} : ∀ f f' dd k e i j, f ≤ f' → BK ns pe D G f dd k e i j → BK ns pe D G f' dd k e i j := by
  intro f
  induction f with
  | zero => exact fun f' dd k e i j _ h => h.elim
  | succ f ih =>
    intro f' dd k e i j hf h
    cases f' with
    | zero => omega
    | succ f' =>
      rcases h with h | ⟨h1, h2⟩ | ⟨tm, e', j', h1, h2, h3, h4, h5, h6⟩
      · exact Or.inl h
      · exact Or.inr (Or.inl ⟨h1, ih f' _ _ _ _ _ (by omega) h2⟩)
      · exact Or.inr (Or.inr ⟨tm, e', j', h1, h2, h3, ih f' _ _ _ _ _ (by omega) h4, h5, ih f' _ _ _ _ _ (by omega) h6⟩)
theorem BK.app {ns pe : Nat} {D G : z_Dat} {e2 j2 : Nat} : ∀ f f2 dd k e i j, BK ns pe D G f dd k e i j → BK ns pe D G f2 dd e e2 j j2 → BK ns pe D G (f + f2) dd k e2 i j2 := by
  intro f
  induction f with
  | zero => exact fun f2 dd k e i j h _ => h.elim
  | succ f ih =>
    intro f2 dd k e i j h g
    have ef : f + 1 + f2 = (f + f2) + 1 := by omega
    rcases h with ⟨rfl, rfl⟩ | ⟨h1, h2⟩ | ⟨tm, e', j', h1, h2, h3, h4, h5, h6⟩
    · exact g.mono _ _ _ _ _ _ _ (by omega)
    · rw [ef]
      exact Or.inr (Or.inl ⟨h1, ih f2 _ _ _ _ _ h2 g⟩)
    · rw [ef]
      exact Or.inr (Or.inr ⟨tm, e', j', h1, h2, h3, h4.mono _ _ _ _ _ _ _ (by omega), h5, ih f2 _ _ _ _ _ h6 g⟩)
theorem BK.keep {ns pe : Nat} {D G D' G' : z_Dat} : ∀ f dd k e i j, BK ns pe D G f dd k e i j → (∀ x, k ≤ x → x < e → D' 16 x = D 16 x ∧ D' 17 x = D 17 x ∧ D' 18 x = D 18 x) → (∀ y, 3 * i ≤ y → y < 3 * j → G' 55 y = G 55 y) → BK ns pe D' G' f dd k e i j := by
  intro f
  induction f with
  | zero => exact fun dd k e i j h _ _ => h.elim
  | succ f ih =>
    intro dd k e i j h hD hG
    rcases h with h | ⟨h1, h2⟩ | ⟨tm, e', j', h1, h2, h3, h4, h5, h6⟩
    · exact Or.inl h
    · have hl := h2.le
      obtain ⟨x1, x2, x3⟩ := hD k (Nat.le_refl _) (by omega)
      refine Or.inr (Or.inl ⟨?_, ih _ _ _ _ _ h2 (fun x a b => hD x (by omega) b) (fun y a b => hG y (by omega) b)⟩)
      unfold STp at h1 ⊢
      rw [x1, x2, x3, hG (3 * i) (by omega) (by omega), hG (3 * i + 1) (by omega) (by omega), hG (3 * i + 2) (by omega) (by omega)]
      exact h1
    · have l4 := h4.le
      have l6 := h6.le
      obtain ⟨x1, x2, x3⟩ := hD k (Nat.le_refl _) (by omega)
      obtain ⟨y1, y2, y3⟩ := hD e' (by omega) (by omega)
      refine Or.inr (Or.inr ⟨tm, e', j', h1, ?_, ?_, ih _ _ _ _ _ h4 (fun x a b => hD x (by omega) (by omega)) (fun y a b => hG y (by omega) (by omega)), ?_, ih _ _ _ _ _ h6 (fun x a b => hD x (by omega) b) (fun y a b => hG y (by omega) b)⟩)
      · rw [x1, x2, x3]
        exact h2
      · rw [hG (3 * i) (by omega) (by omega), hG (3 * i + 1) (by omega) (by omega), hG (3 * i + 2) (by omega) (by omega)]
        exact h3
      · rw [y1, y2]
        exact h5
def WPr (D E : z_Dat) : Prop := (∀ r, r ≠ 1 → (r < 15 ∨ 19 < r) → E r = D r) ∧ ∀ j, j < 3 → E 1 j = D 1 j
def WMr (G F : z_Dat) : Prop := (∀ r, r ≠ 40 → r ≠ 55 → F r = G r) ∧ ∀ j, (j < 4 ∨ (7 < j ∧ j ≠ 32)) → F 40 j = G 40 j
theorem WPr.rf {D : z_Dat} : WPr D D := ⟨fun _ _ _ => rfl, fun _ _ => rfl⟩
theorem WMr.rf {D : z_Dat} : WMr D D := ⟨fun _ _ _ => rfl, fun _ _ => rfl⟩
theorem WPr.tr {D E F : z_Dat} (h : WPr D E) (h2 : WPr E F) : WPr D F := ⟨fun r a b => (h2.1 r a b).trans (h.1 r a b), fun j a => (h2.2 j a).trans (h.2 j a)⟩
theorem WMr.tr {D E F : z_Dat} (h : WMr D E) (h2 : WMr E F) : WMr D F := ⟨fun r a b => (h2.1 r a b).trans (h.1 r a b), fun j a => (h2.2 j a).trans (h.2 j a)⟩
theorem WPr.rp {D E : z_Dat} (h : RP D E) : WPr D E := ⟨fun r a _ => h.1 r a, h.2⟩
theorem WMr.rm {D E : z_Dat} (h : RM D E) : WMr D E := ⟨fun r a _ => h.1 r a, fun j hj => h.2 j (by omega)⟩
theorem wwrite_r {a b c : Int32} {D : z_Dat} : ∀ r, (r < 15 ∨ 18 < r) → F_X7_write a b c D r = D r := by
  intro r hr
  unfold F_X7_write
  simp only [z_letE]
  rw [z_up_ne (by omega), put_any r (by omega), put_any r (by omega), put_any r (by omega)]
theorem wwrite_e {a b c : Int32} {D : z_Dat} {ne : Nat} (h : D 15 5 = nn ne) (hn : ne < 37) : F_X7_write a b c D = z_up (z_up (z_up (z_up D 16 ne a) 17 ne b) 18 ne c) 15 5 (nn (ne + 1)) := by
  simp (disch := omega) only [F_X7_write, h, z_up_r, ↓reduceIte, ↓z_letE, ↓z_bdE, nn_l2, nn_add, nn_mul, nn_sub, nn_addM, nn_div, nn_rem, nn_min, nn_max, nn_abs, nn_ltT, nn_ltF, nn_leT, nn_leF, nn_eqT, nn_eqF, nn_eqM, nn_Meq, nn_ltM, nn_Mlt, nn_leM, nn_Mle, z_ix_nn, z_inb_nn, F_at_nn, F_put_nn, Nat.zero_add, Nat.add_zero, z_P_some, z_R_some, z_P_bd]
theorem wwrite_WP {a b c : Int32} {D : z_Dat} : WPr D (F_X7_write a b c D) := ⟨fun r h1 h2 => wwrite_r r (by omega), fun j _ => by rw [wwrite_r 1 (by decide)]⟩
theorem wwrite_RC {t : Nat → Nat} {L m : Nat} {a b c : Int32} {D G : z_Dat} (h : RC t L m D G) : RC t L m (F_X7_write a b c D) G := h.cg (wwrite_r 1 (by decide)) (wwrite_r 2 (by decide)) rfl (fun _ _ _ => rfl)
theorem wwrite_OK {a b c : Int32} {D : z_Dat} : OK (F_X7_write a b c D) ↔ OK D := by
  unfold OK
  rw [wwrite_r 1 (by decide)]
/-- what both have read so far -/
def WS (t : Nat → Nat) (L m d ne ni k o ns pe : Nat) (D G : z_Dat) : Prop := RC t L m D G ∧ OK D ∧ (D 15 5 = nn ne ∧ D 15 6 = nn d) ∧ (G 40 32 = nn (3 * ni) ∧ G 40 7 = nn d) ∧ (4 * ne + 2 * d ≤ m ∧ ni ≤ ne ∧ 2 * k ≤ m) ∧ (D o 5 = nn ns ∧ D o 6 = nn pe) ∧ (G 40 19 = nn ns ∧ G 40 20 = nn pe)
/-- the end of one step: a sign, and what it is -/
theorem fin_C {t : Nat → Nat} {N L m ne ni : Nat} {c : Nat} {a b a' b' : Int32} {E F : z_Dat} (hN : 2000 < N) (hL : L ≤ 150) (hC : RC t L m E F) (hc : c ≤ 5) (hv : OK E → E 15 5 = nn ne ∧ F 40 32 = nn (3 * ni) ∧ 4 * ne + 4 ≤ m ∧ ni ≤ ne) : ∃ E2 F2 F3, F_X8_needSign N (nn 59) E = some E2 ∧ F_X11_tellsStep (nn c) a' b' F = some F2 ∧ F_X11_sign N (nn 59) F2 = some F3 ∧ RP E E2 ∧ WMr F F3 ∧ RC t L m E2 F3 ∧ (OK E2 → OK E ∧ RC t L (m + 1) E2 F3 ∧ ne < 37 ∧ F3 40 32 = nn (3 * (ni + 1)) ∧ F3 40 7 = F 40 7 ∧ F3 55 (3 * ni) = nn c ∧ F3 55 (3 * ni + 1) = a' ∧ F3 55 (3 * ni + 2) = b' ∧ ∀ y, y < 3 * ni → F3 55 y = F 55 y) := by
  by_cases ho : OK E
  · obtain ⟨h1, h2, h3, h4⟩ := hv ho
    have hf := (hC.ff ho).2
    obtain ⟨h', p, hm, hI⟩ := hC.fi ho
    have hhL := hI.1.2.1
    generalize hF2 : z_up (z_up (z_up (z_up F 55 (3 * ni) (nn c)) 55 (3 * ni + 1) a') 55 (3 * ni + 2) b') 40 32 (nn (3 * ni + 3)) = F2
    have hF2' := hF2.symm
    have e1 : F_X11_tellsStep (nn c) a' b' F = some F2 := by
      simp (disch := omega) only [F_X11_tellsStep, hf, h2, z_up_r, ↓reduceIte, ↓z_letE, ↓z_bdE, nn_l2, nn_add, nn_mul, nn_sub, nn_addM, nn_div, nn_rem, nn_min, nn_max, nn_abs, nn_ltT, nn_ltF, nn_leT, nn_leF, nn_eqT, nn_eqF, nn_eqM, nn_Meq, nn_ltM, nn_Mlt, nn_leM, nn_Mle, z_ix_nn, z_inb_nn, F_at_nn, F_put_nn, Nat.zero_add, Nat.add_zero, z_P_some, z_R_some, z_P_bd]
      exact congrArg some hF2
    have hC2 : RC t L m E F2 := by
      rw [hF2']
      exact (((hC.upM (Or.inl (by decide)) (by decide)).upM (Or.inl (by decide)) (by decide)).upM (Or.inl (by decide)) (by decide)).upM (Or.inr (Or.inl (by decide))) (by decide)
    obtain ⟨E2, F3, s1, s2, s3, s4, s5, s6⟩ := sign_C (N := N) (c := 59) hN hC2 (by decide) (by decide)
    have f55 : F3 55 = F2 55 := s4.1 55 (by decide)
    refine ⟨E2, F2, F3, s1, e1, s2, s3, ?_, s5, fun q => ⟨ho, (s6 q).2, by omega, ?_, ?_, ?_, ?_, ?_, fun y hy => ?_⟩⟩
    · refine WMr.tr ⟨fun r x y => ?_, fun j hj => ?_⟩ (WMr.rm s4)
      · rw [hF2', z_up_ne x, z_up_ne y, z_up_ne y, z_up_ne y]
      · rw [hF2', z_up_i (by omega), z_up_r (by decide), z_up_r (by decide), z_up_r (by decide)]
    · rw [s4.2 32 (by omega), hF2', z_up_at rfl rfl]
      rfl
    · rw [s4.2 7 (by omega), hF2', z_up_i (by decide), z_up_r (by decide), z_up_r (by decide), z_up_r (by decide)]
    · rw [f55, hF2']
      simp (disch := omega) only [z_up_r, z_up_i, z_up_at]
    · rw [f55, hF2']
      simp (disch := omega) only [z_up_r, z_up_i, z_up_at]
    · rw [f55, hF2']
      simp (disch := omega) only [z_up_r, z_up_at]
    · rw [f55, hF2']
      simp (disch := omega) only [z_up_r, z_up_i]
  · have hf := (hC.nf ho).2
    have e1 : F_X11_tellsStep (nn c) a' b' F = some F := by simp (disch := omega) only [F_X11_tellsStep, hf, ↓reduceIte, ↓z_letE, ↓z_bdE, nn_l2, nn_add, nn_mul, nn_sub, nn_addM, nn_div, nn_rem, nn_min, nn_max, nn_abs, nn_ltT, nn_ltF, nn_leT, nn_leF, nn_eqT, nn_eqF, nn_eqM, nn_Meq, nn_ltM, nn_Mlt, nn_leM, nn_Mle, z_ix_nn, z_inb_nn, F_at_nn, F_put_nn, Nat.zero_add, Nat.add_zero, z_P_some, z_R_some, z_P_bd]
    obtain ⟨k, pl, hA⟩ := hC.fa ho
    obtain ⟨x1, x2⟩ := sign_A (N := N) (c := 59) hA
    exact ⟨E, F, F, x1, e1, x2, RP.rf, WMr.rf, hC, fun q => absurd q ho⟩
