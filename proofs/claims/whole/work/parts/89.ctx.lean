/-! ===== reading: both texts side by side, whether all is well or not ===== -/
def OK (D : z_Dat) : Prop := D 1 5 = nn 0
def RC (t : Nat → Nat) (L m : Nat) (D G : z_Dat) : Prop := TP t L D G ∧ RS t L m D G
theorem FI.ok {t : Nat → Nat} {L h p : Nat} {D G : z_Dat} (h1 : FI t L h p D G) : OK D := h1.2.2.1
theorem FA.no {k pl : Nat} {D G : z_Dat} (h : FA k pl D G) : ¬ OK D := fun q => by
  obtain ⟨k1, k2, -, e5, -⟩ := h
  unfold OK at q
  rw [e5] at q
  have := nn_inj (by omega) (by omega) q
  omega
theorem RC.fi {t : Nat → Nat} {L m : Nat} {D G : z_Dat} (h : RC t L m D G) (ho : OK D) : ∃ h' p, m ≤ h' ∧ FI t L h' p D G := by
  rcases h.2 with h | ⟨k, pl, hA⟩
  · exact h
  · exact absurd ho hA.no
theorem RC.fa {t : Nat → Nat} {L m : Nat} {D G : z_Dat} (h : RC t L m D G) (ho : ¬ OK D) : ∃ k pl, FA k pl D G := by
  rcases h.2 with ⟨h', p, -, hI⟩ | h
  · exact absurd hI.ok ho
  · exact h
theorem RC.le {t : Nat → Nat} {L m m' : Nat} {D G : z_Dat} (h : RC t L m D G) (hm : m' ≤ m) : RC t L m' D G := ⟨h.1, by
  rcases h.2 with ⟨h', p, a, b⟩ | h
  · exact Or.inl ⟨h', p, by omega, b⟩
  · exact Or.inr h⟩
theorem RC.cg {t : Nat → Nat} {L m : Nat} {D G D' G' : z_Dat} (h : RC t L m D G) (h1 : D' 1 = D 1) (h2 : D' 2 = D 2) (g42 : G' 42 = G 42) (g : ∀ j, 3 ≤ j → j ≤ 6 → G' 40 j = G 40 j) : RC t L m D' G' := by
  obtain ⟨⟨a, b, c, d⟩, hS⟩ := h
  refine ⟨⟨a, fun j hj => by rw [h2, g42]; exact b j hj, by rw [h1]; exact c, by rw [g 3 (by decide) (by decide)]; exact d⟩, ?_⟩
  rcases hS with ⟨h', p, x1, x2, x3, x4, x5, x6, x7⟩ | ⟨k, pl, x1, x2, x3, x4, x5, x6, x7⟩
  · exact Or.inl ⟨h', p, x1, x2, by rw [h1]; exact x3, by rw [h1]; exact x4, by rw [h1]; exact x5, by rw [g 4 (by decide) (by decide)]; exact x6, by rw [g 5 (by decide) (by decide)]; exact x7⟩
  · exact Or.inr ⟨k, pl, x1, x2, x3, by rw [h1]; exact x4, by rw [h1]; exact x5, by rw [g 5 (by decide) (by decide)]; exact x6, by rw [g 6 (by decide) (by decide)]; exact x7⟩
theorem RC.upP {t : Nat → Nat} {L m a i : Nat} {x : Int32} {D G : z_Dat} (h : RC t L m D G) (h1 : a ≠ 1) (h2 : a ≠ 2) : RC t L m (z_up D a i x) G := h.cg (z_up_ne (Ne.symm h1)) (z_up_ne (Ne.symm h2)) rfl (fun _ _ _ => rfl)
theorem RC.upM {t : Nat → Nat} {L m a i : Nat} {x : Int32} {D G : z_Dat} (h : RC t L m D G) (h1 : a ≠ 40 ∨ 6 < i ∨ i < 3) (h2 : a ≠ 42) : RC t L m D (z_up G a i x) := h.cg rfl rfl (z_up_ne (Ne.symm h2)) (fun j a b => by
  rcases h1 with h1 | h1
  · exact z_up_r (Ne.symm h1)
  · exact z_up_i (by omega))
theorem put_any {r n : Nat} {i v : Int32} {D : z_Dat} : ∀ r', r' ≠ r → F_X10_put r n i v D r' = D r' := by
  intro r' h
  unfold F_X10_put
  split
  · rfl
  · split
    · rfl
    · rw [z_letE, z_up_ne h]
theorem RC.put {t : Nat → Nat} {L m a n : Nat} {i v : Int32} {D G : z_Dat} (h : RC t L m D G) (h1 : a ≠ 1) (h2 : a ≠ 2) : RC t L m (F_X10_put a n i v D) G := h.cg (put_any 1 (Ne.symm h1)) (put_any 2 (Ne.symm h2)) rfl (fun _ _ _ => rfl)
theorem OK.put {a n : Nat} {i v : Int32} {D : z_Dat} (h1 : a ≠ 1) : OK (F_X10_put a n i v D) ↔ OK D := by
  unfold OK
  rw [put_any 1 (Ne.symm h1)]
theorem OK.up {a i : Nat} {v : Int32} {D : z_Dat} (h1 : a ≠ 1) : OK (z_up D a i v) ↔ OK D := by
  unfold OK
  rw [z_up_ne (Ne.symm h1)]
theorem num_C {t : Nat → Nat} {N L m qb : Nat} {q : Int32} {D G : z_Dat} (hN : 2000 < N) (hC : RC t L m D G) (hq : q = nn qb - nn 1) (hqb : qb ≤ 10000) : z_R (F_X8_needNumber N q D) (F_X11_readNumber N (nn 0) q G) (fun a c => RP D a.2 ∧ RM G c.2 ∧ RC t L m a.2 c.2 ∧ (OK a.2 → OK D ∧ RC t L (m + 1) a.2 c.2 ∧ ∃ v, v < qb ∧ a.1 = nn v ∧ c.1 = nn v)) := by
  obtain ⟨hT, hS⟩ := id hC
  by_cases ho : OK D
  · refine z_R_mono (num_R hN hT hS hq hqb) (fun a c hac => ?_)
    obtain ⟨h1, h2, h3⟩ := hac
    have hT2 := hT.keep h1 h2
    rcases h3 with ⟨v, h, p, x1, x2, x3, x4, x5⟩ | ⟨k, pl, hA⟩
    · exact ⟨h1, h2, ⟨hT2, Or.inl ⟨h, p, by omega, x5⟩⟩, fun _ => ⟨ho, ⟨hT2, Or.inl ⟨h, p, x4, x5⟩⟩, v, x3, x1, x2⟩⟩
    · exact ⟨h1, h2, ⟨hT2, Or.inr ⟨k, pl, hA⟩⟩, fun q => absurd q hA.no⟩
  · obtain ⟨k, pl, hA⟩ := hC.fa ho
    obtain ⟨e1, e2⟩ := num_A (N := N) (q := q) hA
    rw [e1, e2, z_R_some]
    exact ⟨RP.rf, RM.rf, hC, fun q => absurd q ho⟩
theorem sign_C {t : Nat → Nat} {N L m c : Nat} {D G : z_Dat} (hN : 2000 < N) (hC : RC t L m D G) (hc0 : 0 < c) (hc : c < 256) : z_R (F_X8_needSign N (nn c) D) (F_X11_sign N (nn c) G) (fun E F => RP D E ∧ RM G F ∧ RC t L m E F ∧ (OK E → OK D ∧ RC t L (m + 1) E F)) := by
  obtain ⟨hT, hS⟩ := id hC
  by_cases ho : OK D
  · refine z_R_mono (sign_R hN hT hS hc0 hc) (fun a c hac => ?_)
    obtain ⟨h1, h2, h3⟩ := hac
    have h4 : RC t L (m + 1) a c := ⟨hT.keep h1 h2, h3⟩
    exact ⟨h1, h2, h4.le (by omega), fun _ => ⟨ho, h4⟩⟩
  · obtain ⟨k, pl, hA⟩ := hC.fa ho
    obtain ⟨e1, e2⟩ := sign_A (N := N) (c := c) hA
    rw [e1, e2, z_R_some]
    exact ⟨RP.rf, RM.rf, hC, fun q => absurd q ho⟩
theorem OKf {D : z_Dat} (h : OK D) : F_X8_failed D = nn 0 := by
  unfold OK at h
  simp (disch := omega) only [F_X8_failed, h, ↓reduceIte, ↓z_letE, ↓z_bdE, nn_l2, nn_add, nn_mul, nn_sub, nn_addM, nn_div, nn_rem, nn_min, nn_max, nn_abs, nn_ltT, nn_ltF, nn_leT, nn_leF, nn_eqT, nn_eqF, nn_eqM, nn_Meq, nn_ltM, nn_Mlt, nn_leM, nn_Mle, z_ix_nn, z_inb_nn, F_at_nn, F_put_nn, Nat.zero_add, Nat.add_zero, z_P_some, z_R_some, z_P_bd]
theorem RC.nf {t : Nat → Nat} {L m : Nat} {D G : z_Dat} (h : RC t L m D G) (ho : ¬ OK D) : F_X8_failed D = nn 1 ∧ F_X11_fine G = nn 0 := by
  obtain ⟨k, pl, hA⟩ := h.fa ho
  exact hA.T
theorem RC.ff {t : Nat → Nat} {L m : Nat} {D G : z_Dat} (h : RC t L m D G) (ho : OK D) : F_X8_failed D = nn 0 ∧ F_X11_fine G = nn 1 := by
  obtain ⟨h', p, -, hI⟩ := h.fi ho
  exact hI.T
/-- what comes next, seen by both -/
theorem next_C {t : Nat → Nat} {N L m : Nat} {D G : z_Dat} (hN : 2000 < N) (hC : RC t L m D G) (ho : OK D) : ∃ h F, m ≤ h ∧ RM G F ∧ FI t L h h D F ∧ RC t L h D F ∧ F_X8_next D = some (if h < L then nn (t h) else -nn 1) ∧ F_X11_here N G = some (cvt t L h, F) ∧ F_X11_isMore N G = some (if h < L then nn 1 else nn 0, F) ∧ (∀ F', F' 40 4 = nn h → F' 40 3 = nn L → RM F F' → F_X11_here N F' = some (cvt t L h, F') ∨ True) ∧ F 40 4 = nn h := by
  obtain ⟨h, p, hm, hI⟩ := hC.fi ho
  obtain ⟨hp, e3, e5, e6, g4, g5⟩ := id hI
  have hT := hC.1
  have hL := hT.1
  obtain ⟨⟨v, F⟩, f1, f2, f3, f4, f5, f6⟩ := here_P hN hT hp g4
  dsimp only at f2 f3 f4 f5 f6
  subst f2
  have hIF : FI t L h h D F := ⟨⟨Nat.le_refl _, hp.2.1, fun j a b => by omega, hp.2.2.2⟩, e3, e5, e6, f6, by rw [f4]; exact g5⟩
  have f3' : F 40 3 = nn L := by rw [f3.2 3 (Or.inl (by decide))]; exact hT.2.2.2
  refine ⟨h, F, hm, f3, hIF, ⟨hT.keep RP.rf f3, Or.inl ⟨h, h, Nat.le_refl _, hIF⟩⟩, ?_, f1, ?_, fun _ _ _ _ => Or.inr trivial, f6⟩
  · have := byteAt_e (k := h) hT (by omega)
    simp (disch := omega) only [F_X8_next, e3, this, ↓reduceIte, ↓z_letE, ↓z_bdE, nn_l2, nn_add, nn_mul, nn_sub, nn_addM, nn_div, nn_rem, nn_min, nn_max, nn_abs, nn_ltT, nn_ltF, nn_leT, nn_leF, nn_eqT, nn_eqF, nn_eqM, nn_Meq, nn_ltM, nn_Mlt, nn_leM, nn_Mle, z_ix_nn, z_inb_nn, F_at_nn, F_put_nn, Nat.zero_add, Nat.add_zero, z_P_some, z_R_some, z_P_bd]
  · by_cases hl : h < L
    · simp (disch := omega) only [F_X11_isMore, f1, f3', f6, ↓reduceIte, ↓z_letE, ↓z_bdE, nn_l2, nn_add, nn_mul, nn_sub, nn_addM, nn_div, nn_rem, nn_min, nn_max, nn_abs, nn_ltT, nn_ltF, nn_leT, nn_leF, nn_eqT, nn_eqF, nn_eqM, nn_Meq, nn_ltM, nn_Mlt, nn_leM, nn_Mle, z_ix_nn, z_inb_nn, F_at_nn, F_put_nn, Nat.zero_add, Nat.add_zero, z_P_some, z_R_some, z_P_bd]
      rw [if_pos hl]
    · simp (disch := omega) only [F_X11_isMore, f1, f3', f6, ↓reduceIte, ↓z_letE, ↓z_bdE, nn_l2, nn_add, nn_mul, nn_sub, nn_addM, nn_div, nn_rem, nn_min, nn_max, nn_abs, nn_ltT, nn_ltF, nn_leT, nn_leF, nn_eqT, nn_eqF, nn_eqM, nn_Meq, nn_ltM, nn_Mlt, nn_leM, nn_Mle, z_ix_nn, z_inb_nn, F_at_nn, F_put_nn, Nat.zero_add, Nat.add_zero, z_P_some, z_R_some, z_P_bd]
      rw [if_neg hl]
