/-! ===== work: all steps are read, loops in loops ===== -/
def PLr (N o n k : Nat) (D : z_Dat) : Option z_Dat := z_loop (fun kc5 s => F_X7_read_L12 N o kc5 s.1 s.2) n (nn k, D)
theorem PL_s {N o n k : Nat} {D : z_Dat} : PLr N o (n + 1) k D = F_X7_read_L12 N o (fun s => z_loop (fun kc5 s => F_X7_read_L12 N o kc5 s.1 s.2) n s) (nn k) D := rfl
theorem PL_fail {N o n k : Nat} {E : z_Dat} (hf : F_X8_failed E = nn 1) (hn : 1 ≤ n) (hk : k ≤ 1000) : PLr N o n k E = some E := by
  cases n with
  | zero => omega
  | succ n =>
    rw [PL_s]
    by_cases h : 150 ≤ k
    · simp (disch := omega) only [F_X7_read_L12, ↓reduceIte, ↓z_letE, ↓z_bdE, nn_l2, nn_add, nn_mul, nn_sub, nn_addM, nn_div, nn_rem, nn_min, nn_max, nn_abs, nn_ltT, nn_ltF, nn_leT, nn_leF, nn_eqT, nn_eqF, nn_eqM, nn_Meq, nn_ltM, nn_Mlt, nn_leM, nn_Mle, z_ix_nn, z_inb_nn, F_at_nn, F_put_nn, Nat.zero_add, Nat.add_zero, z_P_some, z_R_some, z_P_bd]
    · simp (disch := omega) only [F_X7_read_L12, hf, ↓reduceIte, ↓z_letE, ↓z_bdE, nn_l2, nn_add, nn_mul, nn_sub, nn_addM, nn_div, nn_rem, nn_min, nn_max, nn_abs, nn_ltT, nn_ltF, nn_leT, nn_leF, nn_eqT, nn_eqF, nn_eqM, nn_Meq, nn_ltM, nn_Mlt, nn_leM, nn_Mle, z_ix_nn, z_inb_nn, F_at_nn, F_put_nn, Nat.zero_add, Nat.add_zero, z_P_some, z_R_some, z_P_bd]
theorem WS.rm {t : Nat → Nat} {L m d ne ni k o ns pe : Nat} {D G F : z_Dat} (h : WS t L m d ne ni k o ns pe D G) (h2 : RM G F) (h3 : RC t L m D F) : WS t L m d ne ni k o ns pe D F := by
  obtain ⟨-, b, c, ⟨d1, d2⟩, e, f, ⟨g1, g2⟩⟩ := h
  exact ⟨h3, b, c, ⟨by rw [h2.2 32 (by omega)]; exact d1, by rw [h2.2 7 (by omega)]; exact d2⟩, e, f, ⟨by rw [h2.2 19 (by omega)]; exact g1, by rw [h2.2 20 (by omega)]; exact g2⟩⟩
/-- one round of the program's loop that reads a step -/
theorem PL_step {t : Nat → Nat} {N L m d ne ni k o ns pe n h p : Nat} {D G : z_Dat} (hN : 2000 < N) (hL : L ≤ 150) (hW : WS t L m d ne ni k o ns pe D G) (hI : FI t L h p D G) (h0 : d = 0 → h < L) (h1 : 0 < d → ¬ (h < L ∧ t h = 93)) (hd : d ≤ 6) : PLr N o (n + 1) k D = z_bd (F_X7_readStep N o D) (fun E => PLr N o n (k + 1) E) := by
  obtain ⟨hC, hok, ⟨w1, w2⟩, -, ⟨w5, w6, w7⟩, -, -⟩ := hW
  have f1 := hI.T.1
  have hT := hC.1
  have hhL := hI.1.2.1
  obtain ⟨h', p', hm, hI'⟩ := hC.fi hok
  have hhL' := hI'.1.2.1
  have eb := byteAt_e (k := h) hT (by omega)
  rw [PL_s]
  by_cases hd0 : d = 0
  · subst hd0
    have hh := h0 rfl
    have htb := (hT.2.1 h (by omega)).1
    rw [if_pos hh] at eb
    have hn : F_X8_next D = some (nn (t h)) := by simp (disch := omega) only [F_X8_next, hI.2.1, eb, ↓reduceIte, ↓z_letE, ↓z_bdE, nn_l2, nn_add, nn_mul, nn_sub, nn_addM, nn_div, nn_rem, nn_min, nn_max, nn_abs, nn_ltT, nn_ltF, nn_leT, nn_leF, nn_eqT, nn_eqF, nn_eqM, nn_Meq, nn_ltM, nn_Mlt, nn_leM, nn_Mle, z_ix_nn, z_inb_nn, F_at_nn, F_put_nn, Nat.zero_add, Nat.add_zero, z_P_some, z_R_some, z_P_bd]
    simp (disch := omega) only [F_X7_read_L12, f1, w2, F_X7_read_J55, hn, PLr, ↓reduceIte, ↓z_letE, ↓z_bdE, nn_l2, nn_add, nn_mul, nn_sub, nn_addM, nn_div, nn_rem, nn_min, nn_max, nn_abs, nn_ltT, nn_ltF, nn_leT, nn_leF, nn_eqT, nn_eqF, nn_eqM, nn_Meq, nn_ltM, nn_Mlt, nn_leM, nn_Mle, z_ix_nn, z_inb_nn, F_at_nn, F_put_nn, Nat.zero_add, Nat.add_zero, z_P_some, z_R_some, z_P_bd]
  · have hs : F_X8_takesSign N (nn 93) D = some (nn 0, D) := by
      by_cases hh : h < L
      · have htb := (hT.2.1 h (by omega)).1
        have h93 : ¬ t h = 93 := fun q => h1 (by omega) ⟨hh, q⟩
        rw [if_pos hh] at eb
        simp (disch := omega) only [F_X8_takesSign, f1, hI.2.1, eb, ↓reduceIte, ↓z_letE, ↓z_bdE, nn_l2, nn_add, nn_mul, nn_sub, nn_addM, nn_div, nn_rem, nn_min, nn_max, nn_abs, nn_ltT, nn_ltF, nn_leT, nn_leF, nn_eqT, nn_eqF, nn_eqM, nn_Meq, nn_ltM, nn_Mlt, nn_leM, nn_Mle, z_ix_nn, z_inb_nn, F_at_nn, F_put_nn, Nat.zero_add, Nat.add_zero, z_P_some, z_R_some, z_P_bd]
      · rw [if_neg hh] at eb
        simp (disch := omega) only [F_X8_takesSign, f1, hI.2.1, eb, ↓reduceIte, ↓z_letE, ↓z_bdE, nn_l2, nn_add, nn_mul, nn_sub, nn_addM, nn_div, nn_rem, nn_min, nn_max, nn_abs, nn_ltT, nn_ltF, nn_leT, nn_leF, nn_eqT, nn_eqF, nn_eqM, nn_Meq, nn_ltM, nn_Mlt, nn_leM, nn_Mle, z_ix_nn, z_inb_nn, F_at_nn, F_put_nn, Nat.zero_add, Nat.add_zero, z_P_some, z_R_some, z_P_bd]
    have c1 : ¬ (150 : Int32) ≤ nn k := by
      show ¬ nn 150 ≤ nn k
      rw [nn_le (by omega) (by omega)]
      omega
    have c2 : F_X8_failed D = 0 := f1
    have c3 : ¬ D 15 6 ≤ 0 := by
      rw [w2]
      show ¬ nn d ≤ nn 0
      rw [nn_le (by omega) (by omega)]
      omega
    have c5 : ¬ D 15 6 = 0 := by
      rw [w2]
      show ¬ nn d = nn 0
      rw [nn_eq (by omega) (by omega)]
      exact hd0
    have c4 : (nn 0 : Int32) = 0 := rfl
    have hs' : F_X8_takesSign N 93 D = some (nn 0, D) := hs
    have e : nn k + 1 = nn (k + 1) := nn_add k 1
    have key : ∀ kc : (Int32 × z_Dat) → Option z_Dat, F_X7_read_L12 N o kc (nn k) D = z_bd (F_X7_readStep N o D) (fun E => kc (nn (k + 1), E)) := by
      intro kc
      unfold F_X7_read_L12
      rw [if_neg c1, if_pos c2, if_neg c3, hs', z_bdE]
      dsimp only
      rw [if_pos c4]
      unfold F_X7_read_J55
      rw [if_neg c5]
      simp only [z_letE, e]
    exact key _
def OUTg (t : Nat → Nat) (L m d ne ni k o ns pe N n : Nat) (D G : z_Dat) (X : Option z_Dat) : Prop := ∃ k' n' m' ne' ni' E F f, PLr N o n k D = PLr N o n' k' E ∧ X = some F ∧ n' + k' = n + k ∧ m + 2 ≤ m' ∧ WPr D E ∧ WMr G F ∧ WS t L m' d ne' ni' k' o ns pe E F ∧ BK ns pe E F f (6 - d) ne ne' ni ni' ∧ (∀ x, x < ne → E 16 x = D 16 x ∧ E 17 x = D 17 x ∧ E 18 x = D 18 x) ∧ (∀ y, y < 3 * ni → F 55 y = G 55 y) ∧ ∀ i, i < d → E 19 i = D 19 i
def OUTb (t : Nat → Nat) (L k o N n : Nat) (D G : z_Dat) (X : Option z_Dat) : Prop := ∃ E F, PLr N o n k D = some E ∧ X = some F ∧ WPr D E ∧ WMr G F ∧ RC t L 0 E F ∧ ¬ OK E
def SPEC (t : Nat → Nat) (L o ns pe N d : Nat) (slf : z_Dat → Option z_Dat) : Prop := ∀ m ne ni k n h D G, WS t L m d ne ni k o ns pe D G → 1000 < n + k → FI t L h h D G → (d = 0 → h < L) → (0 < d → ¬ (h < L ∧ t h = 93)) → OUTg t L m d ne ni k o ns pe N n D G (slf G) ∨ OUTb t L k o N n D G (slf G)
/-- the rounds inside an again, up to its end -/
def OUTc (t : Nat → Nat) (L m d s i0 ne ni k o ns pe N n : Nat) (D G : z_Dat) (X : Option z_Dat) : Prop := ∃ k' n' m' ne' ni' E F f, PLr N o n k D = PLr N o n' k' E ∧ X = some F ∧ n' + k' = n + k ∧ m + 2 ≤ m' ∧ WPr D E ∧ WMr G F ∧ WS t L m' d (ne' + 1) ni' k' o ns pe E F ∧ BK ns pe E F f (6 - (d + 1)) ne ne' ni ni' ∧ (E 16 ne' = nn 7 ∧ E 17 ne' = nn s ∧ E 18 s = nn ne') ∧ F 55 (3 * i0 + 2) = nn (3 * ni') ∧ (∀ x, x < ne → E 16 x = D 16 x ∧ E 17 x = D 17 x ∧ (x ≠ s → E 18 x = D 18 x)) ∧ (∀ y, y < 3 * ni → y ≠ 3 * i0 + 2 → F 55 y = G 55 y) ∧ ∀ i, i < d → E 19 i = D 19 i
theorem close_e {D : z_Dat} {d ne s : Nat} (h5 : D 15 5 = nn ne) (h6 : D 15 6 = nn (d + 1)) (h9 : D 19 d = nn s) (hd : d < 6) (hne : ne < 37) (hs : s < 37) : F_X7_close D = z_up (z_up (z_up (z_up (z_up (z_up D 15 6 (nn d)) 18 s (nn ne)) 16 ne (nn 7)) 17 ne (nn s)) 18 ne (nn 0)) 15 5 (nn (ne + 1)) := by
  have hw := wwrite_e (a := nn 7) (b := nn s) (c := nn 0) (D := z_up (z_up D 15 6 (nn d)) 18 s (nn ne)) (ne := ne) (by rw [z_up_r (by decide), z_up_i (by decide)]; exact h5) hne
  rw [← hw]
  simp (disch := omega) only [F_X7_close, Nat.add_sub_cancel, h6, h5, h9, z_up_r, z_up_i, z_up_at, ↓reduceIte, ↓z_letE, ↓z_bdE, nn_l2, nn_add, nn_mul, nn_sub, nn_addM, nn_div, nn_rem, nn_min, nn_max, nn_abs, nn_ltT, nn_ltF, nn_leT, nn_leF, nn_eqT, nn_eqF, nn_eqM, nn_Meq, nn_ltM, nn_Mlt, nn_leM, nn_Mle, z_ix_nn, z_inb_nn, F_at_nn, F_put_nn, Nat.zero_add, Nat.add_zero, z_P_some, z_R_some, z_P_bd]
set_option maxHeartbeats 2000000 in
theorem again_L {t : Nat → Nat} {N L o ns pe d s i0 : Nat} {slf : z_Dat → Option z_Dat} (hN : 2000 < N) (hL : L ≤ 150) (ho : o = 34 ∨ 68 ≤ o) (hd : d < 6) (hS : SPEC t L o ns pe N (d + 1) slf) : ∀ (q m ne ni k n nM : Nat) (D G : z_Dat), q + m = 200 → WS t L m (d + 1) ne ni k o ns pe D G → 1000 < n + k → 1000 < nM + m → D 19 d = nn s → s < ne → i0 < ni → OUTc t L m d s i0 ne ni k o ns pe N n D G (z_loop (fun kc86 s => F_X11_readStep_L206 N slf (nn (3 * i0)) kc86 s) nM G) ∨ OUTb t L k o N n D G (z_loop (fun kc86 s => F_X11_readStep_L206 N slf (nn (3 * i0)) kc86 s) nM G) := by
  intro q
  induction q using Nat.strongRecOn with
  | _ q ih =>
  intro m ne ni k n nM D G hq hW hn hnM h19 hs hi0
  obtain ⟨hC, hok, ⟨w1, w2⟩, ⟨w3, w4⟩, ⟨w5, w6, w7⟩, ⟨w8, w9⟩, ⟨w10, w11⟩⟩ := id hW
  obtain ⟨f1, f2⟩ := hC.ff hok
  obtain ⟨h, F, hmh, hRM, hI, hRC, n1, n2, n3, -, n4⟩ := next_C (N := N) hN hC hok
  have hT := hRC.1
  have hhL := hI.1.2.1
  have hWF := hW.rm hRM (hRC.le hmh)
  obtain ⟨nM', rfl⟩ : ∃ x, nM = x + 1 := ⟨nM - 1, by omega⟩
  obtain ⟨n', rfl⟩ : ∃ x, n = x + 1 := ⟨n - 1, by omega⟩
  have hX : z_loop (fun kc86 s => F_X11_readStep_L206 N slf (nn (3 * i0)) kc86 s) (nM' + 1) G = F_X11_readStep_L206 N slf (nn (3 * i0)) (fun s => z_loop (fun kc86 s => F_X11_readStep_L206 N slf (nn (3 * i0)) kc86 s) nM' s) G := rfl
  rw [hX]
  by_cases hcl : h < L ∧ t h = 93
  · -- the end of it
    rcases takesS (N := N) (c := 93) hN hT hI (by decide) (by decide) with ⟨hh, hc, hcv, E, m1, m2, m3, h', m4, m5⟩ | ⟨hno, -⟩
    rotate_left
    · exact absurd hcl hno
    rw [hcv] at n2
    have hid := here_id (N := N) hN hT hhL hI.1.2.2.2 n4
    rw [hcv] at hid
    have fF := hI.T.2
    have sg : F_X11_sign N (nn 93) F = some (z_up F 40 4 (nn (h + 1))) := by simp (disch := omega) only [F_X11_sign, fF, hid, F_X11_sign_J24, n4, ↓reduceIte, ↓z_letE, ↓z_bdE, nn_l2, nn_add, nn_mul, nn_sub, nn_addM, nn_div, nn_rem, nn_min, nn_max, nn_abs, nn_ltT, nn_ltF, nn_leT, nn_leF, nn_eqT, nn_eqF, nn_eqM, nn_Meq, nn_ltM, nn_Mlt, nn_leM, nn_Mle, z_ix_nn, z_inb_nn, F_at_nn, F_put_nn, Nat.zero_add, Nat.add_zero, z_P_some, z_R_some, z_P_bd]
    have fw4 : F 40 7 = nn (d + 1) := hWF.2.2.2.1.2
    have fw3 : F 40 32 = nn (3 * ni) := hWF.2.2.2.1.1
    have e15 : E 15 = D 15 := m2.1 15 (by decide)
    have hne : ne < 37 := by omega
    have hcE := close_e (D := E) (d := d) (ne := ne) (s := s) (by rw [e15]; exact w1) (by rw [e15]; exact w2) (by rw [m2.1 19 (by decide)]; exact h19) hd hne (by omega)
    generalize hE2 : F_X7_close E = E2 at hcE
    have cr : ∀ r, (r < 15 ∨ 18 < r) → E2 r = E r := fun r hr => by
      rw [hcE]
      simp (disch := omega) only [z_up_ne, ne_eq]
    have c15 : E2 15 5 = nn (ne + 1) ∧ E2 15 6 = nn d := by
      rw [hcE]
      exact ⟨by rw [z_up_at rfl rfl], by simp (disch := omega) only [z_up_r, z_up_i, z_up_at]⟩
    generalize hF2 : z_up (z_up (z_up F 40 4 (nn (h + 1))) 40 7 (nn d)) 55 (3 * i0 + 2) (nn (3 * ni)) = F2
    have hF2' := hF2.symm
    have hC2 : RC t L (h + 1) E2 F2 := by
      have hb : RC t L (h + 1) E (z_up F 40 4 (nn (h + 1))) := ⟨hT.keep m2 (RM.rf.up (by decide) (by decide)), Or.inl ⟨h', h + 1, m4, m5⟩⟩
      rw [hF2']
      exact ((hb.cg (cr 1 (by decide)) (cr 2 (by decide)) rfl (fun _ _ _ => rfl)).upM (Or.inr (Or.inl (by decide))) (by decide)).upM (Or.inl (by decide)) (by decide)
    obtain ⟨E3, F3, s1, s2, s3, s4, s5, s6⟩ := sign_C (N := N) (c := 59) hN hC2 (by decide) (by decide)
    have hPL : PLr N o (n' + 1) k D = PLr N o n' (k + 1) E3 := by
      rw [PL_s]
      simp (disch := omega) only [F_X7_read_L12, f1, w2, m1, hE2, s1, PLr, ↓reduceIte, ↓z_letE, ↓z_bdE, nn_l2, nn_add, nn_mul, nn_sub, nn_addM, nn_div, nn_rem, nn_min, nn_max, nn_abs, nn_ltT, nn_ltF, nn_leT, nn_leF, nn_eqT, nn_eqF, nn_eqM, nn_Meq, nn_ltM, nn_Mlt, nn_leM, nn_Mle, z_ix_nn, z_inb_nn, F_at_nn, F_put_nn, Nat.zero_add, Nat.add_zero, z_P_some, z_R_some, z_P_bd]
    have hML : F_X11_readStep_L206 N slf (nn (3 * i0)) (fun s => z_loop (fun kc86 s => F_X11_readStep_L206 N slf (nn (3 * i0)) kc86 s) nM' s) G = some F3 := by
      have ff2 : F_X11_fine (z_up (z_up F 40 4 (nn (h + 1))) 40 7 (nn d)) = nn 1 := by
        have := hI.T.2
        unfold F_X11_fine at this ⊢
        rw [z_up_i (by decide), z_up_i (by decide)]
        exact this
      simp (disch := omega) only [F_X11_readStep_L206, nn_l2, f2, n2, ↓reduceIte, ↓z_bdE, nn_eqF, nn_eqT, F_X11_readStep_J229, sg, ↓z_letE, z_up_i, fw4, nn_sub, Nat.add_sub_cancel, ff2, nn_add, z_inb_nn, z_ix_nn, fw3, hF2, s2]
    have hWP : WPr D E3 := ((WPr.rp m2).tr ⟨fun r h1 h2 => cr r (by omega), fun j _ => by rw [cr 1 (by decide)]⟩).tr (WPr.rp s3)
    have hWM : WMr G F3 := by
      refine (WMr.rm hRM).tr (WMr.tr ⟨fun r h1 h2 => ?_, fun j hj => ?_⟩ (WMr.rm s4))
      · rw [hF2', z_up_ne h2, z_up_ne h1, z_up_ne h1]
      · rw [hF2', z_up_r (by decide), z_up_i (by omega), z_up_i (by omega)]
    by_cases ho3 : OK E3
    rotate_left
    · right
      refine ⟨E3, F3, ?_, hML, hWP, hWM, s5.le (by omega), ho3⟩
      rw [hPL, PL_fail (s5.nf ho3).1 (by omega) (by omega)]
    · left
      obtain ⟨-, s7⟩ := s6 ho3
      have er : ∀ r, r ≠ 1 → E3 r = E2 r := fun r hr => s3.1 r hr
      have dr : ∀ r, r ≠ 1 → E r = D r := fun r hr => m2.1 r hr
      have fr : ∀ y, F3 55 y = F2 55 y := fun y => by rw [s4.1 55 (by decide)]
      refine ⟨k + 1, n', h + 2, ne, ni, E3, F3, 1, hPL, hML, by omega, by omega, hWP, hWM, ⟨s7.le (by omega), ho3, ⟨?_, ?_⟩, ⟨?_, ?_⟩, ⟨by omega, by omega, by omega⟩, ⟨?_, ?_⟩, ⟨?_, ?_⟩⟩, Or.inl ⟨rfl, rfl⟩, ⟨?_, ?_, ?_⟩, ?_, fun x hx => ⟨?_, ?_, fun hxs => ?_⟩, fun y hy hy2 => ?_, fun i hi => ?_⟩
      · rw [er 15 (by decide)]; exact c15.1
      · rw [er 15 (by decide)]; exact c15.2
      · rw [s4.2 32 (by omega), hF2', z_up_r (by decide), z_up_i (by decide), z_up_i (by decide)]; exact fw3
      · rw [s4.2 7 (by omega), hF2', z_up_r (by decide), z_up_at rfl rfl]
      · rw [er o (by omega), cr o (by omega), dr o (by omega)]; exact w8
      · rw [er o (by omega), cr o (by omega), dr o (by omega)]; exact w9
      · rw [s4.2 19 (by omega), hF2', z_up_r (by decide), z_up_i (by decide), z_up_i (by decide), hRM.2 19 (by omega)]; exact w10
      · rw [s4.2 20 (by omega), hF2', z_up_r (by decide), z_up_i (by decide), z_up_i (by decide), hRM.2 20 (by omega)]; exact w11
      · rw [er 16 (by decide), hcE]; simp (disch := omega) only [z_up_r, z_up_at]
      · rw [er 17 (by decide), hcE]; simp (disch := omega) only [z_up_r, z_up_at]
      · rw [er 18 (by decide), hcE]; simp (disch := omega) only [z_up_r, z_up_i, z_up_at]
      · rw [fr, hF2', z_up_at rfl rfl]
      · rw [er 16 (by decide), hcE]; simp (disch := omega) only [z_up_r, z_up_i]; rw [dr 16 (by decide)]
      · rw [er 17 (by decide), hcE]; simp (disch := omega) only [z_up_r, z_up_i]; rw [dr 17 (by decide)]
      · rw [er 18 (by decide), hcE]; simp (disch := omega) only [z_up_r, z_up_i]; rw [dr 18 (by decide)]
      · rw [fr, hF2', z_up_i hy2, z_up_r (by decide), z_up_r (by decide), hRM.1 55 (by decide)]
      · rw [er 19 (by decide), cr 19 (by decide), dr 19 (by decide)]
  · -- one more step
    have hcv : cvt t L h ≠ nn 93 := by
      unfold cvt
      by_cases hh : h < L
      · rw [if_pos hh]
        have htb := (hT.2.1 h (by omega)).1
        exact fun q => hcl ⟨hh, nn_inj (by omega) (by omega) q⟩
      · rw [if_neg hh]
        decide
    have hML : F_X11_readStep_L206 N slf (nn (3 * i0)) (fun s => z_loop (fun kc86 s => F_X11_readStep_L206 N slf (nn (3 * i0)) kc86 s) nM' s) G = z_bd (slf F) (fun a => z_loop (fun kc86 s => F_X11_readStep_L206 N slf (nn (3 * i0)) kc86 s) nM' a) := by
      simp (disch := omega) only [F_X11_readStep_L206, nn_l2, f2, n2, ↓reduceIte, ↓z_bdE, nn_eqF, hcv]
    rw [hML]
    rcases hS m ne ni k (n' + 1) h D F hWF hn hI (fun q => absurd q (by omega)) (fun _ => hcl) with ⟨k1, n1', m1, ne1, ni1, E1, F1, fu, a1, a2, a3, a4, a5, a6, a7, a8, a9, a10, a11⟩ | ⟨E1, F1, a1, a2, a3, a4, a5, a6⟩
    rotate_left
    · right
      rw [a2, z_bdE]
      obtain ⟨x1, x2⟩ := a5.nf a6
      have hlo : z_loop (fun kc86 s => F_X11_readStep_L206 N slf (nn (3 * i0)) kc86 s) nM' F1 = some (z_up F1 40 7 (F1 40 7 - nn 1)) := by
        obtain ⟨kk, pl, hA⟩ := a5.fa a6
        obtain ⟨nM'', rfl⟩ : ∃ x, nM' = x + 1 := ⟨nM' - 1, by
          have : m ≤ 150 := by omega
          omega⟩
        show F_X11_readStep_L206 N slf (nn (3 * i0)) _ F1 = _
        have g1 := (sign_A (N := N) (c := 93) hA).2
        have hA2 : FA kk pl E1 (z_up F1 40 7 (F1 40 7 - nn 1)) := by
          obtain ⟨k1, k2, k3, k4, k5, k6, k7⟩ := hA
          exact ⟨k1, k2, k3, k4, k5, by rw [z_up_i (by decide)]; exact k6, by rw [z_up_i (by decide)]; exact k7⟩
        have g2 := (sign_A (N := N) (c := 59) hA2).2
        have g3 := hA2.T.2
        simp only [F_X11_readStep_L206, nn_l2, x2, ↓reduceIte, F_X11_readStep_J229, g1, ↓z_bdE, ↓z_letE, g3, g2]
      rw [hlo]
      exact ⟨E1, _, a1, rfl, a3, ((WMr.rm hRM).tr a4).tr ⟨fun r h1 h2 => z_up_ne h1, fun j hj => z_up_i (by omega)⟩, a5.upM (Or.inr (Or.inl (by decide))) (by decide), a6⟩
    · rw [a2, z_bdE]
      have lb := a8.le
      have m1L : m1 ≤ 150 := by
        obtain ⟨hx, px, hx1, hx2⟩ := a7.1.fi a7.2.1
        have := hx2.1.2.1
        omega
      rcases ih (200 - m1) (by omega) m1 ne1 ni1 k1 n1' nM' E1 F1 (by omega) a7 (by omega) (by omega) (by rw [a11 d (by omega)]; exact h19) (by omega) (by omega) with ⟨k2, n2', m2, ne2, ni2, E2, F2, fu2, b1, b2, b3, b4, b5, b6, b7, b8, b9, b10, b11, b12, b13⟩ | ⟨E2, F2, b1, b2, b3, b4, b5, b6⟩
      · left
        have keep1 : BK ns pe E2 F2 fu (6 - (d + 1)) ne ne1 ni ni1 := a8.keep _ _ _ _ _ _ (fun x x1 x2 => by
          obtain ⟨y1, y2, y3⟩ := b11 x x2
          exact ⟨y1, y2, y3 (by omega)⟩) (fun y y1 y2 => b12 y y2 (by omega))
        exact ⟨k2, n2', m2, ne2, ni2, E2, F2, fu + fu2, a1.trans b1, b2, by omega, by omega, a5.tr b5, ((WMr.rm hRM).tr a6).tr b6, b7, keep1.app _ _ _ _ _ _ _ b8, b9, b10, fun x hx => by
          obtain ⟨y1, y2, y3⟩ := b11 x (by omega)
          obtain ⟨z1, z2, z3⟩ := a9 x hx
          exact ⟨y1.trans z1, y2.trans z2, fun q => (y3 q).trans z3⟩, fun y hy hy2 => by rw [b12 y (by omega) hy2, a10 y hy, hRM.1 55 (by decide)], fun i hi => (b13 i hi).trans (a11 i (by omega))⟩
      · right
        exact ⟨E2, F2, a1.trans b1, b2, a5.tr b3, ((WMr.rm hRM).tr a6).tr b4, b5, b6⟩
