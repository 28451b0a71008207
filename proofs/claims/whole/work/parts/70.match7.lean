/-! ===== who is to marry whom: the model's first partner ===== -/
theorem fill_P {N r n : Nat} {v : Int32} {D : z_Dat} (hN : n < N) (hn : n < 2147483648) : z_P (F_X10_fill N r n v D) (fun E => Fr r D E ∧ ∀ i, i < n → E r i = v) := by
  unfold F_X10_fill
  refine z_P_loop (fun k s => ∃ i, i + k = n ∧ s.1 = nn i ∧ Fr r D s.2 ∧ ∀ j, j < i → s.2 r j = v) ?_ n N _ hN ⟨0, by omega, rfl, Fr.rf, fun j h => by omega⟩
  rintro k ⟨v1, E⟩ kc ⟨i, hk, rfl, hF, hE⟩ ih
  dsimp only at hF hE ⊢
  have en : Int32.ofNat n = nn n := rfl
  by_cases hi : i < n
  · simp (disch := omega) only [F_X10_fill_L2, en, ↓reduceIte, ↓z_letE, ↓z_bdE, nn_l2, nn_add, nn_mul, nn_sub, nn_addM, nn_div, nn_rem, nn_min, nn_max, nn_abs, nn_ltT, nn_ltF, nn_leT, nn_leF, nn_eqT, nn_eqF, nn_eqM, nn_Meq, nn_ltM, nn_Mlt, nn_leM, nn_Mle, z_ix_nn, z_inb_nn, F_at_nn, F_put_nn, Nat.zero_add, Nat.add_zero, z_P_some, z_R_some, z_P_bd]
    refine ih (k - 1) _ (by omega) ⟨i + 1, by omega, rfl, Fr.up hF, fun j hj => ?_⟩
    dsimp only
    by_cases e : j = i
    · subst e
      exact z_up_at rfl rfl
    · rw [z_up_i e]
      exact hE j (by omega)
  · have e : i = n := by omega
    subst e
    simp (disch := omega) only [F_X10_fill_L2, en, ↓reduceIte, ↓z_letE, ↓z_bdE, nn_l2, nn_add, nn_mul, nn_sub, nn_addM, nn_div, nn_rem, nn_min, nn_max, nn_abs, nn_ltT, nn_ltF, nn_leT, nn_leF, nn_eqT, nn_eqF, nn_eqM, nn_Meq, nn_ltM, nn_Mlt, nn_leM, nn_Mle, z_ix_nn, z_inb_nn, F_at_nn, F_put_nn, Nat.zero_add, Nat.add_zero, z_P_some, z_R_some, z_P_bd]
    exact ⟨hF, hE⟩
def FG (pe : Nat) (K X : Nat → Nat) (ok : Nat → Nat → Bool) (w : Nat → Nat → Nat) (s a m f : Nat) : Prop := (f = 0 ∧ ∀ b, m < b → b < pe → ¬ PP K X ok w s a b) ∨ ∃ b, f = b + 1 ∧ m < b ∧ b < pe ∧ PP K X ok w s a b ∧ ∀ c, m < c → c < b → ¬ PP K X ok w s a c
theorem FG_a {pe : Nat} {K X : Nat → Nat} {ok : Nat → Nat → Bool} {w : Nat → Nat → Nat} {s a f : Nat} (h : FG pe K X ok w s a a f) : FPm pe K X ok w s a f := by
  rcases h with ⟨h1, h2⟩ | ⟨b, h1, h2, h3, h4, h5⟩
  · exact Or.inl ⟨h1, fun b hb hP => h2 b hP.1 hb hP⟩
  · exact Or.inr ⟨b, h1, h3, h4, fun c hc hP => h5 c hP.1 hc hP⟩
set_option maxHeartbeats 4000000 in
theorem inner_e {pe s a : Nat} {E : z_Dat} {ok : Nat → Nat → Bool} {w : Nat → Nat → Nat} {K X : Nat → Nat} {kc16 : (Int32 × z_Dat) → Option z_Dat} (hpe : pe ≤ 8) (hs : s < 2 ^ pe) (ha : a < pe) (h1 : bt s a = 1) (hw : ∀ a b, ok a b = true → a < 8 → b < 8 → w a b ≤ 6) (hM : MW pe ok w K X)
    (hL : ∀ t, t < 2 ^ pe → E 64 (2 ^ pe - 1 - t) = nn (1000 * K t - X t)) (hG : ∀ a b, a < pe → b < pe → F_X11_mayMatch (nn a) (nn b) E = some (nn (if ok a b then 1 else 0)) ∧ F_X11_worthOf (nn a) (nn b) E = some (nn (1000 - w a b))) :
    ∀ m f n, a + m < pe → m < n → FG pe K X ok w s a (a + m) f → ∃ g, FPm pe K X ok w s a g ∧ z_loop (fun kc23 t => F_X11_findMatch_L189 kc16 (nn (2 ^ pe - 1 - s)) E (nn a) kc23 t.1 t.2) n (cd f, nn (a + m)) = F_X11_findMatch_L189 kc16 (nn (2 ^ pe - 1 - s)) E (nn a) (fun _ => none) (cd g) (nn a)
  | 0, f, n + 1, _, _, hf => ⟨f, FG_a hf, by
    show F_X11_findMatch_L189 _ _ _ _ _ _ _ = _
    unfold F_X11_findMatch_L189
    rw [if_pos (show nn (a + 0) ≤ nn a from Int32.le_refl _), if_pos (Int32.le_refl _)]⟩
  | m + 1, f, n + 1, hm, hn, hf => by
    have hp := pow_8 hpe
    have hMl := MW_le hpe hw hM
    have hcl := cl_lt (s := s) (by omega) (by omega) h1
    obtain ⟨b, hbe⟩ : ∃ b, b = a + (m + 1) := ⟨_, rfl⟩
    have hb : b < pe := by omega
    have hcb : bt (cl s a) b = bt s b := by
      rw [cl_bt s (by omega) a (by omega) b (by omega), if_neg (by omega)]
    have hcm := cmp_m pe (by omega) s hs b hb
    have eI := bit_m (2 ^ pe - 1 - s) (by omega) b (by omega)
    obtain ⟨eG, eW⟩ := hG a b ha hb
    have dc : nn b + -nn 1 = nn (a + m) := by
      rw [cd_dec b (by omega), hbe]
      rfl
    have nd : ¬ nn b ≤ nn a := by
      rw [nn_le (by omega) (by omega)]
      omega
    have keep : ¬ PP K X ok w s a b → FG pe K X ok w s a (a + m) f := fun hx => by
      rcases hf with ⟨q1, q2⟩ | ⟨c, q1, q2, q3, q4, q5⟩
      · exact Or.inl ⟨q1, fun c hc hc2 hP => by
          by_cases e : c = b
          · subst e; exact hx hP
          · exact q2 c (by omega) hc2 hP⟩
      · exact Or.inr ⟨c, q1, by omega, q3, q4, fun d hd hd2 hP => by
          by_cases e : d = b
          · subst e; exact hx hP
          · exact q5 d (by omega) hd2 hP⟩
    have stay := fun hx => inner_e (kc16 := kc16) hpe hs ha h1 hw hM hL hG m f n (by omega) (by omega) (keep hx)
    rw [← hbe]
    show ∃ g, _ ∧ F_X11_findMatch_L189 kc16 (nn (2 ^ pe - 1 - s)) E (nn a) (z_loop _ n) (cd f) (nn b) = _
    rcases @bt_01 s b with hbt | hbt
    · rw [show bt (2 ^ pe - 1 - s) b = 1 from by omega] at eI
      obtain ⟨g, g1, g2⟩ := stay (fun hP => by have := hP.2.1; omega)
      refine ⟨g, g1, Eq.trans ?_ g2⟩
      rw [F_X11_findMatch_L189, if_neg nd]
      simp (disch := omega) only [eI, dc, ↓reduceIte, ↓z_letE, ↓z_bdE, nn_l2, nn_add, nn_mul, nn_sub, nn_addM, nn_div, nn_rem, nn_min, nn_max, nn_abs, nn_ltT, nn_ltF, nn_leT, nn_leF, nn_eqT, nn_eqF, nn_eqM, nn_Meq, nn_ltM, nn_Mlt, nn_leM, nn_Mle, z_ix_nn, z_inb_nn, F_at_nn, F_put_nn, Nat.zero_add, Nat.add_zero, z_P_some, z_R_some, z_P_bd]
    · rw [show bt (2 ^ pe - 1 - s) b = 0 from by omega] at eI
      cases hok : ok a b with
      | false =>
        rw [hok, if_neg Bool.false_ne_true] at eG
        obtain ⟨g, g1, g2⟩ := stay (fun hP => by have := hP.2.2.1; rw [hok] at this; exact Bool.false_ne_true this)
        refine ⟨g, g1, Eq.trans ?_ g2⟩
        rw [F_X11_findMatch_L189, if_neg nd]
        simp (disch := omega) only [eI, eG, dc, ↓reduceIte, ↓z_letE, ↓z_bdE, nn_l2, nn_add, nn_mul, nn_sub, nn_addM, nn_div, nn_rem, nn_min, nn_max, nn_abs, nn_ltT, nn_ltF, nn_leT, nn_leF, nn_eqT, nn_eqF, nn_eqM, nn_Meq, nn_ltM, nn_Mlt, nn_leM, nn_Mle, z_ix_nn, z_inb_nn, F_at_nn, F_put_nn, Nat.zero_add, Nat.add_zero, z_P_some, z_R_some, z_P_bd]
      | true =>
        have hw6 := hw a b hok (by omega) (by omega)
        rw [hok, if_pos rfl] at eG
        have hbt2 : bt (cl s a) b = 1 := by omega
        have hc2 := cl_lt (s := cl s a) (by omega) (by omega) hbt2
        have hv := hMl (cl (cl s a) b) (by omega)
        have hvs := hMl s hs
        have hps := @pc_le s
        have hpv := pc_m (cl s a) (by omega) b (by omega) hbt2
        have hpc := @pc_le (cl s a)
        have e1 : nn (2 ^ pe - 1 - s) ||| z_shl (nn 1) (nn a) = nn (2 ^ pe - 1 - cl s a) := by
          rw [set_m _ (by omega) a (by omega), st_cl hpe hs ha h1]
        have e2 : nn (2 ^ pe - 1 - cl s a) ||| z_shl (nn 1) (nn b) = nn (2 ^ pe - 1 - cl (cl s a) b) := by
          rw [set_m _ (by omega) _ (by omega), st_cl hpe (by omega) (by omega) hbt2]
        have eL2 := hL (cl (cl s a) b) (by omega)
        have eS := hL s hs
        have sm := sam_w (k := K s) (k' := K (cl (cl s a) b) + 1) (x := X s) (x' := X (cl (cl s a) b) + w a b) (by omega) (by omega) hvs.2 (by omega)
        by_cases hq : K s = K (cl (cl s a) b) + 1 ∧ X s = X (cl (cl s a) b) + w a b
        · have hq2 := sm.mpr hq
          obtain ⟨g, g1, g2⟩ := inner_e (kc16 := kc16) hpe hs ha h1 hw hM hL hG m (b + 1) n (by omega) (by omega) (Or.inr ⟨b, rfl, by omega, hb, ⟨by omega, hbt2, hok, hq.1.symm, hq.2.symm⟩, fun c hc hc2 => by omega⟩)
          refine ⟨g, g1, Eq.trans ?_ g2⟩
          have ecd : cd (b + 1) = nn b := rfl
          rw [F_X11_findMatch_L189, if_neg nd]
          simp (disch := omega) only [eI, eG, eW, e1, e2, eL2, eS, dc, ecd, ↓reduceIte, ↓z_letE, ↓z_bdE, nn_l2, nn_add, nn_mul, nn_sub, nn_addM, nn_div, nn_rem, nn_min, nn_max, nn_abs, nn_ltT, nn_ltF, nn_leT, nn_leF, nn_eqT, nn_eqF, nn_eqM, nn_Meq, nn_ltM, nn_Mlt, nn_leM, nn_Mle, z_ix_nn, z_inb_nn, F_at_nn, F_put_nn, Nat.zero_add, Nat.add_zero, z_P_some, z_R_some, z_P_bd]
        · have hq2 : ¬ 1000 * K s - X s = 1000 * (K (cl (cl s a) b) + 1) - (X (cl (cl s a) b) + w a b) := fun q => hq (sm.mp q)
          obtain ⟨g, g1, g2⟩ := stay (fun hP => hq ⟨hP.2.2.2.1.symm, hP.2.2.2.2.symm⟩)
          refine ⟨g, g1, Eq.trans ?_ g2⟩
          rw [F_X11_findMatch_L189, if_neg nd]
          simp (disch := omega) only [eI, eG, eW, e1, e2, eL2, eS, dc, ↓reduceIte, ↓z_letE, ↓z_bdE, nn_l2, nn_add, nn_mul, nn_sub, nn_addM, nn_div, nn_rem, nn_min, nn_max, nn_abs, nn_ltT, nn_ltF, nn_leT, nn_leF, nn_eqT, nn_eqF, nn_eqM, nn_Meq, nn_ltM, nn_Mlt, nn_leM, nn_Mle, z_ix_nn, z_inb_nn, F_at_nn, F_put_nn, Nat.zero_add, Nat.add_zero, z_P_some, z_R_some, z_P_bd]
