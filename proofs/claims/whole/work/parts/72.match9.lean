/-! ===== who is to marry whom: both choose alike ===== -/
theorem no_bit {pe s : Nat} (hpe : pe ≤ 8) (hs : s < 2 ^ pe) (h : ∀ c, c < pe → bt s c = 0) : s = 0 := by
  by_cases e : s = 0
  · exact e
  · obtain ⟨a, h1, h2, -⟩ := least_bt hpe hs e
    have := h a h1
    omega
set_option maxHeartbeats 8000000 in
theorem choose_R {N pe : Nat} {E0 F0 : z_Dat} {ok : Nat → Nat → Bool} {w : Nat → Nat → Nat} {K X : Nat → Nat} (hN : 2000 < N) (hpe : pe ≤ 8) (hw : ∀ a b, ok a b = true → a < 8 → b < 8 → w a b ≤ 6) (hM : MW pe ok w K X) (k20 : F0 40 20 = nn pe)
    (hL : ∀ t, t < 2 ^ pe → E0 29 t = nn (100 * K t - X t)) (hG : ∀ a b, a < pe → b < pe → E0 30 (a * 8 + b) = nn (gn ok w a b)) (hL2 : ∀ t, t < 2 ^ pe → F0 64 (2 ^ pe - 1 - t) = nn (1000 * K t - X t))
    (hG2 : ∀ F : z_Dat, Fr 65 F0 F → ∀ a b, a < pe → b < pe → F_X11_mayMatch (nn a) (nn b) F = some (nn (if ok a b then 1 else 0)) ∧ F_X11_worthOf (nn a) (nn b) F = some (nn (1000 - w a b))) :
    ∀ k a s p E F n n', a + k = pe → k < n → k < n' → s < 2 ^ pe → CH pe (2 ^ pe - 1) a s K X w p → Fr 31 E0 E → Fr 65 F0 F → (∀ c, c < pe → E 31 c = cd (p c)) → (∀ c, c < pe → F 65 c = cd (p c)) →
      z_R (z_loop (fun kc6 t => F_X2_choose_L13 N (nn pe) kc6 t.1 t.2.1 t.2.2) n (nn s, nn a, E)) (z_loop (fun kc16 t => F_X11_findMatch_L168 N (nn (2 ^ pe - 1)) kc16 t.1 t.2) n' (nn (2 ^ pe - 1 - s), F))
        (fun E' F' => Fr 31 E0 E' ∧ Fr 65 F0 F' ∧ ∃ p, (∀ c, c < pe → E' 31 c = cd (p c)) ∧ (∀ c, c < pe → F' 65 c = cd (p c)) ∧ CH pe (2 ^ pe - 1) pe 0 K X w p)
  | 0, a, s, p, E, F, n + 1, n' + 1, hk, _, _, hs, hC, hE, hF, h31, h65 => by
    have hp := pow_8 hpe
    have e : a = pe := by omega
    subst e
    have e0 := no_bit hpe hs hC.2.2.1
    subst e0
    show z_R (F_X2_choose_L13 N (nn a) _ (nn 0) (nn a) E) (F_X11_findMatch_L168 N _ _ (nn (2 ^ a - 1 - 0)) F) _
    rw [Nat.sub_zero]
    simp (disch := omega) only [F_X2_choose_L13, F_X11_findMatch_L168, ↓reduceIte, ↓z_letE, ↓z_bdE, nn_l2, nn_add, nn_mul, nn_sub, nn_addM, nn_div, nn_rem, nn_min, nn_max, nn_abs, nn_ltT, nn_ltF, nn_leT, nn_leF, nn_eqT, nn_eqF, nn_eqM, nn_Meq, nn_ltM, nn_Mlt, nn_leM, nn_Mle, z_ix_nn, z_inb_nn, F_at_nn, F_put_nn, Nat.zero_add, Nat.add_zero, z_P_some, z_R_some, z_P_bd]
    exact ⟨hE, hF, p, h31, h65, hC⟩
  | k + 1, a, s, p, E, F, n + 1, n' + 1, hk, hn, hn', hs, hC, hE, hF, h31, h65 => by
    have hp := pow_8 hpe
    have ha : a < pe := by omega
    have eI := isIn_e (s := s) (b := a) (by omega) (by omega)
    rcases @bt_01 s a with hb | hb
    · have ih := choose_R hN hpe hw hM k20 hL hG hL2 hG2 k (a + 1) s p E F n (n' + 1) (by omega) (by omega) (by omega) hs (CH_skip ha hb hC) hE hF h31 h65
      rw [hb] at eI
      show z_R (F_X2_choose_L13 N (nn pe) (z_loop _ n) (nn s) (nn a) E) _ _
      unfold F_X2_choose_L13
      simp (disch := omega) only [eI, ↓reduceIte, ↓z_letE, ↓z_bdE, nn_l2, nn_add, nn_mul, nn_sub, nn_addM, nn_div, nn_rem, nn_min, nn_max, nn_abs, nn_ltT, nn_ltF, nn_leT, nn_leF, nn_eqT, nn_eqF, nn_eqM, nn_Meq, nn_ltM, nn_Mlt, nn_leM, nn_Mle, z_ix_nn, z_inb_nn, F_at_nn, F_put_nn, Nat.zero_add, Nat.add_zero, z_P_some, z_R_some, z_P_bd]
      exact ih
    · rw [hb] at eI
      have h2a : 0 < 2 ^ a := Nat.pow_pos (by decide)
      have hsa := bt_le s (by omega) a (by omega) hb
      obtain ⟨f, f1, f2⟩ := firstPartner_e (N := N) (E := E) (by omega) hpe hs ha hb hw hM (fun t ht => by rw [hE 29 (by decide)]; exact hL t ht) (fun x y hx hy => by rw [hE 30 (by decide)]; exact hG x y hx hy)
      obtain ⟨g, g1, g2⟩ := inner_e (E := F) (kc16 := z_loop (fun kc16 t => F_X11_findMatch_L168 N (nn (2 ^ pe - 1)) kc16 t.1 t.2) n') hpe hs ha hb hw hM (fun t ht => by rw [hF 64 (by decide)]; exact hL2 t ht) (hG2 F hF) (pe - 1 - a) 0 N (by omega) (by omega) (Or.inl ⟨rfl, fun b q1 q2 => by omega⟩)
      have efg := FPm_u g1 f1
      subst efg
      rw [show a + (pe - 1 - a) = pe - 1 from by omega] at g2
      have g2 : z_loop (fun kc23 t => F_X11_findMatch_L189 (z_loop (fun kc16 t => F_X11_findMatch_L168 N (nn (2 ^ pe - 1)) kc16 t.1 t.2) n') (nn (2 ^ pe - 1 - s)) F (nn a) kc23 t.1 t.2) N (-nn 1, nn (pe - 1)) = _ := g2
      have eO : F_X11_firstOut N (nn (2 ^ pe - 1 - s)) = some (nn a) := firstOut_e (by omega) hpe (by omega) ha (by
        have := cmp_m pe (by omega) s hs a ha
        omega) (fun c hc => by
        have h1 := cmp_m pe (by omega) s hs c (by omega)
        have h2 := hC.2.2.1 c hc
        omega)
      have e20 : F 40 20 = nn pe := by rw [hF 40 (by decide)]; exact k20
      have ec := clr_m s (by omega) a (by omega)
      have hcl := cl_lt (s := s) (by omega) (by omega) hb
      have e1 : nn (2 ^ pe - 1 - s) ||| z_shl (nn 1) (nn a) = nn (2 ^ pe - 1 - cl s a) := by
        rw [set_m _ (by omega) a (by omega), st_cl hpe hs ha hb]
      show z_R (F_X2_choose_L13 N (nn pe) (z_loop _ n) (nn s) (nn a) E) (F_X11_findMatch_L168 N (nn (2 ^ pe - 1)) (z_loop _ n') (nn (2 ^ pe - 1 - s)) F) _
      rcases id f1 with ⟨rfl, -⟩ | ⟨b, rfl, hbp, hP, -⟩
      · have e0 := FPm_0 hpe hM hs ha hb hC.2.2.1 f1
        have ih := choose_R hN hpe hw hM k20 hL hG hL2 hG2 k (a + 1) (cl s a) p E F n n' (by omega) (by omega) (by omega) (by omega) (CH_none hpe (by omega) ha hb e0.1 e0.2 hC) hE hF h31 h65
        have ecd : cd 0 = -nn 1 := rfl
        generalize z_loop (fun kc16 t => F_X11_findMatch_L168 N (nn (2 ^ pe - 1)) kc16 t.1 t.2) n' = kB at ih g2 ⊢
        generalize z_loop (fun kc6 t => F_X2_choose_L13 N (nn pe) kc6 t.1 t.2.1 t.2.2) n = kA at ih ⊢
        simp (disch := omega) only [F_X2_choose_L13, F_X11_findMatch_L168, eI, f2, ec, eO, e20, g2, ecd, ↓reduceIte, ↓z_letE, ↓z_bdE, nn_l2, nn_add, nn_mul, nn_sub, nn_addM, nn_div, nn_rem, nn_min, nn_max, nn_abs, nn_ltT, nn_ltF, nn_leT, nn_leF, nn_eqT, nn_eqF, nn_eqM, nn_Meq, nn_ltM, nn_Mlt, nn_leM, nn_Mle, z_ix_nn, z_inb_nn, F_at_nn, F_put_nn, Nat.zero_add, Nat.add_zero, z_P_some, z_R_some, z_P_bd]
        simp (disch := omega) only [F_X11_findMatch_L189, e1, ↓reduceIte, ↓z_letE, ↓z_bdE, nn_l2, nn_add, nn_mul, nn_sub, nn_addM, nn_div, nn_rem, nn_min, nn_max, nn_abs, nn_ltT, nn_ltF, nn_leT, nn_leF, nn_eqT, nn_eqF, nn_eqM, nn_Meq, nn_ltM, nn_Mlt, nn_leM, nn_Mle, z_ix_nn, z_inb_nn, F_at_nn, F_put_nn, Nat.zero_add, Nat.add_zero, z_P_some, z_R_some, z_P_bd]
        exact ih
      · obtain ⟨p1, p2, p3, p4, p5⟩ := hP
        have hcl2 := cl_lt (s := cl s a) (by omega) (by omega) p2
        have e2 : nn (2 ^ pe - 1 - cl s a) ||| z_shl (nn 1) (nn b) = nn (2 ^ pe - 1 - cl (cl s a) b) := by
          rw [set_m _ (by omega) _ (by omega), st_cl hpe (by omega) (by omega) p2]
        have ec2 := clr_m (cl s a) (by omega) b (by omega)
        have pq : ∀ (r : Nat) (D : z_Dat), (∀ c, c < pe → D r c = cd (p c)) → ∀ c, c < pe → z_up (z_up D r a (nn b)) r b (nn a) r c = cd (pu p a b c) := fun r D hD c hc => by
          unfold pu
          by_cases q1 : c = a
          · rw [if_pos q1, z_up_i (by omega), z_up_at rfl q1]
            rfl
          · rw [if_neg q1]
            by_cases q2 : c = b
            · rw [if_pos q2, z_up_at rfl q2]
              rfl
            · rw [if_neg q2, z_up_i q2, z_up_i q1]
              exact hD c hc
        have ih := choose_R hN hpe hw hM k20 hL hG hL2 hG2 k (a + 1) (cl (cl s a) b) (pu p a b) (z_up (z_up E 31 a (nn b)) 31 b (nn a)) (z_up (z_up F 65 a (nn b)) 65 b (nn a)) n n' (by omega) (by omega) (by omega) (by omega) (CH_pair hpe (by omega) hbp p1 hb p2 p4 p5 hC) hE.up.up hF.up.up (pq 31 E h31) (pq 65 F h65)
        have ecd : cd (b + 1) = nn b := rfl
        generalize z_loop (fun kc16 t => F_X11_findMatch_L168 N (nn (2 ^ pe - 1)) kc16 t.1 t.2) n' = kB at ih g2 ⊢
        generalize z_loop (fun kc6 t => F_X2_choose_L13 N (nn pe) kc6 t.1 t.2.1 t.2.2) n = kA at ih ⊢
        simp (disch := omega) only [F_X2_choose_L13, F_X11_findMatch_L168, eI, f2, ec, ec2, eO, e20, g2, ecd, ↓reduceIte, ↓z_letE, ↓z_bdE, nn_l2, nn_add, nn_mul, nn_sub, nn_addM, nn_div, nn_rem, nn_min, nn_max, nn_abs, nn_ltT, nn_ltF, nn_leT, nn_leF, nn_eqT, nn_eqF, nn_eqM, nn_Meq, nn_ltM, nn_Mlt, nn_leM, nn_Mle, z_ix_nn, z_inb_nn, F_at_nn, F_put_nn, Nat.zero_add, Nat.add_zero, z_P_some, z_R_some, z_P_bd]
        simp (disch := omega) only [F_X11_findMatch_L189, e1, e2, ↓reduceIte, ↓z_letE, ↓z_bdE, nn_l2, nn_add, nn_mul, nn_sub, nn_addM, nn_div, nn_rem, nn_min, nn_max, nn_abs, nn_ltT, nn_ltF, nn_leT, nn_leF, nn_eqT, nn_eqF, nn_eqM, nn_Meq, nn_ltM, nn_Mlt, nn_leM, nn_Mle, z_ix_nn, z_inb_nn, F_at_nn, F_put_nn, Nat.zero_add, Nat.add_zero, z_P_some, z_R_some, z_P_bd]
        exact ih
