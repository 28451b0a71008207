/-! ===== who is to marry whom: the match found on both sides ===== -/
set_option maxHeartbeats 4000000 in
theorem findMatch_R {N o ns pe rv : Nat} {D G : z_Dat} (hN : 2000 < N) (ho : o = 34 ∨ 68 ≤ o) (hB : JB o ns pe rv D) (hK : KA D G) :
    z_P (F_X11_findMatch N (z_up G 40 0 (nn 0))) (fun F => ∃ E, F_X2_arrange N o 3 D = some E ∧ KA D E ∧ F 40 0 = nn 0 ∧ F 67 = G 67 ∧ KA G F ∧ ∃ k x, k ≤ 8 ∧ x ≤ 6 * k ∧ E 28 3 = nn k ∧ E 28 4 = nn x ∧ F 64 0 = nn (1000 * k - x) ∧ ∀ c, c < pe → E 31 c = F 65 c) := by
  obtain ⟨⟨hns, hpe, hrv⟩, ⟨c5, c6, c7⟩, -, hV, hH⟩ := id hB.1
  have h29 : D 29 0 = nn 0 := hB.2.2.2.1.2.2
  have hp := pow_8 hpe
  have hp0 : 0 < 2 ^ pe := Nat.pow_pos (by decide)
  unfold F_X11_findMatch
  rw [z_P_bd]
  refine z_P_take (by omega) hB hK (fun G2 hA => ?_)
  obtain ⟨A1, A2, A3, A4, A5, A6⟩ := hA
  obtain ⟨sh, hsh⟩ := TR_sh A2
  have m20 : G2 40 20 = nn pe := A1.2.2.1.2.1
  have es := shl_full pe (by omega)
  have cs := cd_sub (2 ^ pe - 1) (by omega)
  obtain ⟨K, X, hM⟩ := MW_ex pe hpe (okm (fun p => G2 48 p) (fun p => G2 58 (32 + p)) sh) (fun a b => ap (sh a) (sh b))
  have hw : ∀ a b, okm (fun p => G2 48 p) (fun p => G2 58 (32 + p)) sh a b = true → a < 8 → b < 8 → ap (sh a) (sh b) ≤ 6 := fun a b h _ _ => (okm_t.mp h).1
  simp (disch := omega) only [m20, es, cs, ↓reduceIte, ↓z_letE, ↓z_bdE, nn_l2, nn_add, nn_mul, nn_sub, nn_addM, nn_div, nn_rem, nn_min, nn_max, nn_abs, nn_ltT, nn_ltF, nn_leT, nn_leF, nn_eqT, nn_eqF, nn_eqM, nn_Meq, nn_ltM, nn_Mlt, nn_leM, nn_Mle, z_ix_nn, z_inb_nn, F_at_nn, F_put_nn, Nat.zero_add, Nat.add_zero, z_P_some, z_R_some, z_P_bd]
  refine mtable_P hN hpe (by rw [z_up_r (by decide)]; exact m20) hw hM (z_up_at rfl rfl) (fun E hE a b ha hb => may_m (D := D) hpe ha hb (by rw [hE 48 (by decide), z_up_ne (by decide)]) (by rw [hE 58 (by decide), z_up_ne (by decide)]) (fun p hp => ⟨(hsh p hp).1, (hsh p hp).2.2⟩)) (fun E1 h1 h2 => ?_)
  have f1 : Fr 64 G2 E1 := fun r hr => by rw [h1 r hr, z_up_ne hr]
  refine mclear_P (by omega) hpe (by rw [f1 40 (by decide)]; exact m20) (fun F0 h3 h4 => ?_)
  obtain ⟨E, e1, F, e2, e3, e4, e5, e6, e7, e8⟩ := arrange_R (N := N) (o := o) (D := D) (F0 := F0) hN ho hpe c6 h29 (fun q hq => ⟨(hsh q hq).1, (hsh q hq).2.1⟩) hw hM (by rw [h3 40 (by decide), f1 40 (by decide)]; exact m20) (fun E q1 q2 a b ha hb => gain_e A1 hpe ha hb q1 q2 A2 (fun p hp => ⟨(hsh p hp).1, (hsh p hp).2.1⟩)) (fun t ht => by rw [h3 64 (by decide)]; exact h2 t ht) h4 (fun F hF a b ha hb => may_m (D := D) hpe ha hb (by rw [hF 48 (by decide), h3 48 (by decide), f1 48 (by decide)]) (by rw [hF 58 (by decide), h3 58 (by decide), f1 58 (by decide)]) (fun p hp => ⟨(hsh p hp).1, (hsh p hp).2.2⟩))
  have fF : ∀ r, r ≠ 64 → r ≠ 65 → F r = G2 r := fun r a b => by rw [e3 r b, h3 r b, f1 r a]
  have hb := MW_le hpe hw hM (2 ^ pe - 1) (by omega)
  have hpc := @pc_le (2 ^ pe - 1)
  refine ⟨F, e2, E, e1, ⟨fun r q1 q2 => e4 r (fun h => q1 (by unfold SC; omega)) q2.2 (fun h => q1 (by unfold SC; omega)) (fun h => q1 (by unfold SC; omega)), fun j _ => by rw [e4 40 (by decide) (by decide) (by decide) (by decide)], by rw [e5, h29]⟩, by rw [fF 40 (by decide) (by decide)]; exact A4, by rw [fF 67 (by decide) (by decide)]; exact A5, A6.tr ⟨fun r q1 _ => fF r (fun h => q1 (by unfold SC; omega)) (fun h => q1 (by unfold SC; omega)), fun j _ => by rw [fF 40 (by decide) (by decide)], by rw [fF 29 (by decide) (by decide)]⟩, K (2 ^ pe - 1), X (2 ^ pe - 1), by omega, hb.2, e6, e7, ?_, e8⟩
  have h0 := h2 (2 ^ pe - 1) (by omega)
  rw [Nat.sub_self] at h0
  rw [e3 64 (by decide), h3 64 (by decide)]
  exact h0
