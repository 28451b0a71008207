/-! ===== work: the text to its end ===== -/
set_option maxHeartbeats 1000000 in
theorem read_T {t : Nat → Nat} {N L o ns pe : Nat} (hN : 2000 < N) (hL : L ≤ 150) (ho : o = 34 ∨ 68 ≤ o) (hns : ns ≤ 6) (hpe : pe ≤ 8) : ∀ (q m ne ni k n nM : Nat) (D G : z_Dat), q + m = 200 → WS t L m 0 ne ni k o ns pe D G → 1000 < n + k → 1000 < nM + m → ∃ E F, PLr N o n k D = some E ∧ z_loop (fun kc61 s => F_X11_work_L68x N kc61 s) nM G = F_X11_work_J89 N F ∧ WPr D E ∧ WMr G F ∧ ((OK E ∧ (∀ x, x < ne → E 16 x = D 16 x ∧ E 17 x = D 17 x ∧ E 18 x = D 18 x) ∧ (∀ y, y < 3 * ni → F 55 y = G 55 y) ∧ ∃ m' ne' ni' k' f, WS t L m' 0 ne' ni' k' o ns pe E F ∧ BK ns pe E F f 6 ne ne' ni ni') ∨ (¬ OK E ∧ RC t L 0 E F)) := by
  intro q
  induction q using Nat.strongRecOn with
  | _ q ih =>
  intro m ne ni k n nM D G hq hW hn hnM
  obtain ⟨hC, hok, ⟨w1, w2⟩, ⟨w3, w4⟩, ⟨w5, w6, w7⟩, ⟨w8, w9⟩, ⟨w10, w11⟩⟩ := id hW
  obtain ⟨f1, f2⟩ := hC.ff hok
  obtain ⟨h, F, hmh, hRM, hI, hRC, n1, n2, n3, -, n4⟩ := next_C (N := N) hN hC hok
  have hT := hRC.1
  have hhL := hI.1.2.1
  have hWF := hW.rm hRM (hRC.le hmh)
  obtain ⟨nM', rfl⟩ : ∃ x, nM = x + 1 := ⟨nM - 1, by omega⟩
  obtain ⟨n', rfl⟩ : ∃ x, n = x + 1 := ⟨n - 1, by omega⟩
  have hX : z_loop (fun kc61 s => F_X11_work_L68x N kc61 s) (nM' + 1) G = F_X11_work_L68x N (fun s => z_loop (fun kc61 s => F_X11_work_L68x N kc61 s) nM' s) G := rfl
  rw [hX]
  have nf2 : ¬ F_X11_fine G = 0 := by rw [f2]; decide
  by_cases hh : h < L
  rotate_left
  · rw [if_neg hh] at n1 n3
    have hM : F_X11_work_L68x N (fun s => z_loop (fun kc61 s => F_X11_work_L68x N kc61 s) nM' s) G = F_X11_work_J89 N F := by
      generalize (fun s => z_loop (fun kc61 s => F_X11_work_L68x N kc61 s) nM' s) = kc
      unfold F_X11_work_L68x
      rw [if_neg nf2, n3, z_bdE]
      rfl
    have hP : PLr N o (n' + 1) k D = some D := by
      have key : ∀ kc : (Int32 × z_Dat) → Option z_Dat, F_X7_read_L12 N o kc (nn k) D = some D := by
        intro kc
        simp (disch := omega) only [F_X7_read_L12, f1, w2, F_X7_read_J55, n1, ↓reduceIte, ↓z_letE, ↓z_bdE, nn_l2, nn_add, nn_mul, nn_sub, nn_addM, nn_div, nn_rem, nn_min, nn_max, nn_abs, nn_ltT, nn_ltF, nn_leT, nn_leF, nn_eqT, nn_eqF, nn_eqM, nn_Meq, nn_ltM, nn_Mlt, nn_leM, nn_Mle, z_ix_nn, z_inb_nn, F_at_nn, F_put_nn, Nat.zero_add, Nat.add_zero, z_P_some, z_R_some, z_P_bd]
      exact key _
    exact ⟨D, F, hP, hM, WPr.rf, WMr.rm hRM, Or.inl ⟨hok, fun x hx => ⟨rfl, rfl, rfl⟩, fun y hy => by rw [hRM.1 55 (by decide)], m, ne, ni, k, 1, hWF, Or.inl ⟨rfl, rfl⟩⟩⟩
  rw [if_pos hh] at n3
  have hM : F_X11_work_L68x N (fun s => z_loop (fun kc61 s => F_X11_work_L68x N kc61 s) nM' s) G = z_bd (F_X11_readStep N 64 F) (fun a => z_loop (fun kc61 s => F_X11_work_L68x N kc61 s) nM' a) := by
    have key : ∀ kc : z_Dat → Option (Int32 × z_Dat), F_X11_work_L68x N kc G = z_bd (F_X11_readStep N 64 F) (fun a => kc a) := by
      intro kc
      unfold F_X11_work_L68x
      rw [if_neg nf2, n3, z_bdE]
      rfl
    exact key _
  rw [hM]
  rcases spec_K (ns := ns) (pe := pe) hN hL ho hns hpe 64 0 (by omega) (by omega) m ne ni k (n' + 1) h D F hWF hn hI (fun _ => hh) (fun q => absurd q (by omega)) with ⟨k1, n1', m1, ne1, ni1, E1, F1, fu, a1, a2, a3, a4, a5, a6, a7, a8, a9, a10, a11⟩ | ⟨E1, F1, a1, a2, a3, a4, a5, a6⟩
  · rw [a2, z_bdE]
    have lb := a8.le
    have m1L : m1 ≤ 150 := by
      obtain ⟨hx, px, hx1, hx2⟩ := a7.1.fi a7.2.1
      have := hx2.1.2.1
      omega
    obtain ⟨E, F2, b1, b2, b3, b4, b7⟩ := ih (200 - m1) (by omega) m1 ne1 ni1 k1 n1' nM' E1 F1 (by omega) a7 (by omega) (by omega)
    refine ⟨E, F2, a1.trans b1, b2, a5.tr b3, ((WMr.rm hRM).tr a6).tr b4, ?_⟩
    rcases b7 with ⟨c1, b5, b6, m2, ne2, ni2, k2, fu2, c2, c3⟩ | c
    · left
      have keep1 : BK ns pe E F2 fu 6 ne ne1 ni ni1 := a8.keep _ _ _ _ _ _ (fun x x1 x2 => b5 x x2) (fun y y1 y2 => b6 y y2)
      refine ⟨c1, fun x hx => ?_, fun y hy => by rw [b6 y (by omega), a10 y hy, hRM.1 55 (by decide)], m2, ne2, ni2, k2, fu + fu2, c2, keep1.app _ _ _ _ _ _ _ c3⟩
      obtain ⟨y1, y2, y3⟩ := b5 x (by omega)
      obtain ⟨z1, z2, z3⟩ := a9 x hx
      exact ⟨y1.trans z1, y2.trans z2, y3.trans z3⟩
    · exact Or.inr c
  · rw [a2, z_bdE]
    obtain ⟨nM'', rfl⟩ : ∃ x, nM' = x + 1 := ⟨nM' - 1, by
      have : m ≤ 150 := by omega
      omega⟩
    have hMf : z_loop (fun kc61 s => F_X11_work_L68x N kc61 s) (nM'' + 1) F1 = F_X11_work_J89 N F1 := by
      have key : ∀ kc : z_Dat → Option (Int32 × z_Dat), F_X11_work_L68x N kc F1 = F_X11_work_J89 N F1 := by
        intro kc
        have x2 : F_X11_fine F1 = 0 := (a5.nf a6).2
        unfold F_X11_work_L68x
        rw [if_pos x2]
      exact key _
    exact ⟨E1, F1, a1, hMf, a3, (WMr.rm hRM).tr a4, Or.inr ⟨a6, a5⟩⟩
