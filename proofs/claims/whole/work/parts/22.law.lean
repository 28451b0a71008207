/-! ===== the cases of the law's switch (by program) ===== -/
abbrev z_sx (X : Nat × (Nat → Int32)) (i k : Int32) : Int32 := X.2 (i + k).toNatClampNeg
abbrev z_lv0 (i : Int32) : List (Option Value) := [some (.retAddr 1000), some (.ref 0), some (.ref 40), some (.ref 67), some (.int i), none, none, none]
theorem g_lvw {a b c d e x y z : Option Value} (j : Nat) (v : Value) (hj : ([a, b, c, d, e, none, none, none] : List (Option Value))[j]? = some (some v)) : ([a, b, c, d, e, x, y, z] : List (Option Value))[j]? = some (some v) := by
  rcases j with _ | _ | _ | _ | _ | _ | _ | _ | j <;> first | exact hj | (simp at hj)

set_option maxRecDepth 100000 in
set_option maxHeartbeats 4000000 in
theorem case_0_feed {X : Nat × (Nat → Int32)} {l : Launch} {S : List z_Shp} {o : Nat} {D : z_Dat} {out : z_Out} {cu su : Nat} {i : Int32} (hl : l.stackTraces = false) (hW : z_W S o) (hO : S[67]? = some (1, 1, [])) (N : Nat) (hin : ∀ k : Int32, 0 ≤ k → k ≤ 6 → vp_in (i + k) X.1) (hc : cu + 60 ≤ 601024) (hs : su + 400 ≤ 7293034) (hg : S.length ≤ out.2.1.length) {r1 : Int32} {r2 : Int32} {D1 : z_Dat} {D2 : z_Dat} (h1 : F_X10_feed (z_sx X i 1) (z_sx X i 2) (z_sx X i 3) (z_sx X i 4) (z_sx X i 5) D = (r1, D1)) (h2 : F_X11_feed (z_sx X i 1) (z_sx X i 2) (z_sx X i 3) (z_sx X i 4) (z_sx X i 5) D1 = some (r2, D2)) (he276 : r1 = r2)
    (kk : z_G X l M_L_law_ (2048, 84000, 601024, 7293034) (cu + 0 + 0) (su + 0 + 0) 2408 [some (.retAddr 1000), some (.ref 0), some (.ref 40), some (.ref 67), some (.int i), none, none, none] [] S D2 out) : z_G X l M_L_law_ (2048, 84000, 601024, 7293034) cu su 208 [some (.retAddr 1000), some (.ref 0), some (.ref 40), some (.ref 67), some (.int i), none, none, none] [] S D out := by
  have hs0 := hW.1 0 _ rfl
  have hs40 := hW.1 40 _ rfl
  refine g_aload_n (i := 1) (x := 0) dL_law__208 rfl rfl ?_
  refine g_aloadC_n (i := 0) (x := 1000) dL_law__209 rfl rfl ?_
  refine g_iload (i := 4) (x := i) dL_law__210 rfl ?_
  refine g_iconst (v := 1) dL_law__212 rfl ?_
  refine g_iadd dL_law__213 ?_
  refine g_scr dL_law__214 (hin 1 (by decide) (by decide)) ?_
  refine g_aloadC_n (i := 0) (x := 1000) dL_law__215 rfl rfl ?_
  refine g_iload (i := 4) (x := i) dL_law__216 rfl ?_
  refine g_iconst (v := 2) dL_law__218 rfl ?_
  refine g_iadd dL_law__219 ?_
  refine g_scr dL_law__220 (hin 2 (by decide) (by decide)) ?_
  refine g_aloadC_n (i := 0) (x := 1000) dL_law__221 rfl rfl ?_
  refine g_iload (i := 4) (x := i) dL_law__222 rfl ?_
  refine g_iconst (v := 3) dL_law__224 rfl ?_
  refine g_iadd dL_law__225 ?_
  refine g_scr dL_law__226 (hin 3 (by decide) (by decide)) ?_
  refine g_aloadC_n (i := 0) (x := 1000) dL_law__227 rfl rfl ?_
  refine g_iload (i := 4) (x := i) dL_law__228 rfl ?_
  refine g_iconst (v := 4) dL_law__230 rfl ?_
  refine g_iadd dL_law__231 ?_
  refine g_scr dL_law__232 (hin 4 (by decide) (by decide)) ?_
  refine g_aloadC_n (i := 0) (x := 1000) dL_law__233 rfl rfl ?_
  refine g_iload (i := 4) (x := i) dL_law__234 rfl ?_
  refine g_iconst (v := 5) dL_law__236 rfl ?_
  refine g_iadd dL_law__237 ?_
  refine g_scr dL_law__238 (hin 5 (by decide) (by decide)) ?_
  refine g_cE (As := [.ref 0, .int (z_sx X i 1), .int (z_sx X i 2), .int (z_sx X i 3), .int (z_sx X i 4), .int (z_sx X i 5)]) (rest := []) (D2 := D1) (v := some (.int r1)) (em_X10_feed hl hW (z_sx X i 1) (z_sx X i 2) (z_sx X i 3) (z_sx X i 4) (z_sx X i 5) D (.inl (some (.int r1)), S, D1) (by rw [h1]; rfl)) (fun _ => rfl) (fun o7 h => z_runV 114 5 h rfl kk_L_114 hs0 kl_10.1 kq_X10_feed rfl (Nat.le_of_ble_eq_true rfl) ⟨Nat.le_of_ble_eq_true rfl, Nat.le_of_ble_eq_true rfl, by show cu + 0 ≤ 601024; omega, by show su + 0 ≤ 7293034; omega⟩ dL_law__239) hg ?_
  refine g_aload_n (i := 2) (x := 40) dL_law__242 rfl rfl ?_
  refine g_aloadC_n (i := 0) (x := 1000) dL_law__243 rfl rfl ?_
  refine g_iload (i := 4) (x := i) dL_law__244 rfl ?_
  refine g_iconst (v := 1) dL_law__246 rfl ?_
  refine g_iadd dL_law__247 ?_
  refine g_scr dL_law__248 (hin 1 (by decide) (by decide)) ?_
  refine g_aloadC_n (i := 0) (x := 1000) dL_law__249 rfl rfl ?_
  refine g_iload (i := 4) (x := i) dL_law__250 rfl ?_
  refine g_iconst (v := 2) dL_law__252 rfl ?_
  refine g_iadd dL_law__253 ?_
  refine g_scr dL_law__254 (hin 2 (by decide) (by decide)) ?_
  refine g_aloadC_n (i := 0) (x := 1000) dL_law__255 rfl rfl ?_
  refine g_iload (i := 4) (x := i) dL_law__256 rfl ?_
  refine g_iconst (v := 3) dL_law__258 rfl ?_
  refine g_iadd dL_law__259 ?_
  refine g_scr dL_law__260 (hin 3 (by decide) (by decide)) ?_
  refine g_aloadC_n (i := 0) (x := 1000) dL_law__261 rfl rfl ?_
  refine g_iload (i := 4) (x := i) dL_law__262 rfl ?_
  refine g_iconst (v := 4) dL_law__264 rfl ?_
  refine g_iadd dL_law__265 ?_
  refine g_scr dL_law__266 (hin 4 (by decide) (by decide)) ?_
  refine g_aloadC_n (i := 0) (x := 1000) dL_law__267 rfl rfl ?_
  refine g_iload (i := 4) (x := i) dL_law__268 rfl ?_
  refine g_iconst (v := 5) dL_law__270 rfl ?_
  refine g_iadd dL_law__271 ?_
  refine g_scr dL_law__272 (hin 5 (by decide) (by decide)) ?_
  refine g_cE (As := [.ref 40, .int (z_sx X i 1), .int (z_sx X i 2), .int (z_sx X i 3), .int (z_sx X i 4), .int (z_sx X i 5)]) (rest := [.int r1]) (D2 := D2) (v := some (.int r2)) (em_X11_feed hl hW (z_sx X i 1) (z_sx X i 2) (z_sx X i 3) (z_sx X i 4) (z_sx X i 5) D1 _ ⟨_, h2, rfl⟩) (fun _ => rfl) (fun o7 h => z_runV 117 5 h rfl kk_L_117 hs40 kl_11.1 kq_X11_feed rfl (Nat.le_of_ble_eq_true rfl) ⟨Nat.le_of_ble_eq_true rfl, Nat.le_of_ble_eq_true rfl, by show cu + 0 + 0 ≤ 601024; omega, by show su + 0 + 0 ≤ 7293034; omega⟩ dL_law__273) hg ?_
  refine g_icmp_eqJ 2408 dL_law__276 (by decide) he276 ?_
  exact g_weak (lv' := z_lv0 i) rfl g_lvw kk

set_option maxRecDepth 100000 in
set_option maxHeartbeats 4000000 in
theorem case_2_law {X : Nat × (Nat → Int32)} {l : Launch} {S : List z_Shp} {o : Nat} {D : z_Dat} {out : z_Out} {cu su : Nat} {i : Int32} (hl : l.stackTraces = false) (hW : z_W S o) (hO : S[67]? = some (1, 1, [])) (N : Nat) (hin : ∀ k : Int32, 0 ≤ k → k ≤ 6 → vp_in (i + k) X.1) (hc : cu + 60 ≤ 601024) (hs : su + 400 ≤ 7293034) (hg : S.length ≤ out.2.1.length) {r1 : Int32} {r2 : Int32} {D1 : z_Dat} {D2 : z_Dat} (h1 : F_L_law N (z_sx X i 1) D = some (r1, D1)) (h2 : F_X11_law N (z_sx X i 1) D1 = some (r2, D2)) (he368 : (F_X11_thrown D2) = r1) (h0 : r1 = 0 → lg_cmp ((z_ldJ D2 67 0)) ((r2).toInt64) = 0)
    (kk : z_G X l M_L_law_ (2048, 84000, 601024, 7293034) (cu + 1 + 0 + 0) (su + 6 + 0 + 0) 2408 [some (.retAddr 1000), some (.ref 0), some (.ref 40), some (.ref 67), some (.int i), none, none, none] [] S D2 out) : z_G X l M_L_law_ (2048, 84000, 601024, 7293034) cu su 337 [some (.retAddr 1000), some (.ref 0), some (.ref 40), some (.ref 67), some (.int i), none, none, none] [] S D out := by
  have hs0 := hW.1 0 _ rfl
  have hs40 := hW.1 40 _ rfl
  refine g_aload_n (i := 1) (x := 0) dL_law__337 rfl rfl ?_
  refine g_aloadC_n (i := 0) (x := 1000) dL_law__338 rfl rfl ?_
  refine g_iload (i := 4) (x := i) dL_law__339 rfl ?_
  refine g_iconst (v := 1) dL_law__341 rfl ?_
  refine g_iadd dL_law__342 ?_
  refine g_scr dL_law__343 (hin 1 (by decide) (by decide)) ?_
  refine g_aload_n (i := 3) (x := 67) dL_law__344 rfl rfl ?_
  refine g_cE (As := [.ref 0, .int (z_sx X i 1), .ref 67]) (rest := []) (D2 := D1) (v := some (.int r1)) (em_L_law hl hW hO N (z_sx X i 1) D _ ⟨_, h1, rfl⟩) (fun _ => rfl) (fun o7 h => z_runSX 128 3 h rfl kk_L_128 kq_L_law rfl (Nat.le_of_ble_eq_true rfl) ⟨Nat.le_of_ble_eq_true rfl, Nat.le_of_ble_eq_true rfl, by show cu + 1 ≤ 601024; omega, by show su + 6 ≤ 7293034; omega⟩ dL_law__345) hg ?_
  refine g_istore (i := 5) (lv' := [some (.retAddr 1000), some (.ref 0), some (.ref 40), some (.ref 67), some (.int i), some (.int r1), none, none]) dL_law__348 (by decide) rfl rfl ?_
  refine g_aload_n (i := 2) (x := 40) dL_law__350 rfl rfl ?_
  refine g_aloadC_n (i := 0) (x := 1000) dL_law__351 rfl rfl ?_
  refine g_iload (i := 4) (x := i) dL_law__352 rfl ?_
  refine g_iconst (v := 1) dL_law__354 rfl ?_
  refine g_iadd dL_law__355 ?_
  refine g_scr dL_law__356 (hin 1 (by decide) (by decide)) ?_
  refine g_cE (As := [.ref 40, .int (z_sx X i 1)]) (rest := []) (D2 := D2) (v := some (.int r2)) (em_X11_law hl hW N (z_sx X i 1) D1 _ ⟨_, h2, rfl⟩) (fun _ => rfl) (fun o7 h => z_runV 130 1 h rfl kk_L_130 hs40 kl_11.1 kq_X11_law rfl (Nat.le_of_ble_eq_true rfl) ⟨Nat.le_of_ble_eq_true rfl, Nat.le_of_ble_eq_true rfl, by show cu + 1 + 0 ≤ 601024; omega, by show su + 6 + 0 ≤ 7293034; omega⟩ dL_law__357) hg ?_
  refine g_istore (i := 6) (lv' := [some (.retAddr 1000), some (.ref 0), some (.ref 40), some (.ref 67), some (.int i), some (.int r1), some (.int r2), none]) dL_law__360 (by decide) rfl rfl ?_
  refine g_aload_n (i := 2) (x := 40) dL_law__362 rfl rfl ?_
  refine g_cE (As := [.ref 40]) (rest := []) (D2 := D2) (v := some (.int (F_X11_thrown D2))) (em_X11_thrown hl hW D2 _ rfl) (fun _ => rfl) (fun o7 h => z_runV 124 0 h rfl kk_L_124 hs40 kl_11.1 kq_X11_thrown rfl (Nat.le_of_ble_eq_true rfl) ⟨Nat.le_of_ble_eq_true rfl, Nat.le_of_ble_eq_true rfl, by show cu + 1 + 0 + 0 ≤ 601024; omega, by show su + 6 + 0 + 0 ≤ 7293034; omega⟩ dL_law__363) hg ?_
  refine g_iload (i := 5) (x := r1) dL_law__366 rfl ?_
  refine g_icmp_eqJ 373 dL_law__368 (by decide) he368 ?_
  refine g_iload (i := 5) (x := r1) dL_law__373 rfl ?_
  refine (Decidable.em (¬ r1 = 0)).elim (fun c0 => ?_) (fun c0n => ?_)
  · refine g_if_neJ 390 dL_law__375 (by decide) c0 ?_
    refine g_goto 2408 dL_law__390 (by decide) ?_
    exact g_weak (lv' := z_lv0 i) rfl g_lvw kk
  have c0 := Decidable.not_not.mp c0n
  refine g_if_neN 390 dL_law__375 (by decide) c0 ?_
  refine g_aload_n (i := 3) (x := 67) dL_law__378 rfl rfl ?_
  refine g_iconst (v := 0) dL_law__379 rfl ?_
  refine g_lald (k := 67) dL_law__380 hO (vp_in_iff.mpr (by decide)) ?_
  refine g_iload (i := 6) (x := r2) dL_law__381 rfl ?_
  refine g_i2l dL_law__383 ?_
  refine g_lcmp dL_law__384 ?_
  refine g_if_eqJ 390 dL_law__385 (by decide) (h0 c0) ?_
  refine g_goto 2408 dL_law__390 (by decide) ?_
  exact g_weak (lv' := z_lv0 i) rfl g_lvw kk

set_option maxRecDepth 100000 in
set_option maxHeartbeats 4000000 in
theorem case_3_work {X : Nat × (Nat → Int32)} {l : Launch} {S : List z_Shp} {o : Nat} {D : z_Dat} {out : z_Out} {cu su : Nat} {i : Int32} (hl : l.stackTraces = false) (hW : z_W S o) (hO : S[67]? = some (1, 1, [])) (N : Nat) (hin : ∀ k : Int32, 0 ≤ k → k ≤ 6 → vp_in (i + k) X.1) (hc : cu + 60 ≤ 601024) (hs : su + 400 ≤ 7293034) (hg : S.length ≤ out.2.1.length) {r1 : Int32} {r2 : Int32} {D1 : z_Dat} {D2 : z_Dat} (h1 : F_L_work N o (z_sx X i 1) D = some (r1, D1)) (h2 : F_X11_work N (z_sx X i 1) D1 = some (r2, D2)) (he424 : (F_X11_thrown D2) = r1) (h0 : r1 = 0 → lg_cmp ((z_ldJ D2 67 0)) ((r2).toInt64) = 0)
    (kk : z_G X l M_L_law_ (2048, 84000, 601024, 7293034) (cu + 1 + 0 + 0) (su + 6 + 0 + 0) 2408 [some (.retAddr 1000), some (.ref 0), some (.ref 40), some (.ref 67), some (.int i), none, none, none] [] S D2 out) : z_G X l M_L_law_ (2048, 84000, 601024, 7293034) cu su 393 [some (.retAddr 1000), some (.ref 0), some (.ref 40), some (.ref 67), some (.int i), none, none, none] [] S D out := by
  have hs0 := hW.1 0 _ rfl
  have hs40 := hW.1 40 _ rfl
  refine g_aload_n (i := 1) (x := 0) dL_law__393 rfl rfl ?_
  refine g_aloadC_n (i := 0) (x := 1000) dL_law__394 rfl rfl ?_
  refine g_iload (i := 4) (x := i) dL_law__395 rfl ?_
  refine g_iconst (v := 1) dL_law__397 rfl ?_
  refine g_iadd dL_law__398 ?_
  refine g_scr dL_law__399 (hin 1 (by decide) (by decide)) ?_
  refine g_aload_n (i := 3) (x := 67) dL_law__400 rfl rfl ?_
  refine g_cE (As := [.ref 0, .int (z_sx X i 1), .ref 67]) (rest := []) (D2 := D1) (v := some (.int r1)) (em_L_work hl hW hO N (z_sx X i 1) D _ ⟨_, h1, rfl⟩) (fun _ => rfl) (fun o7 h => z_runSX 131 3 h rfl kk_L_131 kq_L_work rfl (Nat.le_of_ble_eq_true rfl) ⟨Nat.le_of_ble_eq_true rfl, Nat.le_of_ble_eq_true rfl, by show cu + 1 ≤ 601024; omega, by show su + 6 ≤ 7293034; omega⟩ dL_law__401) hg ?_
  refine g_istore (i := 5) (lv' := [some (.retAddr 1000), some (.ref 0), some (.ref 40), some (.ref 67), some (.int i), some (.int r1), none, none]) dL_law__404 (by decide) rfl rfl ?_
  refine g_aload_n (i := 2) (x := 40) dL_law__406 rfl rfl ?_
  refine g_aloadC_n (i := 0) (x := 1000) dL_law__407 rfl rfl ?_
  refine g_iload (i := 4) (x := i) dL_law__408 rfl ?_
  refine g_iconst (v := 1) dL_law__410 rfl ?_
  refine g_iadd dL_law__411 ?_
  refine g_scr dL_law__412 (hin 1 (by decide) (by decide)) ?_
  refine g_cE (As := [.ref 40, .int (z_sx X i 1)]) (rest := []) (D2 := D2) (v := some (.int r2)) (em_X11_work hl hW N (z_sx X i 1) D1 _ ⟨_, h2, rfl⟩) (fun _ => rfl) (fun o7 h => z_runV 133 1 h rfl kk_L_133 hs40 kl_11.1 kq_X11_work rfl (Nat.le_of_ble_eq_true rfl) ⟨Nat.le_of_ble_eq_true rfl, Nat.le_of_ble_eq_true rfl, by show cu + 1 + 0 ≤ 601024; omega, by show su + 6 + 0 ≤ 7293034; omega⟩ dL_law__413) hg ?_
  refine g_istore (i := 6) (lv' := [some (.retAddr 1000), some (.ref 0), some (.ref 40), some (.ref 67), some (.int i), some (.int r1), some (.int r2), none]) dL_law__416 (by decide) rfl rfl ?_
  refine g_aload_n (i := 2) (x := 40) dL_law__418 rfl rfl ?_
  refine g_cE (As := [.ref 40]) (rest := []) (D2 := D2) (v := some (.int (F_X11_thrown D2))) (em_X11_thrown hl hW D2 _ rfl) (fun _ => rfl) (fun o7 h => z_runV 124 0 h rfl kk_L_124 hs40 kl_11.1 kq_X11_thrown rfl (Nat.le_of_ble_eq_true rfl) ⟨Nat.le_of_ble_eq_true rfl, Nat.le_of_ble_eq_true rfl, by show cu + 1 + 0 + 0 ≤ 601024; omega, by show su + 6 + 0 + 0 ≤ 7293034; omega⟩ dL_law__419) hg ?_
  refine g_iload (i := 5) (x := r1) dL_law__422 rfl ?_
  refine g_icmp_eqJ 429 dL_law__424 (by decide) he424 ?_
  refine g_iload (i := 5) (x := r1) dL_law__429 rfl ?_
  refine (Decidable.em (¬ r1 = 0)).elim (fun c0 => ?_) (fun c0n => ?_)
  · refine g_if_neJ 446 dL_law__431 (by decide) c0 ?_
    refine g_goto 2408 dL_law__446 (by decide) ?_
    exact g_weak (lv' := z_lv0 i) rfl g_lvw kk
  have c0 := Decidable.not_not.mp c0n
  refine g_if_neN 446 dL_law__431 (by decide) c0 ?_
  refine g_aload_n (i := 3) (x := 67) dL_law__434 rfl rfl ?_
  refine g_iconst (v := 0) dL_law__435 rfl ?_
  refine g_lald (k := 67) dL_law__436 hO (vp_in_iff.mpr (by decide)) ?_
  refine g_iload (i := 6) (x := r2) dL_law__437 rfl ?_
  refine g_i2l dL_law__439 ?_
  refine g_lcmp dL_law__440 ?_
  refine g_if_eqJ 446 dL_law__441 (by decide) (h0 c0) ?_
  refine g_goto 2408 dL_law__446 (by decide) ?_
  exact g_weak (lv' := z_lv0 i) rfl g_lvw kk

set_option maxRecDepth 100000 in
set_option maxHeartbeats 4000000 in
theorem case_4_book {X : Nat × (Nat → Int32)} {l : Launch} {S : List z_Shp} {o : Nat} {D : z_Dat} {out : z_Out} {cu su : Nat} {i : Int32} (hl : l.stackTraces = false) (hW : z_W S o) (hO : S[67]? = some (1, 1, [])) (N : Nat) (hin : ∀ k : Int32, 0 ≤ k → k ≤ 6 → vp_in (i + k) X.1) (hc : cu + 60 ≤ 601024) (hs : su + 400 ≤ 7293034) (hg : S.length ≤ out.2.1.length) {r1 : Int32} {r2 : Int32} {D1 : z_Dat} {D2 : z_Dat} (h1 : F_L_book N (z_sx X i 1) D = some (r1, D1)) (h2 : F_X11_book N (z_sx X i 1) D1 = some (r2, D2)) (he480 : (F_X11_thrown D2) = r1) (h0 : r1 = 0 → lg_cmp ((z_ldJ D2 67 0)) ((r2).toInt64) = 0)
    (kk : z_G X l M_L_law_ (2048, 84000, 601024, 7293034) (cu + 1 + 0 + 0) (su + 6 + 0 + 0) 2408 [some (.retAddr 1000), some (.ref 0), some (.ref 40), some (.ref 67), some (.int i), none, none, none] [] S D2 out) : z_G X l M_L_law_ (2048, 84000, 601024, 7293034) cu su 449 [some (.retAddr 1000), some (.ref 0), some (.ref 40), some (.ref 67), some (.int i), none, none, none] [] S D out := by
  have hs0 := hW.1 0 _ rfl
  have hs40 := hW.1 40 _ rfl
  refine g_aload_n (i := 1) (x := 0) dL_law__449 rfl rfl ?_
  refine g_aloadC_n (i := 0) (x := 1000) dL_law__450 rfl rfl ?_
  refine g_iload (i := 4) (x := i) dL_law__451 rfl ?_
  refine g_iconst (v := 1) dL_law__453 rfl ?_
  refine g_iadd dL_law__454 ?_
  refine g_scr dL_law__455 (hin 1 (by decide) (by decide)) ?_
  refine g_aload_n (i := 3) (x := 67) dL_law__456 rfl rfl ?_
  refine g_cE (As := [.ref 0, .int (z_sx X i 1), .ref 67]) (rest := []) (D2 := D1) (v := some (.int r1)) (em_L_book hl hW hO N (z_sx X i 1) D _ ⟨_, h1, rfl⟩) (fun _ => rfl) (fun o7 h => z_runSX 134 3 h rfl kk_L_134 kq_L_book rfl (Nat.le_of_ble_eq_true rfl) ⟨Nat.le_of_ble_eq_true rfl, Nat.le_of_ble_eq_true rfl, by show cu + 1 ≤ 601024; omega, by show su + 6 ≤ 7293034; omega⟩ dL_law__457) hg ?_
  refine g_istore (i := 5) (lv' := [some (.retAddr 1000), some (.ref 0), some (.ref 40), some (.ref 67), some (.int i), some (.int r1), none, none]) dL_law__460 (by decide) rfl rfl ?_
  refine g_aload_n (i := 2) (x := 40) dL_law__462 rfl rfl ?_
  refine g_aloadC_n (i := 0) (x := 1000) dL_law__463 rfl rfl ?_
  refine g_iload (i := 4) (x := i) dL_law__464 rfl ?_
  refine g_iconst (v := 1) dL_law__466 rfl ?_
  refine g_iadd dL_law__467 ?_
  refine g_scr dL_law__468 (hin 1 (by decide) (by decide)) ?_
  refine g_cE (As := [.ref 40, .int (z_sx X i 1)]) (rest := []) (D2 := D2) (v := some (.int r2)) (em_X11_book hl hW N (z_sx X i 1) D1 _ ⟨_, h2, rfl⟩) (fun _ => rfl) (fun o7 h => z_runV 136 1 h rfl kk_L_136 hs40 kl_11.1 kq_X11_book rfl (Nat.le_of_ble_eq_true rfl) ⟨Nat.le_of_ble_eq_true rfl, Nat.le_of_ble_eq_true rfl, by show cu + 1 + 0 ≤ 601024; omega, by show su + 6 + 0 ≤ 7293034; omega⟩ dL_law__469) hg ?_
  refine g_istore (i := 6) (lv' := [some (.retAddr 1000), some (.ref 0), some (.ref 40), some (.ref 67), some (.int i), some (.int r1), some (.int r2), none]) dL_law__472 (by decide) rfl rfl ?_
  refine g_aload_n (i := 2) (x := 40) dL_law__474 rfl rfl ?_
  refine g_cE (As := [.ref 40]) (rest := []) (D2 := D2) (v := some (.int (F_X11_thrown D2))) (em_X11_thrown hl hW D2 _ rfl) (fun _ => rfl) (fun o7 h => z_runV 124 0 h rfl kk_L_124 hs40 kl_11.1 kq_X11_thrown rfl (Nat.le_of_ble_eq_true rfl) ⟨Nat.le_of_ble_eq_true rfl, Nat.le_of_ble_eq_true rfl, by show cu + 1 + 0 + 0 ≤ 601024; omega, by show su + 6 + 0 + 0 ≤ 7293034; omega⟩ dL_law__475) hg ?_
  refine g_iload (i := 5) (x := r1) dL_law__478 rfl ?_
  refine g_icmp_eqJ 485 dL_law__480 (by decide) he480 ?_
  refine g_iload (i := 5) (x := r1) dL_law__485 rfl ?_
  refine (Decidable.em (¬ r1 = 0)).elim (fun c0 => ?_) (fun c0n => ?_)
  · refine g_if_neJ 502 dL_law__487 (by decide) c0 ?_
    refine g_goto 2408 dL_law__502 (by decide) ?_
    exact g_weak (lv' := z_lv0 i) rfl g_lvw kk
  have c0 := Decidable.not_not.mp c0n
  refine g_if_neN 502 dL_law__487 (by decide) c0 ?_
  refine g_aload_n (i := 3) (x := 67) dL_law__490 rfl rfl ?_
  refine g_iconst (v := 0) dL_law__491 rfl ?_
  refine g_lald (k := 67) dL_law__492 hO (vp_in_iff.mpr (by decide)) ?_
  refine g_iload (i := 6) (x := r2) dL_law__493 rfl ?_
  refine g_i2l dL_law__495 ?_
  refine g_lcmp dL_law__496 ?_
  refine g_if_eqJ 502 dL_law__497 (by decide) (h0 c0) ?_
  refine g_goto 2408 dL_law__502 (by decide) ?_
  exact g_weak (lv' := z_lv0 i) rfl g_lvw kk

set_option maxRecDepth 100000 in
set_option maxHeartbeats 4000000 in
theorem case_5_fault {X : Nat × (Nat → Int32)} {l : Launch} {S : List z_Shp} {o : Nat} {D : z_Dat} {out : z_Out} {cu su : Nat} {i : Int32} (hl : l.stackTraces = false) (hW : z_W S o) (hO : S[67]? = some (1, 1, [])) (N : Nat) (hin : ∀ k : Int32, 0 ≤ k → k ≤ 6 → vp_in (i + k) X.1) (hc : cu + 60 ≤ 601024) (hs : su + 400 ≤ 7293034) (hg : S.length ≤ out.2.1.length) {r2 : Int32} {D1 : z_Dat} (h2 : F_X11_fault D = (r2, D1)) (he513 : (F_X10_fault D) = r2)
    (kk : z_G X l M_L_law_ (2048, 84000, 601024, 7293034) (cu + 0 + 0) (su + 0 + 0) 2408 [some (.retAddr 1000), some (.ref 0), some (.ref 40), some (.ref 67), some (.int i), none, none, none] [] S D1 out) : z_G X l M_L_law_ (2048, 84000, 601024, 7293034) cu su 505 [some (.retAddr 1000), some (.ref 0), some (.ref 40), some (.ref 67), some (.int i), none, none, none] [] S D out := by
  have hs0 := hW.1 0 _ rfl
  have hs40 := hW.1 40 _ rfl
  refine g_aload_n (i := 1) (x := 0) dL_law__505 rfl rfl ?_
  refine g_cE (As := [.ref 0]) (rest := []) (D2 := D) (v := some (.int (F_X10_fault D))) (em_X10_fault hl hW D _ rfl) (fun _ => rfl) (fun o7 h => z_runV 137 0 h rfl kk_L_137 hs0 kl_10.1 kq_X10_fault rfl (Nat.le_of_ble_eq_true rfl) ⟨Nat.le_of_ble_eq_true rfl, Nat.le_of_ble_eq_true rfl, by show cu + 0 ≤ 601024; omega, by show su + 0 ≤ 7293034; omega⟩ dL_law__506) hg ?_
  refine g_aload_n (i := 2) (x := 40) dL_law__509 rfl rfl ?_
  refine g_cE (As := [.ref 40]) (rest := [.int (F_X10_fault D)]) (D2 := D1) (v := some (.int r2)) (em_X11_fault hl hW D (.inl (some (.int r2)), S, D1) (by rw [h2]; rfl)) (fun _ => rfl) (fun o7 h => z_runV 140 0 h rfl kk_L_140 hs40 kl_11.1 kq_X11_fault rfl (Nat.le_of_ble_eq_true rfl) ⟨Nat.le_of_ble_eq_true rfl, Nat.le_of_ble_eq_true rfl, by show cu + 0 + 0 ≤ 601024; omega, by show su + 0 + 0 ≤ 7293034; omega⟩ dL_law__510) hg ?_
  refine g_icmp_eqJ 2408 dL_law__513 (by decide) he513 ?_
  exact g_weak (lv' := z_lv0 i) rfl g_lvw kk

set_option maxRecDepth 100000 in
set_option maxHeartbeats 4000000 in
theorem case_6_undo {X : Nat × (Nat → Int32)} {l : Launch} {S : List z_Shp} {o : Nat} {D : z_Dat} {out : z_Out} {cu su : Nat} {i : Int32} (hl : l.stackTraces = false) (hW : z_W S o) (hO : S[67]? = some (1, 1, [])) (N : Nat) (hin : ∀ k : Int32, 0 ≤ k → k ≤ 6 → vp_in (i + k) X.1) (hc : cu + 60 ≤ 601024) (hs : su + 400 ≤ 7293034) (hg : S.length ≤ out.2.1.length) {r1 : Int32} {r2 : Int32} {D1 : z_Dat} {D2 : z_Dat} (h1 : F_X10_undo N D = some (r1, D1)) (h2 : F_X11_undo N D1 = some (r2, D2)) (he526 : r1 = r2)
    (kk : z_G X l M_L_law_ (2048, 84000, 601024, 7293034) (cu + 0 + 0) (su + 0 + 0) 2408 [some (.retAddr 1000), some (.ref 0), some (.ref 40), some (.ref 67), some (.int i), none, none, none] [] S D2 out) : z_G X l M_L_law_ (2048, 84000, 601024, 7293034) cu su 518 [some (.retAddr 1000), some (.ref 0), some (.ref 40), some (.ref 67), some (.int i), none, none, none] [] S D out := by
  have hs0 := hW.1 0 _ rfl
  have hs40 := hW.1 40 _ rfl
  refine g_aload_n (i := 1) (x := 0) dL_law__518 rfl rfl ?_
  refine g_cE (As := [.ref 0]) (rest := []) (D2 := D1) (v := some (.int r1)) (em_X10_undo hl hW N D _ ⟨_, h1, rfl⟩) (fun _ => rfl) (fun o7 h => z_runV 141 0 h rfl kk_L_141 hs0 kl_10.1 kq_X10_undo rfl (Nat.le_of_ble_eq_true rfl) ⟨Nat.le_of_ble_eq_true rfl, Nat.le_of_ble_eq_true rfl, by show cu + 0 ≤ 601024; omega, by show su + 0 ≤ 7293034; omega⟩ dL_law__519) hg ?_
  refine g_aload_n (i := 2) (x := 40) dL_law__522 rfl rfl ?_
  refine g_cE (As := [.ref 40]) (rest := [.int r1]) (D2 := D2) (v := some (.int r2)) (em_X11_undo hl hW N D1 _ ⟨_, h2, rfl⟩) (fun _ => rfl) (fun o7 h => z_runV 144 0 h rfl kk_L_144 hs40 kl_11.1 kq_X11_undo rfl (Nat.le_of_ble_eq_true rfl) ⟨Nat.le_of_ble_eq_true rfl, Nat.le_of_ble_eq_true rfl, by show cu + 0 + 0 ≤ 601024; omega, by show su + 0 + 0 ≤ 7293034; omega⟩ dL_law__523) hg ?_
  refine g_icmp_eqJ 2408 dL_law__526 (by decide) he526 ?_
  exact g_weak (lv' := z_lv0 i) rfl g_lvw kk

set_option maxRecDepth 100000 in
set_option maxHeartbeats 4000000 in
theorem case_7_told {X : Nat × (Nat → Int32)} {l : Launch} {S : List z_Shp} {o : Nat} {D : z_Dat} {out : z_Out} {cu su : Nat} {i : Int32} (hl : l.stackTraces = false) (hW : z_W S o) (hO : S[67]? = some (1, 1, [])) (N : Nat) (hin : ∀ k : Int32, 0 ≤ k → k ≤ 6 → vp_in (i + k) X.1) (hc : cu + 60 ≤ 601024) (hs : su + 400 ≤ 7293034) (hg : S.length ≤ out.2.1.length) {r1 : Int32} {r2 : Int32} {D1 : z_Dat} {D2 : z_Dat} (h1 : F_L_told N o (z_sx X i 1) D = some (r1, D1)) (h2 : F_X11_told N (z_sx X i 1) D1 = some (r2, D2)) (he562 : (F_X11_thrown D2) = r1) (h0 : r1 = 0 → lg_cmp ((z_ldJ D2 67 0)) ((r2).toInt64) = 0)
    (kk : z_G X l M_L_law_ (2048, 84000, 601024, 7293034) (cu + 1 + 0 + 0) (su + 6 + 0 + 0) 2408 [some (.retAddr 1000), some (.ref 0), some (.ref 40), some (.ref 67), some (.int i), none, none, none] [] S D2 out) : z_G X l M_L_law_ (2048, 84000, 601024, 7293034) cu su 531 [some (.retAddr 1000), some (.ref 0), some (.ref 40), some (.ref 67), some (.int i), none, none, none] [] S D out := by
  have hs0 := hW.1 0 _ rfl
  have hs40 := hW.1 40 _ rfl
  refine g_aload_n (i := 1) (x := 0) dL_law__531 rfl rfl ?_
  refine g_aloadC_n (i := 0) (x := 1000) dL_law__532 rfl rfl ?_
  refine g_iload (i := 4) (x := i) dL_law__533 rfl ?_
  refine g_iconst (v := 1) dL_law__535 rfl ?_
  refine g_iadd dL_law__536 ?_
  refine g_scr dL_law__537 (hin 1 (by decide) (by decide)) ?_
  refine g_aload_n (i := 3) (x := 67) dL_law__538 rfl rfl ?_
  refine g_cE (As := [.ref 0, .int (z_sx X i 1), .ref 67]) (rest := []) (D2 := D1) (v := some (.int r1)) (em_L_told hl hW hO N (z_sx X i 1) D _ ⟨_, h1, rfl⟩) (fun _ => rfl) (fun o7 h => z_runSX 145 3 h rfl kk_L_145 kq_L_told rfl (Nat.le_of_ble_eq_true rfl) ⟨Nat.le_of_ble_eq_true rfl, Nat.le_of_ble_eq_true rfl, by show cu + 1 ≤ 601024; omega, by show su + 6 ≤ 7293034; omega⟩ dL_law__539) hg ?_
  refine g_istore (i := 5) (lv' := [some (.retAddr 1000), some (.ref 0), some (.ref 40), some (.ref 67), some (.int i), some (.int r1), none, none]) dL_law__542 (by decide) rfl rfl ?_
  refine g_aload_n (i := 2) (x := 40) dL_law__544 rfl rfl ?_
  refine g_aloadC_n (i := 0) (x := 1000) dL_law__545 rfl rfl ?_
  refine g_iload (i := 4) (x := i) dL_law__546 rfl ?_
  refine g_iconst (v := 1) dL_law__548 rfl ?_
  refine g_iadd dL_law__549 ?_
  refine g_scr dL_law__550 (hin 1 (by decide) (by decide)) ?_
  refine g_cE (As := [.ref 40, .int (z_sx X i 1)]) (rest := []) (D2 := D2) (v := some (.int r2)) (em_X11_told hl hW N (z_sx X i 1) D1 _ ⟨_, h2, rfl⟩) (fun _ => rfl) (fun o7 h => z_runV 147 1 h rfl kk_L_147 hs40 kl_11.1 kq_X11_told rfl (Nat.le_of_ble_eq_true rfl) ⟨Nat.le_of_ble_eq_true rfl, Nat.le_of_ble_eq_true rfl, by show cu + 1 + 0 ≤ 601024; omega, by show su + 6 + 0 ≤ 7293034; omega⟩ dL_law__551) hg ?_
  refine g_istore (i := 6) (lv' := [some (.retAddr 1000), some (.ref 0), some (.ref 40), some (.ref 67), some (.int i), some (.int r1), some (.int r2), none]) dL_law__554 (by decide) rfl rfl ?_
  refine g_aload_n (i := 2) (x := 40) dL_law__556 rfl rfl ?_
  refine g_cE (As := [.ref 40]) (rest := []) (D2 := D2) (v := some (.int (F_X11_thrown D2))) (em_X11_thrown hl hW D2 _ rfl) (fun _ => rfl) (fun o7 h => z_runV 124 0 h rfl kk_L_124 hs40 kl_11.1 kq_X11_thrown rfl (Nat.le_of_ble_eq_true rfl) ⟨Nat.le_of_ble_eq_true rfl, Nat.le_of_ble_eq_true rfl, by show cu + 1 + 0 + 0 ≤ 601024; omega, by show su + 6 + 0 + 0 ≤ 7293034; omega⟩ dL_law__557) hg ?_
  refine g_iload (i := 5) (x := r1) dL_law__560 rfl ?_
  refine g_icmp_eqJ 567 dL_law__562 (by decide) he562 ?_
  refine g_iload (i := 5) (x := r1) dL_law__567 rfl ?_
  refine (Decidable.em (¬ r1 = 0)).elim (fun c0 => ?_) (fun c0n => ?_)
  · refine g_if_neJ 584 dL_law__569 (by decide) c0 ?_
    refine g_goto 2408 dL_law__584 (by decide) ?_
    exact g_weak (lv' := z_lv0 i) rfl g_lvw kk
  have c0 := Decidable.not_not.mp c0n
  refine g_if_neN 584 dL_law__569 (by decide) c0 ?_
  refine g_aload_n (i := 3) (x := 67) dL_law__572 rfl rfl ?_
  refine g_iconst (v := 0) dL_law__573 rfl ?_
  refine g_lald (k := 67) dL_law__574 hO (vp_in_iff.mpr (by decide)) ?_
  refine g_iload (i := 6) (x := r2) dL_law__575 rfl ?_
  refine g_i2l dL_law__577 ?_
  refine g_lcmp dL_law__578 ?_
  refine g_if_eqJ 584 dL_law__579 (by decide) (h0 c0) ?_
  refine g_goto 2408 dL_law__584 (by decide) ?_
  exact g_weak (lv' := z_lv0 i) rfl g_lvw kk

set_option maxRecDepth 100000 in
set_option maxHeartbeats 4000000 in
theorem case_8_street {X : Nat × (Nat → Int32)} {l : Launch} {S : List z_Shp} {o : Nat} {D : z_Dat} {out : z_Out} {cu su : Nat} {i : Int32} (hl : l.stackTraces = false) (hW : z_W S o) (hO : S[67]? = some (1, 1, [])) (N : Nat) (hin : ∀ k : Int32, 0 ≤ k → k ≤ 6 → vp_in (i + k) X.1) (hc : cu + 60 ≤ 601024) (hs : su + 400 ≤ 7293034) (hg : S.length ≤ out.2.1.length) {r1 : Int32} {r2 : Int32} {D1 : z_Dat} {D2 : z_Dat} (h1 : F_L_street N o (z_sx X i 1) (z_sx X i 2) D = some (r1, D1)) (h2 : F_X11_street N (z_sx X i 1) (z_sx X i 2) D1 = some (r2, D2)) (he630 : (F_X11_thrown D2) = r1) (h0 : r1 = 0 → lg_cmp ((z_ldJ D2 67 0)) ((r2).toInt64) = 0)
    (kk : z_G X l M_L_law_ (2048, 84000, 601024, 7293034) (cu + 2 + 0 + 0) (su + 12 + 0 + 0) 2408 [some (.retAddr 1000), some (.ref 0), some (.ref 40), some (.ref 67), some (.int i), none, none, none] [] S D2 out) : z_G X l M_L_law_ (2048, 84000, 601024, 7293034) cu su 587 [some (.retAddr 1000), some (.ref 0), some (.ref 40), some (.ref 67), some (.int i), none, none, none] [] S D out := by
  have hs0 := hW.1 0 _ rfl
  have hs40 := hW.1 40 _ rfl
  refine g_aload_n (i := 1) (x := 0) dL_law__587 rfl rfl ?_
  refine g_aloadC_n (i := 0) (x := 1000) dL_law__588 rfl rfl ?_
  refine g_iload (i := 4) (x := i) dL_law__589 rfl ?_
  refine g_iconst (v := 1) dL_law__591 rfl ?_
  refine g_iadd dL_law__592 ?_
  refine g_scr dL_law__593 (hin 1 (by decide) (by decide)) ?_
  refine g_aloadC_n (i := 0) (x := 1000) dL_law__594 rfl rfl ?_
  refine g_iload (i := 4) (x := i) dL_law__595 rfl ?_
  refine g_iconst (v := 2) dL_law__597 rfl ?_
  refine g_iadd dL_law__598 ?_
  refine g_scr dL_law__599 (hin 2 (by decide) (by decide)) ?_
  refine g_aload_n (i := 3) (x := 67) dL_law__600 rfl rfl ?_
  refine g_cE (As := [.ref 0, .int (z_sx X i 1), .int (z_sx X i 2), .ref 67]) (rest := []) (D2 := D1) (v := some (.int r1)) (em_L_street hl hW hO N (z_sx X i 1) (z_sx X i 2) D _ ⟨_, h1, rfl⟩) (fun _ => rfl) (fun o7 h => z_runSX 148 4 h rfl kk_L_148 kq_L_street rfl (Nat.le_of_ble_eq_true rfl) ⟨Nat.le_of_ble_eq_true rfl, Nat.le_of_ble_eq_true rfl, by show cu + 2 ≤ 601024; omega, by show su + 12 ≤ 7293034; omega⟩ dL_law__601) hg ?_
  refine g_istore (i := 5) (lv' := [some (.retAddr 1000), some (.ref 0), some (.ref 40), some (.ref 67), some (.int i), some (.int r1), none, none]) dL_law__604 (by decide) rfl rfl ?_
  refine g_aload_n (i := 2) (x := 40) dL_law__606 rfl rfl ?_
  refine g_aloadC_n (i := 0) (x := 1000) dL_law__607 rfl rfl ?_
  refine g_iload (i := 4) (x := i) dL_law__608 rfl ?_
  refine g_iconst (v := 1) dL_law__610 rfl ?_
  refine g_iadd dL_law__611 ?_
  refine g_scr dL_law__612 (hin 1 (by decide) (by decide)) ?_
  refine g_aloadC_n (i := 0) (x := 1000) dL_law__613 rfl rfl ?_
  refine g_iload (i := 4) (x := i) dL_law__614 rfl ?_
  refine g_iconst (v := 2) dL_law__616 rfl ?_
  refine g_iadd dL_law__617 ?_
  refine g_scr dL_law__618 (hin 2 (by decide) (by decide)) ?_
  refine g_cE (As := [.ref 40, .int (z_sx X i 1), .int (z_sx X i 2)]) (rest := []) (D2 := D2) (v := some (.int r2)) (em_X11_street hl hW N (z_sx X i 1) (z_sx X i 2) D1 _ ⟨_, h2, rfl⟩) (fun _ => rfl) (fun o7 h => z_runV 151 2 h rfl kk_L_151 hs40 kl_11.1 kq_X11_street rfl (Nat.le_of_ble_eq_true rfl) ⟨Nat.le_of_ble_eq_true rfl, Nat.le_of_ble_eq_true rfl, by show cu + 2 + 0 ≤ 601024; omega, by show su + 12 + 0 ≤ 7293034; omega⟩ dL_law__619) hg ?_
  refine g_istore (i := 6) (lv' := [some (.retAddr 1000), some (.ref 0), some (.ref 40), some (.ref 67), some (.int i), some (.int r1), some (.int r2), none]) dL_law__622 (by decide) rfl rfl ?_
  refine g_aload_n (i := 2) (x := 40) dL_law__624 rfl rfl ?_
  refine g_cE (As := [.ref 40]) (rest := []) (D2 := D2) (v := some (.int (F_X11_thrown D2))) (em_X11_thrown hl hW D2 _ rfl) (fun _ => rfl) (fun o7 h => z_runV 124 0 h rfl kk_L_124 hs40 kl_11.1 kq_X11_thrown rfl (Nat.le_of_ble_eq_true rfl) ⟨Nat.le_of_ble_eq_true rfl, Nat.le_of_ble_eq_true rfl, by show cu + 2 + 0 + 0 ≤ 601024; omega, by show su + 12 + 0 + 0 ≤ 7293034; omega⟩ dL_law__625) hg ?_
  refine g_iload (i := 5) (x := r1) dL_law__628 rfl ?_
  refine g_icmp_eqJ 635 dL_law__630 (by decide) he630 ?_
  refine g_iload (i := 5) (x := r1) dL_law__635 rfl ?_
  refine (Decidable.em (¬ r1 = 0)).elim (fun c0 => ?_) (fun c0n => ?_)
  · refine g_if_neJ 652 dL_law__637 (by decide) c0 ?_
    refine g_goto 2408 dL_law__652 (by decide) ?_
    exact g_weak (lv' := z_lv0 i) rfl g_lvw kk
  have c0 := Decidable.not_not.mp c0n
  refine g_if_neN 652 dL_law__637 (by decide) c0 ?_
  refine g_aload_n (i := 3) (x := 67) dL_law__640 rfl rfl ?_
  refine g_iconst (v := 0) dL_law__641 rfl ?_
  refine g_lald (k := 67) dL_law__642 hO (vp_in_iff.mpr (by decide)) ?_
  refine g_iload (i := 6) (x := r2) dL_law__643 rfl ?_
  refine g_i2l dL_law__645 ?_
  refine g_lcmp dL_law__646 ?_
  refine g_if_eqJ 652 dL_law__647 (by decide) (h0 c0) ?_
  refine g_goto 2408 dL_law__652 (by decide) ?_
  exact g_weak (lv' := z_lv0 i) rfl g_lvw kk

set_option maxRecDepth 100000 in
set_option maxHeartbeats 4000000 in
theorem case_9_person {X : Nat × (Nat → Int32)} {l : Launch} {S : List z_Shp} {o : Nat} {D : z_Dat} {out : z_Out} {cu su : Nat} {i : Int32} (hl : l.stackTraces = false) (hW : z_W S o) (hO : S[67]? = some (1, 1, [])) (N : Nat) (hin : ∀ k : Int32, 0 ≤ k → k ≤ 6 → vp_in (i + k) X.1) (hc : cu + 60 ≤ 601024) (hs : su + 400 ≤ 7293034) (hg : S.length ≤ out.2.1.length) {r1 : Int32} {r2 : Int32} {D1 : z_Dat} {D2 : z_Dat} (h1 : F_L_person N o (z_sx X i 1) (z_sx X i 2) D = some (r1, D1)) (h2 : F_X11_person N (z_sx X i 1) (z_sx X i 2) D1 = some (r2, D2)) (he698 : (F_X11_thrown D2) = r1) (h0 : r1 = 0 → lg_cmp ((z_ldJ D2 67 0)) ((r2).toInt64) = 0)
    (kk : z_G X l M_L_law_ (2048, 84000, 601024, 7293034) (cu + 2 + 0 + 0) (su + 12 + 0 + 0) 2408 [some (.retAddr 1000), some (.ref 0), some (.ref 40), some (.ref 67), some (.int i), none, none, none] [] S D2 out) : z_G X l M_L_law_ (2048, 84000, 601024, 7293034) cu su 655 [some (.retAddr 1000), some (.ref 0), some (.ref 40), some (.ref 67), some (.int i), none, none, none] [] S D out := by
  have hs0 := hW.1 0 _ rfl
  have hs40 := hW.1 40 _ rfl
  refine g_aload_n (i := 1) (x := 0) dL_law__655 rfl rfl ?_
  refine g_aloadC_n (i := 0) (x := 1000) dL_law__656 rfl rfl ?_
  refine g_iload (i := 4) (x := i) dL_law__657 rfl ?_
  refine g_iconst (v := 1) dL_law__659 rfl ?_
  refine g_iadd dL_law__660 ?_
  refine g_scr dL_law__661 (hin 1 (by decide) (by decide)) ?_
  refine g_aloadC_n (i := 0) (x := 1000) dL_law__662 rfl rfl ?_
  refine g_iload (i := 4) (x := i) dL_law__663 rfl ?_
  refine g_iconst (v := 2) dL_law__665 rfl ?_
  refine g_iadd dL_law__666 ?_
  refine g_scr dL_law__667 (hin 2 (by decide) (by decide)) ?_
  refine g_aload_n (i := 3) (x := 67) dL_law__668 rfl rfl ?_
  refine g_cE (As := [.ref 0, .int (z_sx X i 1), .int (z_sx X i 2), .ref 67]) (rest := []) (D2 := D1) (v := some (.int r1)) (em_L_person hl hW hO N (z_sx X i 1) (z_sx X i 2) D _ ⟨_, h1, rfl⟩) (fun _ => rfl) (fun o7 h => z_runSX 152 4 h rfl kk_L_152 kq_L_person rfl (Nat.le_of_ble_eq_true rfl) ⟨Nat.le_of_ble_eq_true rfl, Nat.le_of_ble_eq_true rfl, by show cu + 2 ≤ 601024; omega, by show su + 12 ≤ 7293034; omega⟩ dL_law__669) hg ?_
  refine g_istore (i := 5) (lv' := [some (.retAddr 1000), some (.ref 0), some (.ref 40), some (.ref 67), some (.int i), some (.int r1), none, none]) dL_law__672 (by decide) rfl rfl ?_
  refine g_aload_n (i := 2) (x := 40) dL_law__674 rfl rfl ?_
  refine g_aloadC_n (i := 0) (x := 1000) dL_law__675 rfl rfl ?_
  refine g_iload (i := 4) (x := i) dL_law__676 rfl ?_
  refine g_iconst (v := 1) dL_law__678 rfl ?_
  refine g_iadd dL_law__679 ?_
  refine g_scr dL_law__680 (hin 1 (by decide) (by decide)) ?_
  refine g_aloadC_n (i := 0) (x := 1000) dL_law__681 rfl rfl ?_
  refine g_iload (i := 4) (x := i) dL_law__682 rfl ?_
  refine g_iconst (v := 2) dL_law__684 rfl ?_
  refine g_iadd dL_law__685 ?_
  refine g_scr dL_law__686 (hin 2 (by decide) (by decide)) ?_
  refine g_cE (As := [.ref 40, .int (z_sx X i 1), .int (z_sx X i 2)]) (rest := []) (D2 := D2) (v := some (.int r2)) (em_X11_person hl hW N (z_sx X i 1) (z_sx X i 2) D1 _ ⟨_, h2, rfl⟩) (fun _ => rfl) (fun o7 h => z_runV 154 2 h rfl kk_L_154 hs40 kl_11.1 kq_X11_person rfl (Nat.le_of_ble_eq_true rfl) ⟨Nat.le_of_ble_eq_true rfl, Nat.le_of_ble_eq_true rfl, by show cu + 2 + 0 ≤ 601024; omega, by show su + 12 + 0 ≤ 7293034; omega⟩ dL_law__687) hg ?_
  refine g_istore (i := 6) (lv' := [some (.retAddr 1000), some (.ref 0), some (.ref 40), some (.ref 67), some (.int i), some (.int r1), some (.int r2), none]) dL_law__690 (by decide) rfl rfl ?_
  refine g_aload_n (i := 2) (x := 40) dL_law__692 rfl rfl ?_
  refine g_cE (As := [.ref 40]) (rest := []) (D2 := D2) (v := some (.int (F_X11_thrown D2))) (em_X11_thrown hl hW D2 _ rfl) (fun _ => rfl) (fun o7 h => z_runV 124 0 h rfl kk_L_124 hs40 kl_11.1 kq_X11_thrown rfl (Nat.le_of_ble_eq_true rfl) ⟨Nat.le_of_ble_eq_true rfl, Nat.le_of_ble_eq_true rfl, by show cu + 2 + 0 + 0 ≤ 601024; omega, by show su + 12 + 0 + 0 ≤ 7293034; omega⟩ dL_law__693) hg ?_
  refine g_iload (i := 5) (x := r1) dL_law__696 rfl ?_
  refine g_icmp_eqJ 703 dL_law__698 (by decide) he698 ?_
  refine g_iload (i := 5) (x := r1) dL_law__703 rfl ?_
  refine (Decidable.em (¬ r1 = 0)).elim (fun c0 => ?_) (fun c0n => ?_)
  · refine g_if_neJ 720 dL_law__705 (by decide) c0 ?_
    refine g_goto 2408 dL_law__720 (by decide) ?_
    exact g_weak (lv' := z_lv0 i) rfl g_lvw kk
  have c0 := Decidable.not_not.mp c0n
  refine g_if_neN 720 dL_law__705 (by decide) c0 ?_
  refine g_aload_n (i := 3) (x := 67) dL_law__708 rfl rfl ?_
  refine g_iconst (v := 0) dL_law__709 rfl ?_
  refine g_lald (k := 67) dL_law__710 hO (vp_in_iff.mpr (by decide)) ?_
  refine g_iload (i := 6) (x := r2) dL_law__711 rfl ?_
  refine g_i2l dL_law__713 ?_
  refine g_lcmp dL_law__714 ?_
  refine g_if_eqJ 720 dL_law__715 (by decide) (h0 c0) ?_
  refine g_goto 2408 dL_law__720 (by decide) ?_
  exact g_weak (lv' := z_lv0 i) rfl g_lvw kk

set_option maxRecDepth 100000 in
set_option maxHeartbeats 4000000 in
theorem case_10_stock {X : Nat × (Nat → Int32)} {l : Launch} {S : List z_Shp} {o : Nat} {D : z_Dat} {out : z_Out} {cu su : Nat} {i : Int32} (hl : l.stackTraces = false) (hW : z_W S o) (hO : S[67]? = some (1, 1, [])) (N : Nat) (hin : ∀ k : Int32, 0 ≤ k → k ≤ 6 → vp_in (i + k) X.1) (hc : cu + 60 ≤ 601024) (hs : su + 400 ≤ 7293034) (hg : S.length ≤ out.2.1.length) {r1 : Int32} {r2 : Int32} {D1 : z_Dat} {D2 : z_Dat} (h1 : F_L_stock (z_sx X i 1) D = some (r1, D1)) (h2 : F_X11_stock (z_sx X i 1) D1 = some (r2, D2)) (he754 : (F_X11_thrown D2) = r1) (h0 : r1 = 0 → lg_cmp ((z_ldJ D2 67 0)) ((r2).toInt64) = 0)
    (kk : z_G X l M_L_law_ (2048, 84000, 601024, 7293034) (cu + 1 + 0 + 0) (su + 6 + 0 + 0) 2408 [some (.retAddr 1000), some (.ref 0), some (.ref 40), some (.ref 67), some (.int i), none, none, none] [] S D2 out) : z_G X l M_L_law_ (2048, 84000, 601024, 7293034) cu su 723 [some (.retAddr 1000), some (.ref 0), some (.ref 40), some (.ref 67), some (.int i), none, none, none] [] S D out := by
  have hs0 := hW.1 0 _ rfl
  have hs40 := hW.1 40 _ rfl
  refine g_aload_n (i := 1) (x := 0) dL_law__723 rfl rfl ?_
  refine g_aloadC_n (i := 0) (x := 1000) dL_law__724 rfl rfl ?_
  refine g_iload (i := 4) (x := i) dL_law__725 rfl ?_
  refine g_iconst (v := 1) dL_law__727 rfl ?_
  refine g_iadd dL_law__728 ?_
  refine g_scr dL_law__729 (hin 1 (by decide) (by decide)) ?_
  refine g_aload_n (i := 3) (x := 67) dL_law__730 rfl rfl ?_
  refine g_cE (As := [.ref 0, .int (z_sx X i 1), .ref 67]) (rest := []) (D2 := D1) (v := some (.int r1)) (em_L_stock hl hW hO (z_sx X i 1) D _ ⟨_, h1, rfl⟩) (fun _ => rfl) (fun o7 h => z_runSX 155 3 h rfl kk_L_155 kq_L_stock rfl (Nat.le_of_ble_eq_true rfl) ⟨Nat.le_of_ble_eq_true rfl, Nat.le_of_ble_eq_true rfl, by show cu + 1 ≤ 601024; omega, by show su + 6 ≤ 7293034; omega⟩ dL_law__731) hg ?_
  refine g_istore (i := 5) (lv' := [some (.retAddr 1000), some (.ref 0), some (.ref 40), some (.ref 67), some (.int i), some (.int r1), none, none]) dL_law__734 (by decide) rfl rfl ?_
  refine g_aload_n (i := 2) (x := 40) dL_law__736 rfl rfl ?_
  refine g_aloadC_n (i := 0) (x := 1000) dL_law__737 rfl rfl ?_
  refine g_iload (i := 4) (x := i) dL_law__738 rfl ?_
  refine g_iconst (v := 1) dL_law__740 rfl ?_
  refine g_iadd dL_law__741 ?_
  refine g_scr dL_law__742 (hin 1 (by decide) (by decide)) ?_
  refine g_cE (As := [.ref 40, .int (z_sx X i 1)]) (rest := []) (D2 := D2) (v := some (.int r2)) (em_X11_stock hl hW (z_sx X i 1) D1 _ ⟨_, h2, rfl⟩) (fun _ => rfl) (fun o7 h => z_runV 157 1 h rfl kk_L_157 hs40 kl_11.1 kq_X11_stock rfl (Nat.le_of_ble_eq_true rfl) ⟨Nat.le_of_ble_eq_true rfl, Nat.le_of_ble_eq_true rfl, by show cu + 1 + 0 ≤ 601024; omega, by show su + 6 + 0 ≤ 7293034; omega⟩ dL_law__743) hg ?_
  refine g_istore (i := 6) (lv' := [some (.retAddr 1000), some (.ref 0), some (.ref 40), some (.ref 67), some (.int i), some (.int r1), some (.int r2), none]) dL_law__746 (by decide) rfl rfl ?_
  refine g_aload_n (i := 2) (x := 40) dL_law__748 rfl rfl ?_
  refine g_cE (As := [.ref 40]) (rest := []) (D2 := D2) (v := some (.int (F_X11_thrown D2))) (em_X11_thrown hl hW D2 _ rfl) (fun _ => rfl) (fun o7 h => z_runV 124 0 h rfl kk_L_124 hs40 kl_11.1 kq_X11_thrown rfl (Nat.le_of_ble_eq_true rfl) ⟨Nat.le_of_ble_eq_true rfl, Nat.le_of_ble_eq_true rfl, by show cu + 1 + 0 + 0 ≤ 601024; omega, by show su + 6 + 0 + 0 ≤ 7293034; omega⟩ dL_law__749) hg ?_
  refine g_iload (i := 5) (x := r1) dL_law__752 rfl ?_
  refine g_icmp_eqJ 759 dL_law__754 (by decide) he754 ?_
  refine g_iload (i := 5) (x := r1) dL_law__759 rfl ?_
  refine (Decidable.em (¬ r1 = 0)).elim (fun c0 => ?_) (fun c0n => ?_)
  · refine g_if_neJ 776 dL_law__761 (by decide) c0 ?_
    refine g_goto 2408 dL_law__776 (by decide) ?_
    exact g_weak (lv' := z_lv0 i) rfl g_lvw kk
  have c0 := Decidable.not_not.mp c0n
  refine g_if_neN 776 dL_law__761 (by decide) c0 ?_
  refine g_aload_n (i := 3) (x := 67) dL_law__764 rfl rfl ?_
  refine g_iconst (v := 0) dL_law__765 rfl ?_
  refine g_lald (k := 67) dL_law__766 hO (vp_in_iff.mpr (by decide)) ?_
  refine g_iload (i := 6) (x := r2) dL_law__767 rfl ?_
  refine g_i2l dL_law__769 ?_
  refine g_lcmp dL_law__770 ?_
  refine g_if_eqJ 776 dL_law__771 (by decide) (h0 c0) ?_
  refine g_goto 2408 dL_law__776 (by decide) ?_
  exact g_weak (lv' := z_lv0 i) rfl g_lvw kk

set_option maxRecDepth 100000 in
set_option maxHeartbeats 4000000 in
theorem case_11_would {X : Nat × (Nat → Int32)} {l : Launch} {S : List z_Shp} {o : Nat} {D : z_Dat} {out : z_Out} {cu su : Nat} {i : Int32} (hl : l.stackTraces = false) (hW : z_W S o) (hO : S[67]? = some (1, 1, [])) (N : Nat) (hin : ∀ k : Int32, 0 ≤ k → k ≤ 6 → vp_in (i + k) X.1) (hc : cu + 60 ≤ 601024) (hs : su + 400 ≤ 7293034) (hg : S.length ≤ out.2.1.length) {r1 : Int32} {r2 : Int32} {D1 : z_Dat} {D2 : z_Dat} (h1 : F_L_would N (z_sx X i 1) (z_sx X i 2) (z_sx X i 3) (z_sx X i 4) (z_sx X i 5) (z_sx X i 6) D = some (r1, D1)) (h2 : F_X11_would N (z_sx X i 1) (z_sx X i 2) (z_sx X i 3) (z_sx X i 4) (z_sx X i 5) (z_sx X i 6) D1 = some (r2, D2)) (he872 : (F_X11_thrown D2) = r1) (h0 : r1 = 0 → lg_cmp ((z_ldJ D2 67 0)) (if r2 = 0 then 0 else 1) = 0)
    (kk : z_G X l M_L_law_ (2048, 84000, 601024, 7293034) (cu + 2 + 0 + 0) (su + 12 + 0 + 0) 2408 [some (.retAddr 1000), some (.ref 0), some (.ref 40), some (.ref 67), some (.int i), none, none, none] [] S D2 out) : z_G X l M_L_law_ (2048, 84000, 601024, 7293034) cu su 779 [some (.retAddr 1000), some (.ref 0), some (.ref 40), some (.ref 67), some (.int i), none, none, none] [] S D out := by
  have hs0 := hW.1 0 _ rfl
  have hs40 := hW.1 40 _ rfl
  refine g_aload_n (i := 1) (x := 0) dL_law__779 rfl rfl ?_
  refine g_aloadC_n (i := 0) (x := 1000) dL_law__780 rfl rfl ?_
  refine g_iload (i := 4) (x := i) dL_law__781 rfl ?_
  refine g_iconst (v := 1) dL_law__783 rfl ?_
  refine g_iadd dL_law__784 ?_
  refine g_scr dL_law__785 (hin 1 (by decide) (by decide)) ?_
  refine g_aloadC_n (i := 0) (x := 1000) dL_law__786 rfl rfl ?_
  refine g_iload (i := 4) (x := i) dL_law__787 rfl ?_
  refine g_iconst (v := 2) dL_law__789 rfl ?_
  refine g_iadd dL_law__790 ?_
  refine g_scr dL_law__791 (hin 2 (by decide) (by decide)) ?_
  refine g_aloadC_n (i := 0) (x := 1000) dL_law__792 rfl rfl ?_
  refine g_iload (i := 4) (x := i) dL_law__793 rfl ?_
  refine g_iconst (v := 3) dL_law__795 rfl ?_
  refine g_iadd dL_law__796 ?_
  refine g_scr dL_law__797 (hin 3 (by decide) (by decide)) ?_
  refine g_aloadC_n (i := 0) (x := 1000) dL_law__798 rfl rfl ?_
  refine g_iload (i := 4) (x := i) dL_law__799 rfl ?_
  refine g_iconst (v := 4) dL_law__801 rfl ?_
  refine g_iadd dL_law__802 ?_
  refine g_scr dL_law__803 (hin 4 (by decide) (by decide)) ?_
  refine g_aloadC_n (i := 0) (x := 1000) dL_law__804 rfl rfl ?_
  refine g_iload (i := 4) (x := i) dL_law__805 rfl ?_
  refine g_iconst (v := 5) dL_law__807 rfl ?_
  refine g_iadd dL_law__808 ?_
  refine g_scr dL_law__809 (hin 5 (by decide) (by decide)) ?_
  refine g_aloadC_n (i := 0) (x := 1000) dL_law__810 rfl rfl ?_
  refine g_iload (i := 4) (x := i) dL_law__811 rfl ?_
  refine g_bipush (v := 6) dL_law__813 (by decide) ?_
  refine g_iadd dL_law__815 ?_
  refine g_scr dL_law__816 (hin 6 (by decide) (by decide)) ?_
  refine g_aload_n (i := 3) (x := 67) dL_law__817 rfl rfl ?_
  refine g_cE (As := [.ref 0, .int (z_sx X i 1), .int (z_sx X i 2), .int (z_sx X i 3), .int (z_sx X i 4), .int (z_sx X i 5), .int (z_sx X i 6), .ref 67]) (rest := []) (D2 := D1) (v := some (.int r1)) (em_L_would hl hW hO N (z_sx X i 1) (z_sx X i 2) (z_sx X i 3) (z_sx X i 4) (z_sx X i 5) (z_sx X i 6) D _ ⟨_, h1, rfl⟩) (fun _ => rfl) (fun o7 h => z_runSX 158 8 h rfl kk_L_158 kq_L_would rfl (Nat.le_of_ble_eq_true rfl) ⟨Nat.le_of_ble_eq_true rfl, Nat.le_of_ble_eq_true rfl, by show cu + 2 ≤ 601024; omega, by show su + 12 ≤ 7293034; omega⟩ dL_law__818) hg ?_
  refine g_istore (i := 5) (lv' := [some (.retAddr 1000), some (.ref 0), some (.ref 40), some (.ref 67), some (.int i), some (.int r1), none, none]) dL_law__821 (by decide) rfl rfl ?_
  refine g_aload_n (i := 2) (x := 40) dL_law__823 rfl rfl ?_
  refine g_aloadC_n (i := 0) (x := 1000) dL_law__824 rfl rfl ?_
  refine g_iload (i := 4) (x := i) dL_law__825 rfl ?_
  refine g_iconst (v := 1) dL_law__827 rfl ?_
  refine g_iadd dL_law__828 ?_
  refine g_scr dL_law__829 (hin 1 (by decide) (by decide)) ?_
  refine g_aloadC_n (i := 0) (x := 1000) dL_law__830 rfl rfl ?_
  refine g_iload (i := 4) (x := i) dL_law__831 rfl ?_
  refine g_iconst (v := 2) dL_law__833 rfl ?_
  refine g_iadd dL_law__834 ?_
  refine g_scr dL_law__835 (hin 2 (by decide) (by decide)) ?_
  refine g_aloadC_n (i := 0) (x := 1000) dL_law__836 rfl rfl ?_
  refine g_iload (i := 4) (x := i) dL_law__837 rfl ?_
  refine g_iconst (v := 3) dL_law__839 rfl ?_
  refine g_iadd dL_law__840 ?_
  refine g_scr dL_law__841 (hin 3 (by decide) (by decide)) ?_
  refine g_aloadC_n (i := 0) (x := 1000) dL_law__842 rfl rfl ?_
  refine g_iload (i := 4) (x := i) dL_law__843 rfl ?_
  refine g_iconst (v := 4) dL_law__845 rfl ?_
  refine g_iadd dL_law__846 ?_
  refine g_scr dL_law__847 (hin 4 (by decide) (by decide)) ?_
  refine g_aloadC_n (i := 0) (x := 1000) dL_law__848 rfl rfl ?_
  refine g_iload (i := 4) (x := i) dL_law__849 rfl ?_
  refine g_iconst (v := 5) dL_law__851 rfl ?_
  refine g_iadd dL_law__852 ?_
  refine g_scr dL_law__853 (hin 5 (by decide) (by decide)) ?_
  refine g_aloadC_n (i := 0) (x := 1000) dL_law__854 rfl rfl ?_
  refine g_iload (i := 4) (x := i) dL_law__855 rfl ?_
  refine g_bipush (v := 6) dL_law__857 (by decide) ?_
  refine g_iadd dL_law__859 ?_
  refine g_scr dL_law__860 (hin 6 (by decide) (by decide)) ?_
  refine g_cE (As := [.ref 40, .int (z_sx X i 1), .int (z_sx X i 2), .int (z_sx X i 3), .int (z_sx X i 4), .int (z_sx X i 5), .int (z_sx X i 6)]) (rest := []) (D2 := D2) (v := some (.int r2)) (em_X11_would hl hW N (z_sx X i 1) (z_sx X i 2) (z_sx X i 3) (z_sx X i 4) (z_sx X i 5) (z_sx X i 6) D1 _ ⟨_, h2, rfl⟩) (fun _ => rfl) (fun o7 h => z_runV 161 6 h rfl kk_L_161 hs40 kl_11.1 kq_X11_would rfl (Nat.le_of_ble_eq_true rfl) ⟨Nat.le_of_ble_eq_true rfl, Nat.le_of_ble_eq_true rfl, by show cu + 2 + 0 ≤ 601024; omega, by show su + 12 + 0 ≤ 7293034; omega⟩ dL_law__861) hg ?_
  refine g_istore (i := 6) (lv' := [some (.retAddr 1000), some (.ref 0), some (.ref 40), some (.ref 67), some (.int i), some (.int r1), some (.int r2), none]) dL_law__864 (by decide) rfl rfl ?_
  refine g_aload_n (i := 2) (x := 40) dL_law__866 rfl rfl ?_
  refine g_cE (As := [.ref 40]) (rest := []) (D2 := D2) (v := some (.int (F_X11_thrown D2))) (em_X11_thrown hl hW D2 _ rfl) (fun _ => rfl) (fun o7 h => z_runV 124 0 h rfl kk_L_124 hs40 kl_11.1 kq_X11_thrown rfl (Nat.le_of_ble_eq_true rfl) ⟨Nat.le_of_ble_eq_true rfl, Nat.le_of_ble_eq_true rfl, by show cu + 2 + 0 + 0 ≤ 601024; omega, by show su + 12 + 0 + 0 ≤ 7293034; omega⟩ dL_law__867) hg ?_
  refine g_iload (i := 5) (x := r1) dL_law__870 rfl ?_
  refine g_icmp_eqJ 877 dL_law__872 (by decide) he872 ?_
  refine g_iload (i := 5) (x := r1) dL_law__877 rfl ?_
  refine (Decidable.em (¬ r1 = 0)).elim (fun c0 => ?_) (fun c0n => ?_)
  · refine g_if_neJ 901 dL_law__879 (by decide) c0 ?_
    refine g_goto 2408 dL_law__901 (by decide) ?_
    exact g_weak (lv' := z_lv0 i) rfl g_lvw kk
  have c0 := Decidable.not_not.mp c0n
  refine g_if_neN 901 dL_law__879 (by decide) c0 ?_
  refine g_aload_n (i := 3) (x := 67) dL_law__882 rfl rfl ?_
  refine g_iconst (v := 0) dL_law__883 rfl ?_
  refine g_lald (k := 67) dL_law__884 hO (vp_in_iff.mpr (by decide)) ?_
  refine g_iload (i := 6) (x := r2) dL_law__885 rfl ?_
  refine (Decidable.em (r2 = 0)).elim (fun cz => ?_) (fun cz => ?_)
  · refine g_if_eqJ 894 dL_law__887 (by decide) cz ?_
    refine g_lconst (v := 0) dL_law__894 rfl ?_
    refine g_lcmp dL_law__895 ?_
    refine g_if_eqJ 901 dL_law__896 (by decide) (by have q := h0 c0; rw [if_pos cz] at q; exact q) ?_
    refine g_goto 2408 dL_law__901 (by decide) ?_
    exact g_weak (lv' := z_lv0 i) rfl g_lvw kk
  · refine g_if_eqN 894 dL_law__887 (by decide) cz ?_
    refine g_lconst (v := 1) dL_law__890 rfl ?_
    refine g_goto 895 dL_law__891 (by decide) ?_
    refine g_lcmp dL_law__895 ?_
    refine g_if_eqJ 901 dL_law__896 (by decide) (by have q := h0 c0; rw [if_neg cz] at q; exact q) ?_
    refine g_goto 2408 dL_law__901 (by decide) ?_
    exact g_weak (lv' := z_lv0 i) rfl g_lvw kk

set_option maxRecDepth 100000 in
set_option maxHeartbeats 4000000 in
theorem case_12_distance {X : Nat × (Nat → Int32)} {l : Launch} {S : List z_Shp} {o : Nat} {D : z_Dat} {out : z_Out} {cu su : Nat} {i : Int32} (hl : l.stackTraces = false) (hW : z_W S o) (hO : S[67]? = some (1, 1, [])) (N : Nat) (hin : ∀ k : Int32, 0 ≤ k → k ≤ 6 → vp_in (i + k) X.1) (hc : cu + 60 ≤ 601024) (hs : su + 400 ≤ 7293034) (hg : S.length ≤ out.2.1.length) {r1 : Int32} {r2 : Int32} {D1 : z_Dat} {D2 : z_Dat} (h1 : F_L_distance (z_sx X i 1) (z_sx X i 2) D = some (r1, D1)) (h2 : F_X11_distance (z_sx X i 1) (z_sx X i 2) D1 = some (r2, D2)) (he947 : (F_X11_thrown D2) = r1) (h0 : r1 = 0 → lg_cmp ((z_ldJ D2 67 0)) ((r2).toInt64) = 0)
    (kk : z_G X l M_L_law_ (2048, 84000, 601024, 7293034) (cu + 1 + 0 + 0) (su + 6 + 0 + 0) 2408 [some (.retAddr 1000), some (.ref 0), some (.ref 40), some (.ref 67), some (.int i), none, none, none] [] S D2 out) : z_G X l M_L_law_ (2048, 84000, 601024, 7293034) cu su 904 [some (.retAddr 1000), some (.ref 0), some (.ref 40), some (.ref 67), some (.int i), none, none, none] [] S D out := by
  have hs0 := hW.1 0 _ rfl
  have hs40 := hW.1 40 _ rfl
  refine g_aload_n (i := 1) (x := 0) dL_law__904 rfl rfl ?_
  refine g_aloadC_n (i := 0) (x := 1000) dL_law__905 rfl rfl ?_
  refine g_iload (i := 4) (x := i) dL_law__906 rfl ?_
  refine g_iconst (v := 1) dL_law__908 rfl ?_
  refine g_iadd dL_law__909 ?_
  refine g_scr dL_law__910 (hin 1 (by decide) (by decide)) ?_
  refine g_aloadC_n (i := 0) (x := 1000) dL_law__911 rfl rfl ?_
  refine g_iload (i := 4) (x := i) dL_law__912 rfl ?_
  refine g_iconst (v := 2) dL_law__914 rfl ?_
  refine g_iadd dL_law__915 ?_
  refine g_scr dL_law__916 (hin 2 (by decide) (by decide)) ?_
  refine g_aload_n (i := 3) (x := 67) dL_law__917 rfl rfl ?_
  refine g_cE (As := [.ref 0, .int (z_sx X i 1), .int (z_sx X i 2), .ref 67]) (rest := []) (D2 := D1) (v := some (.int r1)) (em_L_distance hl hW hO (z_sx X i 1) (z_sx X i 2) D _ ⟨_, h1, rfl⟩) (fun _ => rfl) (fun o7 h => z_runSX 162 4 h rfl kk_L_162 kq_L_distance rfl (Nat.le_of_ble_eq_true rfl) ⟨Nat.le_of_ble_eq_true rfl, Nat.le_of_ble_eq_true rfl, by show cu + 1 ≤ 601024; omega, by show su + 6 ≤ 7293034; omega⟩ dL_law__918) hg ?_
  refine g_istore (i := 5) (lv' := [some (.retAddr 1000), some (.ref 0), some (.ref 40), some (.ref 67), some (.int i), some (.int r1), none, none]) dL_law__921 (by decide) rfl rfl ?_
  refine g_aload_n (i := 2) (x := 40) dL_law__923 rfl rfl ?_
  refine g_aloadC_n (i := 0) (x := 1000) dL_law__924 rfl rfl ?_
  refine g_iload (i := 4) (x := i) dL_law__925 rfl ?_
  refine g_iconst (v := 1) dL_law__927 rfl ?_
  refine g_iadd dL_law__928 ?_
  refine g_scr dL_law__929 (hin 1 (by decide) (by decide)) ?_
  refine g_aloadC_n (i := 0) (x := 1000) dL_law__930 rfl rfl ?_
  refine g_iload (i := 4) (x := i) dL_law__931 rfl ?_
  refine g_iconst (v := 2) dL_law__933 rfl ?_
  refine g_iadd dL_law__934 ?_
  refine g_scr dL_law__935 (hin 2 (by decide) (by decide)) ?_
  refine g_cE (As := [.ref 40, .int (z_sx X i 1), .int (z_sx X i 2)]) (rest := []) (D2 := D2) (v := some (.int r2)) (em_X11_distance hl hW (z_sx X i 1) (z_sx X i 2) D1 _ ⟨_, h2, rfl⟩) (fun _ => rfl) (fun o7 h => z_runV 164 2 h rfl kk_L_164 hs40 kl_11.1 kq_X11_distance rfl (Nat.le_of_ble_eq_true rfl) ⟨Nat.le_of_ble_eq_true rfl, Nat.le_of_ble_eq_true rfl, by show cu + 1 + 0 ≤ 601024; omega, by show su + 6 + 0 ≤ 7293034; omega⟩ dL_law__936) hg ?_
  refine g_istore (i := 6) (lv' := [some (.retAddr 1000), some (.ref 0), some (.ref 40), some (.ref 67), some (.int i), some (.int r1), some (.int r2), none]) dL_law__939 (by decide) rfl rfl ?_
  refine g_aload_n (i := 2) (x := 40) dL_law__941 rfl rfl ?_
  refine g_cE (As := [.ref 40]) (rest := []) (D2 := D2) (v := some (.int (F_X11_thrown D2))) (em_X11_thrown hl hW D2 _ rfl) (fun _ => rfl) (fun o7 h => z_runV 124 0 h rfl kk_L_124 hs40 kl_11.1 kq_X11_thrown rfl (Nat.le_of_ble_eq_true rfl) ⟨Nat.le_of_ble_eq_true rfl, Nat.le_of_ble_eq_true rfl, by show cu + 1 + 0 + 0 ≤ 601024; omega, by show su + 6 + 0 + 0 ≤ 7293034; omega⟩ dL_law__942) hg ?_
  refine g_iload (i := 5) (x := r1) dL_law__945 rfl ?_
  refine g_icmp_eqJ 952 dL_law__947 (by decide) he947 ?_
  refine g_iload (i := 5) (x := r1) dL_law__952 rfl ?_
  refine (Decidable.em (¬ r1 = 0)).elim (fun c0 => ?_) (fun c0n => ?_)
  · refine g_if_neJ 969 dL_law__954 (by decide) c0 ?_
    refine g_goto 2408 dL_law__969 (by decide) ?_
    exact g_weak (lv' := z_lv0 i) rfl g_lvw kk
  have c0 := Decidable.not_not.mp c0n
  refine g_if_neN 969 dL_law__954 (by decide) c0 ?_
  refine g_aload_n (i := 3) (x := 67) dL_law__957 rfl rfl ?_
  refine g_iconst (v := 0) dL_law__958 rfl ?_
  refine g_lald (k := 67) dL_law__959 hO (vp_in_iff.mpr (by decide)) ?_
  refine g_iload (i := 6) (x := r2) dL_law__960 rfl ?_
  refine g_i2l dL_law__962 ?_
  refine g_lcmp dL_law__963 ?_
  refine g_if_eqJ 969 dL_law__964 (by decide) (h0 c0) ?_
  refine g_goto 2408 dL_law__969 (by decide) ?_
  exact g_weak (lv' := z_lv0 i) rfl g_lvw kk

set_option maxRecDepth 100000 in
set_option maxHeartbeats 4000000 in
theorem case_13_seems {X : Nat × (Nat → Int32)} {l : Launch} {S : List z_Shp} {o : Nat} {D : z_Dat} {out : z_Out} {cu su : Nat} {i : Int32} (hl : l.stackTraces = false) (hW : z_W S o) (hO : S[67]? = some (1, 1, [])) (N : Nat) (hin : ∀ k : Int32, 0 ≤ k → k ≤ 6 → vp_in (i + k) X.1) (hc : cu + 60 ≤ 601024) (hs : su + 400 ≤ 7293034) (hg : S.length ≤ out.2.1.length) {r1 : Int32} {r2 : Int32} {D1 : z_Dat} {D2 : z_Dat} (h1 : F_L_seems N o (z_sx X i 1) D = some (r1, D1)) (h2 : F_X11_seems N (z_sx X i 1) D1 = some (r2, D2)) (he1003 : (F_X11_thrown D2) = r1) (h0 : r1 = 0 → lg_cmp ((z_ldJ D2 67 0)) ((r2).toInt64) = 0)
    (kk : z_G X l M_L_law_ (2048, 84000, 601024, 7293034) (cu + 1 + 0 + 0) (su + 6 + 0 + 0) 2408 [some (.retAddr 1000), some (.ref 0), some (.ref 40), some (.ref 67), some (.int i), none, none, none] [] S D2 out) : z_G X l M_L_law_ (2048, 84000, 601024, 7293034) cu su 972 [some (.retAddr 1000), some (.ref 0), some (.ref 40), some (.ref 67), some (.int i), none, none, none] [] S D out := by
  have hs0 := hW.1 0 _ rfl
  have hs40 := hW.1 40 _ rfl
  refine g_aload_n (i := 1) (x := 0) dL_law__972 rfl rfl ?_
  refine g_aloadC_n (i := 0) (x := 1000) dL_law__973 rfl rfl ?_
  refine g_iload (i := 4) (x := i) dL_law__974 rfl ?_
  refine g_iconst (v := 1) dL_law__976 rfl ?_
  refine g_iadd dL_law__977 ?_
  refine g_scr dL_law__978 (hin 1 (by decide) (by decide)) ?_
  refine g_aload_n (i := 3) (x := 67) dL_law__979 rfl rfl ?_
  refine g_cE (As := [.ref 0, .int (z_sx X i 1), .ref 67]) (rest := []) (D2 := D1) (v := some (.int r1)) (em_L_seems hl hW hO N (z_sx X i 1) D _ ⟨_, h1, rfl⟩) (fun _ => rfl) (fun o7 h => z_runSX 165 3 h rfl kk_L_165 kq_L_seems rfl (Nat.le_of_ble_eq_true rfl) ⟨Nat.le_of_ble_eq_true rfl, Nat.le_of_ble_eq_true rfl, by show cu + 1 ≤ 601024; omega, by show su + 6 ≤ 7293034; omega⟩ dL_law__980) hg ?_
  refine g_istore (i := 5) (lv' := [some (.retAddr 1000), some (.ref 0), some (.ref 40), some (.ref 67), some (.int i), some (.int r1), none, none]) dL_law__983 (by decide) rfl rfl ?_
  refine g_aload_n (i := 2) (x := 40) dL_law__985 rfl rfl ?_
  refine g_aloadC_n (i := 0) (x := 1000) dL_law__986 rfl rfl ?_
  refine g_iload (i := 4) (x := i) dL_law__987 rfl ?_
  refine g_iconst (v := 1) dL_law__989 rfl ?_
  refine g_iadd dL_law__990 ?_
  refine g_scr dL_law__991 (hin 1 (by decide) (by decide)) ?_
  refine g_cE (As := [.ref 40, .int (z_sx X i 1)]) (rest := []) (D2 := D2) (v := some (.int r2)) (em_X11_seems hl hW N (z_sx X i 1) D1 _ ⟨_, h2, rfl⟩) (fun _ => rfl) (fun o7 h => z_runV 167 1 h rfl kk_L_167 hs40 kl_11.1 kq_X11_seems rfl (Nat.le_of_ble_eq_true rfl) ⟨Nat.le_of_ble_eq_true rfl, Nat.le_of_ble_eq_true rfl, by show cu + 1 + 0 ≤ 601024; omega, by show su + 6 + 0 ≤ 7293034; omega⟩ dL_law__992) hg ?_
  refine g_istore (i := 6) (lv' := [some (.retAddr 1000), some (.ref 0), some (.ref 40), some (.ref 67), some (.int i), some (.int r1), some (.int r2), none]) dL_law__995 (by decide) rfl rfl ?_
  refine g_aload_n (i := 2) (x := 40) dL_law__997 rfl rfl ?_
  refine g_cE (As := [.ref 40]) (rest := []) (D2 := D2) (v := some (.int (F_X11_thrown D2))) (em_X11_thrown hl hW D2 _ rfl) (fun _ => rfl) (fun o7 h => z_runV 124 0 h rfl kk_L_124 hs40 kl_11.1 kq_X11_thrown rfl (Nat.le_of_ble_eq_true rfl) ⟨Nat.le_of_ble_eq_true rfl, Nat.le_of_ble_eq_true rfl, by show cu + 1 + 0 + 0 ≤ 601024; omega, by show su + 6 + 0 + 0 ≤ 7293034; omega⟩ dL_law__998) hg ?_
  refine g_iload (i := 5) (x := r1) dL_law__1001 rfl ?_
  refine g_icmp_eqJ 1008 dL_law__1003 (by decide) he1003 ?_
  refine g_iload (i := 5) (x := r1) dL_law__1008 rfl ?_
  refine (Decidable.em (¬ r1 = 0)).elim (fun c0 => ?_) (fun c0n => ?_)
  · refine g_if_neJ 1025 dL_law__1010 (by decide) c0 ?_
    refine g_goto 2408 dL_law__1025 (by decide) ?_
    exact g_weak (lv' := z_lv0 i) rfl g_lvw kk
  have c0 := Decidable.not_not.mp c0n
  refine g_if_neN 1025 dL_law__1010 (by decide) c0 ?_
  refine g_aload_n (i := 3) (x := 67) dL_law__1013 rfl rfl ?_
  refine g_iconst (v := 0) dL_law__1014 rfl ?_
  refine g_lald (k := 67) dL_law__1015 hO (vp_in_iff.mpr (by decide)) ?_
  refine g_iload (i := 6) (x := r2) dL_law__1016 rfl ?_
  refine g_i2l dL_law__1018 ?_
  refine g_lcmp dL_law__1019 ?_
  refine g_if_eqJ 1025 dL_law__1020 (by decide) (h0 c0) ?_
  refine g_goto 2408 dL_law__1025 (by decide) ?_
  exact g_weak (lv' := z_lv0 i) rfl g_lvw kk

set_option maxRecDepth 100000 in
set_option maxHeartbeats 4000000 in
theorem case_14_dipped {X : Nat × (Nat → Int32)} {l : Launch} {S : List z_Shp} {o : Nat} {D : z_Dat} {out : z_Out} {cu su : Nat} {i : Int32} (hl : l.stackTraces = false) (hW : z_W S o) (hO : S[67]? = some (1, 1, [])) (N : Nat) (hin : ∀ k : Int32, 0 ≤ k → k ≤ 6 → vp_in (i + k) X.1) (hc : cu + 60 ≤ 601024) (hs : su + 400 ≤ 7293034) (hg : S.length ≤ out.2.1.length) {r1 : Int32} {r2 : Int32} {D1 : z_Dat} {D2 : z_Dat} (h1 : F_L_dipped o (z_sx X i 1) (z_sx X i 2) D = some (r1, D1)) (h2 : F_X11_dipped (z_sx X i 1) (z_sx X i 2) D1 = some (r2, D2)) (he1071 : (F_X11_thrown D2) = r1) (h0 : r1 = 0 → lg_cmp ((z_ldJ D2 67 0)) ((r2).toInt64) = 0)
    (kk : z_G X l M_L_law_ (2048, 84000, 601024, 7293034) (cu + 2 + 0 + 0) (su + 12 + 0 + 0) 2408 [some (.retAddr 1000), some (.ref 0), some (.ref 40), some (.ref 67), some (.int i), none, none, none] [] S D2 out) : z_G X l M_L_law_ (2048, 84000, 601024, 7293034) cu su 1028 [some (.retAddr 1000), some (.ref 0), some (.ref 40), some (.ref 67), some (.int i), none, none, none] [] S D out := by
  have hs0 := hW.1 0 _ rfl
  have hs40 := hW.1 40 _ rfl
  refine g_aload_n (i := 1) (x := 0) dL_law__1028 rfl rfl ?_
  refine g_aloadC_n (i := 0) (x := 1000) dL_law__1029 rfl rfl ?_
  refine g_iload (i := 4) (x := i) dL_law__1030 rfl ?_
  refine g_iconst (v := 1) dL_law__1032 rfl ?_
  refine g_iadd dL_law__1033 ?_
  refine g_scr dL_law__1034 (hin 1 (by decide) (by decide)) ?_
  refine g_aloadC_n (i := 0) (x := 1000) dL_law__1035 rfl rfl ?_
  refine g_iload (i := 4) (x := i) dL_law__1036 rfl ?_
  refine g_iconst (v := 2) dL_law__1038 rfl ?_
  refine g_iadd dL_law__1039 ?_
  refine g_scr dL_law__1040 (hin 2 (by decide) (by decide)) ?_
  refine g_aload_n (i := 3) (x := 67) dL_law__1041 rfl rfl ?_
  refine g_cE (As := [.ref 0, .int (z_sx X i 1), .int (z_sx X i 2), .ref 67]) (rest := []) (D2 := D1) (v := some (.int r1)) (em_L_dipped hl hW hO (z_sx X i 1) (z_sx X i 2) D _ ⟨_, h1, rfl⟩) (fun _ => rfl) (fun o7 h => z_runSX 168 4 h rfl kk_L_168 kq_L_dipped rfl (Nat.le_of_ble_eq_true rfl) ⟨Nat.le_of_ble_eq_true rfl, Nat.le_of_ble_eq_true rfl, by show cu + 2 ≤ 601024; omega, by show su + 12 ≤ 7293034; omega⟩ dL_law__1042) hg ?_
  refine g_istore (i := 5) (lv' := [some (.retAddr 1000), some (.ref 0), some (.ref 40), some (.ref 67), some (.int i), some (.int r1), none, none]) dL_law__1045 (by decide) rfl rfl ?_
  refine g_aload_n (i := 2) (x := 40) dL_law__1047 rfl rfl ?_
  refine g_aloadC_n (i := 0) (x := 1000) dL_law__1048 rfl rfl ?_
  refine g_iload (i := 4) (x := i) dL_law__1049 rfl ?_
  refine g_iconst (v := 1) dL_law__1051 rfl ?_
  refine g_iadd dL_law__1052 ?_
  refine g_scr dL_law__1053 (hin 1 (by decide) (by decide)) ?_
  refine g_aloadC_n (i := 0) (x := 1000) dL_law__1054 rfl rfl ?_
  refine g_iload (i := 4) (x := i) dL_law__1055 rfl ?_
  refine g_iconst (v := 2) dL_law__1057 rfl ?_
  refine g_iadd dL_law__1058 ?_
  refine g_scr dL_law__1059 (hin 2 (by decide) (by decide)) ?_
  refine g_cE (As := [.ref 40, .int (z_sx X i 1), .int (z_sx X i 2)]) (rest := []) (D2 := D2) (v := some (.int r2)) (em_X11_dipped hl hW (z_sx X i 1) (z_sx X i 2) D1 _ ⟨_, h2, rfl⟩) (fun _ => rfl) (fun o7 h => z_runV 170 2 h rfl kk_L_170 hs40 kl_11.1 kq_X11_dipped rfl (Nat.le_of_ble_eq_true rfl) ⟨Nat.le_of_ble_eq_true rfl, Nat.le_of_ble_eq_true rfl, by show cu + 2 + 0 ≤ 601024; omega, by show su + 12 + 0 ≤ 7293034; omega⟩ dL_law__1060) hg ?_
  refine g_istore (i := 6) (lv' := [some (.retAddr 1000), some (.ref 0), some (.ref 40), some (.ref 67), some (.int i), some (.int r1), some (.int r2), none]) dL_law__1063 (by decide) rfl rfl ?_
  refine g_aload_n (i := 2) (x := 40) dL_law__1065 rfl rfl ?_
  refine g_cE (As := [.ref 40]) (rest := []) (D2 := D2) (v := some (.int (F_X11_thrown D2))) (em_X11_thrown hl hW D2 _ rfl) (fun _ => rfl) (fun o7 h => z_runV 124 0 h rfl kk_L_124 hs40 kl_11.1 kq_X11_thrown rfl (Nat.le_of_ble_eq_true rfl) ⟨Nat.le_of_ble_eq_true rfl, Nat.le_of_ble_eq_true rfl, by show cu + 2 + 0 + 0 ≤ 601024; omega, by show su + 12 + 0 + 0 ≤ 7293034; omega⟩ dL_law__1066) hg ?_
  refine g_iload (i := 5) (x := r1) dL_law__1069 rfl ?_
  refine g_icmp_eqJ 1076 dL_law__1071 (by decide) he1071 ?_
  refine g_iload (i := 5) (x := r1) dL_law__1076 rfl ?_
  refine (Decidable.em (¬ r1 = 0)).elim (fun c0 => ?_) (fun c0n => ?_)
  · refine g_if_neJ 1093 dL_law__1078 (by decide) c0 ?_
    refine g_goto 2408 dL_law__1093 (by decide) ?_
    exact g_weak (lv' := z_lv0 i) rfl g_lvw kk
  have c0 := Decidable.not_not.mp c0n
  refine g_if_neN 1093 dL_law__1078 (by decide) c0 ?_
  refine g_aload_n (i := 3) (x := 67) dL_law__1081 rfl rfl ?_
  refine g_iconst (v := 0) dL_law__1082 rfl ?_
  refine g_lald (k := 67) dL_law__1083 hO (vp_in_iff.mpr (by decide)) ?_
  refine g_iload (i := 6) (x := r2) dL_law__1084 rfl ?_
  refine g_i2l dL_law__1086 ?_
  refine g_lcmp dL_law__1087 ?_
  refine g_if_eqJ 1093 dL_law__1088 (by decide) (h0 c0) ?_
  refine g_goto 2408 dL_law__1093 (by decide) ?_
  exact g_weak (lv' := z_lv0 i) rfl g_lvw kk

set_option maxRecDepth 100000 in
set_option maxHeartbeats 4000000 in
theorem case_15_cousins {X : Nat × (Nat → Int32)} {l : Launch} {S : List z_Shp} {o : Nat} {D : z_Dat} {out : z_Out} {cu su : Nat} {i : Int32} (hl : l.stackTraces = false) (hW : z_W S o) (hO : S[67]? = some (1, 1, [])) (N : Nat) (hin : ∀ k : Int32, 0 ≤ k → k ≤ 6 → vp_in (i + k) X.1) (hc : cu + 60 ≤ 601024) (hs : su + 400 ≤ 7293034) (hg : S.length ≤ out.2.1.length) {r1 : Int32} {r2 : Int32} {D1 : z_Dat} (h1 : F_X10_cousins N o D = some r1) (h2 : F_X11_cousins N D = some (r2, D1)) (he1104 : r1 = r2)
    (kk : z_G X l M_L_law_ (2048, 84000, 601024, 7293034) (cu + 0 + 0) (su + 0 + 0) 2408 [some (.retAddr 1000), some (.ref 0), some (.ref 40), some (.ref 67), some (.int i), none, none, none] [] S D1 out) : z_G X l M_L_law_ (2048, 84000, 601024, 7293034) cu su 1096 [some (.retAddr 1000), some (.ref 0), some (.ref 40), some (.ref 67), some (.int i), none, none, none] [] S D out := by
  have hs0 := hW.1 0 _ rfl
  have hs40 := hW.1 40 _ rfl
  refine g_aload_n (i := 1) (x := 0) dL_law__1096 rfl rfl ?_
  refine g_cE (As := [.ref 0]) (rest := []) (D2 := D) (v := some (.int r1)) (em_X10_cousins hl hW N D _ ⟨_, h1, rfl⟩) (fun _ => rfl) (fun o7 h => z_runV 171 0 h rfl kk_L_171 hs0 kl_10.1 kq_X10_cousins rfl (Nat.le_of_ble_eq_true rfl) ⟨Nat.le_of_ble_eq_true rfl, Nat.le_of_ble_eq_true rfl, by show cu + 0 ≤ 601024; omega, by show su + 0 ≤ 7293034; omega⟩ dL_law__1097) hg ?_
  refine g_aload_n (i := 2) (x := 40) dL_law__1100 rfl rfl ?_
  refine g_cE (As := [.ref 40]) (rest := [.int r1]) (D2 := D1) (v := some (.int r2)) (em_X11_cousins hl hW N D _ ⟨_, h2, rfl⟩) (fun _ => rfl) (fun o7 h => z_runV 174 0 h rfl kk_L_174 hs40 kl_11.1 kq_X11_cousins rfl (Nat.le_of_ble_eq_true rfl) ⟨Nat.le_of_ble_eq_true rfl, Nat.le_of_ble_eq_true rfl, by show cu + 0 + 0 ≤ 601024; omega, by show su + 0 + 0 ≤ 7293034; omega⟩ dL_law__1101) hg ?_
  refine g_icmp_eqJ 2408 dL_law__1104 (by decide) he1104 ?_
  exact g_weak (lv' := z_lv0 i) rfl g_lvw kk

set_option maxRecDepth 100000 in
set_option maxHeartbeats 4000000 in
theorem case_16_when {X : Nat × (Nat → Int32)} {l : Launch} {S : List z_Shp} {o : Nat} {D : z_Dat} {out : z_Out} {cu su : Nat} {i : Int32} (hl : l.stackTraces = false) (hW : z_W S o) (hO : S[67]? = some (1, 1, [])) (N : Nat) (hin : ∀ k : Int32, 0 ≤ k → k ≤ 6 → vp_in (i + k) X.1) (hc : cu + 60 ≤ 601024) (hs : su + 400 ≤ 7293034) (hg : S.length ≤ out.2.1.length) {r1 : Int32} {r2 : Int32} {D1 : z_Dat} {D2 : z_Dat} (h1 : F_L_when N o (z_sx X i 1) (z_sx X i 2) D = some (r1, D1)) (h2 : F_X11_when N (z_sx X i 1) (z_sx X i 2) D1 = some (r2, D2)) (he1152 : (F_X11_thrown D2) = r1) (h0 : r1 = 0 → lg_cmp ((z_ldJ D2 67 0)) ((r2).toInt64) = 0)
    (kk : z_G X l M_L_law_ (2048, 84000, 601024, 7293034) (cu + 2 + 0 + 0) (su + 12 + 0 + 0) 2408 [some (.retAddr 1000), some (.ref 0), some (.ref 40), some (.ref 67), some (.int i), none, none, none] [] S D2 out) : z_G X l M_L_law_ (2048, 84000, 601024, 7293034) cu su 1109 [some (.retAddr 1000), some (.ref 0), some (.ref 40), some (.ref 67), some (.int i), none, none, none] [] S D out := by
  have hs0 := hW.1 0 _ rfl
  have hs40 := hW.1 40 _ rfl
  refine g_aload_n (i := 1) (x := 0) dL_law__1109 rfl rfl ?_
  refine g_aloadC_n (i := 0) (x := 1000) dL_law__1110 rfl rfl ?_
  refine g_iload (i := 4) (x := i) dL_law__1111 rfl ?_
  refine g_iconst (v := 1) dL_law__1113 rfl ?_
  refine g_iadd dL_law__1114 ?_
  refine g_scr dL_law__1115 (hin 1 (by decide) (by decide)) ?_
  refine g_aloadC_n (i := 0) (x := 1000) dL_law__1116 rfl rfl ?_
  refine g_iload (i := 4) (x := i) dL_law__1117 rfl ?_
  refine g_iconst (v := 2) dL_law__1119 rfl ?_
  refine g_iadd dL_law__1120 ?_
  refine g_scr dL_law__1121 (hin 2 (by decide) (by decide)) ?_
  refine g_aload_n (i := 3) (x := 67) dL_law__1122 rfl rfl ?_
  refine g_cE (As := [.ref 0, .int (z_sx X i 1), .int (z_sx X i 2), .ref 67]) (rest := []) (D2 := D1) (v := some (.int r1)) (em_L_when hl hW hO N (z_sx X i 1) (z_sx X i 2) D _ ⟨_, h1, rfl⟩) (fun _ => rfl) (fun o7 h => z_runSX 175 4 h rfl kk_L_175 kq_L_when rfl (Nat.le_of_ble_eq_true rfl) ⟨Nat.le_of_ble_eq_true rfl, Nat.le_of_ble_eq_true rfl, by show cu + 2 ≤ 601024; omega, by show su + 12 ≤ 7293034; omega⟩ dL_law__1123) hg ?_
  refine g_istore (i := 5) (lv' := [some (.retAddr 1000), some (.ref 0), some (.ref 40), some (.ref 67), some (.int i), some (.int r1), none, none]) dL_law__1126 (by decide) rfl rfl ?_
  refine g_aload_n (i := 2) (x := 40) dL_law__1128 rfl rfl ?_
  refine g_aloadC_n (i := 0) (x := 1000) dL_law__1129 rfl rfl ?_
  refine g_iload (i := 4) (x := i) dL_law__1130 rfl ?_
  refine g_iconst (v := 1) dL_law__1132 rfl ?_
  refine g_iadd dL_law__1133 ?_
  refine g_scr dL_law__1134 (hin 1 (by decide) (by decide)) ?_
  refine g_aloadC_n (i := 0) (x := 1000) dL_law__1135 rfl rfl ?_
  refine g_iload (i := 4) (x := i) dL_law__1136 rfl ?_
  refine g_iconst (v := 2) dL_law__1138 rfl ?_
  refine g_iadd dL_law__1139 ?_
  refine g_scr dL_law__1140 (hin 2 (by decide) (by decide)) ?_
  refine g_cE (As := [.ref 40, .int (z_sx X i 1), .int (z_sx X i 2)]) (rest := []) (D2 := D2) (v := some (.int r2)) (em_X11_when hl hW N (z_sx X i 1) (z_sx X i 2) D1 _ ⟨_, h2, rfl⟩) (fun _ => rfl) (fun o7 h => z_runV 177 2 h rfl kk_L_177 hs40 kl_11.1 kq_X11_when rfl (Nat.le_of_ble_eq_true rfl) ⟨Nat.le_of_ble_eq_true rfl, Nat.le_of_ble_eq_true rfl, by show cu + 2 + 0 ≤ 601024; omega, by show su + 12 + 0 ≤ 7293034; omega⟩ dL_law__1141) hg ?_
  refine g_istore (i := 6) (lv' := [some (.retAddr 1000), some (.ref 0), some (.ref 40), some (.ref 67), some (.int i), some (.int r1), some (.int r2), none]) dL_law__1144 (by decide) rfl rfl ?_
  refine g_aload_n (i := 2) (x := 40) dL_law__1146 rfl rfl ?_
  refine g_cE (As := [.ref 40]) (rest := []) (D2 := D2) (v := some (.int (F_X11_thrown D2))) (em_X11_thrown hl hW D2 _ rfl) (fun _ => rfl) (fun o7 h => z_runV 124 0 h rfl kk_L_124 hs40 kl_11.1 kq_X11_thrown rfl (Nat.le_of_ble_eq_true rfl) ⟨Nat.le_of_ble_eq_true rfl, Nat.le_of_ble_eq_true rfl, by show cu + 2 + 0 + 0 ≤ 601024; omega, by show su + 12 + 0 + 0 ≤ 7293034; omega⟩ dL_law__1147) hg ?_
  refine g_iload (i := 5) (x := r1) dL_law__1150 rfl ?_
  refine g_icmp_eqJ 1157 dL_law__1152 (by decide) he1152 ?_
  refine g_iload (i := 5) (x := r1) dL_law__1157 rfl ?_
  refine (Decidable.em (¬ r1 = 0)).elim (fun c0 => ?_) (fun c0n => ?_)
  · refine g_if_neJ 1174 dL_law__1159 (by decide) c0 ?_
    refine g_goto 2408 dL_law__1174 (by decide) ?_
    exact g_weak (lv' := z_lv0 i) rfl g_lvw kk
  have c0 := Decidable.not_not.mp c0n
  refine g_if_neN 1174 dL_law__1159 (by decide) c0 ?_
  refine g_aload_n (i := 3) (x := 67) dL_law__1162 rfl rfl ?_
  refine g_iconst (v := 0) dL_law__1163 rfl ?_
  refine g_lald (k := 67) dL_law__1164 hO (vp_in_iff.mpr (by decide)) ?_
  refine g_iload (i := 6) (x := r2) dL_law__1165 rfl ?_
  refine g_i2l dL_law__1167 ?_
  refine g_lcmp dL_law__1168 ?_
  refine g_if_eqJ 1174 dL_law__1169 (by decide) (h0 c0) ?_
  refine g_goto 2408 dL_law__1174 (by decide) ?_
  exact g_weak (lv' := z_lv0 i) rfl g_lvw kk

set_option maxRecDepth 100000 in
set_option maxHeartbeats 4000000 in
theorem case_17_sits {X : Nat × (Nat → Int32)} {l : Launch} {S : List z_Shp} {o : Nat} {D : z_Dat} {out : z_Out} {cu su : Nat} {i : Int32} (hl : l.stackTraces = false) (hW : z_W S o) (hO : S[67]? = some (1, 1, [])) (N : Nat) (hin : ∀ k : Int32, 0 ≤ k → k ≤ 6 → vp_in (i + k) X.1) (hc : cu + 60 ≤ 601024) (hs : su + 400 ≤ 7293034) (hg : S.length ≤ out.2.1.length) {r1 : Int32} {r2 : Int32} {D1 : z_Dat} {D2 : z_Dat} (h1 : F_L_sits N o (z_sx X i 1) (z_sx X i 2) D = some (r1, D1)) (h2 : F_X11_sits N (z_sx X i 1) (z_sx X i 2) D1 = some (r2, D2)) (he1220 : (F_X11_thrown D2) = r1) (h0 : r1 = 0 → lg_cmp ((z_ldJ D2 67 0)) ((r2).toInt64) = 0)
    (kk : z_G X l M_L_law_ (2048, 84000, 601024, 7293034) (cu + 2 + 0 + 0) (su + 12 + 0 + 0) 2408 [some (.retAddr 1000), some (.ref 0), some (.ref 40), some (.ref 67), some (.int i), none, none, none] [] S D2 out) : z_G X l M_L_law_ (2048, 84000, 601024, 7293034) cu su 1177 [some (.retAddr 1000), some (.ref 0), some (.ref 40), some (.ref 67), some (.int i), none, none, none] [] S D out := by
  have hs0 := hW.1 0 _ rfl
  have hs40 := hW.1 40 _ rfl
  refine g_aload_n (i := 1) (x := 0) dL_law__1177 rfl rfl ?_
  refine g_aloadC_n (i := 0) (x := 1000) dL_law__1178 rfl rfl ?_
  refine g_iload (i := 4) (x := i) dL_law__1179 rfl ?_
  refine g_iconst (v := 1) dL_law__1181 rfl ?_
  refine g_iadd dL_law__1182 ?_
  refine g_scr dL_law__1183 (hin 1 (by decide) (by decide)) ?_
  refine g_aloadC_n (i := 0) (x := 1000) dL_law__1184 rfl rfl ?_
  refine g_iload (i := 4) (x := i) dL_law__1185 rfl ?_
  refine g_iconst (v := 2) dL_law__1187 rfl ?_
  refine g_iadd dL_law__1188 ?_
  refine g_scr dL_law__1189 (hin 2 (by decide) (by decide)) ?_
  refine g_aload_n (i := 3) (x := 67) dL_law__1190 rfl rfl ?_
  refine g_cE (As := [.ref 0, .int (z_sx X i 1), .int (z_sx X i 2), .ref 67]) (rest := []) (D2 := D1) (v := some (.int r1)) (em_L_sits hl hW hO N (z_sx X i 1) (z_sx X i 2) D _ ⟨_, h1, rfl⟩) (fun _ => rfl) (fun o7 h => z_runSX 178 4 h rfl kk_L_178 kq_L_sits rfl (Nat.le_of_ble_eq_true rfl) ⟨Nat.le_of_ble_eq_true rfl, Nat.le_of_ble_eq_true rfl, by show cu + 2 ≤ 601024; omega, by show su + 12 ≤ 7293034; omega⟩ dL_law__1191) hg ?_
  refine g_istore (i := 5) (lv' := [some (.retAddr 1000), some (.ref 0), some (.ref 40), some (.ref 67), some (.int i), some (.int r1), none, none]) dL_law__1194 (by decide) rfl rfl ?_
  refine g_aload_n (i := 2) (x := 40) dL_law__1196 rfl rfl ?_
  refine g_aloadC_n (i := 0) (x := 1000) dL_law__1197 rfl rfl ?_
  refine g_iload (i := 4) (x := i) dL_law__1198 rfl ?_
  refine g_iconst (v := 1) dL_law__1200 rfl ?_
  refine g_iadd dL_law__1201 ?_
  refine g_scr dL_law__1202 (hin 1 (by decide) (by decide)) ?_
  refine g_aloadC_n (i := 0) (x := 1000) dL_law__1203 rfl rfl ?_
  refine g_iload (i := 4) (x := i) dL_law__1204 rfl ?_
  refine g_iconst (v := 2) dL_law__1206 rfl ?_
  refine g_iadd dL_law__1207 ?_
  refine g_scr dL_law__1208 (hin 2 (by decide) (by decide)) ?_
  refine g_cE (As := [.ref 40, .int (z_sx X i 1), .int (z_sx X i 2)]) (rest := []) (D2 := D2) (v := some (.int r2)) (em_X11_sits hl hW N (z_sx X i 1) (z_sx X i 2) D1 _ ⟨_, h2, rfl⟩) (fun _ => rfl) (fun o7 h => z_runV 180 2 h rfl kk_L_180 hs40 kl_11.1 kq_X11_sits rfl (Nat.le_of_ble_eq_true rfl) ⟨Nat.le_of_ble_eq_true rfl, Nat.le_of_ble_eq_true rfl, by show cu + 2 + 0 ≤ 601024; omega, by show su + 12 + 0 ≤ 7293034; omega⟩ dL_law__1209) hg ?_
  refine g_istore (i := 6) (lv' := [some (.retAddr 1000), some (.ref 0), some (.ref 40), some (.ref 67), some (.int i), some (.int r1), some (.int r2), none]) dL_law__1212 (by decide) rfl rfl ?_
  refine g_aload_n (i := 2) (x := 40) dL_law__1214 rfl rfl ?_
  refine g_cE (As := [.ref 40]) (rest := []) (D2 := D2) (v := some (.int (F_X11_thrown D2))) (em_X11_thrown hl hW D2 _ rfl) (fun _ => rfl) (fun o7 h => z_runV 124 0 h rfl kk_L_124 hs40 kl_11.1 kq_X11_thrown rfl (Nat.le_of_ble_eq_true rfl) ⟨Nat.le_of_ble_eq_true rfl, Nat.le_of_ble_eq_true rfl, by show cu + 2 + 0 + 0 ≤ 601024; omega, by show su + 12 + 0 + 0 ≤ 7293034; omega⟩ dL_law__1215) hg ?_
  refine g_iload (i := 5) (x := r1) dL_law__1218 rfl ?_
  refine g_icmp_eqJ 1225 dL_law__1220 (by decide) he1220 ?_
  refine g_iload (i := 5) (x := r1) dL_law__1225 rfl ?_
  refine (Decidable.em (¬ r1 = 0)).elim (fun c0 => ?_) (fun c0n => ?_)
  · refine g_if_neJ 1242 dL_law__1227 (by decide) c0 ?_
    refine g_goto 2408 dL_law__1242 (by decide) ?_
    exact g_weak (lv' := z_lv0 i) rfl g_lvw kk
  have c0 := Decidable.not_not.mp c0n
  refine g_if_neN 1242 dL_law__1227 (by decide) c0 ?_
  refine g_aload_n (i := 3) (x := 67) dL_law__1230 rfl rfl ?_
  refine g_iconst (v := 0) dL_law__1231 rfl ?_
  refine g_lald (k := 67) dL_law__1232 hO (vp_in_iff.mpr (by decide)) ?_
  refine g_iload (i := 6) (x := r2) dL_law__1233 rfl ?_
  refine g_i2l dL_law__1235 ?_
  refine g_lcmp dL_law__1236 ?_
  refine g_if_eqJ 1242 dL_law__1237 (by decide) (h0 c0) ?_
  refine g_goto 2408 dL_law__1242 (by decide) ?_
  exact g_weak (lv' := z_lv0 i) rfl g_lvw kk

set_option maxRecDepth 100000 in
set_option maxHeartbeats 4000000 in
theorem case_18_way {X : Nat × (Nat → Int32)} {l : Launch} {S : List z_Shp} {o : Nat} {D : z_Dat} {out : z_Out} {cu su : Nat} {i : Int32} (hl : l.stackTraces = false) (hW : z_W S o) (hO : S[67]? = some (1, 1, [])) (N : Nat) (hin : ∀ k : Int32, 0 ≤ k → k ≤ 6 → vp_in (i + k) X.1) (hc : cu + 60 ≤ 601024) (hs : su + 400 ≤ 7293034) (hg : S.length ≤ out.2.1.length) {r1 : Int32} {r2 : Int32} {D1 : z_Dat} {D2 : z_Dat} (h1 : F_L_way N o (z_sx X i 1) (z_sx X i 2) D = some (r1, D1)) (h2 : F_X11_way N (z_sx X i 1) (z_sx X i 2) D1 = some (r2, D2)) (he1288 : (F_X11_thrown D2) = r1) (h0 : r1 = 0 → lg_cmp ((z_ldJ D2 67 0)) ((r2).toInt64) = 0)
    (kk : z_G X l M_L_law_ (2048, 84000, 601024, 7293034) (cu + 1 + 0 + 0) (su + 6 + 0 + 0) 2408 [some (.retAddr 1000), some (.ref 0), some (.ref 40), some (.ref 67), some (.int i), none, none, none] [] S D2 out) : z_G X l M_L_law_ (2048, 84000, 601024, 7293034) cu su 1245 [some (.retAddr 1000), some (.ref 0), some (.ref 40), some (.ref 67), some (.int i), none, none, none] [] S D out := by
  have hs0 := hW.1 0 _ rfl
  have hs40 := hW.1 40 _ rfl
  refine g_aload_n (i := 1) (x := 0) dL_law__1245 rfl rfl ?_
  refine g_aloadC_n (i := 0) (x := 1000) dL_law__1246 rfl rfl ?_
  refine g_iload (i := 4) (x := i) dL_law__1247 rfl ?_
  refine g_iconst (v := 1) dL_law__1249 rfl ?_
  refine g_iadd dL_law__1250 ?_
  refine g_scr dL_law__1251 (hin 1 (by decide) (by decide)) ?_
  refine g_aloadC_n (i := 0) (x := 1000) dL_law__1252 rfl rfl ?_
  refine g_iload (i := 4) (x := i) dL_law__1253 rfl ?_
  refine g_iconst (v := 2) dL_law__1255 rfl ?_
  refine g_iadd dL_law__1256 ?_
  refine g_scr dL_law__1257 (hin 2 (by decide) (by decide)) ?_
  refine g_aload_n (i := 3) (x := 67) dL_law__1258 rfl rfl ?_
  refine g_cE (As := [.ref 0, .int (z_sx X i 1), .int (z_sx X i 2), .ref 67]) (rest := []) (D2 := D1) (v := some (.int r1)) (em_L_way hl hW hO N (z_sx X i 1) (z_sx X i 2) D _ ⟨_, h1, rfl⟩) (fun _ => rfl) (fun o7 h => z_runSX 181 4 h rfl kk_L_181 kq_L_way rfl (Nat.le_of_ble_eq_true rfl) ⟨Nat.le_of_ble_eq_true rfl, Nat.le_of_ble_eq_true rfl, by show cu + 1 ≤ 601024; omega, by show su + 6 ≤ 7293034; omega⟩ dL_law__1259) hg ?_
  refine g_istore (i := 5) (lv' := [some (.retAddr 1000), some (.ref 0), some (.ref 40), some (.ref 67), some (.int i), some (.int r1), none, none]) dL_law__1262 (by decide) rfl rfl ?_
  refine g_aload_n (i := 2) (x := 40) dL_law__1264 rfl rfl ?_
  refine g_aloadC_n (i := 0) (x := 1000) dL_law__1265 rfl rfl ?_
  refine g_iload (i := 4) (x := i) dL_law__1266 rfl ?_
  refine g_iconst (v := 1) dL_law__1268 rfl ?_
  refine g_iadd dL_law__1269 ?_
  refine g_scr dL_law__1270 (hin 1 (by decide) (by decide)) ?_
  refine g_aloadC_n (i := 0) (x := 1000) dL_law__1271 rfl rfl ?_
  refine g_iload (i := 4) (x := i) dL_law__1272 rfl ?_
  refine g_iconst (v := 2) dL_law__1274 rfl ?_
  refine g_iadd dL_law__1275 ?_
  refine g_scr dL_law__1276 (hin 2 (by decide) (by decide)) ?_
  refine g_cE (As := [.ref 40, .int (z_sx X i 1), .int (z_sx X i 2)]) (rest := []) (D2 := D2) (v := some (.int r2)) (em_X11_way hl hW N (z_sx X i 1) (z_sx X i 2) D1 _ ⟨_, h2, rfl⟩) (fun _ => rfl) (fun o7 h => z_runV 183 2 h rfl kk_L_183 hs40 kl_11.1 kq_X11_way rfl (Nat.le_of_ble_eq_true rfl) ⟨Nat.le_of_ble_eq_true rfl, Nat.le_of_ble_eq_true rfl, by show cu + 1 + 0 ≤ 601024; omega, by show su + 6 + 0 ≤ 7293034; omega⟩ dL_law__1277) hg ?_
  refine g_istore (i := 6) (lv' := [some (.retAddr 1000), some (.ref 0), some (.ref 40), some (.ref 67), some (.int i), some (.int r1), some (.int r2), none]) dL_law__1280 (by decide) rfl rfl ?_
  refine g_aload_n (i := 2) (x := 40) dL_law__1282 rfl rfl ?_
  refine g_cE (As := [.ref 40]) (rest := []) (D2 := D2) (v := some (.int (F_X11_thrown D2))) (em_X11_thrown hl hW D2 _ rfl) (fun _ => rfl) (fun o7 h => z_runV 124 0 h rfl kk_L_124 hs40 kl_11.1 kq_X11_thrown rfl (Nat.le_of_ble_eq_true rfl) ⟨Nat.le_of_ble_eq_true rfl, Nat.le_of_ble_eq_true rfl, by show cu + 1 + 0 + 0 ≤ 601024; omega, by show su + 6 + 0 + 0 ≤ 7293034; omega⟩ dL_law__1283) hg ?_
  refine g_iload (i := 5) (x := r1) dL_law__1286 rfl ?_
  refine g_icmp_eqJ 1293 dL_law__1288 (by decide) he1288 ?_
  refine g_iload (i := 5) (x := r1) dL_law__1293 rfl ?_
  refine (Decidable.em (¬ r1 = 0)).elim (fun c0 => ?_) (fun c0n => ?_)
  · refine g_if_neJ 1310 dL_law__1295 (by decide) c0 ?_
    refine g_goto 2408 dL_law__1310 (by decide) ?_
    exact g_weak (lv' := z_lv0 i) rfl g_lvw kk
  have c0 := Decidable.not_not.mp c0n
  refine g_if_neN 1310 dL_law__1295 (by decide) c0 ?_
  refine g_aload_n (i := 3) (x := 67) dL_law__1298 rfl rfl ?_
  refine g_iconst (v := 0) dL_law__1299 rfl ?_
  refine g_lald (k := 67) dL_law__1300 hO (vp_in_iff.mpr (by decide)) ?_
  refine g_iload (i := 6) (x := r2) dL_law__1301 rfl ?_
  refine g_i2l dL_law__1303 ?_
  refine g_lcmp dL_law__1304 ?_
  refine g_if_eqJ 1310 dL_law__1305 (by decide) (h0 c0) ?_
  refine g_goto 2408 dL_law__1310 (by decide) ?_
  exact g_weak (lv' := z_lv0 i) rfl g_lvw kk

set_option maxRecDepth 100000 in
set_option maxHeartbeats 4000000 in
theorem case_19_step {X : Nat × (Nat → Int32)} {l : Launch} {S : List z_Shp} {o : Nat} {D : z_Dat} {out : z_Out} {cu su : Nat} {i : Int32} (hl : l.stackTraces = false) (hW : z_W S o) (hO : S[67]? = some (1, 1, [])) (N : Nat) (hin : ∀ k : Int32, 0 ≤ k → k ≤ 6 → vp_in (i + k) X.1) (hc : cu + 60 ≤ 601024) (hs : su + 400 ≤ 7293034) (hg : S.length ≤ out.2.1.length) {r1 : Int32} {r2 : Int32} {D1 : z_Dat} {D2 : z_Dat} (h1 : F_L_step N o (z_sx X i 1) (z_sx X i 2) (z_sx X i 3) D = some (r1, D1)) (h2 : F_X11_step N (z_sx X i 1) (z_sx X i 2) (z_sx X i 3) D1 = some (r2, D2)) (he1368 : (F_X11_thrown D2) = r1) (h0 : r1 = 0 → lg_cmp ((z_ldJ D2 67 0)) ((r2).toInt64) = 0)
    (kk : z_G X l M_L_law_ (2048, 84000, 601024, 7293034) (cu + 1 + 0 + 0) (su + 6 + 0 + 0) 2408 [some (.retAddr 1000), some (.ref 0), some (.ref 40), some (.ref 67), some (.int i), none, none, none] [] S D2 out) : z_G X l M_L_law_ (2048, 84000, 601024, 7293034) cu su 1313 [some (.retAddr 1000), some (.ref 0), some (.ref 40), some (.ref 67), some (.int i), none, none, none] [] S D out := by
  have hs0 := hW.1 0 _ rfl
  have hs40 := hW.1 40 _ rfl
  refine g_aload_n (i := 1) (x := 0) dL_law__1313 rfl rfl ?_
  refine g_aloadC_n (i := 0) (x := 1000) dL_law__1314 rfl rfl ?_
  refine g_iload (i := 4) (x := i) dL_law__1315 rfl ?_
  refine g_iconst (v := 1) dL_law__1317 rfl ?_
  refine g_iadd dL_law__1318 ?_
  refine g_scr dL_law__1319 (hin 1 (by decide) (by decide)) ?_
  refine g_aloadC_n (i := 0) (x := 1000) dL_law__1320 rfl rfl ?_
  refine g_iload (i := 4) (x := i) dL_law__1321 rfl ?_
  refine g_iconst (v := 2) dL_law__1323 rfl ?_
  refine g_iadd dL_law__1324 ?_
  refine g_scr dL_law__1325 (hin 2 (by decide) (by decide)) ?_
  refine g_aloadC_n (i := 0) (x := 1000) dL_law__1326 rfl rfl ?_
  refine g_iload (i := 4) (x := i) dL_law__1327 rfl ?_
  refine g_iconst (v := 3) dL_law__1329 rfl ?_
  refine g_iadd dL_law__1330 ?_
  refine g_scr dL_law__1331 (hin 3 (by decide) (by decide)) ?_
  refine g_aload_n (i := 3) (x := 67) dL_law__1332 rfl rfl ?_
  refine g_cE (As := [.ref 0, .int (z_sx X i 1), .int (z_sx X i 2), .int (z_sx X i 3), .ref 67]) (rest := []) (D2 := D1) (v := some (.int r1)) (em_L_step hl hW hO N (z_sx X i 1) (z_sx X i 2) (z_sx X i 3) D _ ⟨_, h1, rfl⟩) (fun _ => rfl) (fun o7 h => z_runSX 184 5 h rfl kk_L_184 kq_L_step rfl (Nat.le_of_ble_eq_true rfl) ⟨Nat.le_of_ble_eq_true rfl, Nat.le_of_ble_eq_true rfl, by show cu + 1 ≤ 601024; omega, by show su + 6 ≤ 7293034; omega⟩ dL_law__1333) hg ?_
  refine g_istore (i := 5) (lv' := [some (.retAddr 1000), some (.ref 0), some (.ref 40), some (.ref 67), some (.int i), some (.int r1), none, none]) dL_law__1336 (by decide) rfl rfl ?_
  refine g_aload_n (i := 2) (x := 40) dL_law__1338 rfl rfl ?_
  refine g_aloadC_n (i := 0) (x := 1000) dL_law__1339 rfl rfl ?_
  refine g_iload (i := 4) (x := i) dL_law__1340 rfl ?_
  refine g_iconst (v := 1) dL_law__1342 rfl ?_
  refine g_iadd dL_law__1343 ?_
  refine g_scr dL_law__1344 (hin 1 (by decide) (by decide)) ?_
  refine g_aloadC_n (i := 0) (x := 1000) dL_law__1345 rfl rfl ?_
  refine g_iload (i := 4) (x := i) dL_law__1346 rfl ?_
  refine g_iconst (v := 2) dL_law__1348 rfl ?_
  refine g_iadd dL_law__1349 ?_
  refine g_scr dL_law__1350 (hin 2 (by decide) (by decide)) ?_
  refine g_aloadC_n (i := 0) (x := 1000) dL_law__1351 rfl rfl ?_
  refine g_iload (i := 4) (x := i) dL_law__1352 rfl ?_
  refine g_iconst (v := 3) dL_law__1354 rfl ?_
  refine g_iadd dL_law__1355 ?_
  refine g_scr dL_law__1356 (hin 3 (by decide) (by decide)) ?_
  refine g_cE (As := [.ref 40, .int (z_sx X i 1), .int (z_sx X i 2), .int (z_sx X i 3)]) (rest := []) (D2 := D2) (v := some (.int r2)) (em_X11_step hl hW N (z_sx X i 1) (z_sx X i 2) (z_sx X i 3) D1 _ ⟨_, h2, rfl⟩) (fun _ => rfl) (fun o7 h => z_runV 187 3 h rfl kk_L_187 hs40 kl_11.1 kq_X11_step rfl (Nat.le_of_ble_eq_true rfl) ⟨Nat.le_of_ble_eq_true rfl, Nat.le_of_ble_eq_true rfl, by show cu + 1 + 0 ≤ 601024; omega, by show su + 6 + 0 ≤ 7293034; omega⟩ dL_law__1357) hg ?_
  refine g_istore (i := 6) (lv' := [some (.retAddr 1000), some (.ref 0), some (.ref 40), some (.ref 67), some (.int i), some (.int r1), some (.int r2), none]) dL_law__1360 (by decide) rfl rfl ?_
  refine g_aload_n (i := 2) (x := 40) dL_law__1362 rfl rfl ?_
  refine g_cE (As := [.ref 40]) (rest := []) (D2 := D2) (v := some (.int (F_X11_thrown D2))) (em_X11_thrown hl hW D2 _ rfl) (fun _ => rfl) (fun o7 h => z_runV 124 0 h rfl kk_L_124 hs40 kl_11.1 kq_X11_thrown rfl (Nat.le_of_ble_eq_true rfl) ⟨Nat.le_of_ble_eq_true rfl, Nat.le_of_ble_eq_true rfl, by show cu + 1 + 0 + 0 ≤ 601024; omega, by show su + 6 + 0 + 0 ≤ 7293034; omega⟩ dL_law__1363) hg ?_
  refine g_iload (i := 5) (x := r1) dL_law__1366 rfl ?_
  refine g_icmp_eqJ 1373 dL_law__1368 (by decide) he1368 ?_
  refine g_iload (i := 5) (x := r1) dL_law__1373 rfl ?_
  refine (Decidable.em (¬ r1 = 0)).elim (fun c0 => ?_) (fun c0n => ?_)
  · refine g_if_neJ 1390 dL_law__1375 (by decide) c0 ?_
    refine g_goto 2408 dL_law__1390 (by decide) ?_
    exact g_weak (lv' := z_lv0 i) rfl g_lvw kk
  have c0 := Decidable.not_not.mp c0n
  refine g_if_neN 1390 dL_law__1375 (by decide) c0 ?_
  refine g_aload_n (i := 3) (x := 67) dL_law__1378 rfl rfl ?_
  refine g_iconst (v := 0) dL_law__1379 rfl ?_
  refine g_lald (k := 67) dL_law__1380 hO (vp_in_iff.mpr (by decide)) ?_
  refine g_iload (i := 6) (x := r2) dL_law__1381 rfl ?_
  refine g_i2l dL_law__1383 ?_
  refine g_lcmp dL_law__1384 ?_
  refine g_if_eqJ 1390 dL_law__1385 (by decide) (h0 c0) ?_
  refine g_goto 2408 dL_law__1390 (by decide) ?_
  exact g_weak (lv' := z_lv0 i) rfl g_lvw kk

set_option maxRecDepth 100000 in
set_option maxHeartbeats 4000000 in
theorem case_20_sums {X : Nat × (Nat → Int32)} {l : Launch} {S : List z_Shp} {o : Nat} {D : z_Dat} {out : z_Out} {cu su : Nat} {i : Int32} (hl : l.stackTraces = false) (hW : z_W S o) (hO : S[67]? = some (1, 1, [])) (N : Nat) (hin : ∀ k : Int32, 0 ≤ k → k ≤ 6 → vp_in (i + k) X.1) (hc : cu + 60 ≤ 601024) (hs : su + 400 ≤ 7293034) (hg : S.length ≤ out.2.1.length) {r1 : Int32} {r2 : Int32} {D1 : z_Dat} {D2 : z_Dat} (h1 : F_L_sums N o (z_sx X i 1) (z_sx X i 2) D = some (r1, D1)) (h2 : F_X11_sums N (z_sx X i 1) (z_sx X i 2) D1 = some (r2, D2)) (he1436 : (F_X11_thrown D2) = r1) (h0 : r1 = 0 → lg_cmp ((z_ldJ D2 67 0)) ((r2).toInt64) = 0)
    (kk : z_G X l M_L_law_ (2048, 84000, 601024, 7293034) (cu + 1 + 0 + 0) (su + 6 + 0 + 0) 2408 [some (.retAddr 1000), some (.ref 0), some (.ref 40), some (.ref 67), some (.int i), none, none, none] [] S D2 out) : z_G X l M_L_law_ (2048, 84000, 601024, 7293034) cu su 1393 [some (.retAddr 1000), some (.ref 0), some (.ref 40), some (.ref 67), some (.int i), none, none, none] [] S D out := by
  have hs0 := hW.1 0 _ rfl
  have hs40 := hW.1 40 _ rfl
  refine g_aload_n (i := 1) (x := 0) dL_law__1393 rfl rfl ?_
  refine g_aloadC_n (i := 0) (x := 1000) dL_law__1394 rfl rfl ?_
  refine g_iload (i := 4) (x := i) dL_law__1395 rfl ?_
  refine g_iconst (v := 1) dL_law__1397 rfl ?_
  refine g_iadd dL_law__1398 ?_
  refine g_scr dL_law__1399 (hin 1 (by decide) (by decide)) ?_
  refine g_aloadC_n (i := 0) (x := 1000) dL_law__1400 rfl rfl ?_
  refine g_iload (i := 4) (x := i) dL_law__1401 rfl ?_
  refine g_iconst (v := 2) dL_law__1403 rfl ?_
  refine g_iadd dL_law__1404 ?_
  refine g_scr dL_law__1405 (hin 2 (by decide) (by decide)) ?_
  refine g_aload_n (i := 3) (x := 67) dL_law__1406 rfl rfl ?_
  refine g_cE (As := [.ref 0, .int (z_sx X i 1), .int (z_sx X i 2), .ref 67]) (rest := []) (D2 := D1) (v := some (.int r1)) (em_L_sums hl hW hO N (z_sx X i 1) (z_sx X i 2) D _ ⟨_, h1, rfl⟩) (fun _ => rfl) (fun o7 h => z_runSX 188 4 h rfl kk_L_188 kq_L_sums rfl (Nat.le_of_ble_eq_true rfl) ⟨Nat.le_of_ble_eq_true rfl, Nat.le_of_ble_eq_true rfl, by show cu + 1 ≤ 601024; omega, by show su + 6 ≤ 7293034; omega⟩ dL_law__1407) hg ?_
  refine g_istore (i := 5) (lv' := [some (.retAddr 1000), some (.ref 0), some (.ref 40), some (.ref 67), some (.int i), some (.int r1), none, none]) dL_law__1410 (by decide) rfl rfl ?_
  refine g_aload_n (i := 2) (x := 40) dL_law__1412 rfl rfl ?_
  refine g_aloadC_n (i := 0) (x := 1000) dL_law__1413 rfl rfl ?_
  refine g_iload (i := 4) (x := i) dL_law__1414 rfl ?_
  refine g_iconst (v := 1) dL_law__1416 rfl ?_
  refine g_iadd dL_law__1417 ?_
  refine g_scr dL_law__1418 (hin 1 (by decide) (by decide)) ?_
  refine g_aloadC_n (i := 0) (x := 1000) dL_law__1419 rfl rfl ?_
  refine g_iload (i := 4) (x := i) dL_law__1420 rfl ?_
  refine g_iconst (v := 2) dL_law__1422 rfl ?_
  refine g_iadd dL_law__1423 ?_
  refine g_scr dL_law__1424 (hin 2 (by decide) (by decide)) ?_
  refine g_cE (As := [.ref 40, .int (z_sx X i 1), .int (z_sx X i 2)]) (rest := []) (D2 := D2) (v := some (.int r2)) (em_X11_sums hl hW N (z_sx X i 1) (z_sx X i 2) D1 _ ⟨_, h2, rfl⟩) (fun _ => rfl) (fun o7 h => z_runV 190 2 h rfl kk_L_190 hs40 kl_11.1 kq_X11_sums rfl (Nat.le_of_ble_eq_true rfl) ⟨Nat.le_of_ble_eq_true rfl, Nat.le_of_ble_eq_true rfl, by show cu + 1 + 0 ≤ 601024; omega, by show su + 6 + 0 ≤ 7293034; omega⟩ dL_law__1425) hg ?_
  refine g_istore (i := 6) (lv' := [some (.retAddr 1000), some (.ref 0), some (.ref 40), some (.ref 67), some (.int i), some (.int r1), some (.int r2), none]) dL_law__1428 (by decide) rfl rfl ?_
  refine g_aload_n (i := 2) (x := 40) dL_law__1430 rfl rfl ?_
  refine g_cE (As := [.ref 40]) (rest := []) (D2 := D2) (v := some (.int (F_X11_thrown D2))) (em_X11_thrown hl hW D2 _ rfl) (fun _ => rfl) (fun o7 h => z_runV 124 0 h rfl kk_L_124 hs40 kl_11.1 kq_X11_thrown rfl (Nat.le_of_ble_eq_true rfl) ⟨Nat.le_of_ble_eq_true rfl, Nat.le_of_ble_eq_true rfl, by show cu + 1 + 0 + 0 ≤ 601024; omega, by show su + 6 + 0 + 0 ≤ 7293034; omega⟩ dL_law__1431) hg ?_
  refine g_iload (i := 5) (x := r1) dL_law__1434 rfl ?_
  refine g_icmp_eqJ 1441 dL_law__1436 (by decide) he1436 ?_
  refine g_iload (i := 5) (x := r1) dL_law__1441 rfl ?_
  refine (Decidable.em (¬ r1 = 0)).elim (fun c0 => ?_) (fun c0n => ?_)
  · refine g_if_neJ 1458 dL_law__1443 (by decide) c0 ?_
    refine g_goto 2408 dL_law__1458 (by decide) ?_
    exact g_weak (lv' := z_lv0 i) rfl g_lvw kk
  have c0 := Decidable.not_not.mp c0n
  refine g_if_neN 1458 dL_law__1443 (by decide) c0 ?_
  refine g_aload_n (i := 3) (x := 67) dL_law__1446 rfl rfl ?_
  refine g_iconst (v := 0) dL_law__1447 rfl ?_
  refine g_lald (k := 67) dL_law__1448 hO (vp_in_iff.mpr (by decide)) ?_
  refine g_iload (i := 6) (x := r2) dL_law__1449 rfl ?_
  refine g_i2l dL_law__1451 ?_
  refine g_lcmp dL_law__1452 ?_
  refine g_if_eqJ 1458 dL_law__1453 (by decide) (h0 c0) ?_
  refine g_goto 2408 dL_law__1458 (by decide) ?_
  exact g_weak (lv' := z_lv0 i) rfl g_lvw kk

set_option maxRecDepth 100000 in
set_option maxHeartbeats 4000000 in
theorem case_21_tones {X : Nat × (Nat → Int32)} {l : Launch} {S : List z_Shp} {o : Nat} {D : z_Dat} {out : z_Out} {cu su : Nat} {i : Int32} (hl : l.stackTraces = false) (hW : z_W S o) (hO : S[67]? = some (1, 1, [])) (N : Nat) (hin : ∀ k : Int32, 0 ≤ k → k ≤ 6 → vp_in (i + k) X.1) (hc : cu + 60 ≤ 601024) (hs : su + 400 ≤ 7293034) (hg : S.length ≤ out.2.1.length) {r1 : Int32} {r2 : Int32} {D1 : z_Dat} {D2 : z_Dat} (h1 : F_L_tones N o (z_sx X i 1) D = some (r1, D1)) (h2 : F_X11_tones N (z_sx X i 1) D1 = some (r2, D2)) (he1492 : (F_X11_thrown D2) = r1) (h0 : r1 = 0 → lg_cmp ((z_ldJ D2 67 0)) ((r2).toInt64) = 0)
    (kk : z_G X l M_L_law_ (2048, 84000, 601024, 7293034) (cu + 1 + 0 + 0) (su + 6 + 0 + 0) 2408 [some (.retAddr 1000), some (.ref 0), some (.ref 40), some (.ref 67), some (.int i), none, none, none] [] S D2 out) : z_G X l M_L_law_ (2048, 84000, 601024, 7293034) cu su 1461 [some (.retAddr 1000), some (.ref 0), some (.ref 40), some (.ref 67), some (.int i), none, none, none] [] S D out := by
  have hs0 := hW.1 0 _ rfl
  have hs40 := hW.1 40 _ rfl
  refine g_aload_n (i := 1) (x := 0) dL_law__1461 rfl rfl ?_
  refine g_aloadC_n (i := 0) (x := 1000) dL_law__1462 rfl rfl ?_
  refine g_iload (i := 4) (x := i) dL_law__1463 rfl ?_
  refine g_iconst (v := 1) dL_law__1465 rfl ?_
  refine g_iadd dL_law__1466 ?_
  refine g_scr dL_law__1467 (hin 1 (by decide) (by decide)) ?_
  refine g_aload_n (i := 3) (x := 67) dL_law__1468 rfl rfl ?_
  refine g_cE (As := [.ref 0, .int (z_sx X i 1), .ref 67]) (rest := []) (D2 := D1) (v := some (.int r1)) (em_L_tones hl hW hO N (z_sx X i 1) D _ ⟨_, h1, rfl⟩) (fun _ => rfl) (fun o7 h => z_runSX 191 3 h rfl kk_L_191 kq_L_tones rfl (Nat.le_of_ble_eq_true rfl) ⟨Nat.le_of_ble_eq_true rfl, Nat.le_of_ble_eq_true rfl, by show cu + 1 ≤ 601024; omega, by show su + 6 ≤ 7293034; omega⟩ dL_law__1469) hg ?_
  refine g_istore (i := 5) (lv' := [some (.retAddr 1000), some (.ref 0), some (.ref 40), some (.ref 67), some (.int i), some (.int r1), none, none]) dL_law__1472 (by decide) rfl rfl ?_
  refine g_aload_n (i := 2) (x := 40) dL_law__1474 rfl rfl ?_
  refine g_aloadC_n (i := 0) (x := 1000) dL_law__1475 rfl rfl ?_
  refine g_iload (i := 4) (x := i) dL_law__1476 rfl ?_
  refine g_iconst (v := 1) dL_law__1478 rfl ?_
  refine g_iadd dL_law__1479 ?_
  refine g_scr dL_law__1480 (hin 1 (by decide) (by decide)) ?_
  refine g_cE (As := [.ref 40, .int (z_sx X i 1)]) (rest := []) (D2 := D2) (v := some (.int r2)) (em_X11_tones hl hW N (z_sx X i 1) D1 _ ⟨_, h2, rfl⟩) (fun _ => rfl) (fun o7 h => z_runV 193 1 h rfl kk_L_193 hs40 kl_11.1 kq_X11_tones rfl (Nat.le_of_ble_eq_true rfl) ⟨Nat.le_of_ble_eq_true rfl, Nat.le_of_ble_eq_true rfl, by show cu + 1 + 0 ≤ 601024; omega, by show su + 6 + 0 ≤ 7293034; omega⟩ dL_law__1481) hg ?_
  refine g_istore (i := 6) (lv' := [some (.retAddr 1000), some (.ref 0), some (.ref 40), some (.ref 67), some (.int i), some (.int r1), some (.int r2), none]) dL_law__1484 (by decide) rfl rfl ?_
  refine g_aload_n (i := 2) (x := 40) dL_law__1486 rfl rfl ?_
  refine g_cE (As := [.ref 40]) (rest := []) (D2 := D2) (v := some (.int (F_X11_thrown D2))) (em_X11_thrown hl hW D2 _ rfl) (fun _ => rfl) (fun o7 h => z_runV 124 0 h rfl kk_L_124 hs40 kl_11.1 kq_X11_thrown rfl (Nat.le_of_ble_eq_true rfl) ⟨Nat.le_of_ble_eq_true rfl, Nat.le_of_ble_eq_true rfl, by show cu + 1 + 0 + 0 ≤ 601024; omega, by show su + 6 + 0 + 0 ≤ 7293034; omega⟩ dL_law__1487) hg ?_
  refine g_iload (i := 5) (x := r1) dL_law__1490 rfl ?_
  refine g_icmp_eqJ 1497 dL_law__1492 (by decide) he1492 ?_
  refine g_iload (i := 5) (x := r1) dL_law__1497 rfl ?_
  refine (Decidable.em (¬ r1 = 0)).elim (fun c0 => ?_) (fun c0n => ?_)
  · refine g_if_neJ 1514 dL_law__1499 (by decide) c0 ?_
    refine g_goto 2408 dL_law__1514 (by decide) ?_
    exact g_weak (lv' := z_lv0 i) rfl g_lvw kk
  have c0 := Decidable.not_not.mp c0n
  refine g_if_neN 1514 dL_law__1499 (by decide) c0 ?_
  refine g_aload_n (i := 3) (x := 67) dL_law__1502 rfl rfl ?_
  refine g_iconst (v := 0) dL_law__1503 rfl ?_
  refine g_lald (k := 67) dL_law__1504 hO (vp_in_iff.mpr (by decide)) ?_
  refine g_iload (i := 6) (x := r2) dL_law__1505 rfl ?_
  refine g_i2l dL_law__1507 ?_
  refine g_lcmp dL_law__1508 ?_
  refine g_if_eqJ 1514 dL_law__1509 (by decide) (h0 c0) ?_
  refine g_goto 2408 dL_law__1514 (by decide) ?_
  exact g_weak (lv' := z_lv0 i) rfl g_lvw kk

set_option maxRecDepth 100000 in
set_option maxHeartbeats 4000000 in
theorem case_22_fits {X : Nat × (Nat → Int32)} {l : Launch} {S : List z_Shp} {o : Nat} {D : z_Dat} {out : z_Out} {cu su : Nat} {i : Int32} (hl : l.stackTraces = false) (hW : z_W S o) (hO : S[67]? = some (1, 1, [])) (N : Nat) (hin : ∀ k : Int32, 0 ≤ k → k ≤ 6 → vp_in (i + k) X.1) (hc : cu + 60 ≤ 601024) (hs : su + 400 ≤ 7293034) (hg : S.length ≤ out.2.1.length) {r1 : Int32} {r2 : Int32} {D1 : z_Dat} {D2 : z_Dat} (h1 : F_L_fits N o (z_sx X i 1) D = some (r1, D1)) (h2 : F_X11_fits N (z_sx X i 1) D1 = some (r2, D2)) (he1548 : (F_X11_thrown D2) = r1) (h0 : r1 = 0 → lg_cmp ((z_ldJ D2 67 0)) ((r2).toInt64) = 0)
    (kk : z_G X l M_L_law_ (2048, 84000, 601024, 7293034) (cu + 1 + 0 + 0) (su + 6 + 0 + 0) 2408 [some (.retAddr 1000), some (.ref 0), some (.ref 40), some (.ref 67), some (.int i), none, none, none] [] S D2 out) : z_G X l M_L_law_ (2048, 84000, 601024, 7293034) cu su 1517 [some (.retAddr 1000), some (.ref 0), some (.ref 40), some (.ref 67), some (.int i), none, none, none] [] S D out := by
  have hs0 := hW.1 0 _ rfl
  have hs40 := hW.1 40 _ rfl
  refine g_aload_n (i := 1) (x := 0) dL_law__1517 rfl rfl ?_
  refine g_aloadC_n (i := 0) (x := 1000) dL_law__1518 rfl rfl ?_
  refine g_iload (i := 4) (x := i) dL_law__1519 rfl ?_
  refine g_iconst (v := 1) dL_law__1521 rfl ?_
  refine g_iadd dL_law__1522 ?_
  refine g_scr dL_law__1523 (hin 1 (by decide) (by decide)) ?_
  refine g_aload_n (i := 3) (x := 67) dL_law__1524 rfl rfl ?_
  refine g_cE (As := [.ref 0, .int (z_sx X i 1), .ref 67]) (rest := []) (D2 := D1) (v := some (.int r1)) (em_L_fits hl hW hO N (z_sx X i 1) D _ ⟨_, h1, rfl⟩) (fun _ => rfl) (fun o7 h => z_runSX 194 3 h rfl kk_L_194 kq_L_fits rfl (Nat.le_of_ble_eq_true rfl) ⟨Nat.le_of_ble_eq_true rfl, Nat.le_of_ble_eq_true rfl, by show cu + 1 ≤ 601024; omega, by show su + 6 ≤ 7293034; omega⟩ dL_law__1525) hg ?_
  refine g_istore (i := 5) (lv' := [some (.retAddr 1000), some (.ref 0), some (.ref 40), some (.ref 67), some (.int i), some (.int r1), none, none]) dL_law__1528 (by decide) rfl rfl ?_
  refine g_aload_n (i := 2) (x := 40) dL_law__1530 rfl rfl ?_
  refine g_aloadC_n (i := 0) (x := 1000) dL_law__1531 rfl rfl ?_
  refine g_iload (i := 4) (x := i) dL_law__1532 rfl ?_
  refine g_iconst (v := 1) dL_law__1534 rfl ?_
  refine g_iadd dL_law__1535 ?_
  refine g_scr dL_law__1536 (hin 1 (by decide) (by decide)) ?_
  refine g_cE (As := [.ref 40, .int (z_sx X i 1)]) (rest := []) (D2 := D2) (v := some (.int r2)) (em_X11_fits hl hW N (z_sx X i 1) D1 _ ⟨_, h2, rfl⟩) (fun _ => rfl) (fun o7 h => z_runV 196 1 h rfl kk_L_196 hs40 kl_11.1 kq_X11_fits rfl (Nat.le_of_ble_eq_true rfl) ⟨Nat.le_of_ble_eq_true rfl, Nat.le_of_ble_eq_true rfl, by show cu + 1 + 0 ≤ 601024; omega, by show su + 6 + 0 ≤ 7293034; omega⟩ dL_law__1537) hg ?_
  refine g_istore (i := 6) (lv' := [some (.retAddr 1000), some (.ref 0), some (.ref 40), some (.ref 67), some (.int i), some (.int r1), some (.int r2), none]) dL_law__1540 (by decide) rfl rfl ?_
  refine g_aload_n (i := 2) (x := 40) dL_law__1542 rfl rfl ?_
  refine g_cE (As := [.ref 40]) (rest := []) (D2 := D2) (v := some (.int (F_X11_thrown D2))) (em_X11_thrown hl hW D2 _ rfl) (fun _ => rfl) (fun o7 h => z_runV 124 0 h rfl kk_L_124 hs40 kl_11.1 kq_X11_thrown rfl (Nat.le_of_ble_eq_true rfl) ⟨Nat.le_of_ble_eq_true rfl, Nat.le_of_ble_eq_true rfl, by show cu + 1 + 0 + 0 ≤ 601024; omega, by show su + 6 + 0 + 0 ≤ 7293034; omega⟩ dL_law__1543) hg ?_
  refine g_iload (i := 5) (x := r1) dL_law__1546 rfl ?_
  refine g_icmp_eqJ 1553 dL_law__1548 (by decide) he1548 ?_
  refine g_iload (i := 5) (x := r1) dL_law__1553 rfl ?_
  refine (Decidable.em (¬ r1 = 0)).elim (fun c0 => ?_) (fun c0n => ?_)
  · refine g_if_neJ 1570 dL_law__1555 (by decide) c0 ?_
    refine g_goto 2408 dL_law__1570 (by decide) ?_
    exact g_weak (lv' := z_lv0 i) rfl g_lvw kk
  have c0 := Decidable.not_not.mp c0n
  refine g_if_neN 1570 dL_law__1555 (by decide) c0 ?_
  refine g_aload_n (i := 3) (x := 67) dL_law__1558 rfl rfl ?_
  refine g_iconst (v := 0) dL_law__1559 rfl ?_
  refine g_lald (k := 67) dL_law__1560 hO (vp_in_iff.mpr (by decide)) ?_
  refine g_iload (i := 6) (x := r2) dL_law__1561 rfl ?_
  refine g_i2l dL_law__1563 ?_
  refine g_lcmp dL_law__1564 ?_
  refine g_if_eqJ 1570 dL_law__1565 (by decide) (h0 c0) ?_
  refine g_goto 2408 dL_law__1570 (by decide) ?_
  exact g_weak (lv' := z_lv0 i) rfl g_lvw kk

set_option maxRecDepth 100000 in
set_option maxHeartbeats 4000000 in
theorem case_23_look {X : Nat × (Nat → Int32)} {l : Launch} {S : List z_Shp} {o : Nat} {D : z_Dat} {out : z_Out} {cu su : Nat} {i : Int32} (hl : l.stackTraces = false) (hW : z_W S o) (hO : S[67]? = some (1, 1, [])) (N : Nat) (hin : ∀ k : Int32, 0 ≤ k → k ≤ 6 → vp_in (i + k) X.1) (hc : cu + 60 ≤ 601024) (hs : su + 400 ≤ 7293034) (hg : S.length ≤ out.2.1.length) {r1 : Int32} {r2 : Int32} {D1 : z_Dat} {D2 : z_Dat} (h1 : F_L_look N o (z_sx X i 1) D = some (r1, D1)) (h2 : F_X11_look N (z_sx X i 1) D1 = some (r2, D2)) (he1604 : (F_X11_thrown D2) = r1) (h0 : r1 = 0 → lg_cmp ((z_ldJ D2 67 0)) ((r2).toInt64) = 0)
    (kk : z_G X l M_L_law_ (2048, 84000, 601024, 7293034) (cu + 1 + 0 + 0) (su + 6 + 0 + 0) 2408 [some (.retAddr 1000), some (.ref 0), some (.ref 40), some (.ref 67), some (.int i), none, none, none] [] S D2 out) : z_G X l M_L_law_ (2048, 84000, 601024, 7293034) cu su 1573 [some (.retAddr 1000), some (.ref 0), some (.ref 40), some (.ref 67), some (.int i), none, none, none] [] S D out := by
  have hs0 := hW.1 0 _ rfl
  have hs40 := hW.1 40 _ rfl
  refine g_aload_n (i := 1) (x := 0) dL_law__1573 rfl rfl ?_
  refine g_aloadC_n (i := 0) (x := 1000) dL_law__1574 rfl rfl ?_
  refine g_iload (i := 4) (x := i) dL_law__1575 rfl ?_
  refine g_iconst (v := 1) dL_law__1577 rfl ?_
  refine g_iadd dL_law__1578 ?_
  refine g_scr dL_law__1579 (hin 1 (by decide) (by decide)) ?_
  refine g_aload_n (i := 3) (x := 67) dL_law__1580 rfl rfl ?_
  refine g_cE (As := [.ref 0, .int (z_sx X i 1), .ref 67]) (rest := []) (D2 := D1) (v := some (.int r1)) (em_L_look hl hW hO N (z_sx X i 1) D _ ⟨_, h1, rfl⟩) (fun _ => rfl) (fun o7 h => z_runSX 197 3 h rfl kk_L_197 kq_L_look rfl (Nat.le_of_ble_eq_true rfl) ⟨Nat.le_of_ble_eq_true rfl, Nat.le_of_ble_eq_true rfl, by show cu + 1 ≤ 601024; omega, by show su + 6 ≤ 7293034; omega⟩ dL_law__1581) hg ?_
  refine g_istore (i := 5) (lv' := [some (.retAddr 1000), some (.ref 0), some (.ref 40), some (.ref 67), some (.int i), some (.int r1), none, none]) dL_law__1584 (by decide) rfl rfl ?_
  refine g_aload_n (i := 2) (x := 40) dL_law__1586 rfl rfl ?_
  refine g_aloadC_n (i := 0) (x := 1000) dL_law__1587 rfl rfl ?_
  refine g_iload (i := 4) (x := i) dL_law__1588 rfl ?_
  refine g_iconst (v := 1) dL_law__1590 rfl ?_
  refine g_iadd dL_law__1591 ?_
  refine g_scr dL_law__1592 (hin 1 (by decide) (by decide)) ?_
  refine g_cE (As := [.ref 40, .int (z_sx X i 1)]) (rest := []) (D2 := D2) (v := some (.int r2)) (em_X11_look hl hW N (z_sx X i 1) D1 _ ⟨_, h2, rfl⟩) (fun _ => rfl) (fun o7 h => z_runV 199 1 h rfl kk_L_199 hs40 kl_11.1 kq_X11_look rfl (Nat.le_of_ble_eq_true rfl) ⟨Nat.le_of_ble_eq_true rfl, Nat.le_of_ble_eq_true rfl, by show cu + 1 + 0 ≤ 601024; omega, by show su + 6 + 0 ≤ 7293034; omega⟩ dL_law__1593) hg ?_
  refine g_istore (i := 6) (lv' := [some (.retAddr 1000), some (.ref 0), some (.ref 40), some (.ref 67), some (.int i), some (.int r1), some (.int r2), none]) dL_law__1596 (by decide) rfl rfl ?_
  refine g_aload_n (i := 2) (x := 40) dL_law__1598 rfl rfl ?_
  refine g_cE (As := [.ref 40]) (rest := []) (D2 := D2) (v := some (.int (F_X11_thrown D2))) (em_X11_thrown hl hW D2 _ rfl) (fun _ => rfl) (fun o7 h => z_runV 124 0 h rfl kk_L_124 hs40 kl_11.1 kq_X11_thrown rfl (Nat.le_of_ble_eq_true rfl) ⟨Nat.le_of_ble_eq_true rfl, Nat.le_of_ble_eq_true rfl, by show cu + 1 + 0 + 0 ≤ 601024; omega, by show su + 6 + 0 + 0 ≤ 7293034; omega⟩ dL_law__1599) hg ?_
  refine g_iload (i := 5) (x := r1) dL_law__1602 rfl ?_
  refine g_icmp_eqJ 1609 dL_law__1604 (by decide) he1604 ?_
  refine g_iload (i := 5) (x := r1) dL_law__1609 rfl ?_
  refine (Decidable.em (¬ r1 = 0)).elim (fun c0 => ?_) (fun c0n => ?_)
  · refine g_if_neJ 1626 dL_law__1611 (by decide) c0 ?_
    refine g_goto 2408 dL_law__1626 (by decide) ?_
    exact g_weak (lv' := z_lv0 i) rfl g_lvw kk
  have c0 := Decidable.not_not.mp c0n
  refine g_if_neN 1626 dL_law__1611 (by decide) c0 ?_
  refine g_aload_n (i := 3) (x := 67) dL_law__1614 rfl rfl ?_
  refine g_iconst (v := 0) dL_law__1615 rfl ?_
  refine g_lald (k := 67) dL_law__1616 hO (vp_in_iff.mpr (by decide)) ?_
  refine g_iload (i := 6) (x := r2) dL_law__1617 rfl ?_
  refine g_i2l dL_law__1619 ?_
  refine g_lcmp dL_law__1620 ?_
  refine g_if_eqJ 1626 dL_law__1621 (by decide) (h0 c0) ?_
  refine g_goto 2408 dL_law__1626 (by decide) ?_
  exact g_weak (lv' := z_lv0 i) rfl g_lvw kk

set_option maxRecDepth 100000 in
set_option maxHeartbeats 4000000 in
theorem case_24_match {X : Nat × (Nat → Int32)} {l : Launch} {S : List z_Shp} {o : Nat} {D : z_Dat} {out : z_Out} {cu su : Nat} {i : Int32} (hl : l.stackTraces = false) (hW : z_W S o) (hO : S[67]? = some (1, 1, [])) (N : Nat) (hin : ∀ k : Int32, 0 ≤ k → k ≤ 6 → vp_in (i + k) X.1) (hc : cu + 60 ≤ 601024) (hs : su + 400 ≤ 7293034) (hg : S.length ≤ out.2.1.length) {r1 : Int32} {r2 : Int32} {D1 : z_Dat} {D2 : z_Dat} (h1 : F_L_match N o (z_sx X i 1) D = some (r1, D1)) (h2 : F_X11_match N (z_sx X i 1) D1 = some (r2, D2)) (he1660 : (F_X11_thrown D2) = r1) (h0 : r1 = 0 → lg_cmp ((z_ldJ D2 67 0)) ((r2).toInt64) = 0)
    (kk : z_G X l M_L_law_ (2048, 84000, 601024, 7293034) (cu + 1 + 0 + 0) (su + 6 + 0 + 0) 2408 [some (.retAddr 1000), some (.ref 0), some (.ref 40), some (.ref 67), some (.int i), none, none, none] [] S D2 out) : z_G X l M_L_law_ (2048, 84000, 601024, 7293034) cu su 1629 [some (.retAddr 1000), some (.ref 0), some (.ref 40), some (.ref 67), some (.int i), none, none, none] [] S D out := by
  have hs0 := hW.1 0 _ rfl
  have hs40 := hW.1 40 _ rfl
  refine g_aload_n (i := 1) (x := 0) dL_law__1629 rfl rfl ?_
  refine g_aloadC_n (i := 0) (x := 1000) dL_law__1630 rfl rfl ?_
  refine g_iload (i := 4) (x := i) dL_law__1631 rfl ?_
  refine g_iconst (v := 1) dL_law__1633 rfl ?_
  refine g_iadd dL_law__1634 ?_
  refine g_scr dL_law__1635 (hin 1 (by decide) (by decide)) ?_
  refine g_aload_n (i := 3) (x := 67) dL_law__1636 rfl rfl ?_
  refine g_cE (As := [.ref 0, .int (z_sx X i 1), .ref 67]) (rest := []) (D2 := D1) (v := some (.int r1)) (em_L_match hl hW hO N (z_sx X i 1) D _ ⟨_, h1, rfl⟩) (fun _ => rfl) (fun o7 h => z_runSX 200 3 h rfl kk_L_200 kq_L_match rfl (Nat.le_of_ble_eq_true rfl) ⟨Nat.le_of_ble_eq_true rfl, Nat.le_of_ble_eq_true rfl, by show cu + 1 ≤ 601024; omega, by show su + 6 ≤ 7293034; omega⟩ dL_law__1637) hg ?_
  refine g_istore (i := 5) (lv' := [some (.retAddr 1000), some (.ref 0), some (.ref 40), some (.ref 67), some (.int i), some (.int r1), none, none]) dL_law__1640 (by decide) rfl rfl ?_
  refine g_aload_n (i := 2) (x := 40) dL_law__1642 rfl rfl ?_
  refine g_aloadC_n (i := 0) (x := 1000) dL_law__1643 rfl rfl ?_
  refine g_iload (i := 4) (x := i) dL_law__1644 rfl ?_
  refine g_iconst (v := 1) dL_law__1646 rfl ?_
  refine g_iadd dL_law__1647 ?_
  refine g_scr dL_law__1648 (hin 1 (by decide) (by decide)) ?_
  refine g_cE (As := [.ref 40, .int (z_sx X i 1)]) (rest := []) (D2 := D2) (v := some (.int r2)) (em_X11_match hl hW N (z_sx X i 1) D1 _ ⟨_, h2, rfl⟩) (fun _ => rfl) (fun o7 h => z_runV 202 1 h rfl kk_L_202 hs40 kl_11.1 kq_X11_match rfl (Nat.le_of_ble_eq_true rfl) ⟨Nat.le_of_ble_eq_true rfl, Nat.le_of_ble_eq_true rfl, by show cu + 1 + 0 ≤ 601024; omega, by show su + 6 + 0 ≤ 7293034; omega⟩ dL_law__1649) hg ?_
  refine g_istore (i := 6) (lv' := [some (.retAddr 1000), some (.ref 0), some (.ref 40), some (.ref 67), some (.int i), some (.int r1), some (.int r2), none]) dL_law__1652 (by decide) rfl rfl ?_
  refine g_aload_n (i := 2) (x := 40) dL_law__1654 rfl rfl ?_
  refine g_cE (As := [.ref 40]) (rest := []) (D2 := D2) (v := some (.int (F_X11_thrown D2))) (em_X11_thrown hl hW D2 _ rfl) (fun _ => rfl) (fun o7 h => z_runV 124 0 h rfl kk_L_124 hs40 kl_11.1 kq_X11_thrown rfl (Nat.le_of_ble_eq_true rfl) ⟨Nat.le_of_ble_eq_true rfl, Nat.le_of_ble_eq_true rfl, by show cu + 1 + 0 + 0 ≤ 601024; omega, by show su + 6 + 0 + 0 ≤ 7293034; omega⟩ dL_law__1655) hg ?_
  refine g_iload (i := 5) (x := r1) dL_law__1658 rfl ?_
  refine g_icmp_eqJ 1665 dL_law__1660 (by decide) he1660 ?_
  refine g_iload (i := 5) (x := r1) dL_law__1665 rfl ?_
  refine (Decidable.em (¬ r1 = 0)).elim (fun c0 => ?_) (fun c0n => ?_)
  · refine g_if_neJ 1682 dL_law__1667 (by decide) c0 ?_
    refine g_goto 2408 dL_law__1682 (by decide) ?_
    exact g_weak (lv' := z_lv0 i) rfl g_lvw kk
  have c0 := Decidable.not_not.mp c0n
  refine g_if_neN 1682 dL_law__1667 (by decide) c0 ?_
  refine g_aload_n (i := 3) (x := 67) dL_law__1670 rfl rfl ?_
  refine g_iconst (v := 0) dL_law__1671 rfl ?_
  refine g_lald (k := 67) dL_law__1672 hO (vp_in_iff.mpr (by decide)) ?_
  refine g_iload (i := 6) (x := r2) dL_law__1673 rfl ?_
  refine g_i2l dL_law__1675 ?_
  refine g_lcmp dL_law__1676 ?_
  refine g_if_eqJ 1682 dL_law__1677 (by decide) (h0 c0) ?_
  refine g_goto 2408 dL_law__1682 (by decide) ?_
  exact g_weak (lv' := z_lv0 i) rfl g_lvw kk

set_option maxRecDepth 100000 in
set_option maxHeartbeats 4000000 in
theorem case_25_bride {X : Nat × (Nat → Int32)} {l : Launch} {S : List z_Shp} {o : Nat} {D : z_Dat} {out : z_Out} {cu su : Nat} {i : Int32} (hl : l.stackTraces = false) (hW : z_W S o) (hO : S[67]? = some (1, 1, [])) (N : Nat) (hin : ∀ k : Int32, 0 ≤ k → k ≤ 6 → vp_in (i + k) X.1) (hc : cu + 60 ≤ 601024) (hs : su + 400 ≤ 7293034) (hg : S.length ≤ out.2.1.length) {r1 : Int32} {r2 : Int32} {D1 : z_Dat} {D2 : z_Dat} (h1 : F_L_bride N o (z_sx X i 1) D = some (r1, D1)) (h2 : F_X11_bride N (z_sx X i 1) D1 = some (r2, D2)) (he1716 : (F_X11_thrown D2) = r1) (h0 : r1 = 0 → lg_cmp ((z_ldJ D2 67 0)) ((r2).toInt64) = 0)
    (kk : z_G X l M_L_law_ (2048, 84000, 601024, 7293034) (cu + 1 + 0 + 0) (su + 6 + 0 + 0) 2408 [some (.retAddr 1000), some (.ref 0), some (.ref 40), some (.ref 67), some (.int i), none, none, none] [] S D2 out) : z_G X l M_L_law_ (2048, 84000, 601024, 7293034) cu su 1685 [some (.retAddr 1000), some (.ref 0), some (.ref 40), some (.ref 67), some (.int i), none, none, none] [] S D out := by
  have hs0 := hW.1 0 _ rfl
  have hs40 := hW.1 40 _ rfl
  refine g_aload_n (i := 1) (x := 0) dL_law__1685 rfl rfl ?_
  refine g_aloadC_n (i := 0) (x := 1000) dL_law__1686 rfl rfl ?_
  refine g_iload (i := 4) (x := i) dL_law__1687 rfl ?_
  refine g_iconst (v := 1) dL_law__1689 rfl ?_
  refine g_iadd dL_law__1690 ?_
  refine g_scr dL_law__1691 (hin 1 (by decide) (by decide)) ?_
  refine g_aload_n (i := 3) (x := 67) dL_law__1692 rfl rfl ?_
  refine g_cE (As := [.ref 0, .int (z_sx X i 1), .ref 67]) (rest := []) (D2 := D1) (v := some (.int r1)) (em_L_bride hl hW hO N (z_sx X i 1) D _ ⟨_, h1, rfl⟩) (fun _ => rfl) (fun o7 h => z_runSX 203 3 h rfl kk_L_203 kq_L_bride rfl (Nat.le_of_ble_eq_true rfl) ⟨Nat.le_of_ble_eq_true rfl, Nat.le_of_ble_eq_true rfl, by show cu + 1 ≤ 601024; omega, by show su + 6 ≤ 7293034; omega⟩ dL_law__1693) hg ?_
  refine g_istore (i := 5) (lv' := [some (.retAddr 1000), some (.ref 0), some (.ref 40), some (.ref 67), some (.int i), some (.int r1), none, none]) dL_law__1696 (by decide) rfl rfl ?_
  refine g_aload_n (i := 2) (x := 40) dL_law__1698 rfl rfl ?_
  refine g_aloadC_n (i := 0) (x := 1000) dL_law__1699 rfl rfl ?_
  refine g_iload (i := 4) (x := i) dL_law__1700 rfl ?_
  refine g_iconst (v := 1) dL_law__1702 rfl ?_
  refine g_iadd dL_law__1703 ?_
  refine g_scr dL_law__1704 (hin 1 (by decide) (by decide)) ?_
  refine g_cE (As := [.ref 40, .int (z_sx X i 1)]) (rest := []) (D2 := D2) (v := some (.int r2)) (em_X11_bride hl hW N (z_sx X i 1) D1 _ ⟨_, h2, rfl⟩) (fun _ => rfl) (fun o7 h => z_runV 205 1 h rfl kk_L_205 hs40 kl_11.1 kq_X11_bride rfl (Nat.le_of_ble_eq_true rfl) ⟨Nat.le_of_ble_eq_true rfl, Nat.le_of_ble_eq_true rfl, by show cu + 1 + 0 ≤ 601024; omega, by show su + 6 + 0 ≤ 7293034; omega⟩ dL_law__1705) hg ?_
  refine g_istore (i := 6) (lv' := [some (.retAddr 1000), some (.ref 0), some (.ref 40), some (.ref 67), some (.int i), some (.int r1), some (.int r2), none]) dL_law__1708 (by decide) rfl rfl ?_
  refine g_aload_n (i := 2) (x := 40) dL_law__1710 rfl rfl ?_
  refine g_cE (As := [.ref 40]) (rest := []) (D2 := D2) (v := some (.int (F_X11_thrown D2))) (em_X11_thrown hl hW D2 _ rfl) (fun _ => rfl) (fun o7 h => z_runV 124 0 h rfl kk_L_124 hs40 kl_11.1 kq_X11_thrown rfl (Nat.le_of_ble_eq_true rfl) ⟨Nat.le_of_ble_eq_true rfl, Nat.le_of_ble_eq_true rfl, by show cu + 1 + 0 + 0 ≤ 601024; omega, by show su + 6 + 0 + 0 ≤ 7293034; omega⟩ dL_law__1711) hg ?_
  refine g_iload (i := 5) (x := r1) dL_law__1714 rfl ?_
  refine g_icmp_eqJ 1721 dL_law__1716 (by decide) he1716 ?_
  refine g_iload (i := 5) (x := r1) dL_law__1721 rfl ?_
  refine (Decidable.em (¬ r1 = 0)).elim (fun c0 => ?_) (fun c0n => ?_)
  · refine g_if_neJ 1738 dL_law__1723 (by decide) c0 ?_
    refine g_goto 2408 dL_law__1738 (by decide) ?_
    exact g_weak (lv' := z_lv0 i) rfl g_lvw kk
  have c0 := Decidable.not_not.mp c0n
  refine g_if_neN 1738 dL_law__1723 (by decide) c0 ?_
  refine g_aload_n (i := 3) (x := 67) dL_law__1726 rfl rfl ?_
  refine g_iconst (v := 0) dL_law__1727 rfl ?_
  refine g_lald (k := 67) dL_law__1728 hO (vp_in_iff.mpr (by decide)) ?_
  refine g_iload (i := 6) (x := r2) dL_law__1729 rfl ?_
  refine g_i2l dL_law__1731 ?_
  refine g_lcmp dL_law__1732 ?_
  refine g_if_eqJ 1738 dL_law__1733 (by decide) (h0 c0) ?_
  refine g_goto 2408 dL_law__1738 (by decide) ?_
  exact g_weak (lv' := z_lv0 i) rfl g_lvw kk

set_option maxRecDepth 100000 in
set_option maxHeartbeats 4000000 in
theorem case_26_enough {X : Nat × (Nat → Int32)} {l : Launch} {S : List z_Shp} {o : Nat} {D : z_Dat} {out : z_Out} {cu su : Nat} {i : Int32} (hl : l.stackTraces = false) (hW : z_W S o) (hO : S[67]? = some (1, 1, [])) (N : Nat) (hin : ∀ k : Int32, 0 ≤ k → k ≤ 6 → vp_in (i + k) X.1) (hc : cu + 60 ≤ 601024) (hs : su + 400 ≤ 7293034) (hg : S.length ≤ out.2.1.length) {r1 : Int32} {r2 : Int32} {D1 : z_Dat} {D2 : z_Dat} (h1 : F_L_enough N o (z_sx X i 1) D = some (r1, D1)) (h2 : F_X11_enough N (z_sx X i 1) D1 = some (r2, D2)) (he1772 : (F_X11_thrown D2) = r1) (h0 : r1 = 0 → lg_cmp ((z_ldJ D2 67 0)) ((r2).toInt64) = 0)
    (kk : z_G X l M_L_law_ (2048, 84000, 601024, 7293034) (cu + 1 + 0 + 0) (su + 6 + 0 + 0) 2408 [some (.retAddr 1000), some (.ref 0), some (.ref 40), some (.ref 67), some (.int i), none, none, none] [] S D2 out) : z_G X l M_L_law_ (2048, 84000, 601024, 7293034) cu su 1741 [some (.retAddr 1000), some (.ref 0), some (.ref 40), some (.ref 67), some (.int i), none, none, none] [] S D out := by
  have hs0 := hW.1 0 _ rfl
  have hs40 := hW.1 40 _ rfl
  refine g_aload_n (i := 1) (x := 0) dL_law__1741 rfl rfl ?_
  refine g_aloadC_n (i := 0) (x := 1000) dL_law__1742 rfl rfl ?_
  refine g_iload (i := 4) (x := i) dL_law__1743 rfl ?_
  refine g_iconst (v := 1) dL_law__1745 rfl ?_
  refine g_iadd dL_law__1746 ?_
  refine g_scr dL_law__1747 (hin 1 (by decide) (by decide)) ?_
  refine g_aload_n (i := 3) (x := 67) dL_law__1748 rfl rfl ?_
  refine g_cE (As := [.ref 0, .int (z_sx X i 1), .ref 67]) (rest := []) (D2 := D1) (v := some (.int r1)) (em_L_enough hl hW hO N (z_sx X i 1) D _ ⟨_, h1, rfl⟩) (fun _ => rfl) (fun o7 h => z_runSX 206 3 h rfl kk_L_206 kq_L_enough rfl (Nat.le_of_ble_eq_true rfl) ⟨Nat.le_of_ble_eq_true rfl, Nat.le_of_ble_eq_true rfl, by show cu + 1 ≤ 601024; omega, by show su + 6 ≤ 7293034; omega⟩ dL_law__1749) hg ?_
  refine g_istore (i := 5) (lv' := [some (.retAddr 1000), some (.ref 0), some (.ref 40), some (.ref 67), some (.int i), some (.int r1), none, none]) dL_law__1752 (by decide) rfl rfl ?_
  refine g_aload_n (i := 2) (x := 40) dL_law__1754 rfl rfl ?_
  refine g_aloadC_n (i := 0) (x := 1000) dL_law__1755 rfl rfl ?_
  refine g_iload (i := 4) (x := i) dL_law__1756 rfl ?_
  refine g_iconst (v := 1) dL_law__1758 rfl ?_
  refine g_iadd dL_law__1759 ?_
  refine g_scr dL_law__1760 (hin 1 (by decide) (by decide)) ?_
  refine g_cE (As := [.ref 40, .int (z_sx X i 1)]) (rest := []) (D2 := D2) (v := some (.int r2)) (em_X11_enough hl hW N (z_sx X i 1) D1 _ ⟨_, h2, rfl⟩) (fun _ => rfl) (fun o7 h => z_runV 208 1 h rfl kk_L_208 hs40 kl_11.1 kq_X11_enough rfl (Nat.le_of_ble_eq_true rfl) ⟨Nat.le_of_ble_eq_true rfl, Nat.le_of_ble_eq_true rfl, by show cu + 1 + 0 ≤ 601024; omega, by show su + 6 + 0 ≤ 7293034; omega⟩ dL_law__1761) hg ?_
  refine g_istore (i := 6) (lv' := [some (.retAddr 1000), some (.ref 0), some (.ref 40), some (.ref 67), some (.int i), some (.int r1), some (.int r2), none]) dL_law__1764 (by decide) rfl rfl ?_
  refine g_aload_n (i := 2) (x := 40) dL_law__1766 rfl rfl ?_
  refine g_cE (As := [.ref 40]) (rest := []) (D2 := D2) (v := some (.int (F_X11_thrown D2))) (em_X11_thrown hl hW D2 _ rfl) (fun _ => rfl) (fun o7 h => z_runV 124 0 h rfl kk_L_124 hs40 kl_11.1 kq_X11_thrown rfl (Nat.le_of_ble_eq_true rfl) ⟨Nat.le_of_ble_eq_true rfl, Nat.le_of_ble_eq_true rfl, by show cu + 1 + 0 + 0 ≤ 601024; omega, by show su + 6 + 0 + 0 ≤ 7293034; omega⟩ dL_law__1767) hg ?_
  refine g_iload (i := 5) (x := r1) dL_law__1770 rfl ?_
  refine g_icmp_eqJ 1777 dL_law__1772 (by decide) he1772 ?_
  refine g_iload (i := 5) (x := r1) dL_law__1777 rfl ?_
  refine (Decidable.em (¬ r1 = 0)).elim (fun c0 => ?_) (fun c0n => ?_)
  · refine g_if_neJ 1794 dL_law__1779 (by decide) c0 ?_
    refine g_goto 2408 dL_law__1794 (by decide) ?_
    exact g_weak (lv' := z_lv0 i) rfl g_lvw kk
  have c0 := Decidable.not_not.mp c0n
  refine g_if_neN 1794 dL_law__1779 (by decide) c0 ?_
  refine g_aload_n (i := 3) (x := 67) dL_law__1782 rfl rfl ?_
  refine g_iconst (v := 0) dL_law__1783 rfl ?_
  refine g_lald (k := 67) dL_law__1784 hO (vp_in_iff.mpr (by decide)) ?_
  refine g_iload (i := 6) (x := r2) dL_law__1785 rfl ?_
  refine g_i2l dL_law__1787 ?_
  refine g_lcmp dL_law__1788 ?_
  refine g_if_eqJ 1794 dL_law__1789 (by decide) (h0 c0) ?_
  refine g_goto 2408 dL_law__1794 (by decide) ?_
  exact g_weak (lv' := z_lv0 i) rfl g_lvw kk

set_option maxRecDepth 100000 in
set_option maxHeartbeats 4000000 in
theorem case_27_level {X : Nat × (Nat → Int32)} {l : Launch} {S : List z_Shp} {o : Nat} {D : z_Dat} {out : z_Out} {cu su : Nat} {i : Int32} (hl : l.stackTraces = false) (hW : z_W S o) (hO : S[67]? = some (1, 1, [])) (N : Nat) (hin : ∀ k : Int32, 0 ≤ k → k ≤ 6 → vp_in (i + k) X.1) (hc : cu + 60 ≤ 601024) (hs : su + 400 ≤ 7293034) (hg : S.length ≤ out.2.1.length) {r1 : Int32} {r2 : Int32} {D1 : z_Dat} {D2 : z_Dat} (h1 : F_L_level N (z_sx X i 1) (z_sx X i 2) D = some (r1, D1)) (h2 : F_X11_level (z_sx X i 1) (z_sx X i 2) D1 = some (r2, D2)) (he1840 : (F_X11_thrown D2) = r1) (h0 : r1 = 0 → lg_cmp ((z_ldJ D2 67 0)) ((r2).toInt64) = 0)
    (kk : z_G X l M_L_law_ (2048, 84000, 601024, 7293034) (cu + 2 + 0 + 0) (su + 12 + 0 + 0) 2408 [some (.retAddr 1000), some (.ref 0), some (.ref 40), some (.ref 67), some (.int i), none, none, none] [] S D2 out) : z_G X l M_L_law_ (2048, 84000, 601024, 7293034) cu su 1797 [some (.retAddr 1000), some (.ref 0), some (.ref 40), some (.ref 67), some (.int i), none, none, none] [] S D out := by
  have hs0 := hW.1 0 _ rfl
  have hs40 := hW.1 40 _ rfl
  refine g_aload_n (i := 1) (x := 0) dL_law__1797 rfl rfl ?_
  refine g_aloadC_n (i := 0) (x := 1000) dL_law__1798 rfl rfl ?_
  refine g_iload (i := 4) (x := i) dL_law__1799 rfl ?_
  refine g_iconst (v := 1) dL_law__1801 rfl ?_
  refine g_iadd dL_law__1802 ?_
  refine g_scr dL_law__1803 (hin 1 (by decide) (by decide)) ?_
  refine g_aloadC_n (i := 0) (x := 1000) dL_law__1804 rfl rfl ?_
  refine g_iload (i := 4) (x := i) dL_law__1805 rfl ?_
  refine g_iconst (v := 2) dL_law__1807 rfl ?_
  refine g_iadd dL_law__1808 ?_
  refine g_scr dL_law__1809 (hin 2 (by decide) (by decide)) ?_
  refine g_aload_n (i := 3) (x := 67) dL_law__1810 rfl rfl ?_
  refine g_cE (As := [.ref 0, .int (z_sx X i 1), .int (z_sx X i 2), .ref 67]) (rest := []) (D2 := D1) (v := some (.int r1)) (em_L_level hl hW hO N (z_sx X i 1) (z_sx X i 2) D _ ⟨_, h1, rfl⟩) (fun _ => rfl) (fun o7 h => z_runSX 209 4 h rfl kk_L_209 kq_L_level rfl (Nat.le_of_ble_eq_true rfl) ⟨Nat.le_of_ble_eq_true rfl, Nat.le_of_ble_eq_true rfl, by show cu + 2 ≤ 601024; omega, by show su + 12 ≤ 7293034; omega⟩ dL_law__1811) hg ?_
  refine g_istore (i := 5) (lv' := [some (.retAddr 1000), some (.ref 0), some (.ref 40), some (.ref 67), some (.int i), some (.int r1), none, none]) dL_law__1814 (by decide) rfl rfl ?_
  refine g_aload_n (i := 2) (x := 40) dL_law__1816 rfl rfl ?_
  refine g_aloadC_n (i := 0) (x := 1000) dL_law__1817 rfl rfl ?_
  refine g_iload (i := 4) (x := i) dL_law__1818 rfl ?_
  refine g_iconst (v := 1) dL_law__1820 rfl ?_
  refine g_iadd dL_law__1821 ?_
  refine g_scr dL_law__1822 (hin 1 (by decide) (by decide)) ?_
  refine g_aloadC_n (i := 0) (x := 1000) dL_law__1823 rfl rfl ?_
  refine g_iload (i := 4) (x := i) dL_law__1824 rfl ?_
  refine g_iconst (v := 2) dL_law__1826 rfl ?_
  refine g_iadd dL_law__1827 ?_
  refine g_scr dL_law__1828 (hin 2 (by decide) (by decide)) ?_
  refine g_cE (As := [.ref 40, .int (z_sx X i 1), .int (z_sx X i 2)]) (rest := []) (D2 := D2) (v := some (.int r2)) (em_X11_level hl hW (z_sx X i 1) (z_sx X i 2) D1 _ ⟨_, h2, rfl⟩) (fun _ => rfl) (fun o7 h => z_runV 211 2 h rfl kk_L_211 hs40 kl_11.1 kq_X11_level rfl (Nat.le_of_ble_eq_true rfl) ⟨Nat.le_of_ble_eq_true rfl, Nat.le_of_ble_eq_true rfl, by show cu + 2 + 0 ≤ 601024; omega, by show su + 12 + 0 ≤ 7293034; omega⟩ dL_law__1829) hg ?_
  refine g_istore (i := 6) (lv' := [some (.retAddr 1000), some (.ref 0), some (.ref 40), some (.ref 67), some (.int i), some (.int r1), some (.int r2), none]) dL_law__1832 (by decide) rfl rfl ?_
  refine g_aload_n (i := 2) (x := 40) dL_law__1834 rfl rfl ?_
  refine g_cE (As := [.ref 40]) (rest := []) (D2 := D2) (v := some (.int (F_X11_thrown D2))) (em_X11_thrown hl hW D2 _ rfl) (fun _ => rfl) (fun o7 h => z_runV 124 0 h rfl kk_L_124 hs40 kl_11.1 kq_X11_thrown rfl (Nat.le_of_ble_eq_true rfl) ⟨Nat.le_of_ble_eq_true rfl, Nat.le_of_ble_eq_true rfl, by show cu + 2 + 0 + 0 ≤ 601024; omega, by show su + 12 + 0 + 0 ≤ 7293034; omega⟩ dL_law__1835) hg ?_
  refine g_iload (i := 5) (x := r1) dL_law__1838 rfl ?_
  refine g_icmp_eqJ 1845 dL_law__1840 (by decide) he1840 ?_
  refine g_iload (i := 5) (x := r1) dL_law__1845 rfl ?_
  refine (Decidable.em (¬ r1 = 0)).elim (fun c0 => ?_) (fun c0n => ?_)
  · refine g_if_neJ 1862 dL_law__1847 (by decide) c0 ?_
    refine g_goto 2408 dL_law__1862 (by decide) ?_
    exact g_weak (lv' := z_lv0 i) rfl g_lvw kk
  have c0 := Decidable.not_not.mp c0n
  refine g_if_neN 1862 dL_law__1847 (by decide) c0 ?_
  refine g_aload_n (i := 3) (x := 67) dL_law__1850 rfl rfl ?_
  refine g_iconst (v := 0) dL_law__1851 rfl ?_
  refine g_lald (k := 67) dL_law__1852 hO (vp_in_iff.mpr (by decide)) ?_
  refine g_iload (i := 6) (x := r2) dL_law__1853 rfl ?_
  refine g_i2l dL_law__1855 ?_
  refine g_lcmp dL_law__1856 ?_
  refine g_if_eqJ 1862 dL_law__1857 (by decide) (h0 c0) ?_
  refine g_goto 2408 dL_law__1862 (by decide) ?_
  exact g_weak (lv' := z_lv0 i) rfl g_lvw kk

set_option maxRecDepth 100000 in
set_option maxHeartbeats 4000000 in
theorem case_28_night {X : Nat × (Nat → Int32)} {l : Launch} {S : List z_Shp} {o : Nat} {D : z_Dat} {out : z_Out} {cu su : Nat} {i : Int32} (hl : l.stackTraces = false) (hW : z_W S o) (hO : S[67]? = some (1, 1, [])) (N : Nat) (hin : ∀ k : Int32, 0 ≤ k → k ≤ 6 → vp_in (i + k) X.1) (hc : cu + 60 ≤ 601024) (hs : su + 400 ≤ 7293034) (hg : S.length ≤ out.2.1.length) {r1 : Int32} {r2 : Int64} {D1 : z_Dat} {D2 : z_Dat} (h1 : F_L_night N (z_sx X i 1) (z_sx X i 2) (z_sx X i 3) D = some (r1, D1)) (h2 : F_X11_night N (z_sx X i 1) (z_sx X i 2) (z_sx X i 3) D1 = some (r2, D2)) (he1920 : (F_X11_thrown D2) = r1) (h0 : r1 = 0 → lg_cmp ((z_ldJ D2 67 0)) (r2) = 0)
    (kk : z_G X l M_L_law_ (2048, 84000, 601024, 7293034) (cu + 2 + 0 + 0) (su + 12 + 0 + 0) 2408 [some (.retAddr 1000), some (.ref 0), some (.ref 40), some (.ref 67), some (.int i), none, none, none] [] S D2 out) : z_G X l M_L_law_ (2048, 84000, 601024, 7293034) cu su 1865 [some (.retAddr 1000), some (.ref 0), some (.ref 40), some (.ref 67), some (.int i), none, none, none] [] S D out := by
  have hs0 := hW.1 0 _ rfl
  have hs40 := hW.1 40 _ rfl
  refine g_aload_n (i := 1) (x := 0) dL_law__1865 rfl rfl ?_
  refine g_aloadC_n (i := 0) (x := 1000) dL_law__1866 rfl rfl ?_
  refine g_iload (i := 4) (x := i) dL_law__1867 rfl ?_
  refine g_iconst (v := 1) dL_law__1869 rfl ?_
  refine g_iadd dL_law__1870 ?_
  refine g_scr dL_law__1871 (hin 1 (by decide) (by decide)) ?_
  refine g_aloadC_n (i := 0) (x := 1000) dL_law__1872 rfl rfl ?_
  refine g_iload (i := 4) (x := i) dL_law__1873 rfl ?_
  refine g_iconst (v := 2) dL_law__1875 rfl ?_
  refine g_iadd dL_law__1876 ?_
  refine g_scr dL_law__1877 (hin 2 (by decide) (by decide)) ?_
  refine g_aloadC_n (i := 0) (x := 1000) dL_law__1878 rfl rfl ?_
  refine g_iload (i := 4) (x := i) dL_law__1879 rfl ?_
  refine g_iconst (v := 3) dL_law__1881 rfl ?_
  refine g_iadd dL_law__1882 ?_
  refine g_scr dL_law__1883 (hin 3 (by decide) (by decide)) ?_
  refine g_aload_n (i := 3) (x := 67) dL_law__1884 rfl rfl ?_
  refine g_cE (As := [.ref 0, .int (z_sx X i 1), .int (z_sx X i 2), .int (z_sx X i 3), .ref 67]) (rest := []) (D2 := D1) (v := some (.int r1)) (em_L_night hl hW hO N (z_sx X i 1) (z_sx X i 2) (z_sx X i 3) D _ ⟨_, h1, rfl⟩) (fun _ => rfl) (fun o7 h => z_runSX 212 5 h rfl kk_L_212 kq_L_night rfl (Nat.le_of_ble_eq_true rfl) ⟨Nat.le_of_ble_eq_true rfl, Nat.le_of_ble_eq_true rfl, by show cu + 2 ≤ 601024; omega, by show su + 12 ≤ 7293034; omega⟩ dL_law__1885) hg ?_
  refine g_istore (i := 5) (lv' := [some (.retAddr 1000), some (.ref 0), some (.ref 40), some (.ref 67), some (.int i), some (.int r1), none, none]) dL_law__1888 (by decide) rfl rfl ?_
  refine g_aload_n (i := 2) (x := 40) dL_law__1890 rfl rfl ?_
  refine g_aloadC_n (i := 0) (x := 1000) dL_law__1891 rfl rfl ?_
  refine g_iload (i := 4) (x := i) dL_law__1892 rfl ?_
  refine g_iconst (v := 1) dL_law__1894 rfl ?_
  refine g_iadd dL_law__1895 ?_
  refine g_scr dL_law__1896 (hin 1 (by decide) (by decide)) ?_
  refine g_aloadC_n (i := 0) (x := 1000) dL_law__1897 rfl rfl ?_
  refine g_iload (i := 4) (x := i) dL_law__1898 rfl ?_
  refine g_iconst (v := 2) dL_law__1900 rfl ?_
  refine g_iadd dL_law__1901 ?_
  refine g_scr dL_law__1902 (hin 2 (by decide) (by decide)) ?_
  refine g_aloadC_n (i := 0) (x := 1000) dL_law__1903 rfl rfl ?_
  refine g_iload (i := 4) (x := i) dL_law__1904 rfl ?_
  refine g_iconst (v := 3) dL_law__1906 rfl ?_
  refine g_iadd dL_law__1907 ?_
  refine g_scr dL_law__1908 (hin 3 (by decide) (by decide)) ?_
  refine g_cE (As := [.ref 40, .int (z_sx X i 1), .int (z_sx X i 2), .int (z_sx X i 3)]) (rest := []) (D2 := D2) (v := some (.long r2)) (em_X11_night hl hW N (z_sx X i 1) (z_sx X i 2) (z_sx X i 3) D1 _ ⟨_, h2, rfl⟩) (fun _ => rfl) (fun o7 h => z_runV 214 3 h rfl kk_L_214 hs40 kl_11.1 kq_X11_night rfl (Nat.le_of_ble_eq_true rfl) ⟨Nat.le_of_ble_eq_true rfl, Nat.le_of_ble_eq_true rfl, by show cu + 2 + 0 ≤ 601024; omega, by show su + 12 + 0 ≤ 7293034; omega⟩ dL_law__1909) hg ?_
  refine g_lstore (i := 6) (lv' := [some (.retAddr 1000), some (.ref 0), some (.ref 40), some (.ref 67), some (.int i), some (.int r1), some (.long r2), none]) dL_law__1912 (by decide) rfl rfl ?_
  refine g_aload_n (i := 2) (x := 40) dL_law__1914 rfl rfl ?_
  refine g_cE (As := [.ref 40]) (rest := []) (D2 := D2) (v := some (.int (F_X11_thrown D2))) (em_X11_thrown hl hW D2 _ rfl) (fun _ => rfl) (fun o7 h => z_runV 124 0 h rfl kk_L_124 hs40 kl_11.1 kq_X11_thrown rfl (Nat.le_of_ble_eq_true rfl) ⟨Nat.le_of_ble_eq_true rfl, Nat.le_of_ble_eq_true rfl, by show cu + 2 + 0 + 0 ≤ 601024; omega, by show su + 12 + 0 + 0 ≤ 7293034; omega⟩ dL_law__1915) hg ?_
  refine g_iload (i := 5) (x := r1) dL_law__1918 rfl ?_
  refine g_icmp_eqJ 1925 dL_law__1920 (by decide) he1920 ?_
  refine g_iload (i := 5) (x := r1) dL_law__1925 rfl ?_
  refine (Decidable.em (¬ r1 = 0)).elim (fun c0 => ?_) (fun c0n => ?_)
  · refine g_if_neJ 1941 dL_law__1927 (by decide) c0 ?_
    refine g_goto 2408 dL_law__1941 (by decide) ?_
    exact g_weak (lv' := z_lv0 i) rfl g_lvw kk
  have c0 := Decidable.not_not.mp c0n
  refine g_if_neN 1941 dL_law__1927 (by decide) c0 ?_
  refine g_aload_n (i := 3) (x := 67) dL_law__1930 rfl rfl ?_
  refine g_iconst (v := 0) dL_law__1931 rfl ?_
  refine g_lald (k := 67) dL_law__1932 hO (vp_in_iff.mpr (by decide)) ?_
  refine g_lload (i := 6) (x := r2) dL_law__1933 rfl ?_
  refine g_lcmp dL_law__1935 ?_
  refine g_if_eqJ 1941 dL_law__1936 (by decide) (h0 c0) ?_
  refine g_goto 2408 dL_law__1941 (by decide) ?_
  exact g_weak (lv' := z_lv0 i) rfl g_lvw kk

set_option maxRecDepth 100000 in
set_option maxHeartbeats 4000000 in
theorem case_29_guilds {X : Nat × (Nat → Int32)} {l : Launch} {S : List z_Shp} {o : Nat} {D : z_Dat} {out : z_Out} {cu su : Nat} {i : Int32} (hl : l.stackTraces = false) (hW : z_W S o) (hO : S[67]? = some (1, 1, [])) (N : Nat) (hin : ∀ k : Int32, 0 ≤ k → k ≤ 6 → vp_in (i + k) X.1) (hc : cu + 60 ≤ 601024) (hs : su + 400 ≤ 7293034) (hg : S.length ≤ out.2.1.length) {r1 : Int32} {r2 : Int32} {D1 : z_Dat} {D2 : z_Dat} (h1 : F_L_guilds N o (z_sx X i 1) D = some (r1, D1)) (h2 : F_X11_guilds N (z_sx X i 1) D1 = some (r2, D2)) (he1975 : (F_X11_thrown D2) = r1) (h0 : r1 = 0 → lg_cmp ((z_ldJ D2 67 0)) ((r2).toInt64) = 0)
    (kk : z_G X l M_L_law_ (2048, 84000, 601024, 7293034) (cu + 1 + 0 + 0) (su + 6 + 0 + 0) 2408 [some (.retAddr 1000), some (.ref 0), some (.ref 40), some (.ref 67), some (.int i), none, none, none] [] S D2 out) : z_G X l M_L_law_ (2048, 84000, 601024, 7293034) cu su 1944 [some (.retAddr 1000), some (.ref 0), some (.ref 40), some (.ref 67), some (.int i), none, none, none] [] S D out := by
  have hs0 := hW.1 0 _ rfl
  have hs40 := hW.1 40 _ rfl
  refine g_aload_n (i := 1) (x := 0) dL_law__1944 rfl rfl ?_
  refine g_aloadC_n (i := 0) (x := 1000) dL_law__1945 rfl rfl ?_
  refine g_iload (i := 4) (x := i) dL_law__1946 rfl ?_
  refine g_iconst (v := 1) dL_law__1948 rfl ?_
  refine g_iadd dL_law__1949 ?_
  refine g_scr dL_law__1950 (hin 1 (by decide) (by decide)) ?_
  refine g_aload_n (i := 3) (x := 67) dL_law__1951 rfl rfl ?_
  refine g_cE (As := [.ref 0, .int (z_sx X i 1), .ref 67]) (rest := []) (D2 := D1) (v := some (.int r1)) (em_L_guilds hl hW hO N (z_sx X i 1) D _ ⟨_, h1, rfl⟩) (fun _ => rfl) (fun o7 h => z_runSX 215 3 h rfl kk_L_215 kq_L_guilds rfl (Nat.le_of_ble_eq_true rfl) ⟨Nat.le_of_ble_eq_true rfl, Nat.le_of_ble_eq_true rfl, by show cu + 1 ≤ 601024; omega, by show su + 6 ≤ 7293034; omega⟩ dL_law__1952) hg ?_
  refine g_istore (i := 5) (lv' := [some (.retAddr 1000), some (.ref 0), some (.ref 40), some (.ref 67), some (.int i), some (.int r1), none, none]) dL_law__1955 (by decide) rfl rfl ?_
  refine g_aload_n (i := 2) (x := 40) dL_law__1957 rfl rfl ?_
  refine g_aloadC_n (i := 0) (x := 1000) dL_law__1958 rfl rfl ?_
  refine g_iload (i := 4) (x := i) dL_law__1959 rfl ?_
  refine g_iconst (v := 1) dL_law__1961 rfl ?_
  refine g_iadd dL_law__1962 ?_
  refine g_scr dL_law__1963 (hin 1 (by decide) (by decide)) ?_
  refine g_cE (As := [.ref 40, .int (z_sx X i 1)]) (rest := []) (D2 := D2) (v := some (.int r2)) (em_X11_guilds hl hW N (z_sx X i 1) D1 _ ⟨_, h2, rfl⟩) (fun _ => rfl) (fun o7 h => z_runV 217 1 h rfl kk_L_217 hs40 kl_11.1 kq_X11_guilds rfl (Nat.le_of_ble_eq_true rfl) ⟨Nat.le_of_ble_eq_true rfl, Nat.le_of_ble_eq_true rfl, by show cu + 1 + 0 ≤ 601024; omega, by show su + 6 + 0 ≤ 7293034; omega⟩ dL_law__1964) hg ?_
  refine g_istore (i := 6) (lv' := [some (.retAddr 1000), some (.ref 0), some (.ref 40), some (.ref 67), some (.int i), some (.int r1), some (.int r2), none]) dL_law__1967 (by decide) rfl rfl ?_
  refine g_aload_n (i := 2) (x := 40) dL_law__1969 rfl rfl ?_
  refine g_cE (As := [.ref 40]) (rest := []) (D2 := D2) (v := some (.int (F_X11_thrown D2))) (em_X11_thrown hl hW D2 _ rfl) (fun _ => rfl) (fun o7 h => z_runV 124 0 h rfl kk_L_124 hs40 kl_11.1 kq_X11_thrown rfl (Nat.le_of_ble_eq_true rfl) ⟨Nat.le_of_ble_eq_true rfl, Nat.le_of_ble_eq_true rfl, by show cu + 1 + 0 + 0 ≤ 601024; omega, by show su + 6 + 0 + 0 ≤ 7293034; omega⟩ dL_law__1970) hg ?_
  refine g_iload (i := 5) (x := r1) dL_law__1973 rfl ?_
  refine g_icmp_eqJ 1980 dL_law__1975 (by decide) he1975 ?_
  refine g_iload (i := 5) (x := r1) dL_law__1980 rfl ?_
  refine (Decidable.em (¬ r1 = 0)).elim (fun c0 => ?_) (fun c0n => ?_)
  · refine g_if_neJ 1997 dL_law__1982 (by decide) c0 ?_
    refine g_goto 2408 dL_law__1997 (by decide) ?_
    exact g_weak (lv' := z_lv0 i) rfl g_lvw kk
  have c0 := Decidable.not_not.mp c0n
  refine g_if_neN 1997 dL_law__1982 (by decide) c0 ?_
  refine g_aload_n (i := 3) (x := 67) dL_law__1985 rfl rfl ?_
  refine g_iconst (v := 0) dL_law__1986 rfl ?_
  refine g_lald (k := 67) dL_law__1987 hO (vp_in_iff.mpr (by decide)) ?_
  refine g_iload (i := 6) (x := r2) dL_law__1988 rfl ?_
  refine g_i2l dL_law__1990 ?_
  refine g_lcmp dL_law__1991 ?_
  refine g_if_eqJ 1997 dL_law__1992 (by decide) (h0 c0) ?_
  refine g_goto 2408 dL_law__1997 (by decide) ?_
  exact g_weak (lv' := z_lv0 i) rfl g_lvw kk

set_option maxRecDepth 100000 in
set_option maxHeartbeats 4000000 in
theorem case_30_follows {X : Nat × (Nat → Int32)} {l : Launch} {S : List z_Shp} {o : Nat} {D : z_Dat} {out : z_Out} {cu su : Nat} {i : Int32} (hl : l.stackTraces = false) (hW : z_W S o) (hO : S[67]? = some (1, 1, [])) (N : Nat) (hin : ∀ k : Int32, 0 ≤ k → k ≤ 6 → vp_in (i + k) X.1) (hc : cu + 60 ≤ 601024) (hs : su + 400 ≤ 7293034) (hg : S.length ≤ out.2.1.length) {r1 : Int32} {r2 : Int32} {D1 : z_Dat} {D2 : z_Dat} (h1 : F_L_follows N o (z_sx X i 1) (z_sx X i 2) D = some (r1, D1)) (h2 : F_X11_follows N (z_sx X i 1) (z_sx X i 2) D1 = some (r2, D2)) (he2043 : (F_X11_thrown D2) = r1) (h0 : r1 = 0 → lg_cmp ((z_ldJ D2 67 0)) ((r2).toInt64) = 0)
    (kk : z_G X l M_L_law_ (2048, 84000, 601024, 7293034) (cu + 1 + 0 + 0) (su + 6 + 0 + 0) 2408 [some (.retAddr 1000), some (.ref 0), some (.ref 40), some (.ref 67), some (.int i), none, none, none] [] S D2 out) : z_G X l M_L_law_ (2048, 84000, 601024, 7293034) cu su 2000 [some (.retAddr 1000), some (.ref 0), some (.ref 40), some (.ref 67), some (.int i), none, none, none] [] S D out := by
  have hs0 := hW.1 0 _ rfl
  have hs40 := hW.1 40 _ rfl
  refine g_aload_n (i := 1) (x := 0) dL_law__2000 rfl rfl ?_
  refine g_aloadC_n (i := 0) (x := 1000) dL_law__2001 rfl rfl ?_
  refine g_iload (i := 4) (x := i) dL_law__2002 rfl ?_
  refine g_iconst (v := 1) dL_law__2004 rfl ?_
  refine g_iadd dL_law__2005 ?_
  refine g_scr dL_law__2006 (hin 1 (by decide) (by decide)) ?_
  refine g_aloadC_n (i := 0) (x := 1000) dL_law__2007 rfl rfl ?_
  refine g_iload (i := 4) (x := i) dL_law__2008 rfl ?_
  refine g_iconst (v := 2) dL_law__2010 rfl ?_
  refine g_iadd dL_law__2011 ?_
  refine g_scr dL_law__2012 (hin 2 (by decide) (by decide)) ?_
  refine g_aload_n (i := 3) (x := 67) dL_law__2013 rfl rfl ?_
  refine g_cE (As := [.ref 0, .int (z_sx X i 1), .int (z_sx X i 2), .ref 67]) (rest := []) (D2 := D1) (v := some (.int r1)) (em_L_follows hl hW hO N (z_sx X i 1) (z_sx X i 2) D _ ⟨_, h1, rfl⟩) (fun _ => rfl) (fun o7 h => z_runSX 218 4 h rfl kk_L_218 kq_L_follows rfl (Nat.le_of_ble_eq_true rfl) ⟨Nat.le_of_ble_eq_true rfl, Nat.le_of_ble_eq_true rfl, by show cu + 1 ≤ 601024; omega, by show su + 6 ≤ 7293034; omega⟩ dL_law__2014) hg ?_
  refine g_istore (i := 5) (lv' := [some (.retAddr 1000), some (.ref 0), some (.ref 40), some (.ref 67), some (.int i), some (.int r1), none, none]) dL_law__2017 (by decide) rfl rfl ?_
  refine g_aload_n (i := 2) (x := 40) dL_law__2019 rfl rfl ?_
  refine g_aloadC_n (i := 0) (x := 1000) dL_law__2020 rfl rfl ?_
  refine g_iload (i := 4) (x := i) dL_law__2021 rfl ?_
  refine g_iconst (v := 1) dL_law__2023 rfl ?_
  refine g_iadd dL_law__2024 ?_
  refine g_scr dL_law__2025 (hin 1 (by decide) (by decide)) ?_
  refine g_aloadC_n (i := 0) (x := 1000) dL_law__2026 rfl rfl ?_
  refine g_iload (i := 4) (x := i) dL_law__2027 rfl ?_
  refine g_iconst (v := 2) dL_law__2029 rfl ?_
  refine g_iadd dL_law__2030 ?_
  refine g_scr dL_law__2031 (hin 2 (by decide) (by decide)) ?_
  refine g_cE (As := [.ref 40, .int (z_sx X i 1), .int (z_sx X i 2)]) (rest := []) (D2 := D2) (v := some (.int r2)) (em_X11_follows hl hW N (z_sx X i 1) (z_sx X i 2) D1 _ ⟨_, h2, rfl⟩) (fun _ => rfl) (fun o7 h => z_runV 220 2 h rfl kk_L_220 hs40 kl_11.1 kq_X11_follows rfl (Nat.le_of_ble_eq_true rfl) ⟨Nat.le_of_ble_eq_true rfl, Nat.le_of_ble_eq_true rfl, by show cu + 1 + 0 ≤ 601024; omega, by show su + 6 + 0 ≤ 7293034; omega⟩ dL_law__2032) hg ?_
  refine g_istore (i := 6) (lv' := [some (.retAddr 1000), some (.ref 0), some (.ref 40), some (.ref 67), some (.int i), some (.int r1), some (.int r2), none]) dL_law__2035 (by decide) rfl rfl ?_
  refine g_aload_n (i := 2) (x := 40) dL_law__2037 rfl rfl ?_
  refine g_cE (As := [.ref 40]) (rest := []) (D2 := D2) (v := some (.int (F_X11_thrown D2))) (em_X11_thrown hl hW D2 _ rfl) (fun _ => rfl) (fun o7 h => z_runV 124 0 h rfl kk_L_124 hs40 kl_11.1 kq_X11_thrown rfl (Nat.le_of_ble_eq_true rfl) ⟨Nat.le_of_ble_eq_true rfl, Nat.le_of_ble_eq_true rfl, by show cu + 1 + 0 + 0 ≤ 601024; omega, by show su + 6 + 0 + 0 ≤ 7293034; omega⟩ dL_law__2038) hg ?_
  refine g_iload (i := 5) (x := r1) dL_law__2041 rfl ?_
  refine g_icmp_eqJ 2048 dL_law__2043 (by decide) he2043 ?_
  refine g_iload (i := 5) (x := r1) dL_law__2048 rfl ?_
  refine (Decidable.em (¬ r1 = 0)).elim (fun c0 => ?_) (fun c0n => ?_)
  · refine g_if_neJ 2065 dL_law__2050 (by decide) c0 ?_
    refine g_goto 2408 dL_law__2065 (by decide) ?_
    exact g_weak (lv' := z_lv0 i) rfl g_lvw kk
  have c0 := Decidable.not_not.mp c0n
  refine g_if_neN 2065 dL_law__2050 (by decide) c0 ?_
  refine g_aload_n (i := 3) (x := 67) dL_law__2053 rfl rfl ?_
  refine g_iconst (v := 0) dL_law__2054 rfl ?_
  refine g_lald (k := 67) dL_law__2055 hO (vp_in_iff.mpr (by decide)) ?_
  refine g_iload (i := 6) (x := r2) dL_law__2056 rfl ?_
  refine g_i2l dL_law__2058 ?_
  refine g_lcmp dL_law__2059 ?_
  refine g_if_eqJ 2065 dL_law__2060 (by decide) (h0 c0) ?_
  refine g_goto 2408 dL_law__2065 (by decide) ?_
  exact g_weak (lv' := z_lv0 i) rfl g_lvw kk

set_option maxRecDepth 100000 in
set_option maxHeartbeats 4000000 in
theorem case_31_ahead {X : Nat × (Nat → Int32)} {l : Launch} {S : List z_Shp} {o : Nat} {D : z_Dat} {out : z_Out} {cu su : Nat} {i : Int32} (hl : l.stackTraces = false) (hW : z_W S o) (hO : S[67]? = some (1, 1, [])) (N : Nat) (hin : ∀ k : Int32, 0 ≤ k → k ≤ 6 → vp_in (i + k) X.1) (hc : cu + 60 ≤ 601024) (hs : su + 400 ≤ 7293034) (hg : S.length ≤ out.2.1.length) {r1 : Int32} {r2 : Int32} {D1 : z_Dat} {D2 : z_Dat} (h1 : F_L_ahead N o (z_sx X i 1) (z_sx X i 2) D = some (r1, D1)) (h2 : F_X11_ahead N (z_sx X i 1) (z_sx X i 2) D1 = some (r2, D2)) (he2111 : (F_X11_thrown D2) = r1) (h0 : r1 = 0 → lg_cmp ((z_ldJ D2 67 0)) ((r2).toInt64) = 0)
    (kk : z_G X l M_L_law_ (2048, 84000, 601024, 7293034) (cu + 1 + 0 + 0) (su + 6 + 0 + 0) 2408 [some (.retAddr 1000), some (.ref 0), some (.ref 40), some (.ref 67), some (.int i), none, none, none] [] S D2 out) : z_G X l M_L_law_ (2048, 84000, 601024, 7293034) cu su 2068 [some (.retAddr 1000), some (.ref 0), some (.ref 40), some (.ref 67), some (.int i), none, none, none] [] S D out := by
  have hs0 := hW.1 0 _ rfl
  have hs40 := hW.1 40 _ rfl
  refine g_aload_n (i := 1) (x := 0) dL_law__2068 rfl rfl ?_
  refine g_aloadC_n (i := 0) (x := 1000) dL_law__2069 rfl rfl ?_
  refine g_iload (i := 4) (x := i) dL_law__2070 rfl ?_
  refine g_iconst (v := 1) dL_law__2072 rfl ?_
  refine g_iadd dL_law__2073 ?_
  refine g_scr dL_law__2074 (hin 1 (by decide) (by decide)) ?_
  refine g_aloadC_n (i := 0) (x := 1000) dL_law__2075 rfl rfl ?_
  refine g_iload (i := 4) (x := i) dL_law__2076 rfl ?_
  refine g_iconst (v := 2) dL_law__2078 rfl ?_
  refine g_iadd dL_law__2079 ?_
  refine g_scr dL_law__2080 (hin 2 (by decide) (by decide)) ?_
  refine g_aload_n (i := 3) (x := 67) dL_law__2081 rfl rfl ?_
  refine g_cE (As := [.ref 0, .int (z_sx X i 1), .int (z_sx X i 2), .ref 67]) (rest := []) (D2 := D1) (v := some (.int r1)) (em_L_ahead hl hW hO N (z_sx X i 1) (z_sx X i 2) D _ ⟨_, h1, rfl⟩) (fun _ => rfl) (fun o7 h => z_runSX 221 4 h rfl kk_L_221 kq_L_ahead rfl (Nat.le_of_ble_eq_true rfl) ⟨Nat.le_of_ble_eq_true rfl, Nat.le_of_ble_eq_true rfl, by show cu + 1 ≤ 601024; omega, by show su + 6 ≤ 7293034; omega⟩ dL_law__2082) hg ?_
  refine g_istore (i := 5) (lv' := [some (.retAddr 1000), some (.ref 0), some (.ref 40), some (.ref 67), some (.int i), some (.int r1), none, none]) dL_law__2085 (by decide) rfl rfl ?_
  refine g_aload_n (i := 2) (x := 40) dL_law__2087 rfl rfl ?_
  refine g_aloadC_n (i := 0) (x := 1000) dL_law__2088 rfl rfl ?_
  refine g_iload (i := 4) (x := i) dL_law__2089 rfl ?_
  refine g_iconst (v := 1) dL_law__2091 rfl ?_
  refine g_iadd dL_law__2092 ?_
  refine g_scr dL_law__2093 (hin 1 (by decide) (by decide)) ?_
  refine g_aloadC_n (i := 0) (x := 1000) dL_law__2094 rfl rfl ?_
  refine g_iload (i := 4) (x := i) dL_law__2095 rfl ?_
  refine g_iconst (v := 2) dL_law__2097 rfl ?_
  refine g_iadd dL_law__2098 ?_
  refine g_scr dL_law__2099 (hin 2 (by decide) (by decide)) ?_
  refine g_cE (As := [.ref 40, .int (z_sx X i 1), .int (z_sx X i 2)]) (rest := []) (D2 := D2) (v := some (.int r2)) (em_X11_ahead hl hW N (z_sx X i 1) (z_sx X i 2) D1 _ ⟨_, h2, rfl⟩) (fun _ => rfl) (fun o7 h => z_runV 223 2 h rfl kk_L_223 hs40 kl_11.1 kq_X11_ahead rfl (Nat.le_of_ble_eq_true rfl) ⟨Nat.le_of_ble_eq_true rfl, Nat.le_of_ble_eq_true rfl, by show cu + 1 + 0 ≤ 601024; omega, by show su + 6 + 0 ≤ 7293034; omega⟩ dL_law__2100) hg ?_
  refine g_istore (i := 6) (lv' := [some (.retAddr 1000), some (.ref 0), some (.ref 40), some (.ref 67), some (.int i), some (.int r1), some (.int r2), none]) dL_law__2103 (by decide) rfl rfl ?_
  refine g_aload_n (i := 2) (x := 40) dL_law__2105 rfl rfl ?_
  refine g_cE (As := [.ref 40]) (rest := []) (D2 := D2) (v := some (.int (F_X11_thrown D2))) (em_X11_thrown hl hW D2 _ rfl) (fun _ => rfl) (fun o7 h => z_runV 124 0 h rfl kk_L_124 hs40 kl_11.1 kq_X11_thrown rfl (Nat.le_of_ble_eq_true rfl) ⟨Nat.le_of_ble_eq_true rfl, Nat.le_of_ble_eq_true rfl, by show cu + 1 + 0 + 0 ≤ 601024; omega, by show su + 6 + 0 + 0 ≤ 7293034; omega⟩ dL_law__2106) hg ?_
  refine g_iload (i := 5) (x := r1) dL_law__2109 rfl ?_
  refine g_icmp_eqJ 2116 dL_law__2111 (by decide) he2111 ?_
  refine g_iload (i := 5) (x := r1) dL_law__2116 rfl ?_
  refine (Decidable.em (¬ r1 = 0)).elim (fun c0 => ?_) (fun c0n => ?_)
  · refine g_if_neJ 2133 dL_law__2118 (by decide) c0 ?_
    refine g_goto 2408 dL_law__2133 (by decide) ?_
    exact g_weak (lv' := z_lv0 i) rfl g_lvw kk
  have c0 := Decidable.not_not.mp c0n
  refine g_if_neN 2133 dL_law__2118 (by decide) c0 ?_
  refine g_aload_n (i := 3) (x := 67) dL_law__2121 rfl rfl ?_
  refine g_iconst (v := 0) dL_law__2122 rfl ?_
  refine g_lald (k := 67) dL_law__2123 hO (vp_in_iff.mpr (by decide)) ?_
  refine g_iload (i := 6) (x := r2) dL_law__2124 rfl ?_
  refine g_i2l dL_law__2126 ?_
  refine g_lcmp dL_law__2127 ?_
  refine g_if_eqJ 2133 dL_law__2128 (by decide) (h0 c0) ?_
  refine g_goto 2408 dL_law__2133 (by decide) ?_
  exact g_weak (lv' := z_lv0 i) rfl g_lvw kk

set_option maxRecDepth 100000 in
set_option maxHeartbeats 4000000 in
theorem case_32_ages {X : Nat × (Nat → Int32)} {l : Launch} {S : List z_Shp} {o : Nat} {D : z_Dat} {out : z_Out} {cu su : Nat} {i : Int32} (hl : l.stackTraces = false) (hW : z_W S o) (hO : S[67]? = some (1, 1, [])) (N : Nat) (hin : ∀ k : Int32, 0 ≤ k → k ≤ 6 → vp_in (i + k) X.1) (hc : cu + 60 ≤ 601024) (hs : su + 400 ≤ 7293034) (hg : S.length ≤ out.2.1.length) {r1 : Int32} {r2 : Int32} {D1 : z_Dat} {D2 : z_Dat} (h1 : F_L_ages N o (z_sx X i 1) (z_sx X i 2) (z_sx X i 3) (z_sx X i 4) D = some (r1, D1)) (h2 : F_X11_ages N (z_sx X i 1) (z_sx X i 2) (z_sx X i 3) (z_sx X i 4) D1 = some (r2, D2)) (he2203 : (F_X11_thrown D2) = r1) (h0 : r1 = 0 → lg_cmp ((z_ldJ D2 67 0)) ((r2).toInt64) = 0)
    (kk : z_G X l M_L_law_ (2048, 84000, 601024, 7293034) (cu + 1 + 0 + 0) (su + 6 + 0 + 0) 2408 [some (.retAddr 1000), some (.ref 0), some (.ref 40), some (.ref 67), some (.int i), none, none, none] [] S D2 out) : z_G X l M_L_law_ (2048, 84000, 601024, 7293034) cu su 2136 [some (.retAddr 1000), some (.ref 0), some (.ref 40), some (.ref 67), some (.int i), none, none, none] [] S D out := by
  have hs0 := hW.1 0 _ rfl
  have hs40 := hW.1 40 _ rfl
  refine g_aload_n (i := 1) (x := 0) dL_law__2136 rfl rfl ?_
  refine g_aloadC_n (i := 0) (x := 1000) dL_law__2137 rfl rfl ?_
  refine g_iload (i := 4) (x := i) dL_law__2138 rfl ?_
  refine g_iconst (v := 1) dL_law__2140 rfl ?_
  refine g_iadd dL_law__2141 ?_
  refine g_scr dL_law__2142 (hin 1 (by decide) (by decide)) ?_
  refine g_aloadC_n (i := 0) (x := 1000) dL_law__2143 rfl rfl ?_
  refine g_iload (i := 4) (x := i) dL_law__2144 rfl ?_
  refine g_iconst (v := 2) dL_law__2146 rfl ?_
  refine g_iadd dL_law__2147 ?_
  refine g_scr dL_law__2148 (hin 2 (by decide) (by decide)) ?_
  refine g_aloadC_n (i := 0) (x := 1000) dL_law__2149 rfl rfl ?_
  refine g_iload (i := 4) (x := i) dL_law__2150 rfl ?_
  refine g_iconst (v := 3) dL_law__2152 rfl ?_
  refine g_iadd dL_law__2153 ?_
  refine g_scr dL_law__2154 (hin 3 (by decide) (by decide)) ?_
  refine g_aloadC_n (i := 0) (x := 1000) dL_law__2155 rfl rfl ?_
  refine g_iload (i := 4) (x := i) dL_law__2156 rfl ?_
  refine g_iconst (v := 4) dL_law__2158 rfl ?_
  refine g_iadd dL_law__2159 ?_
  refine g_scr dL_law__2160 (hin 4 (by decide) (by decide)) ?_
  refine g_aload_n (i := 3) (x := 67) dL_law__2161 rfl rfl ?_
  refine g_cE (As := [.ref 0, .int (z_sx X i 1), .int (z_sx X i 2), .int (z_sx X i 3), .int (z_sx X i 4), .ref 67]) (rest := []) (D2 := D1) (v := some (.int r1)) (em_L_ages hl hW hO N (z_sx X i 1) (z_sx X i 2) (z_sx X i 3) (z_sx X i 4) D _ ⟨_, h1, rfl⟩) (fun _ => rfl) (fun o7 h => z_runSX 224 6 h rfl kk_L_224 kq_L_ages rfl (Nat.le_of_ble_eq_true rfl) ⟨Nat.le_of_ble_eq_true rfl, Nat.le_of_ble_eq_true rfl, by show cu + 1 ≤ 601024; omega, by show su + 6 ≤ 7293034; omega⟩ dL_law__2162) hg ?_
  refine g_istore (i := 5) (lv' := [some (.retAddr 1000), some (.ref 0), some (.ref 40), some (.ref 67), some (.int i), some (.int r1), none, none]) dL_law__2165 (by decide) rfl rfl ?_
  refine g_aload_n (i := 2) (x := 40) dL_law__2167 rfl rfl ?_
  refine g_aloadC_n (i := 0) (x := 1000) dL_law__2168 rfl rfl ?_
  refine g_iload (i := 4) (x := i) dL_law__2169 rfl ?_
  refine g_iconst (v := 1) dL_law__2171 rfl ?_
  refine g_iadd dL_law__2172 ?_
  refine g_scr dL_law__2173 (hin 1 (by decide) (by decide)) ?_
  refine g_aloadC_n (i := 0) (x := 1000) dL_law__2174 rfl rfl ?_
  refine g_iload (i := 4) (x := i) dL_law__2175 rfl ?_
  refine g_iconst (v := 2) dL_law__2177 rfl ?_
  refine g_iadd dL_law__2178 ?_
  refine g_scr dL_law__2179 (hin 2 (by decide) (by decide)) ?_
  refine g_aloadC_n (i := 0) (x := 1000) dL_law__2180 rfl rfl ?_
  refine g_iload (i := 4) (x := i) dL_law__2181 rfl ?_
  refine g_iconst (v := 3) dL_law__2183 rfl ?_
  refine g_iadd dL_law__2184 ?_
  refine g_scr dL_law__2185 (hin 3 (by decide) (by decide)) ?_
  refine g_aloadC_n (i := 0) (x := 1000) dL_law__2186 rfl rfl ?_
  refine g_iload (i := 4) (x := i) dL_law__2187 rfl ?_
  refine g_iconst (v := 4) dL_law__2189 rfl ?_
  refine g_iadd dL_law__2190 ?_
  refine g_scr dL_law__2191 (hin 4 (by decide) (by decide)) ?_
  refine g_cE (As := [.ref 40, .int (z_sx X i 1), .int (z_sx X i 2), .int (z_sx X i 3), .int (z_sx X i 4)]) (rest := []) (D2 := D2) (v := some (.int r2)) (em_X11_ages hl hW N (z_sx X i 1) (z_sx X i 2) (z_sx X i 3) (z_sx X i 4) D1 _ ⟨_, h2, rfl⟩) (fun _ => rfl) (fun o7 h => z_runV 227 4 h rfl kk_L_227 hs40 kl_11.1 kq_X11_ages rfl (Nat.le_of_ble_eq_true rfl) ⟨Nat.le_of_ble_eq_true rfl, Nat.le_of_ble_eq_true rfl, by show cu + 1 + 0 ≤ 601024; omega, by show su + 6 + 0 ≤ 7293034; omega⟩ dL_law__2192) hg ?_
  refine g_istore (i := 6) (lv' := [some (.retAddr 1000), some (.ref 0), some (.ref 40), some (.ref 67), some (.int i), some (.int r1), some (.int r2), none]) dL_law__2195 (by decide) rfl rfl ?_
  refine g_aload_n (i := 2) (x := 40) dL_law__2197 rfl rfl ?_
  refine g_cE (As := [.ref 40]) (rest := []) (D2 := D2) (v := some (.int (F_X11_thrown D2))) (em_X11_thrown hl hW D2 _ rfl) (fun _ => rfl) (fun o7 h => z_runV 124 0 h rfl kk_L_124 hs40 kl_11.1 kq_X11_thrown rfl (Nat.le_of_ble_eq_true rfl) ⟨Nat.le_of_ble_eq_true rfl, Nat.le_of_ble_eq_true rfl, by show cu + 1 + 0 + 0 ≤ 601024; omega, by show su + 6 + 0 + 0 ≤ 7293034; omega⟩ dL_law__2198) hg ?_
  refine g_iload (i := 5) (x := r1) dL_law__2201 rfl ?_
  refine g_icmp_eqJ 2208 dL_law__2203 (by decide) he2203 ?_
  refine g_iload (i := 5) (x := r1) dL_law__2208 rfl ?_
  refine (Decidable.em (¬ r1 = 0)).elim (fun c0 => ?_) (fun c0n => ?_)
  · refine g_if_neJ 2225 dL_law__2210 (by decide) c0 ?_
    refine g_goto 2408 dL_law__2225 (by decide) ?_
    exact g_weak (lv' := z_lv0 i) rfl g_lvw kk
  have c0 := Decidable.not_not.mp c0n
  refine g_if_neN 2225 dL_law__2210 (by decide) c0 ?_
  refine g_aload_n (i := 3) (x := 67) dL_law__2213 rfl rfl ?_
  refine g_iconst (v := 0) dL_law__2214 rfl ?_
  refine g_lald (k := 67) dL_law__2215 hO (vp_in_iff.mpr (by decide)) ?_
  refine g_iload (i := 6) (x := r2) dL_law__2216 rfl ?_
  refine g_i2l dL_law__2218 ?_
  refine g_lcmp dL_law__2219 ?_
  refine g_if_eqJ 2225 dL_law__2220 (by decide) (h0 c0) ?_
  refine g_goto 2408 dL_law__2225 (by decide) ?_
  exact g_weak (lv' := z_lv0 i) rfl g_lvw kk

set_option maxRecDepth 100000 in
set_option maxHeartbeats 4000000 in
theorem case_33_span {X : Nat × (Nat → Int32)} {l : Launch} {S : List z_Shp} {o : Nat} {D : z_Dat} {out : z_Out} {cu su : Nat} {i : Int32} (hl : l.stackTraces = false) (hW : z_W S o) (hO : S[67]? = some (1, 1, [])) (N : Nat) (hin : ∀ k : Int32, 0 ≤ k → k ≤ 6 → vp_in (i + k) X.1) (hc : cu + 60 ≤ 601024) (hs : su + 400 ≤ 7293034) (hg : S.length ≤ out.2.1.length) {r1 : Int32} {r2 : Int32} {D1 : z_Dat} {D2 : z_Dat} (h1 : F_L_span N o (z_sx X i 1) (z_sx X i 2) (z_sx X i 3) (z_sx X i 4) (z_sx X i 5) D = some (r1, D1)) (h2 : F_X11_span N (z_sx X i 1) (z_sx X i 2) (z_sx X i 3) (z_sx X i 4) (z_sx X i 5) D1 = some (r2, D2)) (he2307 : (F_X11_thrown D2) = r1) (h0 : r1 = 0 → lg_cmp ((z_ldJ D2 67 0)) ((r2).toInt64) = 0)
    (kk : z_G X l M_L_law_ (2048, 84000, 601024, 7293034) (cu + 2 + 0 + 0) (su + 12 + 0 + 0) 2408 [some (.retAddr 1000), some (.ref 0), some (.ref 40), some (.ref 67), some (.int i), none, none, none] [] S D2 out) : z_G X l M_L_law_ (2048, 84000, 601024, 7293034) cu su 2228 [some (.retAddr 1000), some (.ref 0), some (.ref 40), some (.ref 67), some (.int i), none, none, none] [] S D out := by
  have hs0 := hW.1 0 _ rfl
  have hs40 := hW.1 40 _ rfl
  refine g_aload_n (i := 1) (x := 0) dL_law__2228 rfl rfl ?_
  refine g_aloadC_n (i := 0) (x := 1000) dL_law__2229 rfl rfl ?_
  refine g_iload (i := 4) (x := i) dL_law__2230 rfl ?_
  refine g_iconst (v := 1) dL_law__2232 rfl ?_
  refine g_iadd dL_law__2233 ?_
  refine g_scr dL_law__2234 (hin 1 (by decide) (by decide)) ?_
  refine g_aloadC_n (i := 0) (x := 1000) dL_law__2235 rfl rfl ?_
  refine g_iload (i := 4) (x := i) dL_law__2236 rfl ?_
  refine g_iconst (v := 2) dL_law__2238 rfl ?_
  refine g_iadd dL_law__2239 ?_
  refine g_scr dL_law__2240 (hin 2 (by decide) (by decide)) ?_
  refine g_aloadC_n (i := 0) (x := 1000) dL_law__2241 rfl rfl ?_
  refine g_iload (i := 4) (x := i) dL_law__2242 rfl ?_
  refine g_iconst (v := 3) dL_law__2244 rfl ?_
  refine g_iadd dL_law__2245 ?_
  refine g_scr dL_law__2246 (hin 3 (by decide) (by decide)) ?_
  refine g_aloadC_n (i := 0) (x := 1000) dL_law__2247 rfl rfl ?_
  refine g_iload (i := 4) (x := i) dL_law__2248 rfl ?_
  refine g_iconst (v := 4) dL_law__2250 rfl ?_
  refine g_iadd dL_law__2251 ?_
  refine g_scr dL_law__2252 (hin 4 (by decide) (by decide)) ?_
  refine g_aloadC_n (i := 0) (x := 1000) dL_law__2253 rfl rfl ?_
  refine g_iload (i := 4) (x := i) dL_law__2254 rfl ?_
  refine g_iconst (v := 5) dL_law__2256 rfl ?_
  refine g_iadd dL_law__2257 ?_
  refine g_scr dL_law__2258 (hin 5 (by decide) (by decide)) ?_
  refine g_aload_n (i := 3) (x := 67) dL_law__2259 rfl rfl ?_
  refine g_cE (As := [.ref 0, .int (z_sx X i 1), .int (z_sx X i 2), .int (z_sx X i 3), .int (z_sx X i 4), .int (z_sx X i 5), .ref 67]) (rest := []) (D2 := D1) (v := some (.int r1)) (em_L_span hl hW hO N (z_sx X i 1) (z_sx X i 2) (z_sx X i 3) (z_sx X i 4) (z_sx X i 5) D _ ⟨_, h1, rfl⟩) (fun _ => rfl) (fun o7 h => z_runSX 228 7 h rfl kk_L_228 kq_L_span rfl (Nat.le_of_ble_eq_true rfl) ⟨Nat.le_of_ble_eq_true rfl, Nat.le_of_ble_eq_true rfl, by show cu + 2 ≤ 601024; omega, by show su + 12 ≤ 7293034; omega⟩ dL_law__2260) hg ?_
  refine g_istore (i := 5) (lv' := [some (.retAddr 1000), some (.ref 0), some (.ref 40), some (.ref 67), some (.int i), some (.int r1), none, none]) dL_law__2263 (by decide) rfl rfl ?_
  refine g_aload_n (i := 2) (x := 40) dL_law__2265 rfl rfl ?_
  refine g_aloadC_n (i := 0) (x := 1000) dL_law__2266 rfl rfl ?_
  refine g_iload (i := 4) (x := i) dL_law__2267 rfl ?_
  refine g_iconst (v := 1) dL_law__2269 rfl ?_
  refine g_iadd dL_law__2270 ?_
  refine g_scr dL_law__2271 (hin 1 (by decide) (by decide)) ?_
  refine g_aloadC_n (i := 0) (x := 1000) dL_law__2272 rfl rfl ?_
  refine g_iload (i := 4) (x := i) dL_law__2273 rfl ?_
  refine g_iconst (v := 2) dL_law__2275 rfl ?_
  refine g_iadd dL_law__2276 ?_
  refine g_scr dL_law__2277 (hin 2 (by decide) (by decide)) ?_
  refine g_aloadC_n (i := 0) (x := 1000) dL_law__2278 rfl rfl ?_
  refine g_iload (i := 4) (x := i) dL_law__2279 rfl ?_
  refine g_iconst (v := 3) dL_law__2281 rfl ?_
  refine g_iadd dL_law__2282 ?_
  refine g_scr dL_law__2283 (hin 3 (by decide) (by decide)) ?_
  refine g_aloadC_n (i := 0) (x := 1000) dL_law__2284 rfl rfl ?_
  refine g_iload (i := 4) (x := i) dL_law__2285 rfl ?_
  refine g_iconst (v := 4) dL_law__2287 rfl ?_
  refine g_iadd dL_law__2288 ?_
  refine g_scr dL_law__2289 (hin 4 (by decide) (by decide)) ?_
  refine g_aloadC_n (i := 0) (x := 1000) dL_law__2290 rfl rfl ?_
  refine g_iload (i := 4) (x := i) dL_law__2291 rfl ?_
  refine g_iconst (v := 5) dL_law__2293 rfl ?_
  refine g_iadd dL_law__2294 ?_
  refine g_scr dL_law__2295 (hin 5 (by decide) (by decide)) ?_
  refine g_cE (As := [.ref 40, .int (z_sx X i 1), .int (z_sx X i 2), .int (z_sx X i 3), .int (z_sx X i 4), .int (z_sx X i 5)]) (rest := []) (D2 := D2) (v := some (.int r2)) (em_X11_span hl hW N (z_sx X i 1) (z_sx X i 2) (z_sx X i 3) (z_sx X i 4) (z_sx X i 5) D1 _ ⟨_, h2, rfl⟩) (fun _ => rfl) (fun o7 h => z_runV 231 5 h rfl kk_L_231 hs40 kl_11.1 kq_X11_span rfl (Nat.le_of_ble_eq_true rfl) ⟨Nat.le_of_ble_eq_true rfl, Nat.le_of_ble_eq_true rfl, by show cu + 2 + 0 ≤ 601024; omega, by show su + 12 + 0 ≤ 7293034; omega⟩ dL_law__2296) hg ?_
  refine g_istore (i := 6) (lv' := [some (.retAddr 1000), some (.ref 0), some (.ref 40), some (.ref 67), some (.int i), some (.int r1), some (.int r2), none]) dL_law__2299 (by decide) rfl rfl ?_
  refine g_aload_n (i := 2) (x := 40) dL_law__2301 rfl rfl ?_
  refine g_cE (As := [.ref 40]) (rest := []) (D2 := D2) (v := some (.int (F_X11_thrown D2))) (em_X11_thrown hl hW D2 _ rfl) (fun _ => rfl) (fun o7 h => z_runV 124 0 h rfl kk_L_124 hs40 kl_11.1 kq_X11_thrown rfl (Nat.le_of_ble_eq_true rfl) ⟨Nat.le_of_ble_eq_true rfl, Nat.le_of_ble_eq_true rfl, by show cu + 2 + 0 + 0 ≤ 601024; omega, by show su + 12 + 0 + 0 ≤ 7293034; omega⟩ dL_law__2302) hg ?_
  refine g_iload (i := 5) (x := r1) dL_law__2305 rfl ?_
  refine g_icmp_eqJ 2312 dL_law__2307 (by decide) he2307 ?_
  refine g_iload (i := 5) (x := r1) dL_law__2312 rfl ?_
  refine (Decidable.em (¬ r1 = 0)).elim (fun c0 => ?_) (fun c0n => ?_)
  · refine g_if_neJ 2329 dL_law__2314 (by decide) c0 ?_
    refine g_goto 2408 dL_law__2329 (by decide) ?_
    exact g_weak (lv' := z_lv0 i) rfl g_lvw kk
  have c0 := Decidable.not_not.mp c0n
  refine g_if_neN 2329 dL_law__2314 (by decide) c0 ?_
  refine g_aload_n (i := 3) (x := 67) dL_law__2317 rfl rfl ?_
  refine g_iconst (v := 0) dL_law__2318 rfl ?_
  refine g_lald (k := 67) dL_law__2319 hO (vp_in_iff.mpr (by decide)) ?_
  refine g_iload (i := 6) (x := r2) dL_law__2320 rfl ?_
  refine g_i2l dL_law__2322 ?_
  refine g_lcmp dL_law__2323 ?_
  refine g_if_eqJ 2329 dL_law__2324 (by decide) (h0 c0) ?_
  refine g_goto 2408 dL_law__2329 (by decide) ?_
  exact g_weak (lv' := z_lv0 i) rfl g_lvw kk

set_option maxRecDepth 100000 in
set_option maxHeartbeats 4000000 in
theorem case_34_image {X : Nat × (Nat → Int32)} {l : Launch} {S : List z_Shp} {o : Nat} {D : z_Dat} {out : z_Out} {cu su : Nat} {i : Int32} (hl : l.stackTraces = false) (hW : z_W S o) (hO : S[67]? = some (1, 1, [])) (N : Nat) (hin : ∀ k : Int32, 0 ≤ k → k ≤ 6 → vp_in (i + k) X.1) (hc : cu + 60 ≤ 601024) (hs : su + 400 ≤ 7293034) (hg : S.length ≤ out.2.1.length) {r1 : Int32} {r2 : Int32} {D1 : z_Dat} {D2 : z_Dat} (h1 : F_X10_image N D = some (r1, D1)) (h2 : F_X11_image N D1 = some (r2, D2)) (he2340 : r1 = r2)
    (kk : z_G X l M_L_law_ (2048, 84000, 601024, 7293034) (cu + 0 + 0) (su + 0 + 0) 2408 [some (.retAddr 1000), some (.ref 0), some (.ref 40), some (.ref 67), some (.int i), none, none, none] [] S D2 out) : z_G X l M_L_law_ (2048, 84000, 601024, 7293034) cu su 2332 [some (.retAddr 1000), some (.ref 0), some (.ref 40), some (.ref 67), some (.int i), none, none, none] [] S D out := by
  have hs0 := hW.1 0 _ rfl
  have hs40 := hW.1 40 _ rfl
  refine g_aload_n (i := 1) (x := 0) dL_law__2332 rfl rfl ?_
  refine g_cE (As := [.ref 0]) (rest := []) (D2 := D1) (v := some (.int r1)) (em_X10_image hl hW N D _ ⟨_, h1, rfl⟩) (fun _ => rfl) (fun o7 h => z_runV 232 0 h rfl kk_L_232 hs0 kl_10.1 kq_X10_image rfl (Nat.le_of_ble_eq_true rfl) ⟨Nat.le_of_ble_eq_true rfl, Nat.le_of_ble_eq_true rfl, by show cu + 0 ≤ 601024; omega, by show su + 0 ≤ 7293034; omega⟩ dL_law__2333) hg ?_
  refine g_aload_n (i := 2) (x := 40) dL_law__2336 rfl rfl ?_
  refine g_cE (As := [.ref 40]) (rest := [.int r1]) (D2 := D2) (v := some (.int r2)) (em_X11_image hl hW N D1 _ ⟨_, h2, rfl⟩) (fun _ => rfl) (fun o7 h => z_runV 235 0 h rfl kk_L_235 hs40 kl_11.1 kq_X11_image rfl (Nat.le_of_ble_eq_true rfl) ⟨Nat.le_of_ble_eq_true rfl, Nat.le_of_ble_eq_true rfl, by show cu + 0 + 0 ≤ 601024; omega, by show su + 0 + 0 ≤ 7293034; omega⟩ dL_law__2337) hg ?_
  refine g_icmp_eqJ 2408 dL_law__2340 (by decide) he2340 ?_
  exact g_weak (lv' := z_lv0 i) rfl g_lvw kk

set_option maxRecDepth 100000 in
set_option maxHeartbeats 4000000 in
theorem case_35_restore {X : Nat × (Nat → Int32)} {l : Launch} {S : List z_Shp} {o : Nat} {D : z_Dat} {out : z_Out} {cu su : Nat} {i : Int32} (hl : l.stackTraces = false) (hW : z_W S o) (hO : S[67]? = some (1, 1, [])) (N : Nat) (hin : ∀ k : Int32, 0 ≤ k → k ≤ 6 → vp_in (i + k) X.1) (hc : cu + 60 ≤ 601024) (hs : su + 400 ≤ 7293034) (hg : S.length ≤ out.2.1.length) {r1 : Int32} {r2 : Int32} {D1 : z_Dat} {D2 : z_Dat} (h1 : F_X10_restore N D = some (r1, D1)) (h2 : F_X11_restore N D1 = some (r2, D2)) (he2353 : r1 = r2)
    (kk : z_G X l M_L_law_ (2048, 84000, 601024, 7293034) (cu + 0 + 0) (su + 0 + 0) 2408 [some (.retAddr 1000), some (.ref 0), some (.ref 40), some (.ref 67), some (.int i), none, none, none] [] S D2 out) : z_G X l M_L_law_ (2048, 84000, 601024, 7293034) cu su 2345 [some (.retAddr 1000), some (.ref 0), some (.ref 40), some (.ref 67), some (.int i), none, none, none] [] S D out := by
  have hs0 := hW.1 0 _ rfl
  have hs40 := hW.1 40 _ rfl
  refine g_aload_n (i := 1) (x := 0) dL_law__2345 rfl rfl ?_
  refine g_cE (As := [.ref 0]) (rest := []) (D2 := D1) (v := some (.int r1)) (em_X10_restore hl hW N D _ ⟨_, h1, rfl⟩) (fun _ => rfl) (fun o7 h => z_runV 236 0 h rfl kk_L_236 hs0 kl_10.1 kq_X10_restore rfl (Nat.le_of_ble_eq_true rfl) ⟨Nat.le_of_ble_eq_true rfl, Nat.le_of_ble_eq_true rfl, by show cu + 0 ≤ 601024; omega, by show su + 0 ≤ 7293034; omega⟩ dL_law__2346) hg ?_
  refine g_aload_n (i := 2) (x := 40) dL_law__2349 rfl rfl ?_
  refine g_cE (As := [.ref 40]) (rest := [.int r1]) (D2 := D2) (v := some (.int r2)) (em_X11_restore hl hW N D1 _ ⟨_, h2, rfl⟩) (fun _ => rfl) (fun o7 h => z_runV 239 0 h rfl kk_L_239 hs40 kl_11.1 kq_X11_restore rfl (Nat.le_of_ble_eq_true rfl) ⟨Nat.le_of_ble_eq_true rfl, Nat.le_of_ble_eq_true rfl, by show cu + 0 + 0 ≤ 601024; omega, by show su + 0 + 0 ≤ 7293034; omega⟩ dL_law__2350) hg ?_
  refine g_icmp_eqJ 2408 dL_law__2353 (by decide) he2353 ?_
  exact g_weak (lv' := z_lv0 i) rfl g_lvw kk

set_option maxRecDepth 100000 in
set_option maxHeartbeats 4000000 in
theorem case_36_status {X : Nat × (Nat → Int32)} {l : Launch} {S : List z_Shp} {o : Nat} {D : z_Dat} {out : z_Out} {cu su : Nat} {i : Int32} (hl : l.stackTraces = false) (hW : z_W S o) (hO : S[67]? = some (1, 1, [])) (N : Nat) (hin : ∀ k : Int32, 0 ≤ k → k ≤ 6 → vp_in (i + k) X.1) (hc : cu + 60 ≤ 601024) (hs : su + 400 ≤ 7293034) (hg : S.length ≤ out.2.1.length) {r2 : Int32} {D1 : z_Dat} (h2 : F_X11_status (z_sx X i 1) D = some (r2, D1)) (he2378 : (F_X10_status (z_sx X i 1) D) = r2)
    (kk : z_G X l M_L_law_ (2048, 84000, 601024, 7293034) (cu + 0 + 0) (su + 0 + 0) 2408 [some (.retAddr 1000), some (.ref 0), some (.ref 40), some (.ref 67), some (.int i), none, none, none] [] S D1 out) : z_G X l M_L_law_ (2048, 84000, 601024, 7293034) cu su 2358 [some (.retAddr 1000), some (.ref 0), some (.ref 40), some (.ref 67), some (.int i), none, none, none] [] S D out := by
  have hs0 := hW.1 0 _ rfl
  have hs40 := hW.1 40 _ rfl
  refine g_aload_n (i := 1) (x := 0) dL_law__2358 rfl rfl ?_
  refine g_aloadC_n (i := 0) (x := 1000) dL_law__2359 rfl rfl ?_
  refine g_iload (i := 4) (x := i) dL_law__2360 rfl ?_
  refine g_iconst (v := 1) dL_law__2362 rfl ?_
  refine g_iadd dL_law__2363 ?_
  refine g_scr dL_law__2364 (hin 1 (by decide) (by decide)) ?_
  refine g_cE (As := [.ref 0, .int (z_sx X i 1)]) (rest := []) (D2 := D) (v := some (.int (F_X10_status (z_sx X i 1) D))) (em_X10_status hl hW (z_sx X i 1) D _ rfl) (fun _ => rfl) (fun o7 h => z_runV 240 1 h rfl kk_L_240 hs0 kl_10.1 kq_X10_status rfl (Nat.le_of_ble_eq_true rfl) ⟨Nat.le_of_ble_eq_true rfl, Nat.le_of_ble_eq_true rfl, by show cu + 0 ≤ 601024; omega, by show su + 0 ≤ 7293034; omega⟩ dL_law__2365) hg ?_
  refine g_aload_n (i := 2) (x := 40) dL_law__2368 rfl rfl ?_
  refine g_aloadC_n (i := 0) (x := 1000) dL_law__2369 rfl rfl ?_
  refine g_iload (i := 4) (x := i) dL_law__2370 rfl ?_
  refine g_iconst (v := 1) dL_law__2372 rfl ?_
  refine g_iadd dL_law__2373 ?_
  refine g_scr dL_law__2374 (hin 1 (by decide) (by decide)) ?_
  refine g_cE (As := [.ref 40, .int (z_sx X i 1)]) (rest := [.int (F_X10_status (z_sx X i 1) D)]) (D2 := D1) (v := some (.int r2)) (em_X11_status hl hW (z_sx X i 1) D _ ⟨_, h2, rfl⟩) (fun _ => rfl) (fun o7 h => z_runV 243 1 h rfl kk_L_243 hs40 kl_11.1 kq_X11_status rfl (Nat.le_of_ble_eq_true rfl) ⟨Nat.le_of_ble_eq_true rfl, Nat.le_of_ble_eq_true rfl, by show cu + 0 + 0 ≤ 601024; omega, by show su + 0 + 0 ≤ 7293034; omega⟩ dL_law__2375) hg ?_
  refine g_icmp_eqJ 2408 dL_law__2378 (by decide) he2378 ?_
  exact g_weak (lv' := z_lv0 i) rfl g_lvw kk

set_option maxRecDepth 100000 in
set_option maxHeartbeats 4000000 in
theorem case_37_count {X : Nat × (Nat → Int32)} {l : Launch} {S : List z_Shp} {o : Nat} {D : z_Dat} {out : z_Out} {cu su : Nat} {i : Int32} (hl : l.stackTraces = false) (hW : z_W S o) (hO : S[67]? = some (1, 1, [])) (N : Nat) (hin : ∀ k : Int32, 0 ≤ k → k ≤ 6 → vp_in (i + k) X.1) (hc : cu + 60 ≤ 601024) (hs : su + 400 ≤ 7293034) (hg : S.length ≤ out.2.1.length) {r2 : Int32} {D1 : z_Dat} (h2 : F_X11_count (z_sx X i 1) D = (r2, D1)) (he2403 : (F_X10_count (z_sx X i 1) D) = r2)
    (kk : z_G X l M_L_law_ (2048, 84000, 601024, 7293034) (cu + 0 + 0) (su + 0 + 0) 2408 [some (.retAddr 1000), some (.ref 0), some (.ref 40), some (.ref 67), some (.int i), none, none, none] [] S D1 out) : z_G X l M_L_law_ (2048, 84000, 601024, 7293034) cu su 2383 [some (.retAddr 1000), some (.ref 0), some (.ref 40), some (.ref 67), some (.int i), none, none, none] [] S D out := by
  have hs0 := hW.1 0 _ rfl
  have hs40 := hW.1 40 _ rfl
  refine g_aload_n (i := 1) (x := 0) dL_law__2383 rfl rfl ?_
  refine g_aloadC_n (i := 0) (x := 1000) dL_law__2384 rfl rfl ?_
  refine g_iload (i := 4) (x := i) dL_law__2385 rfl ?_
  refine g_iconst (v := 1) dL_law__2387 rfl ?_
  refine g_iadd dL_law__2388 ?_
  refine g_scr dL_law__2389 (hin 1 (by decide) (by decide)) ?_
  refine g_cE (As := [.ref 0, .int (z_sx X i 1)]) (rest := []) (D2 := D) (v := some (.int (F_X10_count (z_sx X i 1) D))) (em_X10_count hl hW (z_sx X i 1) D _ rfl) (fun _ => rfl) (fun o7 h => z_runV 244 1 h rfl kk_L_244 hs0 kl_10.1 kq_X10_count rfl (Nat.le_of_ble_eq_true rfl) ⟨Nat.le_of_ble_eq_true rfl, Nat.le_of_ble_eq_true rfl, by show cu + 0 ≤ 601024; omega, by show su + 0 ≤ 7293034; omega⟩ dL_law__2390) hg ?_
  refine g_aload_n (i := 2) (x := 40) dL_law__2393 rfl rfl ?_
  refine g_aloadC_n (i := 0) (x := 1000) dL_law__2394 rfl rfl ?_
  refine g_iload (i := 4) (x := i) dL_law__2395 rfl ?_
  refine g_iconst (v := 1) dL_law__2397 rfl ?_
  refine g_iadd dL_law__2398 ?_
  refine g_scr dL_law__2399 (hin 1 (by decide) (by decide)) ?_
  refine g_cE (As := [.ref 40, .int (z_sx X i 1)]) (rest := [.int (F_X10_count (z_sx X i 1) D)]) (D2 := D1) (v := some (.int r2)) (em_X11_count hl hW (z_sx X i 1) D (.inl (some (.int r2)), S, D1) (by rw [h2]; rfl)) (fun _ => rfl) (fun o7 h => z_runV 247 1 h rfl kk_L_247 hs40 kl_11.1 kq_X11_count rfl (Nat.le_of_ble_eq_true rfl) ⟨Nat.le_of_ble_eq_true rfl, Nat.le_of_ble_eq_true rfl, by show cu + 0 + 0 ≤ 601024; omega, by show su + 0 + 0 ≤ 7293034; omega⟩ dL_law__2400) hg ?_
  refine g_icmp_eqJ 2408 dL_law__2403 (by decide) he2403 ?_
  exact g_weak (lv' := z_lv0 i) rfl g_lvw kk
