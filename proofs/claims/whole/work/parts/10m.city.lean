/-! ===== rules of constructors; a new City ===== -/
theorem z_gKt {n : Nat} {SE : List z_Shp} (h : n ≤ SE.length) : ∀ f out, z_kt (z_kV SE) f out → n ≤ out.2.1.length := fun f out ho => by
  cases ho
  exact h
theorem z_gKo {n : Nat} {SE : List z_Shp} (h : n ≤ SE.length) : ∀ f out, z_ko (z_kV SE) f out → n ≤ out.2.1.length := fun f out ho => by
  obtain ⟨a, -, rfl⟩ := ho
  exact h
theorem z_cK {l : Launch} {M M' : z_M} {B B' : z_B} {cu su pc : Nat} {lv : List (Option Value)} {As rest : List Value} {S S2 : List z_Shp} {D D2 : z_Dat} {γ : Type} {κ : γ → z_Out → Prop} {f : z_Dat → γ} (hM : z_EM l M' B' As S D (.inl none, S2, D2)) (hr : ∀ o', z_EM l M' B' As S D o' → z_Runs l M B M' B' cu su pc As rest S D o') (hs : z_same S.length S2.length lv rest) (h1 : S.length ≤ S2.length) (hg : ∀ f out, κ f out → S2.length ≤ out.2.1.length) (kk : ∀ D', z_F l M B (cu + B'.2.2.1) (su + B'.2.2.2) (pc + 3) lv rest S2 D' κ (f D')) : z_F l M B cu su pc lv (As.reverse ++ rest) S D κ (z_let D2 f) := by
  intro out ho
  have k := kk D2 out ho
  exact ⟨k.1, z_call (hr _ hM) rfl (fun _ => rfl) hs h1 (hg _ _ ho) k.2⟩
theorem z_setA {S T : List z_Shp} {x y : z_Shp} {o : Nat} (hn : S.length = o) : (S ++ x :: T).set o y = S ++ y :: T := by
  subst hn
  rw [List.set_append_right _ _ (Nat.le_refl _), Nat.sub_self]
  rfl
theorem z_getA {S T : List z_Shp} {x : z_Shp} {o : Nat} (hn : S.length = o) : (S ++ x :: T)[o]? = some x := by
  subst hn
  rw [List.getElem?_append_right (Nat.le_refl _), Nat.sub_self]
  rfl
theorem z_getA1 {S T : List z_Shp} {x : z_Shp} {o : Nat} (hn : S.length = o) (j : Nat) : (S ++ x :: T)[o + 1 + j]? = T[j]? := by
  subst hn
  rw [List.getElem?_append_right (by omega), show S.length + 1 + j - S.length = j + 1 by omega]
  rfl
theorem z_wfbA {S T : List z_Shp} {n n' : Nat} (h : z_wfb S n = true) (hn : n ≤ n') (hT : ∀ sp ∈ T, ∀ r, some (some r) ∈ sp.2.2 → r < n') : z_wfb (S ++ T) n' = true := by
  unfold z_wfb
  rw [List.all_eq_true]
  intro sp hsp
  rw [List.all_eq_true]
  intro r hr
  rcases List.mem_append.mp hsp with h1 | h1
  · obtain ⟨k, hk⟩ := List.getElem?_of_mem h1
    match r, hr with
    | none, _ => rfl
    | some none, _ => rfl
    | some (some r), hr => exact decide_eq_true (Nat.lt_of_lt_of_le (z_wfb_at h hk r hr) hn)
  · match r, hr with
    | none, _ => rfl
    | some none, _ => rfl
    | some (some r), hr => exact decide_eq_true (hT sp h1 r hr)
theorem kz_arrI : Cond.arrayClass .int ∈ z_gw := List.mem_filter.mpr ⟨z_sub_t1 69 rfl, rfl⟩
theorem kz_arrJ : Cond.arrayClass .long ∈ z_gw := List.mem_filter.mpr ⟨z_sub_t9 26 rfl, rfl⟩
def z_c0 : z_Shp := (3, 8, [some none, some none, some none, some none, some none, none, none, none])
def z_city (o : Nat) : List z_Shp := [(3, 8, [some (some (o + 1)), some (some (o + 2)), some (some (o + 3)), some (some (o + 4)), some (some (o + 5)), none, none, none]), (0, 6, []), (0, 6, []), (0, 8, []), (0, 8, []), (0, 3, [])]
def F_X1_init (o : Nat) (D : z_Dat) : z_Dat :=
  z_let (z_new D (o + 1)) (fun D1 => z_let (z_new D1 (o + 2)) (fun D2 => z_let (z_new D2 (o + 3)) (fun D3 => z_let (z_new D3 (o + 4)) (fun D4 => z_let (z_new D4 (o + 5)) (fun D5 => z_let (z_up D5 (o + 5) (z_ix 0) 50) (fun D6 => z_let (z_up D6 (o + 5) (z_ix 1) 50) (fun D7 => z_let (z_up D7 (o + 5) (z_ix 2) 50) (fun D8 => z_let (z_up D8 o 7 5) (fun D9 => D9)))))))))
set_option maxRecDepth 100000 in
set_option maxHeartbeats 4000000 in
theorem em_X1_init {l : Launch} {S : List z_Shp} {o : Nat} (hl : l.stackTraces = false) (hn : S.length = o) (hwf : z_wfb S o = true) (D : z_Dat) : z_EM l M_X1_init (20, 520, 5, 31) [.ref o] (S ++ [z_c0]) D (.inl none, S ++ z_city o, F_X1_init o D) := by
  refine z_meth (κ := z_kt (z_kV (S ++ z_city o))) (f := F_X1_init o D) hl rfl kp_X1 (Nat.le_of_ble_eq_true rfl) (lv := [some (.ref o)]) rfl ?_ _ rfl
  unfold F_X1_init
  show z_F _ _ _ _ _ _ _ _ (S ++ [(3, 8, [some none, some none, some none, some none, some none, none, none, none])]) _ _ _
  refine z_aload_n (i := 0) (x := o) dX1_init_0 rfl rfl ?_
  refine z_objI dX1_init_1 ko_X1_3 ⟨Nat.le_of_ble_eq_true rfl, Nat.le_of_ble_eq_true rfl⟩ (Nat.le_of_ble_eq_true rfl) ?_
  refine z_aload_n (i := 0) (x := o) dX1_init_4 rfl rfl ?_
  refine z_bipush (v := 6) dX1_init_5 (by decide) ?_
  refine z_newaA (n := o + 1) (N := 6) (S' := S ++ [(3, 8, [some none, some none, some none, some none, some none, none, none, none]), (0, 6, [])]) dX1_init_7 kz_arrI (by decide) (by decide) (by decide) (by simp [hn]) (by simp) (z_wfbA hwf (by omega) (by simp; try omega)) (z_same_of (by simp [z_vok]; try omega) (by simp [z_vok]; try omega)) (z_gKt (by simp [z_city, hn]; try omega)) ⟨Nat.le_of_ble_eq_true rfl, Nat.le_of_ble_eq_true rfl⟩ (fun D1 => ?_)
  refine z_putFR (j := 0) (S' := S ++ [(3, 8, [some (some (o + 1)), some none, some none, some none, some none, none, none, none]), (0, 6, [])]) dX1_init_9 kl_1 tyX1_ok nmX1 (show (S ++ (3, 8, [some none, some none, some none, some none, some none, none, none, none]) :: [(0, 6, [])])[o]? = some (3, 8, [some none, some none, some none, some none, some none, none, none, none]) from z_getA hn) (by decide) rfl rfl rfl rfl rfl rfl (fun _ => rfl) (fun _ => rfl) kf_X1_9 (z_setA hn) ?_
  refine z_aload_n (i := 0) (x := o) dX1_init_12 rfl rfl ?_
  refine z_bipush (v := 6) dX1_init_13 (by decide) ?_
  refine z_newaA (n := o + 2) (N := 6) (S' := S ++ [(3, 8, [some (some (o + 1)), some none, some none, some none, some none, none, none, none]), (0, 6, []), (0, 6, [])]) dX1_init_15 kz_arrI (by decide) (by decide) (by decide) (by simp [hn]) (by simp) (z_wfbA hwf (by omega) (by simp; try omega)) (z_same_of (by simp [z_vok]; try omega) (by simp [z_vok]; try omega)) (z_gKt (by simp [z_city, hn]; try omega)) ⟨Nat.le_of_ble_eq_true rfl, Nat.le_of_ble_eq_true rfl⟩ (fun D2 => ?_)
  refine z_putFR (j := 1) (S' := S ++ [(3, 8, [some (some (o + 1)), some (some (o + 2)), some none, some none, some none, none, none, none]), (0, 6, []), (0, 6, [])]) dX1_init_17 kl_1 tyX1_ok nmX1 (show (S ++ (3, 8, [some (some (o + 1)), some none, some none, some none, some none, none, none, none]) :: [(0, 6, []), (0, 6, [])])[o]? = some (3, 8, [some (some (o + 1)), some none, some none, some none, some none, none, none, none]) from z_getA hn) (by decide) rfl rfl rfl rfl rfl rfl (fun _ => rfl) (fun _ => rfl) kf_X1_15 (z_setA hn) ?_
  refine z_aload_n (i := 0) (x := o) dX1_init_20 rfl rfl ?_
  refine z_bipush (v := 8) dX1_init_21 (by decide) ?_
  refine z_newaA (n := o + 3) (N := 8) (S' := S ++ [(3, 8, [some (some (o + 1)), some (some (o + 2)), some none, some none, some none, none, none, none]), (0, 6, []), (0, 6, []), (0, 8, [])]) dX1_init_23 kz_arrI (by decide) (by decide) (by decide) (by simp [hn]) (by simp) (z_wfbA hwf (by omega) (by simp; try omega)) (z_same_of (by simp [z_vok]; try omega) (by simp [z_vok]; try omega)) (z_gKt (by simp [z_city, hn]; try omega)) ⟨Nat.le_of_ble_eq_true rfl, Nat.le_of_ble_eq_true rfl⟩ (fun D3 => ?_)
  refine z_putFR (j := 2) (S' := S ++ [(3, 8, [some (some (o + 1)), some (some (o + 2)), some (some (o + 3)), some none, some none, none, none, none]), (0, 6, []), (0, 6, []), (0, 8, [])]) dX1_init_25 kl_1 tyX1_ok nmX1 (show (S ++ (3, 8, [some (some (o + 1)), some (some (o + 2)), some none, some none, some none, none, none, none]) :: [(0, 6, []), (0, 6, []), (0, 8, [])])[o]? = some (3, 8, [some (some (o + 1)), some (some (o + 2)), some none, some none, some none, none, none, none]) from z_getA hn) (by decide) rfl rfl rfl rfl rfl rfl (fun _ => rfl) (fun _ => rfl) kf_X1_18 (z_setA hn) ?_
  refine z_aload_n (i := 0) (x := o) dX1_init_28 rfl rfl ?_
  refine z_bipush (v := 8) dX1_init_29 (by decide) ?_
  refine z_newaA (n := o + 4) (N := 8) (S' := S ++ [(3, 8, [some (some (o + 1)), some (some (o + 2)), some (some (o + 3)), some none, some none, none, none, none]), (0, 6, []), (0, 6, []), (0, 8, []), (0, 8, [])]) dX1_init_31 kz_arrI (by decide) (by decide) (by decide) (by simp [hn]) (by simp) (z_wfbA hwf (by omega) (by simp; try omega)) (z_same_of (by simp [z_vok]; try omega) (by simp [z_vok]; try omega)) (z_gKt (by simp [z_city, hn]; try omega)) ⟨Nat.le_of_ble_eq_true rfl, Nat.le_of_ble_eq_true rfl⟩ (fun D4 => ?_)
  refine z_putFR (j := 3) (S' := S ++ [(3, 8, [some (some (o + 1)), some (some (o + 2)), some (some (o + 3)), some (some (o + 4)), some none, none, none, none]), (0, 6, []), (0, 6, []), (0, 8, []), (0, 8, [])]) dX1_init_33 kl_1 tyX1_ok nmX1 (show (S ++ (3, 8, [some (some (o + 1)), some (some (o + 2)), some (some (o + 3)), some none, some none, none, none, none]) :: [(0, 6, []), (0, 6, []), (0, 8, []), (0, 8, [])])[o]? = some (3, 8, [some (some (o + 1)), some (some (o + 2)), some (some (o + 3)), some none, some none, none, none, none]) from z_getA hn) (by decide) rfl rfl rfl rfl rfl rfl (fun _ => rfl) (fun _ => rfl) kf_X1_21 (z_setA hn) ?_
  refine z_aload_n (i := 0) (x := o) dX1_init_36 rfl rfl ?_
  refine z_iconst (v := 3) dX1_init_37 rfl ?_
  refine z_newaA (n := o + 5) (N := 3) (S' := S ++ [(3, 8, [some (some (o + 1)), some (some (o + 2)), some (some (o + 3)), some (some (o + 4)), some none, none, none, none]), (0, 6, []), (0, 6, []), (0, 8, []), (0, 8, []), (0, 3, [])]) dX1_init_38 kz_arrI (by decide) (by decide) (by decide) (by simp [hn]) (by simp) (z_wfbA hwf (by omega) (by simp; try omega)) (z_same_of (by simp [z_vok]; try omega) (by simp [z_vok]; try omega)) (z_gKt (by simp [z_city, hn]; try omega)) ⟨Nat.le_of_ble_eq_true rfl, Nat.le_of_ble_eq_true rfl⟩ (fun D5 => ?_)
  refine z_dup dX1_init_40 rfl ?_
  refine z_iconst (v := 0) dX1_init_41 rfl ?_
  refine z_bipush (v := 50) dX1_init_42 (by decide) ?_
  refine z_iastL (n := 3) (rs := []) dX1_init_44 (z_getA1 hn 4) (vp_in_iff.mpr (by decide)) (fun D6 => ?_)
  refine z_dup dX1_init_45 rfl ?_
  refine z_iconst (v := 1) dX1_init_46 rfl ?_
  refine z_bipush (v := 50) dX1_init_47 (by decide) ?_
  refine z_iastL (n := 3) (rs := []) dX1_init_49 (z_getA1 hn 4) (vp_in_iff.mpr (by decide)) (fun D7 => ?_)
  refine z_dup dX1_init_50 rfl ?_
  refine z_iconst (v := 2) dX1_init_51 rfl ?_
  refine z_bipush (v := 50) dX1_init_52 (by decide) ?_
  refine z_iastL (n := 3) (rs := []) dX1_init_54 (z_getA1 hn 4) (vp_in_iff.mpr (by decide)) (fun D8 => ?_)
  refine z_putFR (j := 4) (S' := S ++ [(3, 8, [some (some (o + 1)), some (some (o + 2)), some (some (o + 3)), some (some (o + 4)), some (some (o + 5)), none, none, none]), (0, 6, []), (0, 6, []), (0, 8, []), (0, 8, []), (0, 3, [])]) dX1_init_55 kl_1 tyX1_ok nmX1 (show (S ++ (3, 8, [some (some (o + 1)), some (some (o + 2)), some (some (o + 3)), some (some (o + 4)), some none, none, none, none]) :: [(0, 6, []), (0, 6, []), (0, 8, []), (0, 8, []), (0, 3, [])])[o]? = some (3, 8, [some (some (o + 1)), some (some (o + 2)), some (some (o + 3)), some (some (o + 4)), some none, none, none, none]) from z_getA hn) (by decide) rfl rfl rfl rfl rfl rfl (fun _ => rfl) (fun _ => rfl) kf_X1_24 (z_setA hn) ?_
  refine z_aload_n (i := 0) (x := o) dX1_init_58 rfl rfl ?_
  refine z_iconst (v := 5) dX1_init_59 rfl ?_
  refine z_putI (j := 7) dX1_init_60 kl_1 tyX1_ok nmX1 (show (S ++ (3, 8, [some (some (o + 1)), some (some (o + 2)), some (some (o + 3)), some (some (o + 4)), some (some (o + 5)), none, none, none]) :: [(0, 6, []), (0, 6, []), (0, 8, []), (0, 8, []), (0, 3, [])])[o]? = some (3, 8, [some (some (o + 1)), some (some (o + 2)), some (some (o + 3)), some (some (o + 4)), some (some (o + 5)), none, none, none]) from z_getA hn) (by decide) rfl rfl rfl rfl rfl rfl kf_X1_27 (fun D9 => ?_)
  exact z_vreturn dX1_init_63 z_rTV trivial (Nat.le_of_ble_eq_true rfl) (Nat.le_of_ble_eq_true rfl)
