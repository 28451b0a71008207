/-! ===== a city is read: the method that makes one ===== -/
def z_o0 (o : Nat) : z_Shp := (12, 15, [some (some 1), some (some 3), some (some 5), some (some 7), some (some 12), some (some 15), some (some 21), some (some 25), some (some 28), some (some 32), some (some 33), some (some o), none, none, none])
def z_Sx (S : List z_Shp) (n : Nat) (b : Bool) : List z_Shp := if b then (S ++ z_city n).set 0 (z_o0 n) else S ++ z_city n
def z_kC (n : Nat) (S : List z_Shp) : Int32 × Bool × z_Dat → z_Out := fun a => (.inl (some (.int a.1)), z_Sx S n a.2.1, a.2.2)
def z_kTC (n : Nat) (S : List z_Shp) : (Int32 × Bool × z_Dat) ⊕ (String × z_Dat) → z_Out := fun a => match a with
  | .inl a => z_kC n S a
  | .inr a => (.inr a.1, S, a.2)
theorem z_Sx_len {S : List z_Shp} {n : Nat} {b : Bool} : (z_Sx S n b).length = S.length + 6 := by
  cases b
  · show (S ++ z_city n).length = _
    rw [List.length_append]; rfl
  · show ((S ++ z_city n).set 0 _).length = _
    rw [List.length_set, List.length_append]; rfl
theorem z_gC {S : List z_Shp} {n m : Nat} (h : m ≤ S.length + 6) : ∀ f out, z_ko (z_kC n S) f out → m ≤ out.2.1.length := fun f out ho => by
  obtain ⟨a, -, rfl⟩ := ho
  show m ≤ (z_Sx S n a.2.1).length
  rw [z_Sx_len]
  exact h
theorem z_conv {l : Launch} {M : z_M} {B : z_B} {cu su pc : Nat} {lv : List (Option Value)} {st : List Value} {S : List z_Shp} {D : z_Dat} {γ γ' : Type} {κ : γ → z_Out → Prop} {κ' : γ' → z_Out → Prop} {f : γ} {f' : γ'} (h : ∀ out, κ f out → κ' f' out) (k : z_F l M B cu su pc lv st S D κ' f') : z_F l M B cu su pc lv st S D κ f := fun out ho => k out (h out ho)
theorem z_cXVg {l : Launch} {M M' : z_M} {B B' : z_B} {cu su pc : Nat} {lv : List (Option Value)} {As rest : List Value} {S : List z_Shp} {D : z_Dat} {β : Type} {κ : β ⊕ (String × z_Dat) → z_Out} {F' : Option ((z_Dat) ⊕ (String × z_Dat))} {f : (z_Dat) → Option (β ⊕ (String × z_Dat))} (hh : M.2.2.2.2 = []) (h5 : ∀ b, S.length ≤ (κ (.inl b)).2.1.length) (h6 : ∀ a, κ (.inr a) = (.inr a.1, S, a.2)) (hM : ∀ out, z_ko (z_kTV S) F' out → z_EM l M' B' As S D out) (hr : ∀ o', z_EM l M' B' As S D o' → z_Runs l M B M' B' cu su pc As rest S D o') (h3 : cu + B'.2.2.1 ≤ B.2.2.1) (h4 : su + B'.2.2.2 ≤ B.2.2.2) (kk : ∀ a : z_Dat, z_okv M'.2.2.2.1 (.inl none) → z_F l M B (cu + B'.2.2.1) (su + B'.2.2.2) (pc + 3) lv (rest) S (a) (z_ko κ) (f a)) : z_F l M B cu su pc lv (As.reverse ++ rest) S D (z_ko κ) (z_bt F' f) := by
  intro out ho
  cases hF : F' with
  | none =>
    rw [hF] at ho
    obtain ⟨a, h1, -⟩ := ho
    cases h1
  | some a =>
    have hm := hM _ ⟨a, hF, rfl⟩
    rw [hF] at ho
    cases a with
    | inl a =>
      have k := kk a hm.1 out ho
      obtain ⟨b, -, hb⟩ := ho
      refine ⟨k.1, z_call0 (hr _ hm) rfl (fun _ => rfl) rfl ?_ k.2⟩
      rw [hb]
      cases b with
      | inl b => exact h5 b
      | inr b => rw [h6]; exact Nat.le_refl _
    | inr a =>
      obtain ⟨b, hb1, hb⟩ := ho
      have hb1 : some (Sum.inr a) = some b := hb1
      cases hb1
      subst hb
      rw [h6]
      exact ⟨trivial, z_callT hh (hr _ hm) rfl h3 h4⟩
theorem z_W_app {S T : List z_Shp} {o : Nat} (hW : z_W S o) : z_W (S ++ T) o := by
  have ha : ∀ {k : Nat} {sp : z_Shp}, S[k]? = some sp → (S ++ T)[k]? = some sp := fun {k sp} h => by
    rw [List.getElem?_append_left (List.getElem?_eq_some_iff.mp h).1]
    exact h
  exact ⟨fun k sp h => ha (hW.1 k sp h), ha hW.2.1, ha hW.2.2.1, ha hW.2.2.2.1, ha hW.2.2.2.2.1, ha hW.2.2.2.2.2.1, ha hW.2.2.2.2.2.2⟩
theorem z_isC_new {S : List z_Shp} {n : Nat} (hn : S.length = n) : z_isCity (S ++ z_city n) n :=
  ⟨z_getA hn, z_getA1 hn 0, z_getA1 hn 1, z_getA1 hn 2, z_getA1 hn 3, z_getA1 hn 4⟩
theorem z_W_turn {S : List z_Shp} {o n : Nat} (hW : z_W S o) (hC : z_isCity S n) (hn : 0 < n) : z_W (S.set 0 (z_o0 n)) n := by
  have hl : 0 < S.length := (List.getElem?_eq_some_iff.mp (hW.1 0 _ rfl)).1
  have hne : ∀ {k : Nat}, 0 < k → (S.set 0 (z_o0 n))[k]? = S[k]? := fun {k} hk => List.getElem?_set_ne (Nat.ne_of_lt hk)
  refine ⟨fun k sp h => ?_, ?_, ?_, ?_, ?_, ?_, ?_⟩
  · cases k with
    | zero =>
      rw [List.getElem?_set_self hl]
      exact h
    | succ k =>
      rw [hne (Nat.succ_pos _)]
      exact hW.1 (k + 1) sp h
  · rw [hne hn]; exact hC.1
  · rw [hne (Nat.succ_pos _)]; exact hC.2.1
  · rw [hne (Nat.succ_pos _)]; exact hC.2.2.1
  · rw [hne (Nat.succ_pos _)]; exact hC.2.2.2.1
  · rw [hne (Nat.succ_pos _)]; exact hC.2.2.2.2.1
  · rw [hne (Nat.succ_pos _)]; exact hC.2.2.2.2.2
def F_X10_city2 (N : Nat) (n : Nat) (a0 : Int32) (D : z_Dat) : Option (Int32 × Bool × z_Dat) :=
  z_bd (F_X8_open N a0 D) (fun D1 => z_let (z_new D1 n) (fun D2 => z_let (F_X1_init n D2) (fun D3 => z_bd (F_X1_read N n D3) (fun D4 =>
  if (F_X8_failed D4) = 0 then (z_bd (F_X9_settle N 3 n D4) (fun D5 => z_let (F_X5_repeal D5) (fun D6 => z_bd (F_X0_clear N D6) (fun D7 => z_let (F_X4_clear D7) (fun D8 => z_let (z_up D8 0 12 0) (fun D9 => some (D9 n 6, true, D9)))))))
  else (some (F_X8_verdict D4, false, D4))))))
def F_X10_city (N : Nat) (n : Nat) (a0 : Int32) (D : z_Dat) : Option ((Int32 × Bool × z_Dat) ⊕ (String × z_Dat)) :=
  z_bt (F_X10_demand (F_X8_has a0 600 D) D) (fun D0 => (F_X10_city2 N n a0 D0).map Sum.inl)
set_option maxRecDepth 100000 in
set_option maxHeartbeats 4000000 in
theorem em_X10_city {l : Launch} {S : List z_Shp} {o n : Nat} (hl : l.stackTraces = false) (hW : z_W S o) (hn : S.length = n) (hwf : z_wfb S n = true) (N : Nat) (a0 : Int32) (D : z_Dat) : ∀ out, z_ko (z_kTC n S) (F_X10_city N n a0 D) out → z_EM l M_X10_city (90, 940, 7, 45) [.ref 0, .int a0] S D out := by
  have hs0 : S[0]? = some (12, 15, [some (some 1), some (some 3), some (some 5), some (some 7), some (some 12), some (some 15), some (some 21), some (some 25), some (some 28), some (some 32), some (some 33), some (some o), none, none, none]) := hW.1 0 _ rfl
  have hs1 : S[1]? = some (10, 7, [some (some 2), none, none, none, none, none, none]) := hW.1 1 _ rfl
  have hpos : 0 < n := by rw [← hn]; exact (List.getElem?_eq_some_iff.mp hs0).1
  have hW2 : z_W (S ++ z_city n) o := z_W_app hW
  have hC2 : z_isCity (S ++ z_city n) n := z_isC_new hn
  have ht0 := hW2.1 0 _ rfl
  have ht1 := hW2.1 1 _ rfl
  have hW3 : z_W ((S ++ z_city n).set 0 (z_o0 n)) n := z_W_turn hW2 hC2 hpos
  have hC3 := hW3.2
  have hu0 := hW3.1 0 _ rfl
  have hu3 := hW3.1 3 _ rfl
  have hu4 := hW3.1 4 _ rfl
  have hu7 := hW3.1 7 _ rfl
  have hu12 := hW3.1 12 _ rfl
  have hu21 := hW3.1 21 _ rfl
  have g1 : z_gr S (z_ko (z_kC n S)) := z_gC (by omega)
  have g2 : z_gr (S ++ z_city n) (z_ko (z_kC n S)) := z_gC (by rw [List.length_append]; exact Nat.le_refl _)
  have g3 : z_gr ((S ++ z_city n).set 0 (z_o0 n)) (z_ko (z_kC n S)) := z_gC (by rw [List.length_set, List.length_append]; exact Nat.le_refl _)
  refine z_meth hl rfl kp_X10 (Nat.le_of_ble_eq_true rfl) (lv := [some (.ref 0), some (.int a0), none]) rfl ?_
  unfold F_X10_city
  refine z_aload_n (i := 0) (x := 0) dX10_city_0 rfl rfl ?_
  refine z_aload_n (i := 0) (x := 0) dX10_city_1 rfl rfl ?_
  refine z_getR (j := 0) dX10_city_2 kl_10 hs0 (by decide) rfl rfl kf_X10_12 ?_
  refine z_iload_n (i := 1) (x := a0) dX10_city_5 rfl rfl ?_
  refine z_sipush (v := 600) dX10_city_6 (by decide) ?_
  refine z_cP (As := [.ref 1, .int a0, .int 600]) (rest := [.ref 0]) (em_X8_has hl hW a0 600 D) (fun o7 h => z_runV 98 2 h rfl kk_X10_98 hs1 kl_8.1 kq_X8_has rfl (Nat.le_of_ble_eq_true rfl) ⟨Nat.le_of_ble_eq_true rfl, Nat.le_of_ble_eq_true rfl, Nat.le_of_ble_eq_true rfl, Nat.le_of_ble_eq_true rfl⟩ dX10_city_9) (fun f out ho => by
    obtain ⟨a, -, rfl⟩ := ho
    cases a with
    | inl a => show S.length ≤ (z_Sx S n a.2.1).length; rw [z_Sx_len]; omega
    | inr a => exact Nat.le_refl _) (fun hz1 => ?_)
  refine z_cXVg rfl (fun b => by show S.length ≤ (z_Sx S n b.2.1).length; rw [z_Sx_len]; omega) (fun a => rfl) (As := [.ref 0, .int (F_X8_has a0 600 D)]) (rest := []) (em_X10_demand hl hW (F_X8_has a0 600 D) D) (fun o7 h => z_runV 102 1 h rfl kk_X10_102 hs0 kl_10.1 kq_X10_demand rfl (Nat.le_of_ble_eq_true rfl) ⟨Nat.le_of_ble_eq_true rfl, Nat.le_of_ble_eq_true rfl, Nat.le_of_ble_eq_true rfl, Nat.le_of_ble_eq_true rfl⟩ dX10_city_12) (by decide) (by decide) (fun D0 hz2 => ?_)
  refine z_conv (κ' := z_ko (z_kC n S)) (f' := F_X10_city2 N n a0 D0) (fun out ho => ?_) ?_
  · obtain ⟨b, hb, rfl⟩ := ho
    cases hF : F_X10_city2 N n a0 D0 with
    | none => rw [hF] at hb; cases hb
    | some a => rw [hF] at hb; cases hb; exact ⟨a, rfl, rfl⟩
  unfold F_X10_city2
  refine z_aload_n (i := 0) (x := 0) dX10_city_15 rfl rfl ?_
  refine z_getR (j := 0) dX10_city_16 kl_10 hs0 (by decide) rfl rfl kf_X10_12 ?_
  refine z_iload_n (i := 1) (x := a0) dX10_city_19 rfl rfl ?_
  refine z_cWV (As := [.ref 1, .int a0]) (rest := []) (em_X8_open hl hW N a0 D0) (fun o7 h => z_runV 106 1 h rfl kk_X10_106 hs1 kl_8.1 kq_X8_open rfl (Nat.le_of_ble_eq_true rfl) ⟨Nat.le_of_ble_eq_true rfl, Nat.le_of_ble_eq_true rfl, Nat.le_of_ble_eq_true rfl, Nat.le_of_ble_eq_true rfl⟩ dX10_city_20) g1 (fun D1 hz5 => ?_)
  refine z_newO (n := n) (ci := 1) (N := 8) (rs := [some none, some none, some none, some none, some none, none, none, none]) (S' := S ++ [z_c0]) dX10_city_23 kl_1 tyX1_ok kw_X10_79 (by decide) (by decide +kernel) hn rfl hwf (z_same_of (by simp [z_vok]; try omega) (by simp [z_vok]; try omega)) (z_gC (by omega)) ⟨Nat.le_of_ble_eq_true rfl, Nat.le_of_ble_eq_true rfl⟩ (fun D2 => ?_)
  refine z_dup dX10_city_26 rfl ?_
  refine z_cK (As := [.ref n]) (rest := [.ref n]) (S2 := S ++ z_city n) (D2 := F_X1_init n D2) (B' := (20, 520, 5, 31)) (M' := M_X1_init) (em_X1_init hl hn hwf D2) (fun o7 h => z_runIN 81 0 h rfl rfl rfl kk_X10_81 kn_X10_81 kq_X1_init rfl (Nat.le_of_ble_eq_true rfl) ⟨Nat.le_of_ble_eq_true rfl, Nat.le_of_ble_eq_true rfl, Nat.le_of_ble_eq_true rfl, Nat.le_of_ble_eq_true rfl⟩ dX10_city_27) (z_same_of (by simp [z_vok, z_city, hn]) (by simp [z_vok, z_city, hn]; try omega)) (by simp [z_city]) (z_gC (by simp [z_city])) (fun D3 => ?_)
  refine z_astore_n (i := 2) (x := n) (lv' := [some (.ref 0), some (.int a0), some (.ref n)]) dX10_city_30 rfl (by decide) rfl rfl ?_
  refine z_aload_n (i := 2) (x := n) dX10_city_31 rfl rfl ?_
  refine z_aload_n (i := 0) (x := 0) dX10_city_32 rfl rfl ?_
  refine z_getR (j := 0) dX10_city_33 kl_10 ht0 (by decide) rfl rfl kf_X10_12 ?_
  refine z_cWV (As := [.ref n, .ref 1]) (rest := []) (em_X1_read hl hW2 hC2 N D3) (fun o7 h => z_runV 109 1 h rfl kk_X10_109 hC2.1 kl_1.1 kq_X1_read rfl (Nat.le_of_ble_eq_true rfl) ⟨Nat.le_of_ble_eq_true rfl, Nat.le_of_ble_eq_true rfl, Nat.le_of_ble_eq_true rfl, Nat.le_of_ble_eq_true rfl⟩ dX10_city_36) g2 (fun D4 hz7 => ?_)
  refine z_aload_n (i := 0) (x := 0) dX10_city_39 rfl rfl ?_
  refine z_getR (j := 0) dX10_city_40 kl_10 ht0 (by decide) rfl rfl kf_X10_12 ?_
  refine z_cP (As := [.ref 1]) (rest := []) (em_X8_failed hl hW2 D4) (fun o7 h => z_runV 113 0 h rfl kk_X10_113 ht1 kl_8.1 kq_X8_failed rfl (Nat.le_of_ble_eq_true rfl) ⟨Nat.le_of_ble_eq_true rfl, Nat.le_of_ble_eq_true rfl, Nat.le_of_ble_eq_true rfl, Nat.le_of_ble_eq_true rfl⟩ dX10_city_43) g2 (fun hz9 => ?_)
  refine z_if_eq 57 dX10_city_46 (by decide) (fun c10 => ?_) (fun c10 => ?_)
  · refine z_aload_n (i := 0) (x := 0) dX10_city_57 rfl rfl ?_
    refine z_aload_n (i := 2) (x := n) dX10_city_58 rfl rfl ?_
    refine z_putR (j := 11) (S' := (S ++ z_city n).set 0 (z_o0 n)) dX10_city_59 kl_10 tyX10_ok nmX10 ht0 (by decide) rfl rfl rfl rfl (fun _ => rfl) (fun _ => rfl) kf_X10_82 rfl ?_
    refine z_aload_n (i := 0) (x := 0) dX10_city_62 rfl rfl ?_
    refine z_getR (j := 1) dX10_city_63 kl_10 hu0 (by decide) rfl rfl kf_X10_19 ?_
    refine z_aload_n (i := 2) (x := n) dX10_city_66 rfl rfl ?_
    refine z_cWV (As := [.ref 3, .ref n]) (rest := []) (em_X9_settle hl hW3 ⟨hu3, hu4⟩ hC3 N D4) (fun o7 h => z_runV 120 1 h rfl kk_X10_120 hu3 kl_9.1 kq_X9_settle rfl (Nat.le_of_ble_eq_true rfl) ⟨Nat.le_of_ble_eq_true rfl, Nat.le_of_ble_eq_true rfl, Nat.le_of_ble_eq_true rfl, Nat.le_of_ble_eq_true rfl⟩ dX10_city_67) g3 (fun D5 hz11 => ?_)
    refine z_aload_n (i := 0) (x := 0) dX10_city_70 rfl rfl ?_
    refine z_getR (j := 3) dX10_city_71 kl_10 hu0 (by decide) rfl rfl kf_X10_29 ?_
    refine z_cTV (As := [.ref 7]) (rest := []) (em_X5_repeal hl hW3 D5) (fun o7 h => z_runV 124 0 h rfl kk_X10_124 hu7 kl_5.1 kq_X5_repeal rfl (Nat.le_of_ble_eq_true rfl) ⟨Nat.le_of_ble_eq_true rfl, Nat.le_of_ble_eq_true rfl, Nat.le_of_ble_eq_true rfl, Nat.le_of_ble_eq_true rfl⟩ dX10_city_74) g3 (fun D6 hz12 => ?_)
    refine z_aload_n (i := 0) (x := 0) dX10_city_77 rfl rfl ?_
    refine z_getR (j := 4) dX10_city_78 kl_10 hu0 (by decide) rfl rfl kf_X10_36 ?_
    refine z_cWV (As := [.ref 12]) (rest := []) (em_X0_clear hl hW3 N D6) (fun o7 h => z_runV 127 0 h rfl kk_X10_127 hu12 kl_0.1 kq_X0_clear rfl (Nat.le_of_ble_eq_true rfl) ⟨Nat.le_of_ble_eq_true rfl, Nat.le_of_ble_eq_true rfl, Nat.le_of_ble_eq_true rfl, Nat.le_of_ble_eq_true rfl⟩ dX10_city_81) g3 (fun D7 hz13 => ?_)
    refine z_aload_n (i := 0) (x := 0) dX10_city_84 rfl rfl ?_
    refine z_getR (j := 6) dX10_city_85 kl_10 hu0 (by decide) rfl rfl kf_X10_50 ?_
    refine z_cTV (As := [.ref 21]) (rest := []) (em_X4_clear hl hW3 D7) (fun o7 h => z_runV 130 0 h rfl kk_X10_130 hu21 kl_4.1 kq_X4_clear rfl (Nat.le_of_ble_eq_true rfl) ⟨Nat.le_of_ble_eq_true rfl, Nat.le_of_ble_eq_true rfl, Nat.le_of_ble_eq_true rfl, Nat.le_of_ble_eq_true rfl⟩ dX10_city_88) g3 (fun D8 hz14 => ?_)
    refine z_aload_n (i := 0) (x := 0) dX10_city_91 rfl rfl ?_
    refine z_iconst (v := 0) dX10_city_92 rfl ?_
    refine z_putI (j := 12) dX10_city_93 kl_10 tyX10_ok nmX10 hu0 (by decide) rfl rfl rfl rfl rfl rfl kf_X10_131 (fun D9 => ?_)
    refine z_aload_n (i := 0) (x := 0) dX10_city_96 rfl rfl ?_
    refine z_getR (j := 11) dX10_city_97 kl_10 hu0 (by decide) rfl rfl kf_X10_82 ?_
    refine z_getIN (j := 6) dX10_city_100 kl_1 hC3.1 (by decide) rfl rfl kf_X10_134 ?_
    exact z_ireturn dX10_city_103 (fun out ho => by obtain ⟨a, ha, rfl⟩ := ho; cases ha; rfl) rfl (by simp) (by simp)
  · refine z_aload_n (i := 0) (x := 0) dX10_city_49 rfl rfl ?_
    refine z_getR (j := 0) dX10_city_50 kl_10 ht0 (by decide) rfl rfl kf_X10_12 ?_
    refine z_cP (As := [.ref 1]) (rest := []) (em_X8_verdict hl hW2 D4) (fun o7 h => z_runV 116 0 h rfl kk_X10_116 ht1 kl_8.1 kq_X8_verdict rfl (Nat.le_of_ble_eq_true rfl) ⟨Nat.le_of_ble_eq_true rfl, Nat.le_of_ble_eq_true rfl, Nat.le_of_ble_eq_true rfl, Nat.le_of_ble_eq_true rfl⟩ dX10_city_53) g2 (fun hz15 => ?_)
    exact z_ireturn dX10_city_56 (fun out ho => by obtain ⟨a, ha, rfl⟩ := ho; cases ha; rfl) rfl (by simp) (by simp)
