/-! ===== methods as functions, and their walks (by program) ===== -/
def F_X10_tones (N : Nat) (o : Nat) (a0 : Int32) (D : z_Dat) : Option ((Int32 × z_Dat) ⊕ (String × z_Dat)) :=
  z_bt (F_X10_demand (F_X10_isShade a0) D) (fun a_3 => z_bd (F_X6_reachable N o a0 a_3) (fun a_5 => some (.inl (a_5.1, a_5.2))))
set_option maxRecDepth 100000 in
set_option maxHeartbeats 4000000 in
theorem em_X10_tones {l : Launch} {S : List z_Shp} {o : Nat} (hl : l.stackTraces = false) (hW : z_W S o) (N : Nat) (a0 : Int32) (D : z_Dat) : ∀ out, z_ko (z_kTI S) (F_X10_tones N o a0 D) out → z_EM l M_X10_tones (60, 700, 1, 6) [.ref 0, .int a0] S D out := by
  have hC := hW.2
  have hs0 : S[0]? = some (12, 15, [some (some 1), some (some 3), some (some 5), some (some 7), some (some 12), some (some 15), some (some 21), some (some 25), some (some 28), some (some 32), some (some 33), some (some o), none, none, none]) := hW.1 0 _ rfl
  have hs25 : S[25]? = some (8, 2, [some (some 26), some (some 27)]) := hW.1 25 _ rfl
  refine z_meth hl rfl kp_X10 (Nat.le_of_ble_eq_true rfl) (lv := [some (.ref 0), some (.int a0)]) rfl ?_
  unfold F_X10_tones
  refine z_aload_n (i := 0) (x := 0) dX10_tones_0 rfl rfl ?_
  refine z_iload_n (i := 1) (x := a0) dX10_tones_1 rfl rfl ?_
  refine z_cP (As := [.int a0]) (rest := [.ref 0]) (em_X10_isShade hl a0 D) (fun o7 h => z_runS 232 1 h rfl kk_X10_232 kq_X10_isShade rfl (Nat.le_of_ble_eq_true rfl) ⟨Nat.le_of_ble_eq_true rfl, Nat.le_of_ble_eq_true rfl, Nat.le_of_ble_eq_true rfl, Nat.le_of_ble_eq_true rfl⟩ dX10_tones_2) z_gXI (fun hz1 => ?_)
  refine z_cXVI rfl (As := [.ref 0, .int (F_X10_isShade a0)]) (rest := []) (em_X10_demand hl hW (F_X10_isShade a0) D) (fun o7 h => z_runV 102 1 h rfl kk_X10_102 hs0 kl_10.1 kq_X10_demand rfl (Nat.le_of_ble_eq_true rfl) ⟨Nat.le_of_ble_eq_true rfl, Nat.le_of_ble_eq_true rfl, Nat.le_of_ble_eq_true rfl, Nat.le_of_ble_eq_true rfl⟩ dX10_tones_5) (by decide) (by decide) (fun a_3 hz2 => ?_)
  refine z_aload_n (i := 0) (x := 0) dX10_tones_8 rfl rfl ?_
  refine z_getR (j := 7) dX10_tones_9 kl_10 hs0 (by decide) rfl rfl kf_X10_57 ?_
  refine z_aload_n (i := 0) (x := 0) dX10_tones_12 rfl rfl ?_
  refine z_getR (j := 11) dX10_tones_13 kl_10 hs0 (by decide) rfl rfl kf_X10_82 ?_
  refine z_iload_n (i := 1) (x := a0) dX10_tones_16 rfl rfl ?_
  refine z_cWI (As := [.ref 25, .ref o, .int a0]) (rest := []) (em_X6_reachable hl hW hC N a0 a_3) (fun o7 h => z_runV 272 2 h rfl kk_X10_272 hs25 kl_6.1 kq_X6_reachable rfl (Nat.le_of_ble_eq_true rfl) ⟨Nat.le_of_ble_eq_true rfl, Nat.le_of_ble_eq_true rfl, Nat.le_of_ble_eq_true rfl, Nat.le_of_ble_eq_true rfl⟩ dX10_tones_17) z_gXI (fun a_5 hz4 => ?_)
  exact z_ireturn dX10_tones_20 z_rXI rfl (by decide) (by decide)

def F_X0_mayBear_J2 : Int32 :=
  1
def F_X0_mayBear_J45 : Int32 :=
  F_X0_mayBear_J2
def F_X0_mayBear_J2x (a0 : Int32) (a1 : Int32) (D : z_Dat) : Int32 :=
  z_let (F_X10_at 13 3 2 D) (fun v8 => if v8 = (-1) then (F_X0_mayBear_J45)
  else (if (F_X10_partOf a0 2) = v8 then (F_X0_mayBear_J45)
  else (if (F_X10_partOf a1 2) = v8 then (F_X0_mayBear_J45)
  else (0))))
def F_X0_mayBear_J45x (a0 : Int32) (a1 : Int32) (D : z_Dat) : Int32 :=
  F_X0_mayBear_J2x a0 a1 D
def F_X0_mayBear_J2xx (a0 : Int32) (a1 : Int32) (D : z_Dat) : Int32 :=
  z_let (F_X10_at 13 3 1 D) (fun v5 => if v5 = (-1) then (F_X0_mayBear_J45x a0 a1 D)
  else (if (F_X10_partOf a0 1) = v5 then (F_X0_mayBear_J45x a0 a1 D)
  else (if (F_X10_partOf a1 1) = v5 then (F_X0_mayBear_J45x a0 a1 D)
  else (0))))
def F_X0_mayBear_J45xx (a0 : Int32) (a1 : Int32) (D : z_Dat) : Int32 :=
  F_X0_mayBear_J2xx a0 a1 D
def F_X0_mayBear_J2xxx (a0 : Int32) (a1 : Int32) (D : z_Dat) : Int32 :=
  z_let (F_X10_at 13 3 0 D) (fun v2 => if v2 = (-1) then (F_X0_mayBear_J45xx a0 a1 D)
  else (if (F_X10_partOf a0 0) = v2 then (F_X0_mayBear_J45xx a0 a1 D)
  else (if (F_X10_partOf a1 0) = v2 then (F_X0_mayBear_J45xx a0 a1 D)
  else (0))))
def F_X0_mayBear (a0 : Int32) (a1 : Int32) (D : z_Dat) : Int32 :=
  F_X0_mayBear_J2xxx a0 a1 D
set_option maxRecDepth 100000 in
set_option maxHeartbeats 4000000 in
theorem em_X0_mayBear {l : Launch} {S : List z_Shp} {oW : Nat} (hl : l.stackTraces = false) (hW : z_W S oW) (a0 : Int32) (a1 : Int32) (D : z_Dat) : ∀ out, z_kt (z_kR S D) (F_X0_mayBear a0 a1 D) out → z_EM l M_X0_mayBear (30, 580, 0, 0) [.ref 12, .int a0, .int a1] S D out := by
  have hs12 : S[12]? = some (2, 3, [some (some 13), some (some 14), none]) := hW.1 12 _ rfl
  have hs13 : S[13]? = some (0, 3, []) := hW.1 13 _ rfl
  refine z_meth hl rfl kp_X0 (Nat.le_of_ble_eq_true rfl) (lv := [some (.ref 12), some (.int a0), some (.int a1), none, none]) rfl ?_
  unfold F_X0_mayBear
  have hJ_F_X0_mayBear_J2 : z_F l M_X0_mayBear (30, 580, 0, 0) 0 0 2 [some (.ref 12), some (.int a0), some (.int a1), some (.int 3), none] [] S D (z_kt (z_kR S D)) (F_X0_mayBear_J2) := by
    unfold F_X0_mayBear_J2
    refine z_iload_n (i := 3) (x := 3) dX0_mayBear_2 rfl rfl ?_
    refine z_iconst (v := 3) dX0_mayBear_3 rfl ?_
    refine z_icmp_geJ 51 dX0_mayBear_4 (by decide) (by decide) ?_
    refine z_iconst (v := 1) dX0_mayBear_51 rfl ?_
    exact z_ireturn dX0_mayBear_52 z_rP rfl (by decide) (by decide)
  have hJ_F_X0_mayBear_J45 : z_F l M_X0_mayBear (30, 580, 0, 0) 0 0 45 [some (.ref 12), some (.int a0), some (.int a1), some (.int 2), none] [] S D (z_kt (z_kR S D)) (F_X0_mayBear_J45) := by
    unfold F_X0_mayBear_J45
    refine z_iincC (i := 3) (x := 2) (v := 3) (lv' := [some (.ref 12), some (.int a0), some (.int a1), some (.int 3), none]) dX0_mayBear_45 rfl (by decide) (by decide) rfl rfl ?_
    refine z_goto 2 dX0_mayBear_48 (by decide) ?_
    exact hJ_F_X0_mayBear_J2
  have hJ_F_X0_mayBear_J2x : z_F l M_X0_mayBear (30, 580, 0, 0) 0 0 2 [some (.ref 12), some (.int a0), some (.int a1), some (.int 2), none] [] S D (z_kt (z_kR S D)) (F_X0_mayBear_J2x a0 a1 D) := by
    unfold F_X0_mayBear_J2x
    refine z_iload_n (i := 3) (x := 2) dX0_mayBear_2 rfl rfl ?_
    refine z_iconst (v := 3) dX0_mayBear_3 rfl ?_
    refine z_icmp_geN 51 dX0_mayBear_4 (by decide) (by decide) ?_
    refine z_aload_n (i := 0) (x := 12) dX0_mayBear_7 rfl rfl ?_
    refine z_getR (j := 0) dX0_mayBear_8 kl_0 hs12 (by decide) rfl rfl kf_X0_9 ?_
    refine z_iload_n (i := 3) (x := 2) dX0_mayBear_11 rfl rfl ?_
    refine z_cP (As := [.ref 13, .int 2]) (rest := []) (em_X10_at (n0 := 3) hl hs13 (by decide) 2 D) (fun o7 h => z_runSN 40 2 h rfl kk_X0_40 kn_X0_40 kq_X10_at rfl (Nat.le_of_ble_eq_true rfl) ⟨Nat.le_of_ble_eq_true rfl, Nat.le_of_ble_eq_true rfl, Nat.le_of_ble_eq_true rfl, Nat.le_of_ble_eq_true rfl⟩ dX0_mayBear_12) z_gP (fun hz7 => ?_)
    refine z_topi (fun v8 => ?_)
    refine z_istore (i := 4) (x := v8) (lv' := [some (.ref 12), some (.int a0), some (.int a1), some (.int 2), some (.int v8)]) dX0_mayBear_15 (by decide) rfl rfl ?_
    refine z_iload (i := 4) (x := v8) dX0_mayBear_17 rfl ?_
    refine z_iconst (v := (-1)) dX0_mayBear_19 rfl ?_
    refine z_icmp_eq 45 dX0_mayBear_20 (by decide) (fun c9 => ?_) (fun c9 => ?_)
    · refine z_weak (lv' := [some (.ref 12), some (.int a0), some (.int a1), some (.int 2), none]) ⟨Or.inr rfl, ⟨Or.inr rfl, ⟨Or.inr rfl, ⟨Or.inr rfl, ⟨Or.inl rfl, trivial⟩⟩⟩⟩⟩ ?_
      exact hJ_F_X0_mayBear_J45
    · refine z_iload_n (i := 1) (x := a0) dX0_mayBear_23 rfl rfl ?_
      refine z_iload_n (i := 3) (x := 2) dX0_mayBear_24 rfl rfl ?_
      refine z_cP (As := [.int a0, .int 2]) (rest := []) (em_X10_partOf hl a0 2 D) (fun o7 h => z_runSN 63 2 h rfl kk_X0_63 kn_X0_63 kq_X10_partOf rfl (Nat.le_of_ble_eq_true rfl) ⟨Nat.le_of_ble_eq_true rfl, Nat.le_of_ble_eq_true rfl, Nat.le_of_ble_eq_true rfl, Nat.le_of_ble_eq_true rfl⟩ dX0_mayBear_25) z_gP (fun hz10 => ?_)
      refine z_iload (i := 4) (x := v8) dX0_mayBear_28 rfl ?_
      refine z_icmp_eq 45 dX0_mayBear_30 (by decide) (fun c11 => ?_) (fun c11 => ?_)
      · refine z_weak (lv' := [some (.ref 12), some (.int a0), some (.int a1), some (.int 2), none]) ⟨Or.inr rfl, ⟨Or.inr rfl, ⟨Or.inr rfl, ⟨Or.inr rfl, ⟨Or.inl rfl, trivial⟩⟩⟩⟩⟩ ?_
        exact hJ_F_X0_mayBear_J45
      · refine z_iload_n (i := 2) (x := a1) dX0_mayBear_33 rfl rfl ?_
        refine z_iload_n (i := 3) (x := 2) dX0_mayBear_34 rfl rfl ?_
        refine z_cP (As := [.int a1, .int 2]) (rest := []) (em_X10_partOf hl a1 2 D) (fun o7 h => z_runSN 63 2 h rfl kk_X0_63 kn_X0_63 kq_X10_partOf rfl (Nat.le_of_ble_eq_true rfl) ⟨Nat.le_of_ble_eq_true rfl, Nat.le_of_ble_eq_true rfl, Nat.le_of_ble_eq_true rfl, Nat.le_of_ble_eq_true rfl⟩ dX0_mayBear_35) z_gP (fun hz12 => ?_)
        refine z_iload (i := 4) (x := v8) dX0_mayBear_38 rfl ?_
        refine z_icmp_eq 45 dX0_mayBear_40 (by decide) (fun c13 => ?_) (fun c13 => ?_)
        · refine z_weak (lv' := [some (.ref 12), some (.int a0), some (.int a1), some (.int 2), none]) ⟨Or.inr rfl, ⟨Or.inr rfl, ⟨Or.inr rfl, ⟨Or.inr rfl, ⟨Or.inl rfl, trivial⟩⟩⟩⟩⟩ ?_
          exact hJ_F_X0_mayBear_J45
        · refine z_iconst (v := 0) dX0_mayBear_43 rfl ?_
          exact z_ireturn dX0_mayBear_44 z_rP rfl (by decide) (by decide)
  have hJ_F_X0_mayBear_J45x : z_F l M_X0_mayBear (30, 580, 0, 0) 0 0 45 [some (.ref 12), some (.int a0), some (.int a1), some (.int 1), none] [] S D (z_kt (z_kR S D)) (F_X0_mayBear_J45x a0 a1 D) := by
    unfold F_X0_mayBear_J45x
    refine z_iincC (i := 3) (x := 1) (v := 2) (lv' := [some (.ref 12), some (.int a0), some (.int a1), some (.int 2), none]) dX0_mayBear_45 rfl (by decide) (by decide) rfl rfl ?_
    refine z_goto 2 dX0_mayBear_48 (by decide) ?_
    exact hJ_F_X0_mayBear_J2x
  have hJ_F_X0_mayBear_J2xx : z_F l M_X0_mayBear (30, 580, 0, 0) 0 0 2 [some (.ref 12), some (.int a0), some (.int a1), some (.int 1), none] [] S D (z_kt (z_kR S D)) (F_X0_mayBear_J2xx a0 a1 D) := by
    unfold F_X0_mayBear_J2xx
    refine z_iload_n (i := 3) (x := 1) dX0_mayBear_2 rfl rfl ?_
    refine z_iconst (v := 3) dX0_mayBear_3 rfl ?_
    refine z_icmp_geN 51 dX0_mayBear_4 (by decide) (by decide) ?_
    refine z_aload_n (i := 0) (x := 12) dX0_mayBear_7 rfl rfl ?_
    refine z_getR (j := 0) dX0_mayBear_8 kl_0 hs12 (by decide) rfl rfl kf_X0_9 ?_
    refine z_iload_n (i := 3) (x := 1) dX0_mayBear_11 rfl rfl ?_
    refine z_cP (As := [.ref 13, .int 1]) (rest := []) (em_X10_at (n0 := 3) hl hs13 (by decide) 1 D) (fun o7 h => z_runSN 40 2 h rfl kk_X0_40 kn_X0_40 kq_X10_at rfl (Nat.le_of_ble_eq_true rfl) ⟨Nat.le_of_ble_eq_true rfl, Nat.le_of_ble_eq_true rfl, Nat.le_of_ble_eq_true rfl, Nat.le_of_ble_eq_true rfl⟩ dX0_mayBear_12) z_gP (fun hz4 => ?_)
    refine z_topi (fun v5 => ?_)
    refine z_istore (i := 4) (x := v5) (lv' := [some (.ref 12), some (.int a0), some (.int a1), some (.int 1), some (.int v5)]) dX0_mayBear_15 (by decide) rfl rfl ?_
    refine z_iload (i := 4) (x := v5) dX0_mayBear_17 rfl ?_
    refine z_iconst (v := (-1)) dX0_mayBear_19 rfl ?_
    refine z_icmp_eq 45 dX0_mayBear_20 (by decide) (fun c6 => ?_) (fun c6 => ?_)
    · refine z_weak (lv' := [some (.ref 12), some (.int a0), some (.int a1), some (.int 1), none]) ⟨Or.inr rfl, ⟨Or.inr rfl, ⟨Or.inr rfl, ⟨Or.inr rfl, ⟨Or.inl rfl, trivial⟩⟩⟩⟩⟩ ?_
      exact hJ_F_X0_mayBear_J45x
    · refine z_iload_n (i := 1) (x := a0) dX0_mayBear_23 rfl rfl ?_
      refine z_iload_n (i := 3) (x := 1) dX0_mayBear_24 rfl rfl ?_
      refine z_cP (As := [.int a0, .int 1]) (rest := []) (em_X10_partOf hl a0 1 D) (fun o7 h => z_runSN 63 2 h rfl kk_X0_63 kn_X0_63 kq_X10_partOf rfl (Nat.le_of_ble_eq_true rfl) ⟨Nat.le_of_ble_eq_true rfl, Nat.le_of_ble_eq_true rfl, Nat.le_of_ble_eq_true rfl, Nat.le_of_ble_eq_true rfl⟩ dX0_mayBear_25) z_gP (fun hz14 => ?_)
      refine z_iload (i := 4) (x := v5) dX0_mayBear_28 rfl ?_
      refine z_icmp_eq 45 dX0_mayBear_30 (by decide) (fun c15 => ?_) (fun c15 => ?_)
      · refine z_weak (lv' := [some (.ref 12), some (.int a0), some (.int a1), some (.int 1), none]) ⟨Or.inr rfl, ⟨Or.inr rfl, ⟨Or.inr rfl, ⟨Or.inr rfl, ⟨Or.inl rfl, trivial⟩⟩⟩⟩⟩ ?_
        exact hJ_F_X0_mayBear_J45x
      · refine z_iload_n (i := 2) (x := a1) dX0_mayBear_33 rfl rfl ?_
        refine z_iload_n (i := 3) (x := 1) dX0_mayBear_34 rfl rfl ?_
        refine z_cP (As := [.int a1, .int 1]) (rest := []) (em_X10_partOf hl a1 1 D) (fun o7 h => z_runSN 63 2 h rfl kk_X0_63 kn_X0_63 kq_X10_partOf rfl (Nat.le_of_ble_eq_true rfl) ⟨Nat.le_of_ble_eq_true rfl, Nat.le_of_ble_eq_true rfl, Nat.le_of_ble_eq_true rfl, Nat.le_of_ble_eq_true rfl⟩ dX0_mayBear_35) z_gP (fun hz16 => ?_)
        refine z_iload (i := 4) (x := v5) dX0_mayBear_38 rfl ?_
        refine z_icmp_eq 45 dX0_mayBear_40 (by decide) (fun c17 => ?_) (fun c17 => ?_)
        · refine z_weak (lv' := [some (.ref 12), some (.int a0), some (.int a1), some (.int 1), none]) ⟨Or.inr rfl, ⟨Or.inr rfl, ⟨Or.inr rfl, ⟨Or.inr rfl, ⟨Or.inl rfl, trivial⟩⟩⟩⟩⟩ ?_
          exact hJ_F_X0_mayBear_J45x
        · refine z_iconst (v := 0) dX0_mayBear_43 rfl ?_
          exact z_ireturn dX0_mayBear_44 z_rP rfl (by decide) (by decide)
  have hJ_F_X0_mayBear_J45xx : z_F l M_X0_mayBear (30, 580, 0, 0) 0 0 45 [some (.ref 12), some (.int a0), some (.int a1), some (.int 0), none] [] S D (z_kt (z_kR S D)) (F_X0_mayBear_J45xx a0 a1 D) := by
    unfold F_X0_mayBear_J45xx
    refine z_iincC (i := 3) (x := 0) (v := 1) (lv' := [some (.ref 12), some (.int a0), some (.int a1), some (.int 1), none]) dX0_mayBear_45 rfl (by decide) (by decide) rfl rfl ?_
    refine z_goto 2 dX0_mayBear_48 (by decide) ?_
    exact hJ_F_X0_mayBear_J2xx
  have hJ_F_X0_mayBear_J2xxx : z_F l M_X0_mayBear (30, 580, 0, 0) 0 0 2 [some (.ref 12), some (.int a0), some (.int a1), some (.int 0), none] [] S D (z_kt (z_kR S D)) (F_X0_mayBear_J2xxx a0 a1 D) := by
    unfold F_X0_mayBear_J2xxx
    refine z_iload_n (i := 3) (x := 0) dX0_mayBear_2 rfl rfl ?_
    refine z_iconst (v := 3) dX0_mayBear_3 rfl ?_
    refine z_icmp_geN 51 dX0_mayBear_4 (by decide) (by decide) ?_
    refine z_aload_n (i := 0) (x := 12) dX0_mayBear_7 rfl rfl ?_
    refine z_getR (j := 0) dX0_mayBear_8 kl_0 hs12 (by decide) rfl rfl kf_X0_9 ?_
    refine z_iload_n (i := 3) (x := 0) dX0_mayBear_11 rfl rfl ?_
    refine z_cP (As := [.ref 13, .int 0]) (rest := []) (em_X10_at (n0 := 3) hl hs13 (by decide) 0 D) (fun o7 h => z_runSN 40 2 h rfl kk_X0_40 kn_X0_40 kq_X10_at rfl (Nat.le_of_ble_eq_true rfl) ⟨Nat.le_of_ble_eq_true rfl, Nat.le_of_ble_eq_true rfl, Nat.le_of_ble_eq_true rfl, Nat.le_of_ble_eq_true rfl⟩ dX0_mayBear_12) z_gP (fun hz1 => ?_)
    refine z_topi (fun v2 => ?_)
    refine z_istore (i := 4) (x := v2) (lv' := [some (.ref 12), some (.int a0), some (.int a1), some (.int 0), some (.int v2)]) dX0_mayBear_15 (by decide) rfl rfl ?_
    refine z_iload (i := 4) (x := v2) dX0_mayBear_17 rfl ?_
    refine z_iconst (v := (-1)) dX0_mayBear_19 rfl ?_
    refine z_icmp_eq 45 dX0_mayBear_20 (by decide) (fun c3 => ?_) (fun c3 => ?_)
    · refine z_weak (lv' := [some (.ref 12), some (.int a0), some (.int a1), some (.int 0), none]) ⟨Or.inr rfl, ⟨Or.inr rfl, ⟨Or.inr rfl, ⟨Or.inr rfl, ⟨Or.inl rfl, trivial⟩⟩⟩⟩⟩ ?_
      exact hJ_F_X0_mayBear_J45xx
    · refine z_iload_n (i := 1) (x := a0) dX0_mayBear_23 rfl rfl ?_
      refine z_iload_n (i := 3) (x := 0) dX0_mayBear_24 rfl rfl ?_
      refine z_cP (As := [.int a0, .int 0]) (rest := []) (em_X10_partOf hl a0 0 D) (fun o7 h => z_runSN 63 2 h rfl kk_X0_63 kn_X0_63 kq_X10_partOf rfl (Nat.le_of_ble_eq_true rfl) ⟨Nat.le_of_ble_eq_true rfl, Nat.le_of_ble_eq_true rfl, Nat.le_of_ble_eq_true rfl, Nat.le_of_ble_eq_true rfl⟩ dX0_mayBear_25) z_gP (fun hz18 => ?_)
      refine z_iload (i := 4) (x := v2) dX0_mayBear_28 rfl ?_
      refine z_icmp_eq 45 dX0_mayBear_30 (by decide) (fun c19 => ?_) (fun c19 => ?_)
      · refine z_weak (lv' := [some (.ref 12), some (.int a0), some (.int a1), some (.int 0), none]) ⟨Or.inr rfl, ⟨Or.inr rfl, ⟨Or.inr rfl, ⟨Or.inr rfl, ⟨Or.inl rfl, trivial⟩⟩⟩⟩⟩ ?_
        exact hJ_F_X0_mayBear_J45xx
      · refine z_iload_n (i := 2) (x := a1) dX0_mayBear_33 rfl rfl ?_
        refine z_iload_n (i := 3) (x := 0) dX0_mayBear_34 rfl rfl ?_
        refine z_cP (As := [.int a1, .int 0]) (rest := []) (em_X10_partOf hl a1 0 D) (fun o7 h => z_runSN 63 2 h rfl kk_X0_63 kn_X0_63 kq_X10_partOf rfl (Nat.le_of_ble_eq_true rfl) ⟨Nat.le_of_ble_eq_true rfl, Nat.le_of_ble_eq_true rfl, Nat.le_of_ble_eq_true rfl, Nat.le_of_ble_eq_true rfl⟩ dX0_mayBear_35) z_gP (fun hz20 => ?_)
        refine z_iload (i := 4) (x := v2) dX0_mayBear_38 rfl ?_
        refine z_icmp_eq 45 dX0_mayBear_40 (by decide) (fun c21 => ?_) (fun c21 => ?_)
        · refine z_weak (lv' := [some (.ref 12), some (.int a0), some (.int a1), some (.int 0), none]) ⟨Or.inr rfl, ⟨Or.inr rfl, ⟨Or.inr rfl, ⟨Or.inr rfl, ⟨Or.inl rfl, trivial⟩⟩⟩⟩⟩ ?_
          exact hJ_F_X0_mayBear_J45xx
        · refine z_iconst (v := 0) dX0_mayBear_43 rfl ?_
          exact z_ireturn dX0_mayBear_44 z_rP rfl (by decide) (by decide)
  refine z_iconst (v := 0) dX0_mayBear_0 rfl ?_
  refine z_istore_n (i := 3) (x := 0) (lv' := [some (.ref 12), some (.int a0), some (.int a1), some (.int 0), none]) dX0_mayBear_1 rfl (by decide) rfl rfl ?_
  exact hJ_F_X0_mayBear_J2xxx

def F_X0_allFits_L17 (t : Nat) (kc3 : ((Int32 × Int32) → Option Int32)) (a0 : Int32) (v2 : Int32) (D : z_Dat) (kc8 : ((Int32 × Int32) → Option Int32)) (v6 : Int32) (v7 : Int32) : Option Int32 :=
  if a0 ≤ v7 then (z_let (v2 + 1) (fun v10 => kc3 (v6, v10)))
  else (if (F_X0_mayBear (F_X9_has t v2 0 D) (F_X9_has t v7 0 D) D) = 0 then (z_let (v7 + 1) (fun v15 => kc8 (v6, v15)))
  else (z_let (v6 + 1) (fun v16 => z_let (v7 + 1) (fun v17 => kc8 (v16, v17)))))
def F_X0_allFits_L5 (N : Nat) (t : Nat) (a0 : Int32) (D : z_Dat) (kc3 : ((Int32 × Int32) → Option Int32)) (v1 : Int32) (v2 : Int32) : Option Int32 :=
  if a0 ≤ v2 then (some v1)
  else (z_let (v2 + 1) (fun v5 => z_loop (fun kc8 s => F_X0_allFits_L17 t kc3 a0 v2 D kc8 s.1 s.2) N (v1, v5)))
def F_X0_allFits (N : Nat) (t : Nat) (a0 : Int32) (D : z_Dat) : Option Int32 :=
  z_loop (fun kc3 s => F_X0_allFits_L5 N t a0 D kc3 s.1 s.2) N (0, 0)
set_option maxRecDepth 100000 in
set_option maxHeartbeats 4000000 in
theorem em_X0_allFits {l : Launch} {S : List z_Shp} {oW : Nat} {t : Nat} (hl : l.stackTraces = false) (hW : z_W S oW) (hT : z_isTown S t) (N : Nat) (a0 : Int32) (D : z_Dat) : ∀ out, z_ko (z_kR S D) (F_X0_allFits N t a0 D) out → z_EM l M_X0_allFits (40, 640, 0, 0) [.ref 12, .ref t, .int a0] S D out := by
  have hs12 : S[12]? = some (2, 3, [some (some 13), some (some 14), none]) := hW.1 12 _ rfl
  refine z_meth hl rfl kp_X0 (Nat.le_of_ble_eq_true rfl) (lv := [some (.ref 12), some (.ref t), some (.int a0), none, none, none]) rfl ?_
  unfold F_X0_allFits
  refine z_iconst (v := 0) dX0_allFits_0 rfl ?_
  refine z_istore_n (i := 3) (x := 0) (lv' := [some (.ref 12), some (.ref t), some (.int a0), some (.int 0), none, none]) dX0_allFits_1 rfl (by decide) rfl rfl ?_
  refine z_iconst (v := 0) dX0_allFits_2 rfl ?_
  refine z_istore (i := 4) (x := 0) (lv' := [some (.ref 12), some (.ref t), some (.int a0), some (.int 0), some (.int 0), none]) dX0_allFits_3 (by decide) rfl rfl ?_
  refine z_loops (lvOf := fun s : Int32 × Int32 => [some (.ref 12), some (.ref t), some (.int a0), some (.int s.1), some (.int s.2), none]) (dOf := fun s : Int32 × Int32 => D) (fun kc3 hkc3 s => ?_) N (0, 0)
  obtain ⟨v1, v2⟩ := s
  show z_F _ _ _ _ _ 5 [some (.ref 12), some (.ref t), some (.int a0), some (.int v1), some (.int v2), none] [] S D _ (F_X0_allFits_L5 N t a0 D kc3 v1 v2)
  unfold F_X0_allFits_L5
  refine z_iload (i := 4) (x := v2) dX0_allFits_5 rfl ?_
  refine z_iload_n (i := 2) (x := a0) dX0_allFits_7 rfl rfl ?_
  refine z_icmp_ge 59 dX0_allFits_8 (by decide) (fun c4 => ?_) (fun c4 => ?_)
  · refine z_iload_n (i := 3) (x := v1) dX0_allFits_59 rfl rfl ?_
    exact z_ireturn dX0_allFits_60 z_rR rfl (by decide) (by decide)
  · refine z_iload (i := 4) (x := v2) dX0_allFits_11 rfl ?_
    refine z_iconst (v := 1) dX0_allFits_13 rfl ?_
    refine z_iadd dX0_allFits_14 ?_
    refine z_topi (fun v5 => ?_)
    refine z_istore (i := 5) (x := v5) (lv' := [some (.ref 12), some (.ref t), some (.int a0), some (.int v1), some (.int v2), some (.int v5)]) dX0_allFits_15 (by decide) rfl rfl ?_
    refine z_loops (lvOf := fun s : Int32 × Int32 => [some (.ref 12), some (.ref t), some (.int a0), some (.int s.1), some (.int v2), some (.int s.2)]) (dOf := fun s : Int32 × Int32 => D) (fun kc8 hkc8 s => ?_) N (v1, v5)
    obtain ⟨v6, v7⟩ := s
    show z_F _ _ _ _ _ 17 [some (.ref 12), some (.ref t), some (.int a0), some (.int v6), some (.int v2), some (.int v7)] [] S D _ (F_X0_allFits_L17 t kc3 a0 v2 D kc8 v6 v7)
    unfold F_X0_allFits_L17
    refine z_iload (i := 5) (x := v7) dX0_allFits_17 rfl ?_
    refine z_iload_n (i := 2) (x := a0) dX0_allFits_19 rfl rfl ?_
    refine z_icmp_ge 53 dX0_allFits_20 (by decide) (fun c9 => ?_) (fun c9 => ?_)
    · refine z_iinc (i := 4) (x := v2) (y := 1) dX0_allFits_53 rfl (by decide) (by decide) rfl (fun v10 => ?_)
      refine z_goto 5 dX0_allFits_56 (by decide) ?_
      refine z_weak (lv' := [some (.ref 12), some (.ref t), some (.int a0), some (.int v6), some (.int v10), none]) ⟨Or.inr rfl, ⟨Or.inr rfl, ⟨Or.inr rfl, ⟨Or.inr rfl, ⟨Or.inr rfl, ⟨Or.inl rfl, trivial⟩⟩⟩⟩⟩⟩ ?_
      exact hkc3 (v6, v10)
    · refine z_aload_n (i := 0) (x := 12) dX0_allFits_23 rfl rfl ?_
      refine z_aload_n (i := 1) (x := t) dX0_allFits_24 rfl rfl ?_
      refine z_iload (i := 4) (x := v2) dX0_allFits_25 rfl ?_
      refine z_iconst (v := 0) dX0_allFits_27 rfl ?_
      refine z_cP (As := [.ref t, .int v2, .int 0]) (rest := [.ref 12]) (em_X9_has hl hT v2 0 D) (fun o7 h => z_runV 67 2 h rfl kk_X0_67 hT.1 kl_9.1 kq_X9_has rfl (Nat.le_of_ble_eq_true rfl) ⟨Nat.le_of_ble_eq_true rfl, Nat.le_of_ble_eq_true rfl, Nat.le_of_ble_eq_true rfl, Nat.le_of_ble_eq_true rfl⟩ dX0_allFits_28) z_gR (fun hz11 => ?_)
      refine z_aload_n (i := 1) (x := t) dX0_allFits_31 rfl rfl ?_
      refine z_iload (i := 5) (x := v7) dX0_allFits_32 rfl ?_
      refine z_iconst (v := 0) dX0_allFits_34 rfl ?_
      refine z_cP (As := [.ref t, .int v7, .int 0]) (rest := [.int (F_X9_has t v2 0 D), .ref 12]) (em_X9_has hl hT v7 0 D) (fun o7 h => z_runV 67 2 h rfl kk_X0_67 hT.1 kl_9.1 kq_X9_has rfl (Nat.le_of_ble_eq_true rfl) ⟨Nat.le_of_ble_eq_true rfl, Nat.le_of_ble_eq_true rfl, Nat.le_of_ble_eq_true rfl, Nat.le_of_ble_eq_true rfl⟩ dX0_allFits_35) z_gR (fun hz12 => ?_)
      refine z_cP (As := [.ref 12, .int (F_X9_has t v2 0 D), .int (F_X9_has t v7 0 D)]) (rest := []) (em_X0_mayBear hl hW (F_X9_has t v2 0 D) (F_X9_has t v7 0 D) D) (fun o7 h => z_runV 72 2 h rfl kk_X0_72 hs12 kl_0.1 kq_X0_mayBear rfl (Nat.le_of_ble_eq_true rfl) ⟨Nat.le_of_ble_eq_true rfl, Nat.le_of_ble_eq_true rfl, Nat.le_of_ble_eq_true rfl, Nat.le_of_ble_eq_true rfl⟩ dX0_allFits_38) z_gR (fun hz13 => ?_)
      refine z_if_eq 47 dX0_allFits_41 (by decide) (fun c14 => ?_) (fun c14 => ?_)
      · refine z_iinc (i := 5) (x := v7) (y := 1) dX0_allFits_47 rfl (by decide) (by decide) rfl (fun v15 => ?_)
        refine z_goto 17 dX0_allFits_50 (by decide) ?_
        exact hkc8 (v6, v15)
      · refine z_iinc (i := 3) (x := v6) (y := 1) dX0_allFits_44 rfl (by decide) (by decide) rfl (fun v16 => ?_)
        refine z_iinc (i := 5) (x := v7) (y := 1) dX0_allFits_47 rfl (by decide) (by decide) rfl (fun v17 => ?_)
        refine z_goto 17 dX0_allFits_50 (by decide) ?_
        exact hkc8 (v16, v17)

def F_X0_firstFit_L12 (t : Nat) (kc2 : (Int32 → Option Int32)) (a0 : Int32) (v1 : Int32) (D : z_Dat) (kc6 : (Int32 → Option Int32)) (v5 : Int32) : Option Int32 :=
  if a0 ≤ v5 then (z_let (v1 + 1) (fun v8 => kc2 v8))
  else (if (F_X0_mayBear (F_X9_has t v1 0 D) (F_X9_has t v5 0 D) D) = 0 then (z_let (v5 + 1) (fun v13 => kc6 v13))
  else (some ((10 * v1) + v5)))
def F_X0_firstFit_L2 (N : Nat) (t : Nat) (a0 : Int32) (D : z_Dat) (kc2 : (Int32 → Option Int32)) (v1 : Int32) : Option Int32 :=
  if a0 ≤ v1 then (some (-1))
  else (z_let (v1 + 1) (fun v4 => z_loop (fun kc6 s => F_X0_firstFit_L12 t kc2 a0 v1 D kc6 s) N v4))
def F_X0_firstFit (N : Nat) (t : Nat) (a0 : Int32) (D : z_Dat) : Option Int32 :=
  z_loop (fun kc2 s => F_X0_firstFit_L2 N t a0 D kc2 s) N 0
set_option maxRecDepth 100000 in
set_option maxHeartbeats 4000000 in
theorem em_X0_firstFit {l : Launch} {S : List z_Shp} {oW : Nat} {t : Nat} (hl : l.stackTraces = false) (hW : z_W S oW) (hT : z_isTown S t) (N : Nat) (a0 : Int32) (D : z_Dat) : ∀ out, z_ko (z_kR S D) (F_X0_firstFit N t a0 D) out → z_EM l M_X0_firstFit (40, 640, 0, 0) [.ref 12, .ref t, .int a0] S D out := by
  have hs12 : S[12]? = some (2, 3, [some (some 13), some (some 14), none]) := hW.1 12 _ rfl
  refine z_meth hl rfl kp_X0 (Nat.le_of_ble_eq_true rfl) (lv := [some (.ref 12), some (.ref t), some (.int a0), none, none]) rfl ?_
  unfold F_X0_firstFit
  refine z_iconst (v := 0) dX0_firstFit_0 rfl ?_
  refine z_istore_n (i := 3) (x := 0) (lv' := [some (.ref 12), some (.ref t), some (.int a0), some (.int 0), none]) dX0_firstFit_1 rfl (by decide) rfl rfl ?_
  refine z_loops (lvOf := fun s : Int32 => [some (.ref 12), some (.ref t), some (.int a0), some (.int s), none]) (dOf := fun s : Int32 => D) (fun kc2 hkc2 s => ?_) N 0
  obtain ⟨v1, hq⟩ : ∃ z, z = s := ⟨_, rfl⟩
  subst hq
  show z_F _ _ _ _ _ 2 [some (.ref 12), some (.ref t), some (.int a0), some (.int v1), none] [] S D _ (F_X0_firstFit_L2 N t a0 D kc2 v1)
  unfold F_X0_firstFit_L2
  refine z_iload_n (i := 3) (x := v1) dX0_firstFit_2 rfl rfl ?_
  refine z_iload_n (i := 2) (x := a0) dX0_firstFit_3 rfl rfl ?_
  refine z_icmp_ge 58 dX0_firstFit_4 (by decide) (fun c3 => ?_) (fun c3 => ?_)
  · refine z_iconst (v := (-1)) dX0_firstFit_58 rfl ?_
    exact z_ireturn dX0_firstFit_59 z_rR rfl (by decide) (by decide)
  · refine z_iload_n (i := 3) (x := v1) dX0_firstFit_7 rfl rfl ?_
    refine z_iconst (v := 1) dX0_firstFit_8 rfl ?_
    refine z_iadd dX0_firstFit_9 ?_
    refine z_topi (fun v4 => ?_)
    refine z_istore (i := 4) (x := v4) (lv' := [some (.ref 12), some (.ref t), some (.int a0), some (.int v1), some (.int v4)]) dX0_firstFit_10 (by decide) rfl rfl ?_
    refine z_loops (lvOf := fun s : Int32 => [some (.ref 12), some (.ref t), some (.int a0), some (.int v1), some (.int s)]) (dOf := fun s : Int32 => D) (fun kc6 hkc6 s => ?_) N v4
    obtain ⟨v5, hq⟩ : ∃ z, z = s := ⟨_, rfl⟩
    subst hq
    show z_F _ _ _ _ _ 12 [some (.ref 12), some (.ref t), some (.int a0), some (.int v1), some (.int v5)] [] S D _ (F_X0_firstFit_L12 t kc2 a0 v1 D kc6 v5)
    unfold F_X0_firstFit_L12
    refine z_iload (i := 4) (x := v5) dX0_firstFit_12 rfl ?_
    refine z_iload_n (i := 2) (x := a0) dX0_firstFit_14 rfl rfl ?_
    refine z_icmp_ge 52 dX0_firstFit_15 (by decide) (fun c7 => ?_) (fun c7 => ?_)
    · refine z_iinc (i := 3) (x := v1) (y := 1) dX0_firstFit_52 rfl (by decide) (by decide) rfl (fun v8 => ?_)
      refine z_goto 2 dX0_firstFit_55 (by decide) ?_
      refine z_weak (lv' := [some (.ref 12), some (.ref t), some (.int a0), some (.int v8), none]) ⟨Or.inr rfl, ⟨Or.inr rfl, ⟨Or.inr rfl, ⟨Or.inr rfl, ⟨Or.inl rfl, trivial⟩⟩⟩⟩⟩ ?_
      exact hkc2 v8
    · refine z_aload_n (i := 0) (x := 12) dX0_firstFit_18 rfl rfl ?_
      refine z_aload_n (i := 1) (x := t) dX0_firstFit_19 rfl rfl ?_
      refine z_iload_n (i := 3) (x := v1) dX0_firstFit_20 rfl rfl ?_
      refine z_iconst (v := 0) dX0_firstFit_21 rfl ?_
      refine z_cP (As := [.ref t, .int v1, .int 0]) (rest := [.ref 12]) (em_X9_has hl hT v1 0 D) (fun o7 h => z_runV 67 2 h rfl kk_X0_67 hT.1 kl_9.1 kq_X9_has rfl (Nat.le_of_ble_eq_true rfl) ⟨Nat.le_of_ble_eq_true rfl, Nat.le_of_ble_eq_true rfl, Nat.le_of_ble_eq_true rfl, Nat.le_of_ble_eq_true rfl⟩ dX0_firstFit_22) z_gR (fun hz9 => ?_)
      refine z_aload_n (i := 1) (x := t) dX0_firstFit_25 rfl rfl ?_
      refine z_iload (i := 4) (x := v5) dX0_firstFit_26 rfl ?_
      refine z_iconst (v := 0) dX0_firstFit_28 rfl ?_
      refine z_cP (As := [.ref t, .int v5, .int 0]) (rest := [.int (F_X9_has t v1 0 D), .ref 12]) (em_X9_has hl hT v5 0 D) (fun o7 h => z_runV 67 2 h rfl kk_X0_67 hT.1 kl_9.1 kq_X9_has rfl (Nat.le_of_ble_eq_true rfl) ⟨Nat.le_of_ble_eq_true rfl, Nat.le_of_ble_eq_true rfl, Nat.le_of_ble_eq_true rfl, Nat.le_of_ble_eq_true rfl⟩ dX0_firstFit_29) z_gR (fun hz10 => ?_)
      refine z_cP (As := [.ref 12, .int (F_X9_has t v1 0 D), .int (F_X9_has t v5 0 D)]) (rest := []) (em_X0_mayBear hl hW (F_X9_has t v1 0 D) (F_X9_has t v5 0 D) D) (fun o7 h => z_runV 72 2 h rfl kk_X0_72 hs12 kl_0.1 kq_X0_mayBear rfl (Nat.le_of_ble_eq_true rfl) ⟨Nat.le_of_ble_eq_true rfl, Nat.le_of_ble_eq_true rfl, Nat.le_of_ble_eq_true rfl, Nat.le_of_ble_eq_true rfl⟩ dX0_firstFit_32) z_gR (fun hz11 => ?_)
      refine z_if_eq 46 dX0_firstFit_35 (by decide) (fun c12 => ?_) (fun c12 => ?_)
      · refine z_iinc (i := 4) (x := v5) (y := 1) dX0_firstFit_46 rfl (by decide) (by decide) rfl (fun v13 => ?_)
        refine z_goto 12 dX0_firstFit_49 (by decide) ?_
        exact hkc6 v13
      · refine z_bipush (v := 10) dX0_firstFit_38 (by decide) ?_
        refine z_iload_n (i := 3) (x := v1) dX0_firstFit_40 rfl rfl ?_
        refine z_imul dX0_firstFit_41 ?_
        refine z_iload (i := 4) (x := v5) dX0_firstFit_42 rfl ?_
        refine z_iadd dX0_firstFit_44 ?_
        exact z_ireturn dX0_firstFit_45 z_rR rfl (by decide) (by decide)

def F_X10_fits_J15 (N : Nat) (o : Nat) (a0 : Int32) (D3 : z_Dat) : Option ((Int32 × z_Dat) ⊕ (String × z_Dat)) :=
  z_bt (F_X10_demand 0 D3) (fun a_5 => if a0 = 0 then (z_bd (F_X0_allFits N 3 (a_5 o 6) a_5) (fun a_8 => some (.inl (a_8, a_5))))
  else (z_bd (F_X0_firstFit N 3 (a_5 o 6) a_5) (fun a_10 => some (.inl (a_10, a_5)))))
def F_X10_fits_J14 (N : Nat) (o : Nat) (a0 : Int32) (D2 : z_Dat) : Option ((Int32 × z_Dat) ⊕ (String × z_Dat)) :=
  F_X10_fits_J15 N o a0 D2
def F_X10_fits_J15x (N : Nat) (o : Nat) (a0 : Int32) (D12 : z_Dat) : Option ((Int32 × z_Dat) ⊕ (String × z_Dat)) :=
  z_bt (F_X10_demand 1 D12) (fun a_14 => if a0 = 0 then (z_bd (F_X0_allFits N 3 (a_14 o 6) a_14) (fun a_17 => some (.inl (a_17, a_14))))
  else (z_bd (F_X0_firstFit N 3 (a_14 o 6) a_14) (fun a_19 => some (.inl (a_19, a_14)))))
def F_X10_fits (N : Nat) (o : Nat) (a0 : Int32) (D : z_Dat) : Option ((Int32 × z_Dat) ⊕ (String × z_Dat)) :=
  if a0 < 0 then (F_X10_fits_J14 N o a0 D)
  else (if 1 < a0 then (F_X10_fits_J14 N o a0 D)
  else (F_X10_fits_J15x N o a0 D))
set_option maxRecDepth 100000 in
set_option maxHeartbeats 4000000 in
theorem em_X10_fits {l : Launch} {S : List z_Shp} {o : Nat} (hl : l.stackTraces = false) (hW : z_W S o) (N : Nat) (a0 : Int32) (D : z_Dat) : ∀ out, z_ko (z_kTI S) (F_X10_fits N o a0 D) out → z_EM l M_X10_fits (60, 700, 1, 6) [.ref 0, .int a0] S D out := by
  have hC := hW.2
  have hs0 : S[0]? = some (12, 15, [some (some 1), some (some 3), some (some 5), some (some 7), some (some 12), some (some 15), some (some 21), some (some 25), some (some 28), some (some 32), some (some 33), some (some o), none, none, none]) := hW.1 0 _ rfl
  have hs3 : S[3]? = some (11, 1, [some (some 4)]) := hW.1 3 _ rfl
  have hs4 : S[4]? = some (0, 44, []) := hW.1 4 _ rfl
  have hs12 : S[12]? = some (2, 3, [some (some 13), some (some 14), none]) := hW.1 12 _ rfl
  refine z_meth hl rfl kp_X10 (Nat.le_of_ble_eq_true rfl) (lv := [some (.ref 0), some (.int a0)]) rfl ?_
  unfold F_X10_fits
  have hJ_F_X10_fits_J15 : ∀ (D3 : z_Dat) , z_F l M_X10_fits (60, 700, 1, 6) 0 0 15 [some (.ref 0), some (.int a0)] [.int 0, .ref 0] S D3 (z_ko (z_kTI S)) (F_X10_fits_J15 N o a0 D3) := by
    intro D3
    unfold F_X10_fits_J15
    refine z_cXVI rfl (As := [.ref 0, .int 0]) (rest := []) (em_X10_demand hl hW 0 D3) (fun o7 h => z_runV 102 1 h rfl kk_X10_102 hs0 kl_10.1 kq_X10_demand rfl (Nat.le_of_ble_eq_true rfl) ⟨Nat.le_of_ble_eq_true rfl, Nat.le_of_ble_eq_true rfl, Nat.le_of_ble_eq_true rfl, Nat.le_of_ble_eq_true rfl⟩ dX10_fits_15) (by decide) (by decide) (fun a_5 hz4 => ?_)
    refine z_iload_n (i := 1) (x := a0) dX10_fits_18 rfl rfl ?_
    refine z_if_ne 43 dX10_fits_19 (by decide) (fun c6 => ?_) (fun c6 => ?_)
    · refine z_aload_n (i := 0) (x := 0) dX10_fits_22 rfl rfl ?_
      refine z_getR (j := 4) dX10_fits_23 kl_10 hs0 (by decide) rfl rfl kf_X10_36 ?_
      refine z_aload_n (i := 0) (x := 0) dX10_fits_26 rfl rfl ?_
      refine z_getR (j := 1) dX10_fits_27 kl_10 hs0 (by decide) rfl rfl kf_X10_19 ?_
      refine z_aload_n (i := 0) (x := 0) dX10_fits_30 rfl rfl ?_
      refine z_getR (j := 11) dX10_fits_31 kl_10 hs0 (by decide) rfl rfl kf_X10_82 ?_
      refine z_getIN (j := 6) dX10_fits_34 kl_1 hC.1 (by decide) rfl rfl kf_X10_134 ?_
      refine z_cR (As := [.ref 12, .ref 3, .int (a_5 o 6)]) (rest := []) (em_X0_allFits hl hW ⟨hs3, hs4⟩ N (a_5 o 6) a_5) (fun o7 h => z_runV 276 2 h rfl kk_X10_276 hs12 kl_0.1 kq_X0_allFits rfl (Nat.le_of_ble_eq_true rfl) ⟨Nat.le_of_ble_eq_true rfl, Nat.le_of_ble_eq_true rfl, Nat.le_of_ble_eq_true rfl, Nat.le_of_ble_eq_true rfl⟩ dX10_fits_37) z_gXI (fun a_8 hz7 => ?_)
      refine z_goto 61 dX10_fits_40 (by decide) ?_
      exact z_ireturn dX10_fits_61 z_rXI rfl (by decide) (by decide)
    · refine z_aload_n (i := 0) (x := 0) dX10_fits_43 rfl rfl ?_
      refine z_getR (j := 4) dX10_fits_44 kl_10 hs0 (by decide) rfl rfl kf_X10_36 ?_
      refine z_aload_n (i := 0) (x := 0) dX10_fits_47 rfl rfl ?_
      refine z_getR (j := 1) dX10_fits_48 kl_10 hs0 (by decide) rfl rfl kf_X10_19 ?_
      refine z_aload_n (i := 0) (x := 0) dX10_fits_51 rfl rfl ?_
      refine z_getR (j := 11) dX10_fits_52 kl_10 hs0 (by decide) rfl rfl kf_X10_82 ?_
      refine z_getIN (j := 6) dX10_fits_55 kl_1 hC.1 (by decide) rfl rfl kf_X10_134 ?_
      refine z_cR (As := [.ref 12, .ref 3, .int (a_5 o 6)]) (rest := []) (em_X0_firstFit hl hW ⟨hs3, hs4⟩ N (a_5 o 6) a_5) (fun o7 h => z_runV 280 2 h rfl kk_X10_280 hs12 kl_0.1 kq_X0_firstFit rfl (Nat.le_of_ble_eq_true rfl) ⟨Nat.le_of_ble_eq_true rfl, Nat.le_of_ble_eq_true rfl, Nat.le_of_ble_eq_true rfl, Nat.le_of_ble_eq_true rfl⟩ dX10_fits_58) z_gXI (fun a_10 hz9 => ?_)
      exact z_ireturn dX10_fits_61 z_rXI rfl (by decide) (by decide)
  have hJ_F_X10_fits_J14 : ∀ (D2 : z_Dat) , z_F l M_X10_fits (60, 700, 1, 6) 0 0 14 [some (.ref 0), some (.int a0)] [.ref 0] S D2 (z_ko (z_kTI S)) (F_X10_fits_J14 N o a0 D2) := by
    intro D2
    unfold F_X10_fits_J14
    refine z_iconst (v := 0) dX10_fits_14 rfl ?_
    refine z_widen (k := 0) (n := 0) (by decide) (by decide) ?_
    exact hJ_F_X10_fits_J15 D2
  have hJ_F_X10_fits_J15x : ∀ (D12 : z_Dat) , z_F l M_X10_fits (60, 700, 1, 6) 0 0 15 [some (.ref 0), some (.int a0)] [.int 1, .ref 0] S D12 (z_ko (z_kTI S)) (F_X10_fits_J15x N o a0 D12) := by
    intro D12
    unfold F_X10_fits_J15x
    refine z_cXVI rfl (As := [.ref 0, .int 1]) (rest := []) (em_X10_demand hl hW 1 D12) (fun o7 h => z_runV 102 1 h rfl kk_X10_102 hs0 kl_10.1 kq_X10_demand rfl (Nat.le_of_ble_eq_true rfl) ⟨Nat.le_of_ble_eq_true rfl, Nat.le_of_ble_eq_true rfl, Nat.le_of_ble_eq_true rfl, Nat.le_of_ble_eq_true rfl⟩ dX10_fits_15) (by decide) (by decide) (fun a_14 hz13 => ?_)
    refine z_iload_n (i := 1) (x := a0) dX10_fits_18 rfl rfl ?_
    refine z_if_ne 43 dX10_fits_19 (by decide) (fun c15 => ?_) (fun c15 => ?_)
    · refine z_aload_n (i := 0) (x := 0) dX10_fits_22 rfl rfl ?_
      refine z_getR (j := 4) dX10_fits_23 kl_10 hs0 (by decide) rfl rfl kf_X10_36 ?_
      refine z_aload_n (i := 0) (x := 0) dX10_fits_26 rfl rfl ?_
      refine z_getR (j := 1) dX10_fits_27 kl_10 hs0 (by decide) rfl rfl kf_X10_19 ?_
      refine z_aload_n (i := 0) (x := 0) dX10_fits_30 rfl rfl ?_
      refine z_getR (j := 11) dX10_fits_31 kl_10 hs0 (by decide) rfl rfl kf_X10_82 ?_
      refine z_getIN (j := 6) dX10_fits_34 kl_1 hC.1 (by decide) rfl rfl kf_X10_134 ?_
      refine z_cR (As := [.ref 12, .ref 3, .int (a_14 o 6)]) (rest := []) (em_X0_allFits hl hW ⟨hs3, hs4⟩ N (a_14 o 6) a_14) (fun o7 h => z_runV 276 2 h rfl kk_X10_276 hs12 kl_0.1 kq_X0_allFits rfl (Nat.le_of_ble_eq_true rfl) ⟨Nat.le_of_ble_eq_true rfl, Nat.le_of_ble_eq_true rfl, Nat.le_of_ble_eq_true rfl, Nat.le_of_ble_eq_true rfl⟩ dX10_fits_37) z_gXI (fun a_17 hz16 => ?_)
      refine z_goto 61 dX10_fits_40 (by decide) ?_
      exact z_ireturn dX10_fits_61 z_rXI rfl (by decide) (by decide)
    · refine z_aload_n (i := 0) (x := 0) dX10_fits_43 rfl rfl ?_
      refine z_getR (j := 4) dX10_fits_44 kl_10 hs0 (by decide) rfl rfl kf_X10_36 ?_
      refine z_aload_n (i := 0) (x := 0) dX10_fits_47 rfl rfl ?_
      refine z_getR (j := 1) dX10_fits_48 kl_10 hs0 (by decide) rfl rfl kf_X10_19 ?_
      refine z_aload_n (i := 0) (x := 0) dX10_fits_51 rfl rfl ?_
      refine z_getR (j := 11) dX10_fits_52 kl_10 hs0 (by decide) rfl rfl kf_X10_82 ?_
      refine z_getIN (j := 6) dX10_fits_55 kl_1 hC.1 (by decide) rfl rfl kf_X10_134 ?_
      refine z_cR (As := [.ref 12, .ref 3, .int (a_14 o 6)]) (rest := []) (em_X0_firstFit hl hW ⟨hs3, hs4⟩ N (a_14 o 6) a_14) (fun o7 h => z_runV 280 2 h rfl kk_X10_280 hs12 kl_0.1 kq_X0_firstFit rfl (Nat.le_of_ble_eq_true rfl) ⟨Nat.le_of_ble_eq_true rfl, Nat.le_of_ble_eq_true rfl, Nat.le_of_ble_eq_true rfl, Nat.le_of_ble_eq_true rfl⟩ dX10_fits_58) z_gXI (fun a_19 hz18 => ?_)
      exact z_ireturn dX10_fits_61 z_rXI rfl (by decide) (by decide)
  refine z_aload_n (i := 0) (x := 0) dX10_fits_0 rfl rfl ?_
  refine z_iload_n (i := 1) (x := a0) dX10_fits_1 rfl rfl ?_
  refine z_if_lt 14 dX10_fits_2 (by decide) (fun c1 => ?_) (fun c1 => ?_)
  · refine z_widen (k := 0) (n := 0) (by decide) (by decide) ?_
    exact hJ_F_X10_fits_J14 D
  · refine z_iload_n (i := 1) (x := a0) dX10_fits_5 rfl rfl ?_
    refine z_iconst (v := 1) dX10_fits_6 rfl ?_
    refine z_icmp_gt 14 dX10_fits_7 (by decide) (fun c11 => ?_) (fun c11 => ?_)
    · refine z_widen (k := 0) (n := 0) (by decide) (by decide) ?_
      exact hJ_F_X10_fits_J14 D
    · refine z_iconst (v := 1) dX10_fits_10 rfl ?_
      refine z_goto 15 dX10_fits_11 (by decide) ?_
      refine z_widen (k := 0) (n := 0) (by decide) (by decide) ?_
      exact hJ_F_X10_fits_J15x D

def F_X0_tells (a0 : Int32) (D : z_Dat) : Int32 :=
  if (F_X10_at 13 3 a0 D) = (-1) then (0)
  else (1)
set_option maxRecDepth 100000 in
set_option maxHeartbeats 4000000 in
theorem em_X0_tells {l : Launch} {S : List z_Shp} {oW : Nat} (hl : l.stackTraces = false) (hW : z_W S oW) (a0 : Int32) (D : z_Dat) : ∀ out, z_kt (z_kR S D) (F_X0_tells a0 D) out → z_EM l M_X0_tells (30, 580, 0, 0) [.ref 12, .int a0] S D out := by
  have hs12 : S[12]? = some (2, 3, [some (some 13), some (some 14), none]) := hW.1 12 _ rfl
  have hs13 : S[13]? = some (0, 3, []) := hW.1 13 _ rfl
  refine z_meth hl rfl kp_X0 (Nat.le_of_ble_eq_true rfl) (lv := [some (.ref 12), some (.int a0)]) rfl ?_
  unfold F_X0_tells
  refine z_aload_n (i := 0) (x := 12) dX0_tells_0 rfl rfl ?_
  refine z_getR (j := 0) dX0_tells_1 kl_0 hs12 (by decide) rfl rfl kf_X0_9 ?_
  refine z_iload_n (i := 1) (x := a0) dX0_tells_4 rfl rfl ?_
  refine z_cP (As := [.ref 13, .int a0]) (rest := []) (em_X10_at (n0 := 3) hl hs13 (by decide) a0 D) (fun o7 h => z_runSN 40 2 h rfl kk_X0_40 kn_X0_40 kq_X10_at rfl (Nat.le_of_ble_eq_true rfl) ⟨Nat.le_of_ble_eq_true rfl, Nat.le_of_ble_eq_true rfl, Nat.le_of_ble_eq_true rfl, Nat.le_of_ble_eq_true rfl⟩ dX0_tells_5) z_gP (fun hz1 => ?_)
  refine z_iconst (v := (-1)) dX0_tells_8 rfl ?_
  refine z_icmp_eq 16 dX0_tells_9 (by decide) (fun c2 => ?_) (fun c2 => ?_)
  · refine z_iconst (v := 0) dX0_tells_16 rfl ?_
    exact z_ireturn dX0_tells_17 z_rP rfl (by decide) (by decide)
  · refine z_iconst (v := 1) dX0_tells_12 rfl ?_
    refine z_goto 17 dX0_tells_13 (by decide) ?_
    exact z_ireturn dX0_tells_17 z_rP rfl (by decide) (by decide)

def F_X0_left_J69 (kc10 : ((Int32 × Int32) → Option Int32)) (v6 : Int32) (D : z_Dat) (v20 : Int32) (v21 : Int32) (v22 : Int32) : Option Int32 :=
  if (F_X0_mayBear v6 v22 D) = 0 then (z_let (v21 + 1) (fun v25 => kc10 (v20, v25)))
  else (z_let (v20 + 1) (fun v26 => z_let (v21 + 1) (fun v27 => kc10 (v26, v27))))
def F_X0_left_J64 (kc10 : ((Int32 × Int32) → Option Int32)) (v6 : Int32) (D : z_Dat) (v17 : Int32) (v18 : Int32) (v19 : Int32) : Option Int32 :=
  F_X0_left_J69 kc10 v6 D v17 v18 v19
def F_X0_left_J69x (kc10 : ((Int32 × Int32) → Option Int32)) (v30 : Int32) (v31 : Int32) (v32 : Int32) : Option Int32 :=
  z_let (v31 + 1) (fun v33 => kc10 (v30, v33))
def F_X0_left_L27 (t : Nat) (kc3 : ((Int32 × Int32) → Option Int32)) (a0 : Int32) (a1 : Int32) (a2 : Int32) (v2 : Int32) (v6 : Int32) (D : z_Dat) (kc10 : ((Int32 × Int32) → Option Int32)) (v8 : Int32) (v9 : Int32) : Option Int32 :=
  if a0 ≤ v9 then (z_let (v2 + 1) (fun v12 => kc3 (v8, v12)))
  else (z_let (F_X9_has t v9 0 D) (fun v14 => if (F_X10_partOf v6 a1) = a2 then (F_X0_left_J64 kc10 v6 D v8 v9 v14)
  else (if (F_X10_partOf v14 a1) = a2 then (F_X0_left_J64 kc10 v6 D v8 v9 v14)
  else (F_X0_left_J69x kc10 v8 v9 v14))))
def F_X0_left_L6 (N : Nat) (t : Nat) (a0 : Int32) (a1 : Int32) (a2 : Int32) (D : z_Dat) (kc3 : ((Int32 × Int32) → Option Int32)) (v1 : Int32) (v2 : Int32) : Option Int32 :=
  if a0 ≤ v2 then (some v1)
  else (z_let (F_X9_has t v2 0 D) (fun v6 => z_let (v2 + 1) (fun v7 => z_loop (fun kc10 s => F_X0_left_L27 t kc3 a0 a1 a2 v2 v6 D kc10 s.1 s.2) N (v1, v7))))
def F_X0_left (N : Nat) (t : Nat) (a0 : Int32) (a1 : Int32) (a2 : Int32) (D : z_Dat) : Option Int32 :=
  z_loop (fun kc3 s => F_X0_left_L6 N t a0 a1 a2 D kc3 s.1 s.2) N (0, 0)
set_option maxRecDepth 100000 in
set_option maxHeartbeats 4000000 in
theorem em_X0_left {l : Launch} {S : List z_Shp} {oW : Nat} {t : Nat} (hl : l.stackTraces = false) (hW : z_W S oW) (hT : z_isTown S t) (N : Nat) (a0 : Int32) (a1 : Int32) (a2 : Int32) (D : z_Dat) : ∀ out, z_ko (z_kR S D) (F_X0_left N t a0 a1 a2 D) out → z_EM l M_X0_left (40, 640, 0, 0) [.ref 12, .ref t, .int a0, .int a1, .int a2] S D out := by
  have hs12 : S[12]? = some (2, 3, [some (some 13), some (some 14), none]) := hW.1 12 _ rfl
  refine z_meth hl rfl kp_X0 (Nat.le_of_ble_eq_true rfl) (lv := [some (.ref 12), some (.ref t), some (.int a0), some (.int a1), some (.int a2), none, none, none, none, none, none]) rfl ?_
  unfold F_X0_left
  refine z_iconst (v := 0) dX0_left_0 rfl ?_
  refine z_istore (i := 5) (x := 0) (lv' := [some (.ref 12), some (.ref t), some (.int a0), some (.int a1), some (.int a2), some (.int 0), none, none, none, none, none]) dX0_left_1 (by decide) rfl rfl ?_
  refine z_iconst (v := 0) dX0_left_3 rfl ?_
  refine z_istore (i := 6) (x := 0) (lv' := [some (.ref 12), some (.ref t), some (.int a0), some (.int a1), some (.int a2), some (.int 0), some (.int 0), none, none, none, none]) dX0_left_4 (by decide) rfl rfl ?_
  refine z_loops (lvOf := fun s : Int32 × Int32 => [some (.ref 12), some (.ref t), some (.int a0), some (.int a1), some (.int a2), some (.int s.1), some (.int s.2), none, none, none, none]) (dOf := fun s : Int32 × Int32 => D) (fun kc3 hkc3 s => ?_) N (0, 0)
  obtain ⟨v1, v2⟩ := s
  show z_F _ _ _ _ _ 6 [some (.ref 12), some (.ref t), some (.int a0), some (.int a1), some (.int a2), some (.int v1), some (.int v2), none, none, none, none] [] S D _ (F_X0_left_L6 N t a0 a1 a2 D kc3 v1 v2)
  unfold F_X0_left_L6
  refine z_iload (i := 6) (x := v2) dX0_left_6 rfl ?_
  refine z_iload_n (i := 2) (x := a0) dX0_left_8 rfl rfl ?_
  refine z_icmp_ge 102 dX0_left_9 (by decide) (fun c4 => ?_) (fun c4 => ?_)
  · refine z_iload (i := 5) (x := v1) dX0_left_102 rfl ?_
    exact z_ireturn dX0_left_104 z_rR rfl (by decide) (by decide)
  · refine z_aload_n (i := 1) (x := t) dX0_left_12 rfl rfl ?_
    refine z_iload (i := 6) (x := v2) dX0_left_13 rfl ?_
    refine z_iconst (v := 0) dX0_left_15 rfl ?_
    refine z_cP (As := [.ref t, .int v2, .int 0]) (rest := []) (em_X9_has hl hT v2 0 D) (fun o7 h => z_runV 67 2 h rfl kk_X0_67 hT.1 kl_9.1 kq_X9_has rfl (Nat.le_of_ble_eq_true rfl) ⟨Nat.le_of_ble_eq_true rfl, Nat.le_of_ble_eq_true rfl, Nat.le_of_ble_eq_true rfl, Nat.le_of_ble_eq_true rfl⟩ dX0_left_16) z_gR (fun hz5 => ?_)
    refine z_topi (fun v6 => ?_)
    refine z_istore (i := 7) (x := v6) (lv' := [some (.ref 12), some (.ref t), some (.int a0), some (.int a1), some (.int a2), some (.int v1), some (.int v2), some (.int v6), none, none, none]) dX0_left_19 (by decide) rfl rfl ?_
    refine z_iload (i := 6) (x := v2) dX0_left_21 rfl ?_
    refine z_iconst (v := 1) dX0_left_23 rfl ?_
    refine z_iadd dX0_left_24 ?_
    refine z_topi (fun v7 => ?_)
    refine z_istore (i := 8) (x := v7) (lv' := [some (.ref 12), some (.ref t), some (.int a0), some (.int a1), some (.int a2), some (.int v1), some (.int v2), some (.int v6), some (.int v7), none, none]) dX0_left_25 (by decide) rfl rfl ?_
    refine z_loops (lvOf := fun s : Int32 × Int32 => [some (.ref 12), some (.ref t), some (.int a0), some (.int a1), some (.int a2), some (.int s.1), some (.int v2), some (.int v6), some (.int s.2), none, none]) (dOf := fun s : Int32 × Int32 => D) (fun kc10 hkc10 s => ?_) N (v1, v7)
    obtain ⟨v8, v9⟩ := s
    show z_F _ _ _ _ _ 27 [some (.ref 12), some (.ref t), some (.int a0), some (.int a1), some (.int a2), some (.int v8), some (.int v2), some (.int v6), some (.int v9), none, none] [] S D _ (F_X0_left_L27 t kc3 a0 a1 a2 v2 v6 D kc10 v8 v9)
    unfold F_X0_left_L27
    have hJ_F_X0_left_J69 : ∀ (v20 : Int32) (v21 : Int32) (v22 : Int32) , z_F l M_X0_left (40, 640, 0, 0) 0 0 69 [some (.ref 12), some (.ref t), some (.int a0), some (.int a1), some (.int a2), some (.int v20), some (.int v2), some (.int v6), some (.int v21), some (.int v22), none] [.int 1] S D (z_ko (z_kR S D)) (F_X0_left_J69 kc10 v6 D v20 v21 v22) := by
      intro v20 v21 v22
      unfold F_X0_left_J69
      refine z_istore (i := 10) (x := 1) (lv' := [some (.ref 12), some (.ref t), some (.int a0), some (.int a1), some (.int a2), some (.int v20), some (.int v2), some (.int v6), some (.int v21), some (.int v22), some (.int 1)]) dX0_left_69 (by decide) rfl rfl ?_
      refine z_iload (i := 10) (x := 1) dX0_left_71 rfl ?_
      refine z_if_eqN 90 dX0_left_73 (by decide) (by decide) ?_
      refine z_aload_n (i := 0) (x := 12) dX0_left_76 rfl rfl ?_
      refine z_iload (i := 7) (x := v6) dX0_left_77 rfl ?_
      refine z_iload (i := 9) (x := v22) dX0_left_79 rfl ?_
      refine z_cP (As := [.ref 12, .int v6, .int v22]) (rest := []) (em_X0_mayBear hl hW v6 v22 D) (fun o7 h => z_runV 72 2 h rfl kk_X0_72 hs12 kl_0.1 kq_X0_mayBear rfl (Nat.le_of_ble_eq_true rfl) ⟨Nat.le_of_ble_eq_true rfl, Nat.le_of_ble_eq_true rfl, Nat.le_of_ble_eq_true rfl, Nat.le_of_ble_eq_true rfl⟩ dX0_left_81) z_gR (fun hz23 => ?_)
      refine z_if_eq 90 dX0_left_84 (by decide) (fun c24 => ?_) (fun c24 => ?_)
      · refine z_iinc (i := 8) (x := v21) (y := 1) dX0_left_90 rfl (by decide) (by decide) rfl (fun v25 => ?_)
        refine z_goto 27 dX0_left_93 (by decide) ?_
        refine z_weak (lv' := [some (.ref 12), some (.ref t), some (.int a0), some (.int a1), some (.int a2), some (.int v20), some (.int v2), some (.int v6), some (.int v25), none, none]) ⟨Or.inr rfl, ⟨Or.inr rfl, ⟨Or.inr rfl, ⟨Or.inr rfl, ⟨Or.inr rfl, ⟨Or.inr rfl, ⟨Or.inr rfl, ⟨Or.inr rfl, ⟨Or.inr rfl, ⟨Or.inl rfl, ⟨Or.inl rfl, trivial⟩⟩⟩⟩⟩⟩⟩⟩⟩⟩⟩ ?_
        exact hkc10 (v20, v25)
      · refine z_iinc (i := 5) (x := v20) (y := 1) dX0_left_87 rfl (by decide) (by decide) rfl (fun v26 => ?_)
        refine z_iinc (i := 8) (x := v21) (y := 1) dX0_left_90 rfl (by decide) (by decide) rfl (fun v27 => ?_)
        refine z_goto 27 dX0_left_93 (by decide) ?_
        refine z_weak (lv' := [some (.ref 12), some (.ref t), some (.int a0), some (.int a1), some (.int a2), some (.int v26), some (.int v2), some (.int v6), some (.int v27), none, none]) ⟨Or.inr rfl, ⟨Or.inr rfl, ⟨Or.inr rfl, ⟨Or.inr rfl, ⟨Or.inr rfl, ⟨Or.inr rfl, ⟨Or.inr rfl, ⟨Or.inr rfl, ⟨Or.inr rfl, ⟨Or.inl rfl, ⟨Or.inl rfl, trivial⟩⟩⟩⟩⟩⟩⟩⟩⟩⟩⟩ ?_
        exact hkc10 (v26, v27)
    have hJ_F_X0_left_J64 : ∀ (v17 : Int32) (v18 : Int32) (v19 : Int32) , z_F l M_X0_left (40, 640, 0, 0) 0 0 64 [some (.ref 12), some (.ref t), some (.int a0), some (.int a1), some (.int a2), some (.int v17), some (.int v2), some (.int v6), some (.int v18), some (.int v19), none] [] S D (z_ko (z_kR S D)) (F_X0_left_J64 kc10 v6 D v17 v18 v19) := by
      intro v17 v18 v19
      unfold F_X0_left_J64
      refine z_iconst (v := 1) dX0_left_64 rfl ?_
      refine z_goto 69 dX0_left_65 (by decide) ?_
      exact hJ_F_X0_left_J69 v17 v18 v19
    have hJ_F_X0_left_J69x : ∀ (v30 : Int32) (v31 : Int32) (v32 : Int32) , z_F l M_X0_left (40, 640, 0, 0) 0 0 69 [some (.ref 12), some (.ref t), some (.int a0), some (.int a1), some (.int a2), some (.int v30), some (.int v2), some (.int v6), some (.int v31), some (.int v32), none] [.int 0] S D (z_ko (z_kR S D)) (F_X0_left_J69x kc10 v30 v31 v32) := by
      intro v30 v31 v32
      unfold F_X0_left_J69x
      refine z_istore (i := 10) (x := 0) (lv' := [some (.ref 12), some (.ref t), some (.int a0), some (.int a1), some (.int a2), some (.int v30), some (.int v2), some (.int v6), some (.int v31), some (.int v32), some (.int 0)]) dX0_left_69 (by decide) rfl rfl ?_
      refine z_iload (i := 10) (x := 0) dX0_left_71 rfl ?_
      refine z_if_eqJ 90 dX0_left_73 (by decide) (by decide) ?_
      refine z_iinc (i := 8) (x := v31) (y := 1) dX0_left_90 rfl (by decide) (by decide) rfl (fun v33 => ?_)
      refine z_goto 27 dX0_left_93 (by decide) ?_
      refine z_weak (lv' := [some (.ref 12), some (.ref t), some (.int a0), some (.int a1), some (.int a2), some (.int v30), some (.int v2), some (.int v6), some (.int v33), none, none]) ⟨Or.inr rfl, ⟨Or.inr rfl, ⟨Or.inr rfl, ⟨Or.inr rfl, ⟨Or.inr rfl, ⟨Or.inr rfl, ⟨Or.inr rfl, ⟨Or.inr rfl, ⟨Or.inr rfl, ⟨Or.inl rfl, ⟨Or.inl rfl, trivial⟩⟩⟩⟩⟩⟩⟩⟩⟩⟩⟩ ?_
      exact hkc10 (v30, v33)
    refine z_iload (i := 8) (x := v9) dX0_left_27 rfl ?_
    refine z_iload_n (i := 2) (x := a0) dX0_left_29 rfl rfl ?_
    refine z_icmp_ge 96 dX0_left_30 (by decide) (fun c11 => ?_) (fun c11 => ?_)
    · refine z_iinc (i := 6) (x := v2) (y := 1) dX0_left_96 rfl (by decide) (by decide) rfl (fun v12 => ?_)
      refine z_goto 6 dX0_left_99 (by decide) ?_
      refine z_weak (lv' := [some (.ref 12), some (.ref t), some (.int a0), some (.int a1), some (.int a2), some (.int v8), some (.int v12), none, none, none, none]) ⟨Or.inr rfl, ⟨Or.inr rfl, ⟨Or.inr rfl, ⟨Or.inr rfl, ⟨Or.inr rfl, ⟨Or.inr rfl, ⟨Or.inr rfl, ⟨Or.inl rfl, ⟨Or.inl rfl, ⟨Or.inl rfl, ⟨Or.inl rfl, trivial⟩⟩⟩⟩⟩⟩⟩⟩⟩⟩⟩ ?_
      exact hkc3 (v8, v12)
    · refine z_aload_n (i := 1) (x := t) dX0_left_33 rfl rfl ?_
      refine z_iload (i := 8) (x := v9) dX0_left_34 rfl ?_
      refine z_iconst (v := 0) dX0_left_36 rfl ?_
      refine z_cP (As := [.ref t, .int v9, .int 0]) (rest := []) (em_X9_has hl hT v9 0 D) (fun o7 h => z_runV 67 2 h rfl kk_X0_67 hT.1 kl_9.1 kq_X9_has rfl (Nat.le_of_ble_eq_true rfl) ⟨Nat.le_of_ble_eq_true rfl, Nat.le_of_ble_eq_true rfl, Nat.le_of_ble_eq_true rfl, Nat.le_of_ble_eq_true rfl⟩ dX0_left_37) z_gR (fun hz13 => ?_)
      refine z_topi (fun v14 => ?_)
      refine z_istore (i := 9) (x := v14) (lv' := [some (.ref 12), some (.ref t), some (.int a0), some (.int a1), some (.int a2), some (.int v8), some (.int v2), some (.int v6), some (.int v9), some (.int v14), none]) dX0_left_40 (by decide) rfl rfl ?_
      refine z_iload (i := 7) (x := v6) dX0_left_42 rfl ?_
      refine z_iload_n (i := 3) (x := a1) dX0_left_44 rfl rfl ?_
      refine z_cP (As := [.int v6, .int a1]) (rest := []) (em_X10_partOf hl v6 a1 D) (fun o7 h => z_runSN 63 2 h rfl kk_X0_63 kn_X0_63 kq_X10_partOf rfl (Nat.le_of_ble_eq_true rfl) ⟨Nat.le_of_ble_eq_true rfl, Nat.le_of_ble_eq_true rfl, Nat.le_of_ble_eq_true rfl, Nat.le_of_ble_eq_true rfl⟩ dX0_left_45) z_gR (fun hz15 => ?_)
      refine z_iload (i := 4) (x := a2) dX0_left_48 rfl ?_
      refine z_icmp_eq 64 dX0_left_50 (by decide) (fun c16 => ?_) (fun c16 => ?_)
      · exact hJ_F_X0_left_J64 v8 v9 v14
      · refine z_iload (i := 9) (x := v14) dX0_left_53 rfl ?_
        refine z_iload_n (i := 3) (x := a1) dX0_left_55 rfl rfl ?_
        refine z_cP (As := [.int v14, .int a1]) (rest := []) (em_X10_partOf hl v14 a1 D) (fun o7 h => z_runSN 63 2 h rfl kk_X0_63 kn_X0_63 kq_X10_partOf rfl (Nat.le_of_ble_eq_true rfl) ⟨Nat.le_of_ble_eq_true rfl, Nat.le_of_ble_eq_true rfl, Nat.le_of_ble_eq_true rfl, Nat.le_of_ble_eq_true rfl⟩ dX0_left_56) z_gR (fun hz28 => ?_)
        refine z_iload (i := 4) (x := a2) dX0_left_59 rfl ?_
        refine z_icmp_ne 68 dX0_left_61 (by decide) (fun c29 => ?_) (fun c29 => ?_)
        · exact hJ_F_X0_left_J64 v8 v9 v14
        · refine z_iconst (v := 0) dX0_left_68 rfl ?_
          exact hJ_F_X0_left_J69x v8 v9 v14

def F_X0_mostLeft_L6 (N : Nat) (t : Nat) (a0 : Int32) (a1 : Int32) (D : z_Dat) (kc3 : ((Int32 × Int32) → Option Int32)) (v1 : Int32) (v2 : Int32) : Option Int32 :=
  if 9 < v2 then (some v1)
  else (z_bd (F_X0_left N t a0 a1 v2 D) (fun a_6 => z_let (z_max v1 a_6) (fun v7 => z_let (v2 + 1) (fun v8 => kc3 (v7, v8)))))
def F_X0_mostLeft (N : Nat) (t : Nat) (a0 : Int32) (a1 : Int32) (D : z_Dat) : Option Int32 :=
  z_loop (fun kc3 s => F_X0_mostLeft_L6 N t a0 a1 D kc3 s.1 s.2) N (0, 0)
set_option maxRecDepth 100000 in
set_option maxHeartbeats 4000000 in
theorem em_X0_mostLeft {l : Launch} {S : List z_Shp} {oW : Nat} {t : Nat} (hl : l.stackTraces = false) (hW : z_W S oW) (hT : z_isTown S t) (N : Nat) (a0 : Int32) (a1 : Int32) (D : z_Dat) : ∀ out, z_ko (z_kR S D) (F_X0_mostLeft N t a0 a1 D) out → z_EM l M_X0_mostLeft (50, 700, 0, 0) [.ref 12, .ref t, .int a0, .int a1] S D out := by
  have hs12 : S[12]? = some (2, 3, [some (some 13), some (some 14), none]) := hW.1 12 _ rfl
  refine z_meth hl rfl kp_X0 (Nat.le_of_ble_eq_true rfl) (lv := [some (.ref 12), some (.ref t), some (.int a0), some (.int a1), none, none]) rfl ?_
  unfold F_X0_mostLeft
  refine z_iconst (v := 0) dX0_mostLeft_0 rfl ?_
  refine z_istore (i := 4) (x := 0) (lv' := [some (.ref 12), some (.ref t), some (.int a0), some (.int a1), some (.int 0), none]) dX0_mostLeft_1 (by decide) rfl rfl ?_
  refine z_iconst (v := 0) dX0_mostLeft_3 rfl ?_
  refine z_istore (i := 5) (x := 0) (lv' := [some (.ref 12), some (.ref t), some (.int a0), some (.int a1), some (.int 0), some (.int 0)]) dX0_mostLeft_4 (by decide) rfl rfl ?_
  refine z_loops (lvOf := fun s : Int32 × Int32 => [some (.ref 12), some (.ref t), some (.int a0), some (.int a1), some (.int s.1), some (.int s.2)]) (dOf := fun s : Int32 × Int32 => D) (fun kc3 hkc3 s => ?_) N (0, 0)
  obtain ⟨v1, v2⟩ := s
  show z_F _ _ _ _ _ 6 [some (.ref 12), some (.ref t), some (.int a0), some (.int a1), some (.int v1), some (.int v2)] [] S D _ (F_X0_mostLeft_L6 N t a0 a1 D kc3 v1 v2)
  unfold F_X0_mostLeft_L6
  refine z_iload (i := 5) (x := v2) dX0_mostLeft_6 rfl ?_
  refine z_bipush (v := 9) dX0_mostLeft_8 (by decide) ?_
  refine z_icmp_gt 35 dX0_mostLeft_10 (by decide) (fun c4 => ?_) (fun c4 => ?_)
  · refine z_iload (i := 4) (x := v1) dX0_mostLeft_35 rfl ?_
    exact z_ireturn dX0_mostLeft_37 z_rR rfl (by decide) (by decide)
  · refine z_iload (i := 4) (x := v1) dX0_mostLeft_13 rfl ?_
    refine z_aload_n (i := 0) (x := 12) dX0_mostLeft_15 rfl rfl ?_
    refine z_aload_n (i := 1) (x := t) dX0_mostLeft_16 rfl rfl ?_
    refine z_iload_n (i := 2) (x := a0) dX0_mostLeft_17 rfl rfl ?_
    refine z_iload_n (i := 3) (x := a1) dX0_mostLeft_18 rfl rfl ?_
    refine z_iload (i := 5) (x := v2) dX0_mostLeft_19 rfl ?_
    refine z_cR (As := [.ref 12, .ref t, .int a0, .int a1, .int v2]) (rest := [.int v1]) (em_X0_left hl hW hT N a0 a1 v2 D) (fun o7 h => z_runV 76 4 h rfl kk_X0_76 hs12 kl_0.1 kq_X0_left rfl (Nat.le_of_ble_eq_true rfl) ⟨Nat.le_of_ble_eq_true rfl, Nat.le_of_ble_eq_true rfl, Nat.le_of_ble_eq_true rfl, Nat.le_of_ble_eq_true rfl⟩ dX0_mostLeft_21) z_gR (fun a_6 hz5 => ?_)
    refine z_mmax dX0_mostLeft_24 km_X0_80 ⟨Nat.le_of_ble_eq_true rfl, Nat.le_of_ble_eq_true rfl, Nat.le_of_ble_eq_true rfl, Nat.le_of_ble_eq_true rfl⟩ ?_
    refine z_topi (fun v7 => ?_)
    refine z_istore (i := 4) (x := v7) (lv' := [some (.ref 12), some (.ref t), some (.int a0), some (.int a1), some (.int v7), some (.int v2)]) dX0_mostLeft_27 (by decide) rfl rfl ?_
    refine z_iinc (i := 5) (x := v2) (y := 1) dX0_mostLeft_29 rfl (by decide) (by decide) rfl (fun v8 => ?_)
    refine z_goto 6 dX0_mostLeft_32 (by decide) ?_
    exact hkc3 (v7, v8)

def F_X10_look_J25 (a0 : Int32) (v33 : Int32) (D34 : z_Dat) : Option ((Int32 × z_Dat) ⊕ (String × z_Dat)) :=
  if a0 = 0 then (some (.inl (0, D34)))
  else (some (.inl (v33, D34)))
def F_X10_look_J82 (a0 : Int32) (v31 : Int32) (D32 : z_Dat) : Option ((Int32 × z_Dat) ⊕ (String × z_Dat)) :=
  F_X10_look_J25 a0 v31 D32
def F_X10_look_J25x (a0 : Int32) (v40 : Int32) (D41 : z_Dat) : Option ((Int32 × z_Dat) ⊕ (String × z_Dat)) :=
  if a0 = 0 then (some (.inl (2, D41)))
  else (some (.inl (v40, D41)))
def F_X10_look_J82x (a0 : Int32) (v38 : Int32) (D39 : z_Dat) : Option ((Int32 × z_Dat) ⊕ (String × z_Dat)) :=
  F_X10_look_J25x a0 v38 D39
def F_X10_look_J76 (a0 : Int32) (v36 : Int32) (D37 : z_Dat) : Option ((Int32 × z_Dat) ⊕ (String × z_Dat)) :=
  F_X10_look_J82x a0 v36 D37
def F_X10_look_J25xx (N : Nat) (o : Nat) (a0 : Int32) (v24 : Int32) (D25 : z_Dat) : Option ((Int32 × z_Dat) ⊕ (String × z_Dat)) :=
  if (F_X0_tells 2 D25) = 0 then (z_bd (F_X0_mostLeft N 3 (D25 o 6) 2 D25) (fun a_29 => if v24 ≤ a_29 then (F_X10_look_J82 a0 v24 D25)
  else (F_X10_look_J76 a0 a_29 D25)))
  else (F_X10_look_J82 a0 v24 D25)
def F_X10_look_J82xx (N : Nat) (o : Nat) (a0 : Int32) (v22 : Int32) (D23 : z_Dat) : Option ((Int32 × z_Dat) ⊕ (String × z_Dat)) :=
  F_X10_look_J25xx N o a0 v22 D23
def F_X10_look_J25xxx (a0 : Int32) (v56 : Int32) (D57 : z_Dat) : Option ((Int32 × z_Dat) ⊕ (String × z_Dat)) :=
  if a0 = 0 then (some (.inl (1, D57)))
  else (some (.inl (v56, D57)))
def F_X10_look_J82xxx (a0 : Int32) (v54 : Int32) (D55 : z_Dat) : Option ((Int32 × z_Dat) ⊕ (String × z_Dat)) :=
  F_X10_look_J25xxx a0 v54 D55
def F_X10_look_J25xxxx (N : Nat) (o : Nat) (a0 : Int32) (v47 : Int32) (D48 : z_Dat) : Option ((Int32 × z_Dat) ⊕ (String × z_Dat)) :=
  if (F_X0_tells 2 D48) = 0 then (z_bd (F_X0_mostLeft N 3 (D48 o 6) 2 D48) (fun a_52 => if v47 ≤ a_52 then (F_X10_look_J82xxx a0 v47 D48)
  else (F_X10_look_J76 a0 a_52 D48)))
  else (F_X10_look_J82xxx a0 v47 D48)
def F_X10_look_J82xxxx (N : Nat) (o : Nat) (a0 : Int32) (v45 : Int32) (D46 : z_Dat) : Option ((Int32 × z_Dat) ⊕ (String × z_Dat)) :=
  F_X10_look_J25xxxx N o a0 v45 D46
def F_X10_look_J76x (N : Nat) (o : Nat) (a0 : Int32) (v43 : Int32) (D44 : z_Dat) : Option ((Int32 × z_Dat) ⊕ (String × z_Dat)) :=
  F_X10_look_J82xxxx N o a0 v43 D44
def F_X10_look_J25xxxxx (N : Nat) (o : Nat) (a0 : Int32) (v15 : Int32) (D16 : z_Dat) : Option ((Int32 × z_Dat) ⊕ (String × z_Dat)) :=
  if (F_X0_tells 1 D16) = 0 then (z_bd (F_X0_mostLeft N 3 (D16 o 6) 1 D16) (fun a_20 => if v15 ≤ a_20 then (F_X10_look_J82xx N o a0 v15 D16)
  else (F_X10_look_J76x N o a0 a_20 D16)))
  else (F_X10_look_J82xx N o a0 v15 D16)
def F_X10_look_J82xxxxx (N : Nat) (o : Nat) (a0 : Int32) (v13 : Int32) (D14 : z_Dat) : Option ((Int32 × z_Dat) ⊕ (String × z_Dat)) :=
  F_X10_look_J25xxxxx N o a0 v13 D14
def F_X10_look_J76xx (N : Nat) (o : Nat) (a0 : Int32) (v11 : Int32) (D12 : z_Dat) : Option ((Int32 × z_Dat) ⊕ (String × z_Dat)) :=
  F_X10_look_J82xxxxx N o a0 v11 D12
def F_X10_look_J25xxxxxx (a0 : Int32) (D72 : z_Dat) : Option ((Int32 × z_Dat) ⊕ (String × z_Dat)) :=
  if a0 = 0 then (some (.inl ((-1), D72)))
  else (some (.inl ((-1), D72)))
def F_X10_look_J82xxxxxx (a0 : Int32) (D71 : z_Dat) : Option ((Int32 × z_Dat) ⊕ (String × z_Dat)) :=
  F_X10_look_J25xxxxxx a0 D71
def F_X10_look_J25xxxxxxx (N : Nat) (o : Nat) (a0 : Int32) (D66 : z_Dat) : Option ((Int32 × z_Dat) ⊕ (String × z_Dat)) :=
  if (F_X0_tells 2 D66) = 0 then (z_bd (F_X0_mostLeft N 3 (D66 o 6) 2 D66) (fun a_70 => F_X10_look_J76 a0 a_70 D66))
  else (F_X10_look_J82xxxxxx a0 D66)
def F_X10_look_J82xxxxxxx (N : Nat) (o : Nat) (a0 : Int32) (D65 : z_Dat) : Option ((Int32 × z_Dat) ⊕ (String × z_Dat)) :=
  F_X10_look_J25xxxxxxx N o a0 D65
def F_X10_look_J25xxxxxxxx (N : Nat) (o : Nat) (a0 : Int32) (D60 : z_Dat) : Option ((Int32 × z_Dat) ⊕ (String × z_Dat)) :=
  if (F_X0_tells 1 D60) = 0 then (z_bd (F_X0_mostLeft N 3 (D60 o 6) 1 D60) (fun a_64 => F_X10_look_J76x N o a0 a_64 D60))
  else (F_X10_look_J82xxxxxxx N o a0 D60)
def F_X10_look_J82xxxxxxxx (N : Nat) (o : Nat) (a0 : Int32) (D59 : z_Dat) : Option ((Int32 × z_Dat) ⊕ (String × z_Dat)) :=
  F_X10_look_J25xxxxxxxx N o a0 D59
def F_X10_look_J25xxxxxxxxx (N : Nat) (o : Nat) (a0 : Int32) (D6 : z_Dat) : Option ((Int32 × z_Dat) ⊕ (String × z_Dat)) :=
  if (F_X0_tells 0 D6) = 0 then (z_bd (F_X0_mostLeft N 3 (D6 o 6) 0 D6) (fun a_10 => F_X10_look_J76xx N o a0 a_10 D6))
  else (F_X10_look_J82xxxxxxxx N o a0 D6)
def F_X10_look_J15 (N : Nat) (o : Nat) (a0 : Int32) (D3 : z_Dat) : Option ((Int32 × z_Dat) ⊕ (String × z_Dat)) :=
  z_bt (F_X10_demand 0 D3) (fun a_5 => F_X10_look_J25xxxxxxxxx N o a0 a_5)
def F_X10_look_J14 (N : Nat) (o : Nat) (a0 : Int32) (D2 : z_Dat) : Option ((Int32 × z_Dat) ⊕ (String × z_Dat)) :=
  F_X10_look_J15 N o a0 D2
def F_X10_look_J15x (N : Nat) (o : Nat) (a0 : Int32) (D75 : z_Dat) : Option ((Int32 × z_Dat) ⊕ (String × z_Dat)) :=
  z_bt (F_X10_demand 1 D75) (fun a_77 => F_X10_look_J25xxxxxxxxx N o a0 a_77)
def F_X10_look (N : Nat) (o : Nat) (a0 : Int32) (D : z_Dat) : Option ((Int32 × z_Dat) ⊕ (String × z_Dat)) :=
  if a0 < 0 then (F_X10_look_J14 N o a0 D)
  else (if 1 < a0 then (F_X10_look_J14 N o a0 D)
  else (F_X10_look_J15x N o a0 D))
set_option maxRecDepth 100000 in
set_option maxHeartbeats 4000000 in
theorem em_X10_look {l : Launch} {S : List z_Shp} {o : Nat} (hl : l.stackTraces = false) (hW : z_W S o) (N : Nat) (a0 : Int32) (D : z_Dat) : ∀ out, z_ko (z_kTI S) (F_X10_look N o a0 D) out → z_EM l M_X10_look (60, 760, 1, 6) [.ref 0, .int a0] S D out := by
  have hC := hW.2
  have hs0 : S[0]? = some (12, 15, [some (some 1), some (some 3), some (some 5), some (some 7), some (some 12), some (some 15), some (some 21), some (some 25), some (some 28), some (some 32), some (some 33), some (some o), none, none, none]) := hW.1 0 _ rfl
  have hs3 : S[3]? = some (11, 1, [some (some 4)]) := hW.1 3 _ rfl
  have hs4 : S[4]? = some (0, 44, []) := hW.1 4 _ rfl
  have hs12 : S[12]? = some (2, 3, [some (some 13), some (some 14), none]) := hW.1 12 _ rfl
  refine z_meth hl rfl kp_X10 (Nat.le_of_ble_eq_true rfl) (lv := [some (.ref 0), some (.int a0), none, none, none, none]) rfl ?_
  unfold F_X10_look
  have hJ_F_X10_look_J25 : ∀ (v33 : Int32) (D34 : z_Dat) , z_F l M_X10_look (60, 760, 1, 6) 1 6 25 [some (.ref 0), some (.int a0), some (.int 0), some (.int v33), some (.int 3), none] [] S D34 (z_ko (z_kTI S)) (F_X10_look_J25 a0 v33 D34) := by
    intro v33 D34
    unfold F_X10_look_J25
    refine z_iload (i := 4) (x := 3) dX10_look_25 rfl ?_
    refine z_iconst (v := 3) dX10_look_27 rfl ?_
    refine z_icmp_geJ 88 dX10_look_28 (by decide) (by decide) ?_
    refine z_iload_n (i := 1) (x := a0) dX10_look_88 rfl rfl ?_
    refine z_if_ne 96 dX10_look_89 (by decide) (fun c35 => ?_) (fun c35 => ?_)
    · refine z_iload_n (i := 2) (x := 0) dX10_look_92 rfl rfl ?_
      refine z_goto 97 dX10_look_93 (by decide) ?_
      exact z_ireturn dX10_look_97 z_rXI rfl (by decide) (by decide)
    · refine z_iload_n (i := 3) (x := v33) dX10_look_96 rfl rfl ?_
      exact z_ireturn dX10_look_97 z_rXI rfl (by decide) (by decide)
  have hJ_F_X10_look_J82 : ∀ (v31 : Int32) (D32 : z_Dat) , z_F l M_X10_look (60, 760, 1, 6) 1 6 82 [some (.ref 0), some (.int a0), some (.int 0), some (.int v31), some (.int 2), none] [] S D32 (z_ko (z_kTI S)) (F_X10_look_J82 a0 v31 D32) := by
    intro v31 D32
    unfold F_X10_look_J82
    refine z_iincC (i := 4) (x := 2) (v := 3) (lv' := [some (.ref 0), some (.int a0), some (.int 0), some (.int v31), some (.int 3), none]) dX10_look_82 rfl (by decide) (by decide) rfl rfl ?_
    refine z_goto 25 dX10_look_85 (by decide) ?_
    refine z_widen (k := 1) (n := 6) (by decide) (by decide) ?_
    exact hJ_F_X10_look_J25 v31 D32
  have hJ_F_X10_look_J25x : ∀ (v40 : Int32) (D41 : z_Dat) , z_F l M_X10_look (60, 760, 1, 6) 1 6 25 [some (.ref 0), some (.int a0), some (.int 2), some (.int v40), some (.int 3), none] [] S D41 (z_ko (z_kTI S)) (F_X10_look_J25x a0 v40 D41) := by
    intro v40 D41
    unfold F_X10_look_J25x
    refine z_iload (i := 4) (x := 3) dX10_look_25 rfl ?_
    refine z_iconst (v := 3) dX10_look_27 rfl ?_
    refine z_icmp_geJ 88 dX10_look_28 (by decide) (by decide) ?_
    refine z_iload_n (i := 1) (x := a0) dX10_look_88 rfl rfl ?_
    refine z_if_ne 96 dX10_look_89 (by decide) (fun c42 => ?_) (fun c42 => ?_)
    · refine z_iload_n (i := 2) (x := 2) dX10_look_92 rfl rfl ?_
      refine z_goto 97 dX10_look_93 (by decide) ?_
      exact z_ireturn dX10_look_97 z_rXI rfl (by decide) (by decide)
    · refine z_iload_n (i := 3) (x := v40) dX10_look_96 rfl rfl ?_
      exact z_ireturn dX10_look_97 z_rXI rfl (by decide) (by decide)
  have hJ_F_X10_look_J82x : ∀ (v38 : Int32) (D39 : z_Dat) , z_F l M_X10_look (60, 760, 1, 6) 1 6 82 [some (.ref 0), some (.int a0), some (.int 2), some (.int v38), some (.int 2), none] [] S D39 (z_ko (z_kTI S)) (F_X10_look_J82x a0 v38 D39) := by
    intro v38 D39
    unfold F_X10_look_J82x
    refine z_iincC (i := 4) (x := 2) (v := 3) (lv' := [some (.ref 0), some (.int a0), some (.int 2), some (.int v38), some (.int 3), none]) dX10_look_82 rfl (by decide) (by decide) rfl rfl ?_
    refine z_goto 25 dX10_look_85 (by decide) ?_
    refine z_widen (k := 1) (n := 6) (by decide) (by decide) ?_
    exact hJ_F_X10_look_J25x v38 D39
  have hJ_F_X10_look_J76 : ∀ (v36 : Int32) (D37 : z_Dat) , z_F l M_X10_look (60, 760, 1, 6) 1 6 76 [some (.ref 0), some (.int a0), none, none, some (.int 2), some (.int v36)] [] S D37 (z_ko (z_kTI S)) (F_X10_look_J76 a0 v36 D37) := by
    intro v36 D37
    unfold F_X10_look_J76
    refine z_iload (i := 4) (x := 2) dX10_look_76 rfl ?_
    refine z_istore_n (i := 2) (x := 2) (lv' := [some (.ref 0), some (.int a0), some (.int 2), none, some (.int 2), some (.int v36)]) dX10_look_78 rfl (by decide) rfl rfl ?_
    refine z_iload (i := 5) (x := v36) dX10_look_79 rfl ?_
    refine z_istore_n (i := 3) (x := v36) (lv' := [some (.ref 0), some (.int a0), some (.int 2), some (.int v36), some (.int 2), some (.int v36)]) dX10_look_81 rfl (by decide) rfl rfl ?_
    refine z_weak (lv' := [some (.ref 0), some (.int a0), some (.int 2), some (.int v36), some (.int 2), none]) ⟨Or.inr rfl, ⟨Or.inr rfl, ⟨Or.inr rfl, ⟨Or.inr rfl, ⟨Or.inr rfl, ⟨Or.inl rfl, trivial⟩⟩⟩⟩⟩⟩ ?_
    refine z_widen (k := 1) (n := 6) (by decide) (by decide) ?_
    exact hJ_F_X10_look_J82x v36 D37
  have hJ_F_X10_look_J25xx : ∀ (v24 : Int32) (D25 : z_Dat) , z_F l M_X10_look (60, 760, 1, 6) 1 6 25 [some (.ref 0), some (.int a0), some (.int 0), some (.int v24), some (.int 2), none] [] S D25 (z_ko (z_kTI S)) (F_X10_look_J25xx N o a0 v24 D25) := by
    intro v24 D25
    unfold F_X10_look_J25xx
    refine z_iload (i := 4) (x := 2) dX10_look_25 rfl ?_
    refine z_iconst (v := 3) dX10_look_27 rfl ?_
    refine z_icmp_geN 88 dX10_look_28 (by decide) (by decide) ?_
    refine z_aload_n (i := 0) (x := 0) dX10_look_31 rfl rfl ?_
    refine z_getR (j := 4) dX10_look_32 kl_10 hs0 (by decide) rfl rfl kf_X10_36 ?_
    refine z_iload (i := 4) (x := 2) dX10_look_35 rfl ?_
    refine z_cP (As := [.ref 12, .int 2]) (rest := []) (em_X0_tells hl hW 2 D25) (fun o7 h => z_runV 283 1 h rfl kk_X10_283 hs12 kl_0.1 kq_X0_tells rfl (Nat.le_of_ble_eq_true rfl) ⟨Nat.le_of_ble_eq_true rfl, Nat.le_of_ble_eq_true rfl, Nat.le_of_ble_eq_true rfl, Nat.le_of_ble_eq_true rfl⟩ dX10_look_37) z_gXI (fun hz26 => ?_)
    refine z_if_ne 82 dX10_look_40 (by decide) (fun c27 => ?_) (fun c27 => ?_)
    · refine z_aload_n (i := 0) (x := 0) dX10_look_43 rfl rfl ?_
      refine z_getR (j := 4) dX10_look_44 kl_10 hs0 (by decide) rfl rfl kf_X10_36 ?_
      refine z_aload_n (i := 0) (x := 0) dX10_look_47 rfl rfl ?_
      refine z_getR (j := 1) dX10_look_48 kl_10 hs0 (by decide) rfl rfl kf_X10_19 ?_
      refine z_aload_n (i := 0) (x := 0) dX10_look_51 rfl rfl ?_
      refine z_getR (j := 11) dX10_look_52 kl_10 hs0 (by decide) rfl rfl kf_X10_82 ?_
      refine z_getIN (j := 6) dX10_look_55 kl_1 hC.1 (by decide) rfl rfl kf_X10_134 ?_
      refine z_iload (i := 4) (x := 2) dX10_look_58 rfl ?_
      refine z_cR (As := [.ref 12, .ref 3, .int (D25 o 6), .int 2]) (rest := []) (em_X0_mostLeft hl hW ⟨hs3, hs4⟩ N (D25 o 6) 2 D25) (fun o7 h => z_runV 286 3 h rfl kk_X10_286 hs12 kl_0.1 kq_X0_mostLeft rfl (Nat.le_of_ble_eq_true rfl) ⟨Nat.le_of_ble_eq_true rfl, Nat.le_of_ble_eq_true rfl, Nat.le_of_ble_eq_true rfl, Nat.le_of_ble_eq_true rfl⟩ dX10_look_60) z_gXI (fun a_29 hz28 => ?_)
      refine z_istore (i := 5) (x := a_29) (lv' := [some (.ref 0), some (.int a0), some (.int 0), some (.int v24), some (.int 2), some (.int a_29)]) dX10_look_63 (by decide) rfl rfl ?_
      refine z_iload_n (i := 2) (x := 0) dX10_look_65 rfl rfl ?_
      refine z_iconst (v := (-1)) dX10_look_66 rfl ?_
      refine z_icmp_eqN 76 dX10_look_67 (by decide) (by decide) ?_
      refine z_iload (i := 5) (x := a_29) dX10_look_70 rfl ?_
      refine z_iload_n (i := 3) (x := v24) dX10_look_72 rfl rfl ?_
      refine z_icmp_ge 82 dX10_look_73 (by decide) (fun c30 => ?_) (fun c30 => ?_)
      · refine z_weak (lv' := [some (.ref 0), some (.int a0), some (.int 0), some (.int v24), some (.int 2), none]) ⟨Or.inr rfl, ⟨Or.inr rfl, ⟨Or.inr rfl, ⟨Or.inr rfl, ⟨Or.inr rfl, ⟨Or.inl rfl, trivial⟩⟩⟩⟩⟩⟩ ?_
        refine z_widen (k := 1) (n := 6) (by decide) (by decide) ?_
        exact hJ_F_X10_look_J82 v24 D25
      · refine z_weak (lv' := [some (.ref 0), some (.int a0), none, none, some (.int 2), some (.int a_29)]) ⟨Or.inr rfl, ⟨Or.inr rfl, ⟨Or.inl rfl, ⟨Or.inl rfl, ⟨Or.inr rfl, ⟨Or.inr rfl, trivial⟩⟩⟩⟩⟩⟩ ?_
        refine z_widen (k := 1) (n := 6) (by decide) (by decide) ?_
        exact hJ_F_X10_look_J76 a_29 D25
    · refine z_widen (k := 1) (n := 6) (by decide) (by decide) ?_
      exact hJ_F_X10_look_J82 v24 D25
  have hJ_F_X10_look_J82xx : ∀ (v22 : Int32) (D23 : z_Dat) , z_F l M_X10_look (60, 760, 1, 6) 1 6 82 [some (.ref 0), some (.int a0), some (.int 0), some (.int v22), some (.int 1), none] [] S D23 (z_ko (z_kTI S)) (F_X10_look_J82xx N o a0 v22 D23) := by
    intro v22 D23
    unfold F_X10_look_J82xx
    refine z_iincC (i := 4) (x := 1) (v := 2) (lv' := [some (.ref 0), some (.int a0), some (.int 0), some (.int v22), some (.int 2), none]) dX10_look_82 rfl (by decide) (by decide) rfl rfl ?_
    refine z_goto 25 dX10_look_85 (by decide) ?_
    refine z_widen (k := 1) (n := 6) (by decide) (by decide) ?_
    exact hJ_F_X10_look_J25xx v22 D23
  have hJ_F_X10_look_J25xxx : ∀ (v56 : Int32) (D57 : z_Dat) , z_F l M_X10_look (60, 760, 1, 6) 1 6 25 [some (.ref 0), some (.int a0), some (.int 1), some (.int v56), some (.int 3), none] [] S D57 (z_ko (z_kTI S)) (F_X10_look_J25xxx a0 v56 D57) := by
    intro v56 D57
    unfold F_X10_look_J25xxx
    refine z_iload (i := 4) (x := 3) dX10_look_25 rfl ?_
    refine z_iconst (v := 3) dX10_look_27 rfl ?_
    refine z_icmp_geJ 88 dX10_look_28 (by decide) (by decide) ?_
    refine z_iload_n (i := 1) (x := a0) dX10_look_88 rfl rfl ?_
    refine z_if_ne 96 dX10_look_89 (by decide) (fun c58 => ?_) (fun c58 => ?_)
    · refine z_iload_n (i := 2) (x := 1) dX10_look_92 rfl rfl ?_
      refine z_goto 97 dX10_look_93 (by decide) ?_
      exact z_ireturn dX10_look_97 z_rXI rfl (by decide) (by decide)
    · refine z_iload_n (i := 3) (x := v56) dX10_look_96 rfl rfl ?_
      exact z_ireturn dX10_look_97 z_rXI rfl (by decide) (by decide)
  have hJ_F_X10_look_J82xxx : ∀ (v54 : Int32) (D55 : z_Dat) , z_F l M_X10_look (60, 760, 1, 6) 1 6 82 [some (.ref 0), some (.int a0), some (.int 1), some (.int v54), some (.int 2), none] [] S D55 (z_ko (z_kTI S)) (F_X10_look_J82xxx a0 v54 D55) := by
    intro v54 D55
    unfold F_X10_look_J82xxx
    refine z_iincC (i := 4) (x := 2) (v := 3) (lv' := [some (.ref 0), some (.int a0), some (.int 1), some (.int v54), some (.int 3), none]) dX10_look_82 rfl (by decide) (by decide) rfl rfl ?_
    refine z_goto 25 dX10_look_85 (by decide) ?_
    refine z_widen (k := 1) (n := 6) (by decide) (by decide) ?_
    exact hJ_F_X10_look_J25xxx v54 D55
  have hJ_F_X10_look_J25xxxx : ∀ (v47 : Int32) (D48 : z_Dat) , z_F l M_X10_look (60, 760, 1, 6) 1 6 25 [some (.ref 0), some (.int a0), some (.int 1), some (.int v47), some (.int 2), none] [] S D48 (z_ko (z_kTI S)) (F_X10_look_J25xxxx N o a0 v47 D48) := by
    intro v47 D48
    unfold F_X10_look_J25xxxx
    refine z_iload (i := 4) (x := 2) dX10_look_25 rfl ?_
    refine z_iconst (v := 3) dX10_look_27 rfl ?_
    refine z_icmp_geN 88 dX10_look_28 (by decide) (by decide) ?_
    refine z_aload_n (i := 0) (x := 0) dX10_look_31 rfl rfl ?_
    refine z_getR (j := 4) dX10_look_32 kl_10 hs0 (by decide) rfl rfl kf_X10_36 ?_
    refine z_iload (i := 4) (x := 2) dX10_look_35 rfl ?_
    refine z_cP (As := [.ref 12, .int 2]) (rest := []) (em_X0_tells hl hW 2 D48) (fun o7 h => z_runV 283 1 h rfl kk_X10_283 hs12 kl_0.1 kq_X0_tells rfl (Nat.le_of_ble_eq_true rfl) ⟨Nat.le_of_ble_eq_true rfl, Nat.le_of_ble_eq_true rfl, Nat.le_of_ble_eq_true rfl, Nat.le_of_ble_eq_true rfl⟩ dX10_look_37) z_gXI (fun hz49 => ?_)
    refine z_if_ne 82 dX10_look_40 (by decide) (fun c50 => ?_) (fun c50 => ?_)
    · refine z_aload_n (i := 0) (x := 0) dX10_look_43 rfl rfl ?_
      refine z_getR (j := 4) dX10_look_44 kl_10 hs0 (by decide) rfl rfl kf_X10_36 ?_
      refine z_aload_n (i := 0) (x := 0) dX10_look_47 rfl rfl ?_
      refine z_getR (j := 1) dX10_look_48 kl_10 hs0 (by decide) rfl rfl kf_X10_19 ?_
      refine z_aload_n (i := 0) (x := 0) dX10_look_51 rfl rfl ?_
      refine z_getR (j := 11) dX10_look_52 kl_10 hs0 (by decide) rfl rfl kf_X10_82 ?_
      refine z_getIN (j := 6) dX10_look_55 kl_1 hC.1 (by decide) rfl rfl kf_X10_134 ?_
      refine z_iload (i := 4) (x := 2) dX10_look_58 rfl ?_
      refine z_cR (As := [.ref 12, .ref 3, .int (D48 o 6), .int 2]) (rest := []) (em_X0_mostLeft hl hW ⟨hs3, hs4⟩ N (D48 o 6) 2 D48) (fun o7 h => z_runV 286 3 h rfl kk_X10_286 hs12 kl_0.1 kq_X0_mostLeft rfl (Nat.le_of_ble_eq_true rfl) ⟨Nat.le_of_ble_eq_true rfl, Nat.le_of_ble_eq_true rfl, Nat.le_of_ble_eq_true rfl, Nat.le_of_ble_eq_true rfl⟩ dX10_look_60) z_gXI (fun a_52 hz51 => ?_)
      refine z_istore (i := 5) (x := a_52) (lv' := [some (.ref 0), some (.int a0), some (.int 1), some (.int v47), some (.int 2), some (.int a_52)]) dX10_look_63 (by decide) rfl rfl ?_
      refine z_iload_n (i := 2) (x := 1) dX10_look_65 rfl rfl ?_
      refine z_iconst (v := (-1)) dX10_look_66 rfl ?_
      refine z_icmp_eqN 76 dX10_look_67 (by decide) (by decide) ?_
      refine z_iload (i := 5) (x := a_52) dX10_look_70 rfl ?_
      refine z_iload_n (i := 3) (x := v47) dX10_look_72 rfl rfl ?_
      refine z_icmp_ge 82 dX10_look_73 (by decide) (fun c53 => ?_) (fun c53 => ?_)
      · refine z_weak (lv' := [some (.ref 0), some (.int a0), some (.int 1), some (.int v47), some (.int 2), none]) ⟨Or.inr rfl, ⟨Or.inr rfl, ⟨Or.inr rfl, ⟨Or.inr rfl, ⟨Or.inr rfl, ⟨Or.inl rfl, trivial⟩⟩⟩⟩⟩⟩ ?_
        refine z_widen (k := 1) (n := 6) (by decide) (by decide) ?_
        exact hJ_F_X10_look_J82xxx v47 D48
      · refine z_weak (lv' := [some (.ref 0), some (.int a0), none, none, some (.int 2), some (.int a_52)]) ⟨Or.inr rfl, ⟨Or.inr rfl, ⟨Or.inl rfl, ⟨Or.inl rfl, ⟨Or.inr rfl, ⟨Or.inr rfl, trivial⟩⟩⟩⟩⟩⟩ ?_
        refine z_widen (k := 1) (n := 6) (by decide) (by decide) ?_
        exact hJ_F_X10_look_J76 a_52 D48
    · refine z_widen (k := 1) (n := 6) (by decide) (by decide) ?_
      exact hJ_F_X10_look_J82xxx v47 D48
  have hJ_F_X10_look_J82xxxx : ∀ (v45 : Int32) (D46 : z_Dat) , z_F l M_X10_look (60, 760, 1, 6) 1 6 82 [some (.ref 0), some (.int a0), some (.int 1), some (.int v45), some (.int 1), none] [] S D46 (z_ko (z_kTI S)) (F_X10_look_J82xxxx N o a0 v45 D46) := by
    intro v45 D46
    unfold F_X10_look_J82xxxx
    refine z_iincC (i := 4) (x := 1) (v := 2) (lv' := [some (.ref 0), some (.int a0), some (.int 1), some (.int v45), some (.int 2), none]) dX10_look_82 rfl (by decide) (by decide) rfl rfl ?_
    refine z_goto 25 dX10_look_85 (by decide) ?_
    refine z_widen (k := 1) (n := 6) (by decide) (by decide) ?_
    exact hJ_F_X10_look_J25xxxx v45 D46
  have hJ_F_X10_look_J76x : ∀ (v43 : Int32) (D44 : z_Dat) , z_F l M_X10_look (60, 760, 1, 6) 1 6 76 [some (.ref 0), some (.int a0), none, none, some (.int 1), some (.int v43)] [] S D44 (z_ko (z_kTI S)) (F_X10_look_J76x N o a0 v43 D44) := by
    intro v43 D44
    unfold F_X10_look_J76x
    refine z_iload (i := 4) (x := 1) dX10_look_76 rfl ?_
    refine z_istore_n (i := 2) (x := 1) (lv' := [some (.ref 0), some (.int a0), some (.int 1), none, some (.int 1), some (.int v43)]) dX10_look_78 rfl (by decide) rfl rfl ?_
    refine z_iload (i := 5) (x := v43) dX10_look_79 rfl ?_
    refine z_istore_n (i := 3) (x := v43) (lv' := [some (.ref 0), some (.int a0), some (.int 1), some (.int v43), some (.int 1), some (.int v43)]) dX10_look_81 rfl (by decide) rfl rfl ?_
    refine z_weak (lv' := [some (.ref 0), some (.int a0), some (.int 1), some (.int v43), some (.int 1), none]) ⟨Or.inr rfl, ⟨Or.inr rfl, ⟨Or.inr rfl, ⟨Or.inr rfl, ⟨Or.inr rfl, ⟨Or.inl rfl, trivial⟩⟩⟩⟩⟩⟩ ?_
    refine z_widen (k := 1) (n := 6) (by decide) (by decide) ?_
    exact hJ_F_X10_look_J82xxxx v43 D44
  have hJ_F_X10_look_J25xxxxx : ∀ (v15 : Int32) (D16 : z_Dat) , z_F l M_X10_look (60, 760, 1, 6) 1 6 25 [some (.ref 0), some (.int a0), some (.int 0), some (.int v15), some (.int 1), none] [] S D16 (z_ko (z_kTI S)) (F_X10_look_J25xxxxx N o a0 v15 D16) := by
    intro v15 D16
    unfold F_X10_look_J25xxxxx
    refine z_iload (i := 4) (x := 1) dX10_look_25 rfl ?_
    refine z_iconst (v := 3) dX10_look_27 rfl ?_
    refine z_icmp_geN 88 dX10_look_28 (by decide) (by decide) ?_
    refine z_aload_n (i := 0) (x := 0) dX10_look_31 rfl rfl ?_
    refine z_getR (j := 4) dX10_look_32 kl_10 hs0 (by decide) rfl rfl kf_X10_36 ?_
    refine z_iload (i := 4) (x := 1) dX10_look_35 rfl ?_
    refine z_cP (As := [.ref 12, .int 1]) (rest := []) (em_X0_tells hl hW 1 D16) (fun o7 h => z_runV 283 1 h rfl kk_X10_283 hs12 kl_0.1 kq_X0_tells rfl (Nat.le_of_ble_eq_true rfl) ⟨Nat.le_of_ble_eq_true rfl, Nat.le_of_ble_eq_true rfl, Nat.le_of_ble_eq_true rfl, Nat.le_of_ble_eq_true rfl⟩ dX10_look_37) z_gXI (fun hz17 => ?_)
    refine z_if_ne 82 dX10_look_40 (by decide) (fun c18 => ?_) (fun c18 => ?_)
    · refine z_aload_n (i := 0) (x := 0) dX10_look_43 rfl rfl ?_
      refine z_getR (j := 4) dX10_look_44 kl_10 hs0 (by decide) rfl rfl kf_X10_36 ?_
      refine z_aload_n (i := 0) (x := 0) dX10_look_47 rfl rfl ?_
      refine z_getR (j := 1) dX10_look_48 kl_10 hs0 (by decide) rfl rfl kf_X10_19 ?_
      refine z_aload_n (i := 0) (x := 0) dX10_look_51 rfl rfl ?_
      refine z_getR (j := 11) dX10_look_52 kl_10 hs0 (by decide) rfl rfl kf_X10_82 ?_
      refine z_getIN (j := 6) dX10_look_55 kl_1 hC.1 (by decide) rfl rfl kf_X10_134 ?_
      refine z_iload (i := 4) (x := 1) dX10_look_58 rfl ?_
      refine z_cR (As := [.ref 12, .ref 3, .int (D16 o 6), .int 1]) (rest := []) (em_X0_mostLeft hl hW ⟨hs3, hs4⟩ N (D16 o 6) 1 D16) (fun o7 h => z_runV 286 3 h rfl kk_X10_286 hs12 kl_0.1 kq_X0_mostLeft rfl (Nat.le_of_ble_eq_true rfl) ⟨Nat.le_of_ble_eq_true rfl, Nat.le_of_ble_eq_true rfl, Nat.le_of_ble_eq_true rfl, Nat.le_of_ble_eq_true rfl⟩ dX10_look_60) z_gXI (fun a_20 hz19 => ?_)
      refine z_istore (i := 5) (x := a_20) (lv' := [some (.ref 0), some (.int a0), some (.int 0), some (.int v15), some (.int 1), some (.int a_20)]) dX10_look_63 (by decide) rfl rfl ?_
      refine z_iload_n (i := 2) (x := 0) dX10_look_65 rfl rfl ?_
      refine z_iconst (v := (-1)) dX10_look_66 rfl ?_
      refine z_icmp_eqN 76 dX10_look_67 (by decide) (by decide) ?_
      refine z_iload (i := 5) (x := a_20) dX10_look_70 rfl ?_
      refine z_iload_n (i := 3) (x := v15) dX10_look_72 rfl rfl ?_
      refine z_icmp_ge 82 dX10_look_73 (by decide) (fun c21 => ?_) (fun c21 => ?_)
      · refine z_weak (lv' := [some (.ref 0), some (.int a0), some (.int 0), some (.int v15), some (.int 1), none]) ⟨Or.inr rfl, ⟨Or.inr rfl, ⟨Or.inr rfl, ⟨Or.inr rfl, ⟨Or.inr rfl, ⟨Or.inl rfl, trivial⟩⟩⟩⟩⟩⟩ ?_
        refine z_widen (k := 1) (n := 6) (by decide) (by decide) ?_
        exact hJ_F_X10_look_J82xx v15 D16
      · refine z_weak (lv' := [some (.ref 0), some (.int a0), none, none, some (.int 1), some (.int a_20)]) ⟨Or.inr rfl, ⟨Or.inr rfl, ⟨Or.inl rfl, ⟨Or.inl rfl, ⟨Or.inr rfl, ⟨Or.inr rfl, trivial⟩⟩⟩⟩⟩⟩ ?_
        refine z_widen (k := 1) (n := 6) (by decide) (by decide) ?_
        exact hJ_F_X10_look_J76x a_20 D16
    · refine z_widen (k := 1) (n := 6) (by decide) (by decide) ?_
      exact hJ_F_X10_look_J82xx v15 D16
  have hJ_F_X10_look_J82xxxxx : ∀ (v13 : Int32) (D14 : z_Dat) , z_F l M_X10_look (60, 760, 1, 6) 1 6 82 [some (.ref 0), some (.int a0), some (.int 0), some (.int v13), some (.int 0), none] [] S D14 (z_ko (z_kTI S)) (F_X10_look_J82xxxxx N o a0 v13 D14) := by
    intro v13 D14
    unfold F_X10_look_J82xxxxx
    refine z_iincC (i := 4) (x := 0) (v := 1) (lv' := [some (.ref 0), some (.int a0), some (.int 0), some (.int v13), some (.int 1), none]) dX10_look_82 rfl (by decide) (by decide) rfl rfl ?_
    refine z_goto 25 dX10_look_85 (by decide) ?_
    refine z_widen (k := 1) (n := 6) (by decide) (by decide) ?_
    exact hJ_F_X10_look_J25xxxxx v13 D14
  have hJ_F_X10_look_J76xx : ∀ (v11 : Int32) (D12 : z_Dat) , z_F l M_X10_look (60, 760, 1, 6) 1 6 76 [some (.ref 0), some (.int a0), none, none, some (.int 0), some (.int v11)] [] S D12 (z_ko (z_kTI S)) (F_X10_look_J76xx N o a0 v11 D12) := by
    intro v11 D12
    unfold F_X10_look_J76xx
    refine z_iload (i := 4) (x := 0) dX10_look_76 rfl ?_
    refine z_istore_n (i := 2) (x := 0) (lv' := [some (.ref 0), some (.int a0), some (.int 0), none, some (.int 0), some (.int v11)]) dX10_look_78 rfl (by decide) rfl rfl ?_
    refine z_iload (i := 5) (x := v11) dX10_look_79 rfl ?_
    refine z_istore_n (i := 3) (x := v11) (lv' := [some (.ref 0), some (.int a0), some (.int 0), some (.int v11), some (.int 0), some (.int v11)]) dX10_look_81 rfl (by decide) rfl rfl ?_
    refine z_weak (lv' := [some (.ref 0), some (.int a0), some (.int 0), some (.int v11), some (.int 0), none]) ⟨Or.inr rfl, ⟨Or.inr rfl, ⟨Or.inr rfl, ⟨Or.inr rfl, ⟨Or.inr rfl, ⟨Or.inl rfl, trivial⟩⟩⟩⟩⟩⟩ ?_
    refine z_widen (k := 1) (n := 6) (by decide) (by decide) ?_
    exact hJ_F_X10_look_J82xxxxx v11 D12
  have hJ_F_X10_look_J25xxxxxx : ∀ (D72 : z_Dat) , z_F l M_X10_look (60, 760, 1, 6) 1 6 25 [some (.ref 0), some (.int a0), some (.int (-1)), some (.int (-1)), some (.int 3), none] [] S D72 (z_ko (z_kTI S)) (F_X10_look_J25xxxxxx a0 D72) := by
    intro D72
    unfold F_X10_look_J25xxxxxx
    refine z_iload (i := 4) (x := 3) dX10_look_25 rfl ?_
    refine z_iconst (v := 3) dX10_look_27 rfl ?_
    refine z_icmp_geJ 88 dX10_look_28 (by decide) (by decide) ?_
    refine z_iload_n (i := 1) (x := a0) dX10_look_88 rfl rfl ?_
    refine z_if_ne 96 dX10_look_89 (by decide) (fun c73 => ?_) (fun c73 => ?_)
    · refine z_iload_n (i := 2) (x := (-1)) dX10_look_92 rfl rfl ?_
      refine z_goto 97 dX10_look_93 (by decide) ?_
      exact z_ireturn dX10_look_97 z_rXI rfl (by decide) (by decide)
    · refine z_iload_n (i := 3) (x := (-1)) dX10_look_96 rfl rfl ?_
      exact z_ireturn dX10_look_97 z_rXI rfl (by decide) (by decide)
  have hJ_F_X10_look_J82xxxxxx : ∀ (D71 : z_Dat) , z_F l M_X10_look (60, 760, 1, 6) 1 6 82 [some (.ref 0), some (.int a0), some (.int (-1)), some (.int (-1)), some (.int 2), none] [] S D71 (z_ko (z_kTI S)) (F_X10_look_J82xxxxxx a0 D71) := by
    intro D71
    unfold F_X10_look_J82xxxxxx
    refine z_iincC (i := 4) (x := 2) (v := 3) (lv' := [some (.ref 0), some (.int a0), some (.int (-1)), some (.int (-1)), some (.int 3), none]) dX10_look_82 rfl (by decide) (by decide) rfl rfl ?_
    refine z_goto 25 dX10_look_85 (by decide) ?_
    refine z_widen (k := 1) (n := 6) (by decide) (by decide) ?_
    exact hJ_F_X10_look_J25xxxxxx D71
  have hJ_F_X10_look_J25xxxxxxx : ∀ (D66 : z_Dat) , z_F l M_X10_look (60, 760, 1, 6) 1 6 25 [some (.ref 0), some (.int a0), some (.int (-1)), some (.int (-1)), some (.int 2), none] [] S D66 (z_ko (z_kTI S)) (F_X10_look_J25xxxxxxx N o a0 D66) := by
    intro D66
    unfold F_X10_look_J25xxxxxxx
    refine z_iload (i := 4) (x := 2) dX10_look_25 rfl ?_
    refine z_iconst (v := 3) dX10_look_27 rfl ?_
    refine z_icmp_geN 88 dX10_look_28 (by decide) (by decide) ?_
    refine z_aload_n (i := 0) (x := 0) dX10_look_31 rfl rfl ?_
    refine z_getR (j := 4) dX10_look_32 kl_10 hs0 (by decide) rfl rfl kf_X10_36 ?_
    refine z_iload (i := 4) (x := 2) dX10_look_35 rfl ?_
    refine z_cP (As := [.ref 12, .int 2]) (rest := []) (em_X0_tells hl hW 2 D66) (fun o7 h => z_runV 283 1 h rfl kk_X10_283 hs12 kl_0.1 kq_X0_tells rfl (Nat.le_of_ble_eq_true rfl) ⟨Nat.le_of_ble_eq_true rfl, Nat.le_of_ble_eq_true rfl, Nat.le_of_ble_eq_true rfl, Nat.le_of_ble_eq_true rfl⟩ dX10_look_37) z_gXI (fun hz67 => ?_)
    refine z_if_ne 82 dX10_look_40 (by decide) (fun c68 => ?_) (fun c68 => ?_)
    · refine z_aload_n (i := 0) (x := 0) dX10_look_43 rfl rfl ?_
      refine z_getR (j := 4) dX10_look_44 kl_10 hs0 (by decide) rfl rfl kf_X10_36 ?_
      refine z_aload_n (i := 0) (x := 0) dX10_look_47 rfl rfl ?_
      refine z_getR (j := 1) dX10_look_48 kl_10 hs0 (by decide) rfl rfl kf_X10_19 ?_
      refine z_aload_n (i := 0) (x := 0) dX10_look_51 rfl rfl ?_
      refine z_getR (j := 11) dX10_look_52 kl_10 hs0 (by decide) rfl rfl kf_X10_82 ?_
      refine z_getIN (j := 6) dX10_look_55 kl_1 hC.1 (by decide) rfl rfl kf_X10_134 ?_
      refine z_iload (i := 4) (x := 2) dX10_look_58 rfl ?_
      refine z_cR (As := [.ref 12, .ref 3, .int (D66 o 6), .int 2]) (rest := []) (em_X0_mostLeft hl hW ⟨hs3, hs4⟩ N (D66 o 6) 2 D66) (fun o7 h => z_runV 286 3 h rfl kk_X10_286 hs12 kl_0.1 kq_X0_mostLeft rfl (Nat.le_of_ble_eq_true rfl) ⟨Nat.le_of_ble_eq_true rfl, Nat.le_of_ble_eq_true rfl, Nat.le_of_ble_eq_true rfl, Nat.le_of_ble_eq_true rfl⟩ dX10_look_60) z_gXI (fun a_70 hz69 => ?_)
      refine z_istore (i := 5) (x := a_70) (lv' := [some (.ref 0), some (.int a0), some (.int (-1)), some (.int (-1)), some (.int 2), some (.int a_70)]) dX10_look_63 (by decide) rfl rfl ?_
      refine z_iload_n (i := 2) (x := (-1)) dX10_look_65 rfl rfl ?_
      refine z_iconst (v := (-1)) dX10_look_66 rfl ?_
      refine z_icmp_eqJ 76 dX10_look_67 (by decide) (by decide) ?_
      refine z_weak (lv' := [some (.ref 0), some (.int a0), none, none, some (.int 2), some (.int a_70)]) ⟨Or.inr rfl, ⟨Or.inr rfl, ⟨Or.inl rfl, ⟨Or.inl rfl, ⟨Or.inr rfl, ⟨Or.inr rfl, trivial⟩⟩⟩⟩⟩⟩ ?_
      refine z_widen (k := 1) (n := 6) (by decide) (by decide) ?_
      exact hJ_F_X10_look_J76 a_70 D66
    · refine z_widen (k := 1) (n := 6) (by decide) (by decide) ?_
      exact hJ_F_X10_look_J82xxxxxx D66
  have hJ_F_X10_look_J82xxxxxxx : ∀ (D65 : z_Dat) , z_F l M_X10_look (60, 760, 1, 6) 1 6 82 [some (.ref 0), some (.int a0), some (.int (-1)), some (.int (-1)), some (.int 1), none] [] S D65 (z_ko (z_kTI S)) (F_X10_look_J82xxxxxxx N o a0 D65) := by
    intro D65
    unfold F_X10_look_J82xxxxxxx
    refine z_iincC (i := 4) (x := 1) (v := 2) (lv' := [some (.ref 0), some (.int a0), some (.int (-1)), some (.int (-1)), some (.int 2), none]) dX10_look_82 rfl (by decide) (by decide) rfl rfl ?_
    refine z_goto 25 dX10_look_85 (by decide) ?_
    refine z_widen (k := 1) (n := 6) (by decide) (by decide) ?_
    exact hJ_F_X10_look_J25xxxxxxx D65
  have hJ_F_X10_look_J25xxxxxxxx : ∀ (D60 : z_Dat) , z_F l M_X10_look (60, 760, 1, 6) 1 6 25 [some (.ref 0), some (.int a0), some (.int (-1)), some (.int (-1)), some (.int 1), none] [] S D60 (z_ko (z_kTI S)) (F_X10_look_J25xxxxxxxx N o a0 D60) := by
    intro D60
    unfold F_X10_look_J25xxxxxxxx
    refine z_iload (i := 4) (x := 1) dX10_look_25 rfl ?_
    refine z_iconst (v := 3) dX10_look_27 rfl ?_
    refine z_icmp_geN 88 dX10_look_28 (by decide) (by decide) ?_
    refine z_aload_n (i := 0) (x := 0) dX10_look_31 rfl rfl ?_
    refine z_getR (j := 4) dX10_look_32 kl_10 hs0 (by decide) rfl rfl kf_X10_36 ?_
    refine z_iload (i := 4) (x := 1) dX10_look_35 rfl ?_
    refine z_cP (As := [.ref 12, .int 1]) (rest := []) (em_X0_tells hl hW 1 D60) (fun o7 h => z_runV 283 1 h rfl kk_X10_283 hs12 kl_0.1 kq_X0_tells rfl (Nat.le_of_ble_eq_true rfl) ⟨Nat.le_of_ble_eq_true rfl, Nat.le_of_ble_eq_true rfl, Nat.le_of_ble_eq_true rfl, Nat.le_of_ble_eq_true rfl⟩ dX10_look_37) z_gXI (fun hz61 => ?_)
    refine z_if_ne 82 dX10_look_40 (by decide) (fun c62 => ?_) (fun c62 => ?_)
    · refine z_aload_n (i := 0) (x := 0) dX10_look_43 rfl rfl ?_
      refine z_getR (j := 4) dX10_look_44 kl_10 hs0 (by decide) rfl rfl kf_X10_36 ?_
      refine z_aload_n (i := 0) (x := 0) dX10_look_47 rfl rfl ?_
      refine z_getR (j := 1) dX10_look_48 kl_10 hs0 (by decide) rfl rfl kf_X10_19 ?_
      refine z_aload_n (i := 0) (x := 0) dX10_look_51 rfl rfl ?_
      refine z_getR (j := 11) dX10_look_52 kl_10 hs0 (by decide) rfl rfl kf_X10_82 ?_
      refine z_getIN (j := 6) dX10_look_55 kl_1 hC.1 (by decide) rfl rfl kf_X10_134 ?_
      refine z_iload (i := 4) (x := 1) dX10_look_58 rfl ?_
      refine z_cR (As := [.ref 12, .ref 3, .int (D60 o 6), .int 1]) (rest := []) (em_X0_mostLeft hl hW ⟨hs3, hs4⟩ N (D60 o 6) 1 D60) (fun o7 h => z_runV 286 3 h rfl kk_X10_286 hs12 kl_0.1 kq_X0_mostLeft rfl (Nat.le_of_ble_eq_true rfl) ⟨Nat.le_of_ble_eq_true rfl, Nat.le_of_ble_eq_true rfl, Nat.le_of_ble_eq_true rfl, Nat.le_of_ble_eq_true rfl⟩ dX10_look_60) z_gXI (fun a_64 hz63 => ?_)
      refine z_istore (i := 5) (x := a_64) (lv' := [some (.ref 0), some (.int a0), some (.int (-1)), some (.int (-1)), some (.int 1), some (.int a_64)]) dX10_look_63 (by decide) rfl rfl ?_
      refine z_iload_n (i := 2) (x := (-1)) dX10_look_65 rfl rfl ?_
      refine z_iconst (v := (-1)) dX10_look_66 rfl ?_
      refine z_icmp_eqJ 76 dX10_look_67 (by decide) (by decide) ?_
      refine z_weak (lv' := [some (.ref 0), some (.int a0), none, none, some (.int 1), some (.int a_64)]) ⟨Or.inr rfl, ⟨Or.inr rfl, ⟨Or.inl rfl, ⟨Or.inl rfl, ⟨Or.inr rfl, ⟨Or.inr rfl, trivial⟩⟩⟩⟩⟩⟩ ?_
      refine z_widen (k := 1) (n := 6) (by decide) (by decide) ?_
      exact hJ_F_X10_look_J76x a_64 D60
    · refine z_widen (k := 1) (n := 6) (by decide) (by decide) ?_
      exact hJ_F_X10_look_J82xxxxxxx D60
  have hJ_F_X10_look_J82xxxxxxxx : ∀ (D59 : z_Dat) , z_F l M_X10_look (60, 760, 1, 6) 1 6 82 [some (.ref 0), some (.int a0), some (.int (-1)), some (.int (-1)), some (.int 0), none] [] S D59 (z_ko (z_kTI S)) (F_X10_look_J82xxxxxxxx N o a0 D59) := by
    intro D59
    unfold F_X10_look_J82xxxxxxxx
    refine z_iincC (i := 4) (x := 0) (v := 1) (lv' := [some (.ref 0), some (.int a0), some (.int (-1)), some (.int (-1)), some (.int 1), none]) dX10_look_82 rfl (by decide) (by decide) rfl rfl ?_
    refine z_goto 25 dX10_look_85 (by decide) ?_
    refine z_widen (k := 1) (n := 6) (by decide) (by decide) ?_
    exact hJ_F_X10_look_J25xxxxxxxx D59
  have hJ_F_X10_look_J25xxxxxxxxx : ∀ (D6 : z_Dat) , z_F l M_X10_look (60, 760, 1, 6) 1 6 25 [some (.ref 0), some (.int a0), some (.int (-1)), some (.int (-1)), some (.int 0), none] [] S D6 (z_ko (z_kTI S)) (F_X10_look_J25xxxxxxxxx N o a0 D6) := by
    intro D6
    unfold F_X10_look_J25xxxxxxxxx
    refine z_iload (i := 4) (x := 0) dX10_look_25 rfl ?_
    refine z_iconst (v := 3) dX10_look_27 rfl ?_
    refine z_icmp_geN 88 dX10_look_28 (by decide) (by decide) ?_
    refine z_aload_n (i := 0) (x := 0) dX10_look_31 rfl rfl ?_
    refine z_getR (j := 4) dX10_look_32 kl_10 hs0 (by decide) rfl rfl kf_X10_36 ?_
    refine z_iload (i := 4) (x := 0) dX10_look_35 rfl ?_
    refine z_cP (As := [.ref 12, .int 0]) (rest := []) (em_X0_tells hl hW 0 D6) (fun o7 h => z_runV 283 1 h rfl kk_X10_283 hs12 kl_0.1 kq_X0_tells rfl (Nat.le_of_ble_eq_true rfl) ⟨Nat.le_of_ble_eq_true rfl, Nat.le_of_ble_eq_true rfl, Nat.le_of_ble_eq_true rfl, Nat.le_of_ble_eq_true rfl⟩ dX10_look_37) z_gXI (fun hz7 => ?_)
    refine z_if_ne 82 dX10_look_40 (by decide) (fun c8 => ?_) (fun c8 => ?_)
    · refine z_aload_n (i := 0) (x := 0) dX10_look_43 rfl rfl ?_
      refine z_getR (j := 4) dX10_look_44 kl_10 hs0 (by decide) rfl rfl kf_X10_36 ?_
      refine z_aload_n (i := 0) (x := 0) dX10_look_47 rfl rfl ?_
      refine z_getR (j := 1) dX10_look_48 kl_10 hs0 (by decide) rfl rfl kf_X10_19 ?_
      refine z_aload_n (i := 0) (x := 0) dX10_look_51 rfl rfl ?_
      refine z_getR (j := 11) dX10_look_52 kl_10 hs0 (by decide) rfl rfl kf_X10_82 ?_
      refine z_getIN (j := 6) dX10_look_55 kl_1 hC.1 (by decide) rfl rfl kf_X10_134 ?_
      refine z_iload (i := 4) (x := 0) dX10_look_58 rfl ?_
      refine z_cR (As := [.ref 12, .ref 3, .int (D6 o 6), .int 0]) (rest := []) (em_X0_mostLeft hl hW ⟨hs3, hs4⟩ N (D6 o 6) 0 D6) (fun o7 h => z_runV 286 3 h rfl kk_X10_286 hs12 kl_0.1 kq_X0_mostLeft rfl (Nat.le_of_ble_eq_true rfl) ⟨Nat.le_of_ble_eq_true rfl, Nat.le_of_ble_eq_true rfl, Nat.le_of_ble_eq_true rfl, Nat.le_of_ble_eq_true rfl⟩ dX10_look_60) z_gXI (fun a_10 hz9 => ?_)
      refine z_istore (i := 5) (x := a_10) (lv' := [some (.ref 0), some (.int a0), some (.int (-1)), some (.int (-1)), some (.int 0), some (.int a_10)]) dX10_look_63 (by decide) rfl rfl ?_
      refine z_iload_n (i := 2) (x := (-1)) dX10_look_65 rfl rfl ?_
      refine z_iconst (v := (-1)) dX10_look_66 rfl ?_
      refine z_icmp_eqJ 76 dX10_look_67 (by decide) (by decide) ?_
      refine z_weak (lv' := [some (.ref 0), some (.int a0), none, none, some (.int 0), some (.int a_10)]) ⟨Or.inr rfl, ⟨Or.inr rfl, ⟨Or.inl rfl, ⟨Or.inl rfl, ⟨Or.inr rfl, ⟨Or.inr rfl, trivial⟩⟩⟩⟩⟩⟩ ?_
      refine z_widen (k := 1) (n := 6) (by decide) (by decide) ?_
      exact hJ_F_X10_look_J76xx a_10 D6
    · refine z_widen (k := 1) (n := 6) (by decide) (by decide) ?_
      exact hJ_F_X10_look_J82xxxxxxxx D6
  have hJ_F_X10_look_J15 : ∀ (D3 : z_Dat) , z_F l M_X10_look (60, 760, 1, 6) 0 0 15 [some (.ref 0), some (.int a0), none, none, none, none] [.int 0, .ref 0] S D3 (z_ko (z_kTI S)) (F_X10_look_J15 N o a0 D3) := by
    intro D3
    unfold F_X10_look_J15
    refine z_cXVI rfl (As := [.ref 0, .int 0]) (rest := []) (em_X10_demand hl hW 0 D3) (fun o7 h => z_runV 102 1 h rfl kk_X10_102 hs0 kl_10.1 kq_X10_demand rfl (Nat.le_of_ble_eq_true rfl) ⟨Nat.le_of_ble_eq_true rfl, Nat.le_of_ble_eq_true rfl, Nat.le_of_ble_eq_true rfl, Nat.le_of_ble_eq_true rfl⟩ dX10_look_15) (by decide) (by decide) (fun a_5 hz4 => ?_)
    refine z_iconst (v := (-1)) dX10_look_18 rfl ?_
    refine z_istore_n (i := 2) (x := (-1)) (lv' := [some (.ref 0), some (.int a0), some (.int (-1)), none, none, none]) dX10_look_19 rfl (by decide) rfl rfl ?_
    refine z_iconst (v := (-1)) dX10_look_20 rfl ?_
    refine z_istore_n (i := 3) (x := (-1)) (lv' := [some (.ref 0), some (.int a0), some (.int (-1)), some (.int (-1)), none, none]) dX10_look_21 rfl (by decide) rfl rfl ?_
    refine z_iconst (v := 0) dX10_look_22 rfl ?_
    refine z_istore (i := 4) (x := 0) (lv' := [some (.ref 0), some (.int a0), some (.int (-1)), some (.int (-1)), some (.int 0), none]) dX10_look_23 (by decide) rfl rfl ?_
    refine z_widen (k := 1) (n := 6) (by decide) (by decide) ?_
    exact hJ_F_X10_look_J25xxxxxxxxx a_5
  have hJ_F_X10_look_J14 : ∀ (D2 : z_Dat) , z_F l M_X10_look (60, 760, 1, 6) 0 0 14 [some (.ref 0), some (.int a0), none, none, none, none] [.ref 0] S D2 (z_ko (z_kTI S)) (F_X10_look_J14 N o a0 D2) := by
    intro D2
    unfold F_X10_look_J14
    refine z_iconst (v := 0) dX10_look_14 rfl ?_
    refine z_widen (k := 0) (n := 0) (by decide) (by decide) ?_
    exact hJ_F_X10_look_J15 D2
  have hJ_F_X10_look_J15x : ∀ (D75 : z_Dat) , z_F l M_X10_look (60, 760, 1, 6) 0 0 15 [some (.ref 0), some (.int a0), none, none, none, none] [.int 1, .ref 0] S D75 (z_ko (z_kTI S)) (F_X10_look_J15x N o a0 D75) := by
    intro D75
    unfold F_X10_look_J15x
    refine z_cXVI rfl (As := [.ref 0, .int 1]) (rest := []) (em_X10_demand hl hW 1 D75) (fun o7 h => z_runV 102 1 h rfl kk_X10_102 hs0 kl_10.1 kq_X10_demand rfl (Nat.le_of_ble_eq_true rfl) ⟨Nat.le_of_ble_eq_true rfl, Nat.le_of_ble_eq_true rfl, Nat.le_of_ble_eq_true rfl, Nat.le_of_ble_eq_true rfl⟩ dX10_look_15) (by decide) (by decide) (fun a_77 hz76 => ?_)
    refine z_iconst (v := (-1)) dX10_look_18 rfl ?_
    refine z_istore_n (i := 2) (x := (-1)) (lv' := [some (.ref 0), some (.int a0), some (.int (-1)), none, none, none]) dX10_look_19 rfl (by decide) rfl rfl ?_
    refine z_iconst (v := (-1)) dX10_look_20 rfl ?_
    refine z_istore_n (i := 3) (x := (-1)) (lv' := [some (.ref 0), some (.int a0), some (.int (-1)), some (.int (-1)), none, none]) dX10_look_21 rfl (by decide) rfl rfl ?_
    refine z_iconst (v := 0) dX10_look_22 rfl ?_
    refine z_istore (i := 4) (x := 0) (lv' := [some (.ref 0), some (.int a0), some (.int (-1)), some (.int (-1)), some (.int 0), none]) dX10_look_23 (by decide) rfl rfl ?_
    refine z_widen (k := 1) (n := 6) (by decide) (by decide) ?_
    exact hJ_F_X10_look_J25xxxxxxxxx a_77
  refine z_aload_n (i := 0) (x := 0) dX10_look_0 rfl rfl ?_
  refine z_iload_n (i := 1) (x := a0) dX10_look_1 rfl rfl ?_
  refine z_if_lt 14 dX10_look_2 (by decide) (fun c1 => ?_) (fun c1 => ?_)
  · refine z_widen (k := 0) (n := 0) (by decide) (by decide) ?_
    exact hJ_F_X10_look_J14 D
  · refine z_iload_n (i := 1) (x := a0) dX10_look_5 rfl rfl ?_
    refine z_iconst (v := 1) dX10_look_6 rfl ?_
    refine z_icmp_gt 14 dX10_look_7 (by decide) (fun c74 => ?_) (fun c74 => ?_)
    · refine z_widen (k := 0) (n := 0) (by decide) (by decide) ?_
      exact hJ_F_X10_look_J14 D
    · refine z_iconst (v := 1) dX10_look_10 rfl ?_
      refine z_goto 15 dX10_look_11 (by decide) ?_
      refine z_widen (k := 0) (n := 0) (by decide) (by decide) ?_
      exact hJ_F_X10_look_J15x D

def F_X2_gainOf_J62 (v7 : Int32) : Int32 :=
  0
def F_X2_gainOf_J61 (v6 : Int32) : Int32 :=
  F_X2_gainOf_J62 v6
def F_X2_gainOf_J62x (v15 : Int32) : Int32 :=
  100 - v15
def F_X2_gainOf (o : Nat) (t : Nat) (a0 : Int32) (a1 : Int32) (D : z_Dat) : Int32 :=
  z_let (F_X10_apart (F_X9_has t a0 0 D) (F_X9_has t a1 0 D)) (fun v4 => if 6 < v4 then (F_X2_gainOf_J61 v4)
  else (if (F_X1_homeOf o a0 D) = (F_X1_homeOf o a1 D) then (F_X2_gainOf_J61 v4)
  else (if (F_X9_has t a0 3 D) = (-1) then (if (F_X9_has t a1 3 D) = (-1) then (F_X2_gainOf_J62x v4)
  else (F_X2_gainOf_J61 v4))
  else (F_X2_gainOf_J61 v4))))
set_option maxRecDepth 100000 in
set_option maxHeartbeats 4000000 in
theorem em_X2_gainOf {l : Launch} {S : List z_Shp} {oW : Nat} {o : Nat} {t : Nat} (hl : l.stackTraces = false) (hW : z_W S oW) (hC : z_isCity S o) (hT : z_isTown S t) (a0 : Int32) (a1 : Int32) (D : z_Dat) : ∀ out, z_kt (z_kR S D) (F_X2_gainOf o t a0 a1 D) out → z_EM l M_X2_gainOf (40, 640, 0, 0) [.ref o, .ref t, .int a0, .int a1] S D out := by
  refine z_meth hl rfl kp_X2 (Nat.le_of_ble_eq_true rfl) (lv := [some (.ref o), some (.ref t), some (.int a0), some (.int a1), none, none]) rfl ?_
  unfold F_X2_gainOf
  have hJ_F_X2_gainOf_J62 : ∀ (v7 : Int32) , z_F l M_X2_gainOf (40, 640, 0, 0) 0 0 62 [none, none, none, none, some (.int v7), none] [.int 0] S D (z_kt (z_kR S D)) (F_X2_gainOf_J62 v7) := by
    intro v7
    unfold F_X2_gainOf_J62
    refine z_istore (i := 5) (x := 0) (lv' := [none, none, none, none, some (.int v7), some (.int 0)]) dX2_gainOf_62 (by decide) rfl rfl ?_
    refine z_iload (i := 5) (x := 0) dX2_gainOf_64 rfl ?_
    refine z_if_eqJ 77 dX2_gainOf_66 (by decide) (by decide) ?_
    refine z_iconst (v := 0) dX2_gainOf_77 rfl ?_
    exact z_ireturn dX2_gainOf_78 z_rP rfl (by decide) (by decide)
  have hJ_F_X2_gainOf_J61 : ∀ (v6 : Int32) , z_F l M_X2_gainOf (40, 640, 0, 0) 0 0 61 [none, none, none, none, some (.int v6), none] [] S D (z_kt (z_kR S D)) (F_X2_gainOf_J61 v6) := by
    intro v6
    unfold F_X2_gainOf_J61
    refine z_iconst (v := 0) dX2_gainOf_61 rfl ?_
    exact hJ_F_X2_gainOf_J62 v6
  have hJ_F_X2_gainOf_J62x : ∀ (v15 : Int32) , z_F l M_X2_gainOf (40, 640, 0, 0) 0 0 62 [none, none, none, none, some (.int v15), none] [.int 1] S D (z_kt (z_kR S D)) (F_X2_gainOf_J62x v15) := by
    intro v15
    unfold F_X2_gainOf_J62x
    refine z_istore (i := 5) (x := 1) (lv' := [none, none, none, none, some (.int v15), some (.int 1)]) dX2_gainOf_62 (by decide) rfl rfl ?_
    refine z_iload (i := 5) (x := 1) dX2_gainOf_64 rfl ?_
    refine z_if_eqN 77 dX2_gainOf_66 (by decide) (by decide) ?_
    refine z_bipush (v := 100) dX2_gainOf_69 (by decide) ?_
    refine z_iload (i := 4) (x := v15) dX2_gainOf_71 rfl ?_
    refine z_isub dX2_gainOf_73 ?_
    refine z_goto 78 dX2_gainOf_74 (by decide) ?_
    exact z_ireturn dX2_gainOf_78 z_rP rfl (by decide) (by decide)
  refine z_aload_n (i := 1) (x := t) dX2_gainOf_0 rfl rfl ?_
  refine z_iload_n (i := 2) (x := a0) dX2_gainOf_1 rfl rfl ?_
  refine z_iconst (v := 0) dX2_gainOf_2 rfl ?_
  refine z_cP (As := [.ref t, .int a0, .int 0]) (rest := []) (em_X9_has hl hT a0 0 D) (fun o7 h => z_runV 55 2 h rfl kk_X2_55 hT.1 kl_9.1 kq_X9_has rfl (Nat.le_of_ble_eq_true rfl) ⟨Nat.le_of_ble_eq_true rfl, Nat.le_of_ble_eq_true rfl, Nat.le_of_ble_eq_true rfl, Nat.le_of_ble_eq_true rfl⟩ dX2_gainOf_3) z_gP (fun hz1 => ?_)
  refine z_aload_n (i := 1) (x := t) dX2_gainOf_6 rfl rfl ?_
  refine z_iload_n (i := 3) (x := a1) dX2_gainOf_7 rfl rfl ?_
  refine z_iconst (v := 0) dX2_gainOf_8 rfl ?_
  refine z_cP (As := [.ref t, .int a1, .int 0]) (rest := [.int (F_X9_has t a0 0 D)]) (em_X9_has hl hT a1 0 D) (fun o7 h => z_runV 55 2 h rfl kk_X2_55 hT.1 kl_9.1 kq_X9_has rfl (Nat.le_of_ble_eq_true rfl) ⟨Nat.le_of_ble_eq_true rfl, Nat.le_of_ble_eq_true rfl, Nat.le_of_ble_eq_true rfl, Nat.le_of_ble_eq_true rfl⟩ dX2_gainOf_9) z_gP (fun hz2 => ?_)
  refine z_cP (As := [.int (F_X9_has t a0 0 D), .int (F_X9_has t a1 0 D)]) (rest := []) (em_X10_apart hl (F_X9_has t a0 0 D) (F_X9_has t a1 0 D) D) (fun o7 h => z_runSN 60 2 h rfl kk_X2_60 kn_X2_60 kq_X10_apart rfl (Nat.le_of_ble_eq_true rfl) ⟨Nat.le_of_ble_eq_true rfl, Nat.le_of_ble_eq_true rfl, Nat.le_of_ble_eq_true rfl, Nat.le_of_ble_eq_true rfl⟩ dX2_gainOf_12) z_gP (fun hz3 => ?_)
  refine z_topi (fun v4 => ?_)
  refine z_istore (i := 4) (x := v4) (lv' := [some (.ref o), some (.ref t), some (.int a0), some (.int a1), some (.int v4), none]) dX2_gainOf_15 (by decide) rfl rfl ?_
  refine z_iload (i := 4) (x := v4) dX2_gainOf_17 rfl ?_
  refine z_bipush (v := 6) dX2_gainOf_19 (by decide) ?_
  refine z_icmp_gt 61 dX2_gainOf_21 (by decide) (fun c5 => ?_) (fun c5 => ?_)
  · refine z_weak (lv' := [none, none, none, none, some (.int v4), none]) ⟨Or.inl rfl, ⟨Or.inl rfl, ⟨Or.inl rfl, ⟨Or.inl rfl, ⟨Or.inr rfl, ⟨Or.inl rfl, trivial⟩⟩⟩⟩⟩⟩ ?_
    exact hJ_F_X2_gainOf_J61 v4
  · refine z_aload_n (i := 0) (x := o) dX2_gainOf_24 rfl rfl ?_
    refine z_iload_n (i := 2) (x := a0) dX2_gainOf_25 rfl rfl ?_
    refine z_cP (As := [.ref o, .int a0]) (rest := []) (em_X1_homeOf hl hC a0 D) (fun o7 h => z_runV 63 1 h rfl kk_X2_63 hC.1 kl_1.1 kq_X1_homeOf rfl (Nat.le_of_ble_eq_true rfl) ⟨Nat.le_of_ble_eq_true rfl, Nat.le_of_ble_eq_true rfl, Nat.le_of_ble_eq_true rfl, Nat.le_of_ble_eq_true rfl⟩ dX2_gainOf_26) z_gP (fun hz8 => ?_)
    refine z_aload_n (i := 0) (x := o) dX2_gainOf_29 rfl rfl ?_
    refine z_iload_n (i := 3) (x := a1) dX2_gainOf_30 rfl rfl ?_
    refine z_cP (As := [.ref o, .int a1]) (rest := [.int (F_X1_homeOf o a0 D)]) (em_X1_homeOf hl hC a1 D) (fun o7 h => z_runV 63 1 h rfl kk_X2_63 hC.1 kl_1.1 kq_X1_homeOf rfl (Nat.le_of_ble_eq_true rfl) ⟨Nat.le_of_ble_eq_true rfl, Nat.le_of_ble_eq_true rfl, Nat.le_of_ble_eq_true rfl, Nat.le_of_ble_eq_true rfl⟩ dX2_gainOf_31) z_gP (fun hz9 => ?_)
    refine z_icmp_eq 61 dX2_gainOf_34 (by decide) (fun c10 => ?_) (fun c10 => ?_)
    · refine z_weak (lv' := [none, none, none, none, some (.int v4), none]) ⟨Or.inl rfl, ⟨Or.inl rfl, ⟨Or.inl rfl, ⟨Or.inl rfl, ⟨Or.inr rfl, ⟨Or.inl rfl, trivial⟩⟩⟩⟩⟩⟩ ?_
      exact hJ_F_X2_gainOf_J61 v4
    · refine z_aload_n (i := 1) (x := t) dX2_gainOf_37 rfl rfl ?_
      refine z_iload_n (i := 2) (x := a0) dX2_gainOf_38 rfl rfl ?_
      refine z_iconst (v := 3) dX2_gainOf_39 rfl ?_
      refine z_cP (As := [.ref t, .int a0, .int 3]) (rest := []) (em_X9_has hl hT a0 3 D) (fun o7 h => z_runV 55 2 h rfl kk_X2_55 hT.1 kl_9.1 kq_X9_has rfl (Nat.le_of_ble_eq_true rfl) ⟨Nat.le_of_ble_eq_true rfl, Nat.le_of_ble_eq_true rfl, Nat.le_of_ble_eq_true rfl, Nat.le_of_ble_eq_true rfl⟩ dX2_gainOf_40) z_gP (fun hz11 => ?_)
      refine z_iconst (v := (-1)) dX2_gainOf_43 rfl ?_
      refine z_icmp_ne 61 dX2_gainOf_44 (by decide) (fun c12 => ?_) (fun c12 => ?_)
      · refine z_aload_n (i := 1) (x := t) dX2_gainOf_47 rfl rfl ?_
        refine z_iload_n (i := 3) (x := a1) dX2_gainOf_48 rfl rfl ?_
        refine z_iconst (v := 3) dX2_gainOf_49 rfl ?_
        refine z_cP (As := [.ref t, .int a1, .int 3]) (rest := []) (em_X9_has hl hT a1 3 D) (fun o7 h => z_runV 55 2 h rfl kk_X2_55 hT.1 kl_9.1 kq_X9_has rfl (Nat.le_of_ble_eq_true rfl) ⟨Nat.le_of_ble_eq_true rfl, Nat.le_of_ble_eq_true rfl, Nat.le_of_ble_eq_true rfl, Nat.le_of_ble_eq_true rfl⟩ dX2_gainOf_50) z_gP (fun hz13 => ?_)
        refine z_iconst (v := (-1)) dX2_gainOf_53 rfl ?_
        refine z_icmp_ne 61 dX2_gainOf_54 (by decide) (fun c14 => ?_) (fun c14 => ?_)
        · refine z_iconst (v := 1) dX2_gainOf_57 rfl ?_
          refine z_goto 62 dX2_gainOf_58 (by decide) ?_
          refine z_weak (lv' := [none, none, none, none, some (.int v4), none]) ⟨Or.inl rfl, ⟨Or.inl rfl, ⟨Or.inl rfl, ⟨Or.inl rfl, ⟨Or.inr rfl, ⟨Or.inl rfl, trivial⟩⟩⟩⟩⟩⟩ ?_
          exact hJ_F_X2_gainOf_J62x v4
        · refine z_weak (lv' := [none, none, none, none, some (.int v4), none]) ⟨Or.inl rfl, ⟨Or.inl rfl, ⟨Or.inl rfl, ⟨Or.inl rfl, ⟨Or.inr rfl, ⟨Or.inl rfl, trivial⟩⟩⟩⟩⟩⟩ ?_
          exact hJ_F_X2_gainOf_J61 v4
      · refine z_weak (lv' := [none, none, none, none, some (.int v4), none]) ⟨Or.inl rfl, ⟨Or.inl rfl, ⟨Or.inl rfl, ⟨Or.inl rfl, ⟨Or.inr rfl, ⟨Or.inl rfl, trivial⟩⟩⟩⟩⟩⟩ ?_
        exact hJ_F_X2_gainOf_J61 v4

def F_X2_weighAll_L13 (o : Nat) (t : Nat) (kc3 : ((Int32 × z_Dat) → Option z_Dat)) (v1 : Int32) (kc7 : ((Int32 × z_Dat) → Option z_Dat)) (v5 : Int32) (D6 : z_Dat) : Option z_Dat :=
  if (D6 o 6) ≤ v5 then (z_let (v1 + 1) (fun v9 => kc3 (v9, D6)))
  else (z_let (F_X10_put 30 64 ((v1 * 8) + v5) (F_X2_gainOf o t v1 v5 D6) D6) (fun a_12 => z_let (v5 + 1) (fun v13 => kc7 (v13, a_12))))
def F_X2_weighAll_L2 (N : Nat) (o : Nat) (t : Nat) (kc3 : ((Int32 × z_Dat) → Option z_Dat)) (v1 : Int32) (D2 : z_Dat) : Option z_Dat :=
  if (D2 o 6) ≤ v1 then (some D2)
  else (z_loop (fun kc7 s => F_X2_weighAll_L13 o t kc3 v1 kc7 s.1 s.2) N (0, D2))
def F_X2_weighAll (N : Nat) (o : Nat) (t : Nat) (D : z_Dat) : Option z_Dat :=
  z_loop (fun kc3 s => F_X2_weighAll_L2 N o t kc3 s.1 s.2) N (0, D)
set_option maxRecDepth 100000 in
set_option maxHeartbeats 4000000 in
theorem em_X2_weighAll {l : Launch} {S : List z_Shp} {oW : Nat} {o : Nat} {t : Nat} (hl : l.stackTraces = false) (hW : z_W S oW) (hC : z_isCity S o) (hT : z_isTown S t) (N : Nat) (D : z_Dat) : ∀ out, z_ko (z_kV S) (F_X2_weighAll N o t D) out → z_EM l M_X2_weighAll (50, 700, 0, 0) [.ref 28, .ref o, .ref t] S D out := by
  have hs28 : S[28]? = some (4, 5, [some (some 29), some (some 30), some (some 31), none, none]) := hW.1 28 _ rfl
  have hs30 : S[30]? = some (0, 64, []) := hW.1 30 _ rfl
  refine z_meth hl rfl kp_X2 (Nat.le_of_ble_eq_true rfl) (lv := [some (.ref 28), some (.ref o), some (.ref t), none, none]) rfl ?_
  unfold F_X2_weighAll
  refine z_iconst (v := 0) dX2_weighAll_0 rfl ?_
  refine z_istore_n (i := 3) (x := 0) (lv' := [some (.ref 28), some (.ref o), some (.ref t), some (.int 0), none]) dX2_weighAll_1 rfl (by decide) rfl rfl ?_
  refine z_loops (lvOf := fun s : Int32 × z_Dat => [some (.ref 28), some (.ref o), some (.ref t), some (.int s.1), none]) (dOf := fun s : Int32 × z_Dat => s.2) (fun kc3 hkc3 s => ?_) N (0, D)
  obtain ⟨v1, D2⟩ := s
  show z_F _ _ _ _ _ 2 [some (.ref 28), some (.ref o), some (.ref t), some (.int v1), none] [] S D2 _ (F_X2_weighAll_L2 N o t kc3 v1 D2)
  unfold F_X2_weighAll_L2
  refine z_iload_n (i := 3) (x := v1) dX2_weighAll_2 rfl rfl ?_
  refine z_aload_n (i := 1) (x := o) dX2_weighAll_3 rfl rfl ?_
  refine z_getIN (j := 6) dX2_weighAll_4 kl_1 hC.1 (by decide) rfl rfl kf_X2_25 ?_
  refine z_icmp_ge 56 dX2_weighAll_7 (by decide) (fun c4 => ?_) (fun c4 => ?_)
  · exact z_vreturn dX2_weighAll_56 z_rWV trivial (by decide) (by decide)
  · refine z_iconst (v := 0) dX2_weighAll_10 rfl ?_
    refine z_istore (i := 4) (x := 0) (lv' := [some (.ref 28), some (.ref o), some (.ref t), some (.int v1), some (.int 0)]) dX2_weighAll_11 (by decide) rfl rfl ?_
    refine z_loops (lvOf := fun s : Int32 × z_Dat => [some (.ref 28), some (.ref o), some (.ref t), some (.int v1), some (.int s.1)]) (dOf := fun s : Int32 × z_Dat => s.2) (fun kc7 hkc7 s => ?_) N (0, D2)
    obtain ⟨v5, D6⟩ := s
    show z_F _ _ _ _ _ 13 [some (.ref 28), some (.ref o), some (.ref t), some (.int v1), some (.int v5)] [] S D6 _ (F_X2_weighAll_L13 o t kc3 v1 kc7 v5 D6)
    unfold F_X2_weighAll_L13
    refine z_iload (i := 4) (x := v5) dX2_weighAll_13 rfl ?_
    refine z_aload_n (i := 1) (x := o) dX2_weighAll_15 rfl rfl ?_
    refine z_getIN (j := 6) dX2_weighAll_16 kl_1 hC.1 (by decide) rfl rfl kf_X2_25 ?_
    refine z_icmp_ge 50 dX2_weighAll_19 (by decide) (fun c8 => ?_) (fun c8 => ?_)
    · refine z_iinc (i := 3) (x := v1) (y := 1) dX2_weighAll_50 rfl (by decide) (by decide) rfl (fun v9 => ?_)
      refine z_goto 2 dX2_weighAll_53 (by decide) ?_
      refine z_weak (lv' := [some (.ref 28), some (.ref o), some (.ref t), some (.int v9), none]) ⟨Or.inr rfl, ⟨Or.inr rfl, ⟨Or.inr rfl, ⟨Or.inr rfl, ⟨Or.inl rfl, trivial⟩⟩⟩⟩⟩ ?_
      exact hkc3 (v9, D6)
    · refine z_aload_n (i := 0) (x := 28) dX2_weighAll_22 rfl rfl ?_
      refine z_getR (j := 1) dX2_weighAll_23 kl_2 hs28 (by decide) rfl rfl kf_X2_15 ?_
      refine z_iload_n (i := 3) (x := v1) dX2_weighAll_26 rfl rfl ?_
      refine z_bipush (v := 8) dX2_weighAll_27 (by decide) ?_
      refine z_imul dX2_weighAll_29 ?_
      refine z_iload (i := 4) (x := v5) dX2_weighAll_30 rfl ?_
      refine z_iadd dX2_weighAll_32 ?_
      refine z_aload_n (i := 1) (x := o) dX2_weighAll_33 rfl rfl ?_
      refine z_aload_n (i := 2) (x := t) dX2_weighAll_34 rfl rfl ?_
      refine z_iload_n (i := 3) (x := v1) dX2_weighAll_35 rfl rfl ?_
      refine z_iload (i := 4) (x := v5) dX2_weighAll_36 rfl ?_
      refine z_cP (As := [.ref o, .ref t, .int v1, .int v5]) (rest := [.int ((v1 * 8) + v5), .ref 30]) (em_X2_gainOf hl hW hC hT v1 v5 D6) (fun o7 h => z_runS 51 4 h rfl kk_X2_51 kq_X2_gainOf rfl (Nat.le_of_ble_eq_true rfl) ⟨Nat.le_of_ble_eq_true rfl, Nat.le_of_ble_eq_true rfl, Nat.le_of_ble_eq_true rfl, Nat.le_of_ble_eq_true rfl⟩ dX2_weighAll_38) z_gWV (fun hz10 => ?_)
      refine z_cTV (As := [.ref 30, .int ((v1 * 8) + v5), .int (F_X2_gainOf o t v1 v5 D6)]) (rest := []) (em_X10_put (n0 := 64) hl hs30 (by decide) ((v1 * 8) + v5) (F_X2_gainOf o t v1 v5 D6) D6) (fun o7 h => z_runSN 35 3 h rfl kk_X2_35 kn_X2_35 kq_X10_put rfl (Nat.le_of_ble_eq_true rfl) ⟨Nat.le_of_ble_eq_true rfl, Nat.le_of_ble_eq_true rfl, Nat.le_of_ble_eq_true rfl, Nat.le_of_ble_eq_true rfl⟩ dX2_weighAll_41) z_gWV (fun a_12 hz11 => ?_)
      refine z_iinc (i := 4) (x := v5) (y := 1) dX2_weighAll_44 rfl (by decide) (by decide) rfl (fun v13 => ?_)
      refine z_goto 13 dX2_weighAll_47 (by decide) ?_
      exact hkc7 (v13, a_12)

def F_X2_isIn (a0 : Int32) (a1 : Int32) : Int32 :=
  if ((z_shr a0 a1) &&& 1) = 1 then (1)
  else (0)
set_option maxRecDepth 100000 in
set_option maxHeartbeats 4000000 in
theorem em_X2_isIn {l : Launch} {S : List z_Shp} (hl : l.stackTraces = false) (a0 : Int32) (a1 : Int32) (D : z_Dat) : ∀ out, z_kt (z_kR S D) (F_X2_isIn a0 a1) out → z_EM l M_X2_isIn (20, 520, 0, 0) [.int a0, .int a1] S D out := by
  refine z_meth hl rfl kp_X2 (Nat.le_of_ble_eq_true rfl) (lv := [some (.int a0), some (.int a1)]) rfl ?_
  unfold F_X2_isIn
  refine z_iload_n (i := 0) (x := a0) dX2_isIn_0 rfl rfl ?_
  refine z_iload_n (i := 1) (x := a1) dX2_isIn_1 rfl rfl ?_
  refine z_ishr dX2_isIn_2 ?_
  refine z_iconst (v := 1) dX2_isIn_3 rfl ?_
  refine z_iand dX2_isIn_4 ?_
  refine z_iconst (v := 1) dX2_isIn_5 rfl ?_
  refine z_icmp_ne 13 dX2_isIn_6 (by decide) (fun c1 => ?_) (fun c1 => ?_)
  · refine z_iconst (v := 1) dX2_isIn_9 rfl ?_
    refine z_goto 14 dX2_isIn_10 (by decide) ?_
    exact z_ireturn dX2_isIn_14 z_rP rfl (by decide) (by decide)
  · refine z_iconst (v := 0) dX2_isIn_13 rfl ?_
    exact z_ireturn dX2_isIn_14 z_rP rfl (by decide) (by decide)

def F_X2_leastIn_L2 (a0 : Int32) (a1 : Int32) (kc2 : (Int32 → Option Int32)) (v1 : Int32) : Option Int32 :=
  if a0 ≤ v1 then (some 0)
  else (if (F_X2_isIn a1 v1) = 0 then (z_let (v1 + 1) (fun v6 => kc2 v6))
  else (some v1))
def F_X2_leastIn (N : Nat) (a0 : Int32) (a1 : Int32) : Option Int32 :=
  z_loop (fun kc2 s => F_X2_leastIn_L2 a0 a1 kc2 s) N 0
set_option maxRecDepth 100000 in
set_option maxHeartbeats 4000000 in
theorem em_X2_leastIn {l : Launch} {S : List z_Shp} (hl : l.stackTraces = false) (N : Nat) (a0 : Int32) (a1 : Int32) (D : z_Dat) : ∀ out, z_ko (z_kR S D) (F_X2_leastIn N a0 a1) out → z_EM l M_X2_leastIn (30, 580, 0, 0) [.int a0, .int a1] S D out := by
  refine z_meth hl rfl kp_X2 (Nat.le_of_ble_eq_true rfl) (lv := [some (.int a0), some (.int a1), none]) rfl ?_
  unfold F_X2_leastIn
  refine z_iconst (v := 0) dX2_leastIn_0 rfl ?_
  refine z_istore_n (i := 2) (x := 0) (lv' := [some (.int a0), some (.int a1), some (.int 0)]) dX2_leastIn_1 rfl (by decide) rfl rfl ?_
  refine z_loops (lvOf := fun s : Int32 => [some (.int a0), some (.int a1), some (.int s)]) (dOf := fun s : Int32 => D) (fun kc2 hkc2 s => ?_) N 0
  obtain ⟨v1, hq⟩ : ∃ z, z = s := ⟨_, rfl⟩
  subst hq
  show z_F _ _ _ _ _ 2 [some (.int a0), some (.int a1), some (.int v1)] [] S D _ (F_X2_leastIn_L2 a0 a1 kc2 v1)
  unfold F_X2_leastIn_L2
  refine z_iload_n (i := 2) (x := v1) dX2_leastIn_2 rfl rfl ?_
  refine z_iload_n (i := 0) (x := a0) dX2_leastIn_3 rfl rfl ?_
  refine z_icmp_ge 23 dX2_leastIn_4 (by decide) (fun c3 => ?_) (fun c3 => ?_)
  · refine z_iconst (v := 0) dX2_leastIn_23 rfl ?_
    exact z_ireturn dX2_leastIn_24 z_rR rfl (by decide) (by decide)
  · refine z_iload_n (i := 1) (x := a1) dX2_leastIn_7 rfl rfl ?_
    refine z_iload_n (i := 2) (x := v1) dX2_leastIn_8 rfl rfl ?_
    refine z_cP (As := [.int a1, .int v1]) (rest := []) (em_X2_isIn hl a1 v1 D) (fun o7 h => z_runS 70 2 h rfl kk_X2_70 kq_X2_isIn rfl (Nat.le_of_ble_eq_true rfl) ⟨Nat.le_of_ble_eq_true rfl, Nat.le_of_ble_eq_true rfl, Nat.le_of_ble_eq_true rfl, Nat.le_of_ble_eq_true rfl⟩ dX2_leastIn_9) z_gR (fun hz4 => ?_)
    refine z_if_eq 17 dX2_leastIn_12 (by decide) (fun c5 => ?_) (fun c5 => ?_)
    · refine z_iinc (i := 2) (x := v1) (y := 1) dX2_leastIn_17 rfl (by decide) (by decide) rfl (fun v6 => ?_)
      refine z_goto 2 dX2_leastIn_20 (by decide) ?_
      exact hkc2 v6
    · refine z_iload_n (i := 2) (x := v1) dX2_leastIn_15 rfl rfl ?_
      exact z_ireturn dX2_leastIn_16 z_rR rfl (by decide) (by decide)

def F_X2_gain (a0 : Int32) (a1 : Int32) (D : z_Dat) : Int32 :=
  F_X10_at 30 64 ((a0 * 8) + a1) D
set_option maxRecDepth 100000 in
set_option maxHeartbeats 4000000 in
theorem em_X2_gain {l : Launch} {S : List z_Shp} {oW : Nat} (hl : l.stackTraces = false) (hW : z_W S oW) (a0 : Int32) (a1 : Int32) (D : z_Dat) : ∀ out, z_kt (z_kR S D) (F_X2_gain a0 a1 D) out → z_EM l M_X2_gain (30, 580, 0, 0) [.ref 28, .int a0, .int a1] S D out := by
  have hs28 : S[28]? = some (4, 5, [some (some 29), some (some 30), some (some 31), none, none]) := hW.1 28 _ rfl
  have hs30 : S[30]? = some (0, 64, []) := hW.1 30 _ rfl
  refine z_meth hl rfl kp_X2 (Nat.le_of_ble_eq_true rfl) (lv := [some (.ref 28), some (.int a0), some (.int a1)]) rfl ?_
  unfold F_X2_gain
  refine z_aload_n (i := 0) (x := 28) dX2_gain_0 rfl rfl ?_
  refine z_getR (j := 1) dX2_gain_1 kl_2 hs28 (by decide) rfl rfl kf_X2_15 ?_
  refine z_iload_n (i := 1) (x := a0) dX2_gain_4 rfl rfl ?_
  refine z_bipush (v := 8) dX2_gain_5 (by decide) ?_
  refine z_imul dX2_gain_7 ?_
  refine z_iload_n (i := 2) (x := a1) dX2_gain_8 rfl rfl ?_
  refine z_iadd dX2_gain_9 ?_
  refine z_cP (As := [.ref 30, .int ((a0 * 8) + a1)]) (rest := []) (em_X10_at (n0 := 64) hl hs30 (by decide) ((a0 * 8) + a1) D) (fun o7 h => z_runSN 47 2 h rfl kk_X2_47 kn_X2_47 kq_X10_at rfl (Nat.le_of_ble_eq_true rfl) ⟨Nat.le_of_ble_eq_true rfl, Nat.le_of_ble_eq_true rfl, Nat.le_of_ble_eq_true rfl, Nat.le_of_ble_eq_true rfl⟩ dX2_gain_10) z_gP (fun hz1 => ?_)
  exact z_ireturn dX2_gain_13 z_rP rfl (by decide) (by decide)

def F_X2_bestOf_L31 (a0 : Int32) (a_2 : Int32) (v3 : Int32) (D : z_Dat) (kc9 : ((Int32 × Int32) → Option Int32)) (v7 : Int32) (v8 : Int32) : Option Int32 :=
  if a0 ≤ v8 then (some v7)
  else (if (F_X2_isIn v3 v8) = 0 then (z_let (v8 + 1) (fun v13 => kc9 (v7, v13)))
  else (if (F_X2_gain a_2 v8 D) ≤ 0 then (z_let (v8 + 1) (fun v16 => kc9 (v7, v16)))
  else (z_let (z_max v7 ((F_X2_gain a_2 v8 D) + (F_X10_at 29 256 (v3 &&& ((z_shl 1 v8) ^^^ (-1))) D))) (fun v19 => z_let (v8 + 1) (fun v20 => kc9 (v19, v20))))))
def F_X2_bestOf (N : Nat) (a0 : Int32) (a1 : Int32) (D : z_Dat) : Option Int32 :=
  z_bd (F_X2_leastIn N a0 a1) (fun a_2 => z_let (a1 &&& ((z_shl 1 a_2) ^^^ (-1))) (fun v3 => z_let (F_X10_at 29 256 v3 D) (fun v5 => z_let (a_2 + 1) (fun v6 => z_loop (fun kc9 s => F_X2_bestOf_L31 a0 a_2 v3 D kc9 s.1 s.2) N (v5, v6)))))
set_option maxRecDepth 100000 in
set_option maxHeartbeats 4000000 in
theorem em_X2_bestOf {l : Launch} {S : List z_Shp} {oW : Nat} (hl : l.stackTraces = false) (hW : z_W S oW) (N : Nat) (a0 : Int32) (a1 : Int32) (D : z_Dat) : ∀ out, z_ko (z_kR S D) (F_X2_bestOf N a0 a1 D) out → z_EM l M_X2_bestOf (40, 640, 0, 0) [.ref 28, .int a0, .int a1] S D out := by
  have hs28 : S[28]? = some (4, 5, [some (some 29), some (some 30), some (some 31), none, none]) := hW.1 28 _ rfl
  have hs29 : S[29]? = some (0, 256, []) := hW.1 29 _ rfl
  refine z_meth hl rfl kp_X2 (Nat.le_of_ble_eq_true rfl) (lv := [some (.ref 28), some (.int a0), some (.int a1), none, none, none, none]) rfl ?_
  unfold F_X2_bestOf
  refine z_iload_n (i := 1) (x := a0) dX2_bestOf_0 rfl rfl ?_
  refine z_iload_n (i := 2) (x := a1) dX2_bestOf_1 rfl rfl ?_
  refine z_cR (As := [.int a0, .int a1]) (rest := []) (em_X2_leastIn hl N a0 a1 D) (fun o7 h => z_runS 67 2 h rfl kk_X2_67 kq_X2_leastIn rfl (Nat.le_of_ble_eq_true rfl) ⟨Nat.le_of_ble_eq_true rfl, Nat.le_of_ble_eq_true rfl, Nat.le_of_ble_eq_true rfl, Nat.le_of_ble_eq_true rfl⟩ dX2_bestOf_2) z_gR (fun a_2 hz1 => ?_)
  refine z_istore_n (i := 3) (x := a_2) (lv' := [some (.ref 28), some (.int a0), some (.int a1), some (.int a_2), none, none, none]) dX2_bestOf_5 rfl (by decide) rfl rfl ?_
  refine z_iload_n (i := 2) (x := a1) dX2_bestOf_6 rfl rfl ?_
  refine z_iconst (v := 1) dX2_bestOf_7 rfl ?_
  refine z_iload_n (i := 3) (x := a_2) dX2_bestOf_8 rfl rfl ?_
  refine z_ishl dX2_bestOf_9 ?_
  refine z_iconst (v := (-1)) dX2_bestOf_10 rfl ?_
  refine z_ixor dX2_bestOf_11 ?_
  refine z_iand dX2_bestOf_12 ?_
  refine z_topi (fun v3 => ?_)
  refine z_istore (i := 4) (x := v3) (lv' := [some (.ref 28), some (.int a0), some (.int a1), some (.int a_2), some (.int v3), none, none]) dX2_bestOf_13 (by decide) rfl rfl ?_
  refine z_aload_n (i := 0) (x := 28) dX2_bestOf_15 rfl rfl ?_
  refine z_getR (j := 0) dX2_bestOf_16 kl_2 hs28 (by decide) rfl rfl kf_X2_9 ?_
  refine z_iload (i := 4) (x := v3) dX2_bestOf_19 rfl ?_
  refine z_cP (As := [.ref 29, .int v3]) (rest := []) (em_X10_at (n0 := 256) hl hs29 (by decide) v3 D) (fun o7 h => z_runSN 47 2 h rfl kk_X2_47 kn_X2_47 kq_X10_at rfl (Nat.le_of_ble_eq_true rfl) ⟨Nat.le_of_ble_eq_true rfl, Nat.le_of_ble_eq_true rfl, Nat.le_of_ble_eq_true rfl, Nat.le_of_ble_eq_true rfl⟩ dX2_bestOf_21) z_gR (fun hz4 => ?_)
  refine z_topi (fun v5 => ?_)
  refine z_istore (i := 5) (x := v5) (lv' := [some (.ref 28), some (.int a0), some (.int a1), some (.int a_2), some (.int v3), some (.int v5), none]) dX2_bestOf_24 (by decide) rfl rfl ?_
  refine z_iload_n (i := 3) (x := a_2) dX2_bestOf_26 rfl rfl ?_
  refine z_iconst (v := 1) dX2_bestOf_27 rfl ?_
  refine z_iadd dX2_bestOf_28 ?_
  refine z_topi (fun v6 => ?_)
  refine z_istore (i := 6) (x := v6) (lv' := [some (.ref 28), some (.int a0), some (.int a1), some (.int a_2), some (.int v3), some (.int v5), some (.int v6)]) dX2_bestOf_29 (by decide) rfl rfl ?_
  refine z_weak (lv' := [some (.ref 28), some (.int a0), none, some (.int a_2), some (.int v3), some (.int v5), some (.int v6)]) ⟨Or.inr rfl, ⟨Or.inr rfl, ⟨Or.inl rfl, ⟨Or.inr rfl, ⟨Or.inr rfl, ⟨Or.inr rfl, ⟨Or.inr rfl, trivial⟩⟩⟩⟩⟩⟩⟩ ?_
  refine z_loops (lvOf := fun s : Int32 × Int32 => [some (.ref 28), some (.int a0), none, some (.int a_2), some (.int v3), some (.int s.1), some (.int s.2)]) (dOf := fun s : Int32 × Int32 => D) (fun kc9 hkc9 s => ?_) N (v5, v6)
  obtain ⟨v7, v8⟩ := s
  show z_F _ _ _ _ _ 31 [some (.ref 28), some (.int a0), none, some (.int a_2), some (.int v3), some (.int v7), some (.int v8)] [] S D _ (F_X2_bestOf_L31 a0 a_2 v3 D kc9 v7 v8)
  unfold F_X2_bestOf_L31
  refine z_iload (i := 6) (x := v8) dX2_bestOf_31 rfl ?_
  refine z_iload_n (i := 1) (x := a0) dX2_bestOf_33 rfl rfl ?_
  refine z_icmp_ge 94 dX2_bestOf_34 (by decide) (fun c10 => ?_) (fun c10 => ?_)
  · refine z_iload (i := 5) (x := v7) dX2_bestOf_94 rfl ?_
    exact z_ireturn dX2_bestOf_96 z_rR rfl (by decide) (by decide)
  · refine z_iload (i := 4) (x := v3) dX2_bestOf_37 rfl ?_
    refine z_iload (i := 6) (x := v8) dX2_bestOf_39 rfl ?_
    refine z_cP (As := [.int v3, .int v8]) (rest := []) (em_X2_isIn hl v3 v8 D) (fun o7 h => z_runS 70 2 h rfl kk_X2_70 kq_X2_isIn rfl (Nat.le_of_ble_eq_true rfl) ⟨Nat.le_of_ble_eq_true rfl, Nat.le_of_ble_eq_true rfl, Nat.le_of_ble_eq_true rfl, Nat.le_of_ble_eq_true rfl⟩ dX2_bestOf_41) z_gR (fun hz11 => ?_)
    refine z_if_eq 88 dX2_bestOf_44 (by decide) (fun c12 => ?_) (fun c12 => ?_)
    · refine z_iinc (i := 6) (x := v8) (y := 1) dX2_bestOf_88 rfl (by decide) (by decide) rfl (fun v13 => ?_)
      refine z_goto 31 dX2_bestOf_91 (by decide) ?_
      exact hkc9 (v7, v13)
    · refine z_aload_n (i := 0) (x := 28) dX2_bestOf_47 rfl rfl ?_
      refine z_iload_n (i := 3) (x := a_2) dX2_bestOf_48 rfl rfl ?_
      refine z_iload (i := 6) (x := v8) dX2_bestOf_49 rfl ?_
      refine z_cP (As := [.ref 28, .int a_2, .int v8]) (rest := []) (em_X2_gain hl hW a_2 v8 D) (fun o7 h => z_runV 74 2 h rfl kk_X2_74 hs28 kl_2.1 kq_X2_gain rfl (Nat.le_of_ble_eq_true rfl) ⟨Nat.le_of_ble_eq_true rfl, Nat.le_of_ble_eq_true rfl, Nat.le_of_ble_eq_true rfl, Nat.le_of_ble_eq_true rfl⟩ dX2_bestOf_51) z_gR (fun hz14 => ?_)
      refine z_if_le 88 dX2_bestOf_54 (by decide) (fun c15 => ?_) (fun c15 => ?_)
      · refine z_iinc (i := 6) (x := v8) (y := 1) dX2_bestOf_88 rfl (by decide) (by decide) rfl (fun v16 => ?_)
        refine z_goto 31 dX2_bestOf_91 (by decide) ?_
        exact hkc9 (v7, v16)
      · refine z_iload (i := 5) (x := v7) dX2_bestOf_57 rfl ?_
        refine z_aload_n (i := 0) (x := 28) dX2_bestOf_59 rfl rfl ?_
        refine z_iload_n (i := 3) (x := a_2) dX2_bestOf_60 rfl rfl ?_
        refine z_iload (i := 6) (x := v8) dX2_bestOf_61 rfl ?_
        refine z_cP (As := [.ref 28, .int a_2, .int v8]) (rest := [.int v7]) (em_X2_gain hl hW a_2 v8 D) (fun o7 h => z_runV 74 2 h rfl kk_X2_74 hs28 kl_2.1 kq_X2_gain rfl (Nat.le_of_ble_eq_true rfl) ⟨Nat.le_of_ble_eq_true rfl, Nat.le_of_ble_eq_true rfl, Nat.le_of_ble_eq_true rfl, Nat.le_of_ble_eq_true rfl⟩ dX2_bestOf_63) z_gR (fun hz17 => ?_)
        refine z_aload_n (i := 0) (x := 28) dX2_bestOf_66 rfl rfl ?_
        refine z_getR (j := 0) dX2_bestOf_67 kl_2 hs28 (by decide) rfl rfl kf_X2_9 ?_
        refine z_iload (i := 4) (x := v3) dX2_bestOf_70 rfl ?_
        refine z_iconst (v := 1) dX2_bestOf_72 rfl ?_
        refine z_iload (i := 6) (x := v8) dX2_bestOf_73 rfl ?_
        refine z_ishl dX2_bestOf_75 ?_
        refine z_iconst (v := (-1)) dX2_bestOf_76 rfl ?_
        refine z_ixor dX2_bestOf_77 ?_
        refine z_iand dX2_bestOf_78 ?_
        refine z_cP (As := [.ref 29, .int (v3 &&& ((z_shl 1 v8) ^^^ (-1)))]) (rest := [.int (F_X2_gain a_2 v8 D), .int v7]) (em_X10_at (n0 := 256) hl hs29 (by decide) (v3 &&& ((z_shl 1 v8) ^^^ (-1))) D) (fun o7 h => z_runSN 47 2 h rfl kk_X2_47 kn_X2_47 kq_X10_at rfl (Nat.le_of_ble_eq_true rfl) ⟨Nat.le_of_ble_eq_true rfl, Nat.le_of_ble_eq_true rfl, Nat.le_of_ble_eq_true rfl, Nat.le_of_ble_eq_true rfl⟩ dX2_bestOf_79) z_gR (fun hz18 => ?_)
        refine z_iadd dX2_bestOf_82 ?_
        refine z_mmax dX2_bestOf_83 km_X2_77 ⟨Nat.le_of_ble_eq_true rfl, Nat.le_of_ble_eq_true rfl, Nat.le_of_ble_eq_true rfl, Nat.le_of_ble_eq_true rfl⟩ ?_
        refine z_topi (fun v19 => ?_)
        refine z_istore (i := 5) (x := v19) (lv' := [some (.ref 28), some (.int a0), none, some (.int a_2), some (.int v3), some (.int v19), some (.int v8)]) dX2_bestOf_86 (by decide) rfl rfl ?_
        refine z_iinc (i := 6) (x := v8) (y := 1) dX2_bestOf_88 rfl (by decide) (by decide) rfl (fun v20 => ?_)
        refine z_goto 31 dX2_bestOf_91 (by decide) ?_
        exact hkc9 (v19, v20)

def F_X2_firstPartner_L14 (a0 : Int32) (a1 : Int32) (a2 : Int32) (v1 : Int32) (D : z_Dat) (kc4 : (Int32 → Option Int32)) (v3 : Int32) : Option Int32 :=
  if a0 ≤ v3 then (some (-1))
  else (if (F_X2_isIn v1 v3) = 0 then (z_let (v3 + 1) (fun v8 => kc4 v8))
  else (if (F_X2_gain a2 v3 D) ≤ 0 then (z_let (v3 + 1) (fun v11 => kc4 v11))
  else (if ((F_X2_gain a2 v3 D) + (F_X10_at 29 256 (v1 &&& ((z_shl 1 v3) ^^^ (-1))) D)) = (F_X10_at 29 256 a1 D) then (some v3)
  else (z_let (v3 + 1) (fun v16 => kc4 v16)))))
def F_X2_firstPartner (N : Nat) (a0 : Int32) (a1 : Int32) (a2 : Int32) (D : z_Dat) : Option Int32 :=
  z_let (a1 &&& ((z_shl 1 a2) ^^^ (-1))) (fun v1 => z_let (a2 + 1) (fun v2 => z_loop (fun kc4 s => F_X2_firstPartner_L14 a0 a1 a2 v1 D kc4 s) N v2))
set_option maxRecDepth 100000 in
set_option maxHeartbeats 4000000 in
theorem em_X2_firstPartner {l : Launch} {S : List z_Shp} {oW : Nat} (hl : l.stackTraces = false) (hW : z_W S oW) (N : Nat) (a0 : Int32) (a1 : Int32) (a2 : Int32) (D : z_Dat) : ∀ out, z_ko (z_kR S D) (F_X2_firstPartner N a0 a1 a2 D) out → z_EM l M_X2_firstPartner (40, 640, 0, 0) [.ref 28, .int a0, .int a1, .int a2] S D out := by
  have hs28 : S[28]? = some (4, 5, [some (some 29), some (some 30), some (some 31), none, none]) := hW.1 28 _ rfl
  have hs29 : S[29]? = some (0, 256, []) := hW.1 29 _ rfl
  refine z_meth hl rfl kp_X2 (Nat.le_of_ble_eq_true rfl) (lv := [some (.ref 28), some (.int a0), some (.int a1), some (.int a2), none, none]) rfl ?_
  unfold F_X2_firstPartner
  refine z_iload_n (i := 2) (x := a1) dX2_firstPartner_0 rfl rfl ?_
  refine z_iconst (v := 1) dX2_firstPartner_1 rfl ?_
  refine z_iload_n (i := 3) (x := a2) dX2_firstPartner_2 rfl rfl ?_
  refine z_ishl dX2_firstPartner_3 ?_
  refine z_iconst (v := (-1)) dX2_firstPartner_4 rfl ?_
  refine z_ixor dX2_firstPartner_5 ?_
  refine z_iand dX2_firstPartner_6 ?_
  refine z_topi (fun v1 => ?_)
  refine z_istore (i := 4) (x := v1) (lv' := [some (.ref 28), some (.int a0), some (.int a1), some (.int a2), some (.int v1), none]) dX2_firstPartner_7 (by decide) rfl rfl ?_
  refine z_iload_n (i := 3) (x := a2) dX2_firstPartner_9 rfl rfl ?_
  refine z_iconst (v := 1) dX2_firstPartner_10 rfl ?_
  refine z_iadd dX2_firstPartner_11 ?_
  refine z_topi (fun v2 => ?_)
  refine z_istore (i := 5) (x := v2) (lv' := [some (.ref 28), some (.int a0), some (.int a1), some (.int a2), some (.int v1), some (.int v2)]) dX2_firstPartner_12 (by decide) rfl rfl ?_
  refine z_loops (lvOf := fun s : Int32 => [some (.ref 28), some (.int a0), some (.int a1), some (.int a2), some (.int v1), some (.int s)]) (dOf := fun s : Int32 => D) (fun kc4 hkc4 s => ?_) N v2
  obtain ⟨v3, hq⟩ : ∃ z, z = s := ⟨_, rfl⟩
  subst hq
  show z_F _ _ _ _ _ 14 [some (.ref 28), some (.int a0), some (.int a1), some (.int a2), some (.int v1), some (.int v3)] [] S D _ (F_X2_firstPartner_L14 a0 a1 a2 v1 D kc4 v3)
  unfold F_X2_firstPartner_L14
  refine z_iload (i := 5) (x := v3) dX2_firstPartner_14 rfl ?_
  refine z_iload_n (i := 1) (x := a0) dX2_firstPartner_16 rfl rfl ?_
  refine z_icmp_ge 84 dX2_firstPartner_17 (by decide) (fun c5 => ?_) (fun c5 => ?_)
  · refine z_iconst (v := (-1)) dX2_firstPartner_84 rfl ?_
    exact z_ireturn dX2_firstPartner_85 z_rR rfl (by decide) (by decide)
  · refine z_iload (i := 4) (x := v1) dX2_firstPartner_20 rfl ?_
    refine z_iload (i := 5) (x := v3) dX2_firstPartner_22 rfl ?_
    refine z_cP (As := [.int v1, .int v3]) (rest := []) (em_X2_isIn hl v1 v3 D) (fun o7 h => z_runS 70 2 h rfl kk_X2_70 kq_X2_isIn rfl (Nat.le_of_ble_eq_true rfl) ⟨Nat.le_of_ble_eq_true rfl, Nat.le_of_ble_eq_true rfl, Nat.le_of_ble_eq_true rfl, Nat.le_of_ble_eq_true rfl⟩ dX2_firstPartner_24) z_gR (fun hz6 => ?_)
    refine z_if_eq 78 dX2_firstPartner_27 (by decide) (fun c7 => ?_) (fun c7 => ?_)
    · refine z_iinc (i := 5) (x := v3) (y := 1) dX2_firstPartner_78 rfl (by decide) (by decide) rfl (fun v8 => ?_)
      refine z_goto 14 dX2_firstPartner_81 (by decide) ?_
      exact hkc4 v8
    · refine z_aload_n (i := 0) (x := 28) dX2_firstPartner_30 rfl rfl ?_
      refine z_iload_n (i := 3) (x := a2) dX2_firstPartner_31 rfl rfl ?_
      refine z_iload (i := 5) (x := v3) dX2_firstPartner_32 rfl ?_
      refine z_cP (As := [.ref 28, .int a2, .int v3]) (rest := []) (em_X2_gain hl hW a2 v3 D) (fun o7 h => z_runV 74 2 h rfl kk_X2_74 hs28 kl_2.1 kq_X2_gain rfl (Nat.le_of_ble_eq_true rfl) ⟨Nat.le_of_ble_eq_true rfl, Nat.le_of_ble_eq_true rfl, Nat.le_of_ble_eq_true rfl, Nat.le_of_ble_eq_true rfl⟩ dX2_firstPartner_34) z_gR (fun hz9 => ?_)
      refine z_if_le 78 dX2_firstPartner_37 (by decide) (fun c10 => ?_) (fun c10 => ?_)
      · refine z_iinc (i := 5) (x := v3) (y := 1) dX2_firstPartner_78 rfl (by decide) (by decide) rfl (fun v11 => ?_)
        refine z_goto 14 dX2_firstPartner_81 (by decide) ?_
        exact hkc4 v11
      · refine z_aload_n (i := 0) (x := 28) dX2_firstPartner_40 rfl rfl ?_
        refine z_iload_n (i := 3) (x := a2) dX2_firstPartner_41 rfl rfl ?_
        refine z_iload (i := 5) (x := v3) dX2_firstPartner_42 rfl ?_
        refine z_cP (As := [.ref 28, .int a2, .int v3]) (rest := []) (em_X2_gain hl hW a2 v3 D) (fun o7 h => z_runV 74 2 h rfl kk_X2_74 hs28 kl_2.1 kq_X2_gain rfl (Nat.le_of_ble_eq_true rfl) ⟨Nat.le_of_ble_eq_true rfl, Nat.le_of_ble_eq_true rfl, Nat.le_of_ble_eq_true rfl, Nat.le_of_ble_eq_true rfl⟩ dX2_firstPartner_44) z_gR (fun hz12 => ?_)
        refine z_aload_n (i := 0) (x := 28) dX2_firstPartner_47 rfl rfl ?_
        refine z_getR (j := 0) dX2_firstPartner_48 kl_2 hs28 (by decide) rfl rfl kf_X2_9 ?_
        refine z_iload (i := 4) (x := v1) dX2_firstPartner_51 rfl ?_
        refine z_iconst (v := 1) dX2_firstPartner_53 rfl ?_
        refine z_iload (i := 5) (x := v3) dX2_firstPartner_54 rfl ?_
        refine z_ishl dX2_firstPartner_56 ?_
        refine z_iconst (v := (-1)) dX2_firstPartner_57 rfl ?_
        refine z_ixor dX2_firstPartner_58 ?_
        refine z_iand dX2_firstPartner_59 ?_
        refine z_cP (As := [.ref 29, .int (v1 &&& ((z_shl 1 v3) ^^^ (-1)))]) (rest := [.int (F_X2_gain a2 v3 D)]) (em_X10_at (n0 := 256) hl hs29 (by decide) (v1 &&& ((z_shl 1 v3) ^^^ (-1))) D) (fun o7 h => z_runSN 47 2 h rfl kk_X2_47 kn_X2_47 kq_X10_at rfl (Nat.le_of_ble_eq_true rfl) ⟨Nat.le_of_ble_eq_true rfl, Nat.le_of_ble_eq_true rfl, Nat.le_of_ble_eq_true rfl, Nat.le_of_ble_eq_true rfl⟩ dX2_firstPartner_60) z_gR (fun hz13 => ?_)
        refine z_iadd dX2_firstPartner_63 ?_
        refine z_aload_n (i := 0) (x := 28) dX2_firstPartner_64 rfl rfl ?_
        refine z_getR (j := 0) dX2_firstPartner_65 kl_2 hs28 (by decide) rfl rfl kf_X2_9 ?_
        refine z_iload_n (i := 2) (x := a1) dX2_firstPartner_68 rfl rfl ?_
        refine z_cP (As := [.ref 29, .int a1]) (rest := [.int ((F_X2_gain a2 v3 D) + (F_X10_at 29 256 (v1 &&& ((z_shl 1 v3) ^^^ (-1))) D))]) (em_X10_at (n0 := 256) hl hs29 (by decide) a1 D) (fun o7 h => z_runSN 47 2 h rfl kk_X2_47 kn_X2_47 kq_X10_at rfl (Nat.le_of_ble_eq_true rfl) ⟨Nat.le_of_ble_eq_true rfl, Nat.le_of_ble_eq_true rfl, Nat.le_of_ble_eq_true rfl, Nat.le_of_ble_eq_true rfl⟩ dX2_firstPartner_69) z_gR (fun hz14 => ?_)
        refine z_icmp_ne 78 dX2_firstPartner_72 (by decide) (fun c15 => ?_) (fun c15 => ?_)
        · refine z_iload (i := 5) (x := v3) dX2_firstPartner_75 rfl ?_
          exact z_ireturn dX2_firstPartner_77 z_rR rfl (by decide) (by decide)
        · refine z_iinc (i := 5) (x := v3) (y := 1) dX2_firstPartner_78 rfl (by decide) (by decide) rfl (fun v16 => ?_)
          refine z_goto 14 dX2_firstPartner_81 (by decide) ?_
          exact hkc4 v16

def F_X2_choose_L13 (N : Nat) (a0 : Int32) (kc6 : ((Int32 × Int32 × z_Dat) → Option z_Dat)) (v3 : Int32) (v4 : Int32) (D5 : z_Dat) : Option z_Dat :=
  if a0 ≤ v4 then (some D5)
  else (if (F_X2_isIn v3 v4) = 0 then (z_let (v4 + 1) (fun v10 => kc6 (v3, v10, D5)))
  else (z_bd (F_X2_firstPartner N a0 v3 v4 D5) (fun a_12 => z_let (v3 &&& ((z_shl 1 v4) ^^^ (-1))) (fun v13 => if a_12 = (-1) then (z_let (v4 + 1) (fun v15 => kc6 (v13, v15, D5)))
  else (z_let (v13 &&& ((z_shl 1 a_12) ^^^ (-1))) (fun v16 => z_let (F_X10_put 31 8 v4 a_12 D5) (fun a_18 => z_let (F_X10_put 31 8 a_12 v4 a_18) (fun a_20 => z_let (v4 + 1) (fun v21 => kc6 (v16, v21, a_20))))))))))
def F_X2_choose (N : Nat) (a0 : Int32) (a1 : Int32) (D : z_Dat) : Option z_Dat :=
  z_bd (F_X10_fill N 31 8 (-1) D) (fun a_2 => z_loop (fun kc6 s => F_X2_choose_L13 N a0 kc6 s.1 s.2.1 s.2.2) N (a1, 0, a_2))
set_option maxRecDepth 100000 in
set_option maxHeartbeats 4000000 in
theorem em_X2_choose {l : Launch} {S : List z_Shp} {oW : Nat} (hl : l.stackTraces = false) (hW : z_W S oW) (N : Nat) (a0 : Int32) (a1 : Int32) (D : z_Dat) : ∀ out, z_ko (z_kV S) (F_X2_choose N a0 a1 D) out → z_EM l M_X2_choose (50, 700, 0, 0) [.ref 28, .int a0, .int a1] S D out := by
  have hs28 : S[28]? = some (4, 5, [some (some 29), some (some 30), some (some 31), none, none]) := hW.1 28 _ rfl
  have hs31 : S[31]? = some (0, 8, []) := hW.1 31 _ rfl
  refine z_meth hl rfl kp_X2 (Nat.le_of_ble_eq_true rfl) (lv := [some (.ref 28), some (.int a0), some (.int a1), none, none, none]) rfl ?_
  unfold F_X2_choose
  refine z_aload_n (i := 0) (x := 28) dX2_choose_0 rfl rfl ?_
  refine z_getR (j := 2) dX2_choose_1 kl_2 hs28 (by decide) rfl rfl kf_X2_18 ?_
  refine z_iconst (v := (-1)) dX2_choose_4 rfl ?_
  refine z_cWV (As := [.ref 31, .int (-1)]) (rest := []) (em_X10_fill (n0 := 8) hl hs31 (by decide) N (-1) D) (fun o7 h => z_runSN 82 2 h rfl kk_X2_82 kn_X2_82 kq_X10_fill rfl (Nat.le_of_ble_eq_true rfl) ⟨Nat.le_of_ble_eq_true rfl, Nat.le_of_ble_eq_true rfl, Nat.le_of_ble_eq_true rfl, Nat.le_of_ble_eq_true rfl⟩ dX2_choose_5) z_gWV (fun a_2 hz1 => ?_)
  refine z_iload_n (i := 2) (x := a1) dX2_choose_8 rfl rfl ?_
  refine z_istore_n (i := 3) (x := a1) (lv' := [some (.ref 28), some (.int a0), some (.int a1), some (.int a1), none, none]) dX2_choose_9 rfl (by decide) rfl rfl ?_
  refine z_iconst (v := 0) dX2_choose_10 rfl ?_
  refine z_istore (i := 4) (x := 0) (lv' := [some (.ref 28), some (.int a0), some (.int a1), some (.int a1), some (.int 0), none]) dX2_choose_11 (by decide) rfl rfl ?_
  refine z_weak (lv' := [some (.ref 28), some (.int a0), none, some (.int a1), some (.int 0), none]) ⟨Or.inr rfl, ⟨Or.inr rfl, ⟨Or.inl rfl, ⟨Or.inr rfl, ⟨Or.inr rfl, ⟨Or.inl rfl, trivial⟩⟩⟩⟩⟩⟩ ?_
  refine z_loops (lvOf := fun s : Int32 × Int32 × z_Dat => [some (.ref 28), some (.int a0), none, some (.int s.1), some (.int s.2.1), none]) (dOf := fun s : Int32 × Int32 × z_Dat => s.2.2) (fun kc6 hkc6 s => ?_) N (a1, 0, a_2)
  obtain ⟨v3, v4, D5⟩ := s
  show z_F _ _ _ _ _ 13 [some (.ref 28), some (.int a0), none, some (.int v3), some (.int v4), none] [] S D5 _ (F_X2_choose_L13 N a0 kc6 v3 v4 D5)
  unfold F_X2_choose_L13
  refine z_iload (i := 4) (x := v4) dX2_choose_13 rfl ?_
  refine z_iload_n (i := 1) (x := a0) dX2_choose_15 rfl rfl ?_
  refine z_icmp_ge 90 dX2_choose_16 (by decide) (fun c7 => ?_) (fun c7 => ?_)
  · exact z_vreturn dX2_choose_90 z_rWV trivial (by decide) (by decide)
  · refine z_iload_n (i := 3) (x := v3) dX2_choose_19 rfl rfl ?_
    refine z_iload (i := 4) (x := v4) dX2_choose_20 rfl ?_
    refine z_cP (As := [.int v3, .int v4]) (rest := []) (em_X2_isIn hl v3 v4 D5) (fun o7 h => z_runS 70 2 h rfl kk_X2_70 kq_X2_isIn rfl (Nat.le_of_ble_eq_true rfl) ⟨Nat.le_of_ble_eq_true rfl, Nat.le_of_ble_eq_true rfl, Nat.le_of_ble_eq_true rfl, Nat.le_of_ble_eq_true rfl⟩ dX2_choose_22) z_gWV (fun hz8 => ?_)
    refine z_if_eq 84 dX2_choose_25 (by decide) (fun c9 => ?_) (fun c9 => ?_)
    · refine z_iinc (i := 4) (x := v4) (y := 1) dX2_choose_84 rfl (by decide) (by decide) rfl (fun v10 => ?_)
      refine z_goto 13 dX2_choose_87 (by decide) ?_
      exact hkc6 (v3, v10, D5)
    · refine z_aload_n (i := 0) (x := 28) dX2_choose_28 rfl rfl ?_
      refine z_iload_n (i := 1) (x := a0) dX2_choose_29 rfl rfl ?_
      refine z_iload_n (i := 3) (x := v3) dX2_choose_30 rfl rfl ?_
      refine z_iload (i := 4) (x := v4) dX2_choose_31 rfl ?_
      refine z_cR (As := [.ref 28, .int a0, .int v3, .int v4]) (rest := []) (em_X2_firstPartner hl hW N a0 v3 v4 D5) (fun o7 h => z_runV 86 3 h rfl kk_X2_86 hs28 kl_2.1 kq_X2_firstPartner rfl (Nat.le_of_ble_eq_true rfl) ⟨Nat.le_of_ble_eq_true rfl, Nat.le_of_ble_eq_true rfl, Nat.le_of_ble_eq_true rfl, Nat.le_of_ble_eq_true rfl⟩ dX2_choose_33) z_gWV (fun a_12 hz11 => ?_)
      refine z_istore (i := 5) (x := a_12) (lv' := [some (.ref 28), some (.int a0), none, some (.int v3), some (.int v4), some (.int a_12)]) dX2_choose_36 (by decide) rfl rfl ?_
      refine z_iload_n (i := 3) (x := v3) dX2_choose_38 rfl rfl ?_
      refine z_iconst (v := 1) dX2_choose_39 rfl ?_
      refine z_iload (i := 4) (x := v4) dX2_choose_40 rfl ?_
      refine z_ishl dX2_choose_42 ?_
      refine z_iconst (v := (-1)) dX2_choose_43 rfl ?_
      refine z_ixor dX2_choose_44 ?_
      refine z_iand dX2_choose_45 ?_
      refine z_topi (fun v13 => ?_)
      refine z_istore_n (i := 3) (x := v13) (lv' := [some (.ref 28), some (.int a0), none, some (.int v13), some (.int v4), some (.int a_12)]) dX2_choose_46 rfl (by decide) rfl rfl ?_
      refine z_iload (i := 5) (x := a_12) dX2_choose_47 rfl ?_
      refine z_iconst (v := (-1)) dX2_choose_49 rfl ?_
      refine z_icmp_eq 84 dX2_choose_50 (by decide) (fun c14 => ?_) (fun c14 => ?_)
      · refine z_iinc (i := 4) (x := v4) (y := 1) dX2_choose_84 rfl (by decide) (by decide) rfl (fun v15 => ?_)
        refine z_goto 13 dX2_choose_87 (by decide) ?_
        refine z_weak (lv' := [some (.ref 28), some (.int a0), none, some (.int v13), some (.int v15), none]) ⟨Or.inr rfl, ⟨Or.inr rfl, ⟨Or.inl rfl, ⟨Or.inr rfl, ⟨Or.inr rfl, ⟨Or.inl rfl, trivial⟩⟩⟩⟩⟩⟩ ?_
        exact hkc6 (v13, v15, D5)
      · refine z_iload_n (i := 3) (x := v13) dX2_choose_53 rfl rfl ?_
        refine z_iconst (v := 1) dX2_choose_54 rfl ?_
        refine z_iload (i := 5) (x := a_12) dX2_choose_55 rfl ?_
        refine z_ishl dX2_choose_57 ?_
        refine z_iconst (v := (-1)) dX2_choose_58 rfl ?_
        refine z_ixor dX2_choose_59 ?_
        refine z_iand dX2_choose_60 ?_
        refine z_topi (fun v16 => ?_)
        refine z_istore_n (i := 3) (x := v16) (lv' := [some (.ref 28), some (.int a0), none, some (.int v16), some (.int v4), some (.int a_12)]) dX2_choose_61 rfl (by decide) rfl rfl ?_
        refine z_aload_n (i := 0) (x := 28) dX2_choose_62 rfl rfl ?_
        refine z_getR (j := 2) dX2_choose_63 kl_2 hs28 (by decide) rfl rfl kf_X2_18 ?_
        refine z_iload (i := 4) (x := v4) dX2_choose_66 rfl ?_
        refine z_iload (i := 5) (x := a_12) dX2_choose_68 rfl ?_
        refine z_cTV (As := [.ref 31, .int v4, .int a_12]) (rest := []) (em_X10_put (n0 := 8) hl hs31 (by decide) v4 a_12 D5) (fun o7 h => z_runSN 35 3 h rfl kk_X2_35 kn_X2_35 kq_X10_put rfl (Nat.le_of_ble_eq_true rfl) ⟨Nat.le_of_ble_eq_true rfl, Nat.le_of_ble_eq_true rfl, Nat.le_of_ble_eq_true rfl, Nat.le_of_ble_eq_true rfl⟩ dX2_choose_70) z_gWV (fun a_18 hz17 => ?_)
        refine z_aload_n (i := 0) (x := 28) dX2_choose_73 rfl rfl ?_
        refine z_getR (j := 2) dX2_choose_74 kl_2 hs28 (by decide) rfl rfl kf_X2_18 ?_
        refine z_iload (i := 5) (x := a_12) dX2_choose_77 rfl ?_
        refine z_iload (i := 4) (x := v4) dX2_choose_79 rfl ?_
        refine z_cTV (As := [.ref 31, .int a_12, .int v4]) (rest := []) (em_X10_put (n0 := 8) hl hs31 (by decide) a_12 v4 a_18) (fun o7 h => z_runSN 35 3 h rfl kk_X2_35 kn_X2_35 kq_X10_put rfl (Nat.le_of_ble_eq_true rfl) ⟨Nat.le_of_ble_eq_true rfl, Nat.le_of_ble_eq_true rfl, Nat.le_of_ble_eq_true rfl, Nat.le_of_ble_eq_true rfl⟩ dX2_choose_81) z_gWV (fun a_20 hz19 => ?_)
        refine z_iinc (i := 4) (x := v4) (y := 1) dX2_choose_84 rfl (by decide) (by decide) rfl (fun v21 => ?_)
        refine z_goto 13 dX2_choose_87 (by decide) ?_
        refine z_weak (lv' := [some (.ref 28), some (.int a0), none, some (.int v16), some (.int v21), none]) ⟨Or.inr rfl, ⟨Or.inr rfl, ⟨Or.inl rfl, ⟨Or.inr rfl, ⟨Or.inr rfl, ⟨Or.inl rfl, trivial⟩⟩⟩⟩⟩⟩ ?_
        exact hkc6 (v16, v21, a_20)

def F_X2_partnerOf (a0 : Int32) (D : z_Dat) : Int32 :=
  F_X10_at 31 8 a0 D
set_option maxRecDepth 100000 in
set_option maxHeartbeats 4000000 in
theorem em_X2_partnerOf {l : Launch} {S : List z_Shp} {oW : Nat} (hl : l.stackTraces = false) (hW : z_W S oW) (a0 : Int32) (D : z_Dat) : ∀ out, z_kt (z_kR S D) (F_X2_partnerOf a0 D) out → z_EM l M_X2_partnerOf (30, 580, 0, 0) [.ref 28, .int a0] S D out := by
  have hs28 : S[28]? = some (4, 5, [some (some 29), some (some 30), some (some 31), none, none]) := hW.1 28 _ rfl
  have hs31 : S[31]? = some (0, 8, []) := hW.1 31 _ rfl
  refine z_meth hl rfl kp_X2 (Nat.le_of_ble_eq_true rfl) (lv := [some (.ref 28), some (.int a0)]) rfl ?_
  unfold F_X2_partnerOf
  refine z_aload_n (i := 0) (x := 28) dX2_partnerOf_0 rfl rfl ?_
  refine z_getR (j := 2) dX2_partnerOf_1 kl_2 hs28 (by decide) rfl rfl kf_X2_18 ?_
  refine z_iload_n (i := 1) (x := a0) dX2_partnerOf_4 rfl rfl ?_
  refine z_cP (As := [.ref 31, .int a0]) (rest := []) (em_X10_at (n0 := 8) hl hs31 (by decide) a0 D) (fun o7 h => z_runSN 47 2 h rfl kk_X2_47 kn_X2_47 kq_X10_at rfl (Nat.le_of_ble_eq_true rfl) ⟨Nat.le_of_ble_eq_true rfl, Nat.le_of_ble_eq_true rfl, Nat.le_of_ble_eq_true rfl, Nat.le_of_ble_eq_true rfl⟩ dX2_partnerOf_5) z_gP (fun hz1 => ?_)
  exact z_ireturn dX2_partnerOf_8 z_rP rfl (by decide) (by decide)

def F_X2_sumUp_L12 (t : Nat) (a0 : Int32) (kc5 : ((Int32 × z_Dat) → Option z_Dat)) (v3 : Int32) (D4 : z_Dat) : Option z_Dat :=
  if a0 ≤ v3 then (some D4)
  else (z_let (F_X2_partnerOf v3 D4) (fun v8 => if v8 ≤ v3 then (z_let (v3 + 1) (fun v10 => kc5 (v10, D4)))
  else (z_let (z_up D4 28 3 ((D4 28 3) + 1)) (fun D11 => z_let (z_up D11 28 4 ((D11 28 4) + (F_X10_apart (F_X9_has t v3 0 D11) (F_X9_has t v8 0 D11)))) (fun D15 => z_let (v3 + 1) (fun v16 => kc5 (v16, D15)))))))
def F_X2_sumUp (N : Nat) (t : Nat) (a0 : Int32) (D : z_Dat) : Option z_Dat :=
  z_let (z_up D 28 3 0) (fun D1 => z_let (z_up D1 28 4 0) (fun D2 => z_loop (fun kc5 s => F_X2_sumUp_L12 t a0 kc5 s.1 s.2) N (0, D2)))
set_option maxRecDepth 100000 in
set_option maxHeartbeats 4000000 in
theorem em_X2_sumUp {l : Launch} {S : List z_Shp} {oW : Nat} {t : Nat} (hl : l.stackTraces = false) (hW : z_W S oW) (hT : z_isTown S t) (N : Nat) (a0 : Int32) (D : z_Dat) : ∀ out, z_ko (z_kV S) (F_X2_sumUp N t a0 D) out → z_EM l M_X2_sumUp (40, 640, 0, 0) [.ref 28, .int a0, .ref t] S D out := by
  have hs28 : S[28]? = some (4, 5, [some (some 29), some (some 30), some (some 31), none, none]) := hW.1 28 _ rfl
  refine z_meth hl rfl kp_X2 (Nat.le_of_ble_eq_true rfl) (lv := [some (.ref 28), some (.int a0), some (.ref t), none, none]) rfl ?_
  unfold F_X2_sumUp
  refine z_aload_n (i := 0) (x := 28) dX2_sumUp_0 rfl rfl ?_
  refine z_iconst (v := 0) dX2_sumUp_1 rfl ?_
  refine z_putI (j := 3) dX2_sumUp_2 kl_2 tyX2_ok nmX2 hs28 (by decide) rfl rfl rfl rfl rfl rfl kf_X2_90 (fun D1 => ?_)
  refine z_aload_n (i := 0) (x := 28) dX2_sumUp_5 rfl rfl ?_
  refine z_iconst (v := 0) dX2_sumUp_6 rfl ?_
  refine z_putI (j := 4) dX2_sumUp_7 kl_2 tyX2_ok nmX2 hs28 (by decide) rfl rfl rfl rfl rfl rfl kf_X2_93 (fun D2 => ?_)
  refine z_iconst (v := 0) dX2_sumUp_10 rfl ?_
  refine z_istore_n (i := 3) (x := 0) (lv' := [some (.ref 28), some (.int a0), some (.ref t), some (.int 0), none]) dX2_sumUp_11 rfl (by decide) rfl rfl ?_
  refine z_loops (lvOf := fun s : Int32 × z_Dat => [some (.ref 28), some (.int a0), some (.ref t), some (.int s.1), none]) (dOf := fun s : Int32 × z_Dat => s.2) (fun kc5 hkc5 s => ?_) N (0, D2)
  obtain ⟨v3, D4⟩ := s
  show z_F _ _ _ _ _ 12 [some (.ref 28), some (.int a0), some (.ref t), some (.int v3), none] [] S D4 _ (F_X2_sumUp_L12 t a0 kc5 v3 D4)
  unfold F_X2_sumUp_L12
  refine z_iload_n (i := 3) (x := v3) dX2_sumUp_12 rfl rfl ?_
  refine z_iload_n (i := 1) (x := a0) dX2_sumUp_13 rfl rfl ?_
  refine z_icmp_ge 71 dX2_sumUp_14 (by decide) (fun c6 => ?_) (fun c6 => ?_)
  · exact z_vreturn dX2_sumUp_71 z_rWV trivial (by decide) (by decide)
  · refine z_aload_n (i := 0) (x := 28) dX2_sumUp_17 rfl rfl ?_
    refine z_iload_n (i := 3) (x := v3) dX2_sumUp_18 rfl rfl ?_
    refine z_cP (As := [.ref 28, .int v3]) (rest := []) (em_X2_partnerOf hl hW v3 D4) (fun o7 h => z_runV 96 1 h rfl kk_X2_96 hs28 kl_2.1 kq_X2_partnerOf rfl (Nat.le_of_ble_eq_true rfl) ⟨Nat.le_of_ble_eq_true rfl, Nat.le_of_ble_eq_true rfl, Nat.le_of_ble_eq_true rfl, Nat.le_of_ble_eq_true rfl⟩ dX2_sumUp_19) z_gWV (fun hz7 => ?_)
    refine z_topi (fun v8 => ?_)
    refine z_istore (i := 4) (x := v8) (lv' := [some (.ref 28), some (.int a0), some (.ref t), some (.int v3), some (.int v8)]) dX2_sumUp_22 (by decide) rfl rfl ?_
    refine z_iload (i := 4) (x := v8) dX2_sumUp_24 rfl ?_
    refine z_iload_n (i := 3) (x := v3) dX2_sumUp_26 rfl rfl ?_
    refine z_icmp_le 65 dX2_sumUp_27 (by decide) (fun c9 => ?_) (fun c9 => ?_)
    · refine z_iinc (i := 3) (x := v3) (y := 1) dX2_sumUp_65 rfl (by decide) (by decide) rfl (fun v10 => ?_)
      refine z_goto 12 dX2_sumUp_68 (by decide) ?_
      refine z_weak (lv' := [some (.ref 28), some (.int a0), some (.ref t), some (.int v10), none]) ⟨Or.inr rfl, ⟨Or.inr rfl, ⟨Or.inr rfl, ⟨Or.inr rfl, ⟨Or.inl rfl, trivial⟩⟩⟩⟩⟩ ?_
      exact hkc5 (v10, D4)
    · refine z_aload_n (i := 0) (x := 28) dX2_sumUp_30 rfl rfl ?_
      refine z_dup dX2_sumUp_31 rfl ?_
      refine z_getI (j := 3) dX2_sumUp_32 kl_2 hs28 (by decide) rfl rfl kf_X2_90 ?_
      refine z_iconst (v := 1) dX2_sumUp_35 rfl ?_
      refine z_iadd dX2_sumUp_36 ?_
      refine z_putI (j := 3) dX2_sumUp_37 kl_2 tyX2_ok nmX2 hs28 (by decide) rfl rfl rfl rfl rfl rfl kf_X2_90 (fun D11 => ?_)
      refine z_aload_n (i := 0) (x := 28) dX2_sumUp_40 rfl rfl ?_
      refine z_dup dX2_sumUp_41 rfl ?_
      refine z_getI (j := 4) dX2_sumUp_42 kl_2 hs28 (by decide) rfl rfl kf_X2_93 ?_
      refine z_aload_n (i := 2) (x := t) dX2_sumUp_45 rfl rfl ?_
      refine z_iload_n (i := 3) (x := v3) dX2_sumUp_46 rfl rfl ?_
      refine z_iconst (v := 0) dX2_sumUp_47 rfl ?_
      refine z_cP (As := [.ref t, .int v3, .int 0]) (rest := [.int (D11 28 4), .ref 28]) (em_X9_has hl hT v3 0 D11) (fun o7 h => z_runV 55 2 h rfl kk_X2_55 hT.1 kl_9.1 kq_X9_has rfl (Nat.le_of_ble_eq_true rfl) ⟨Nat.le_of_ble_eq_true rfl, Nat.le_of_ble_eq_true rfl, Nat.le_of_ble_eq_true rfl, Nat.le_of_ble_eq_true rfl⟩ dX2_sumUp_48) z_gWV (fun hz12 => ?_)
      refine z_aload_n (i := 2) (x := t) dX2_sumUp_51 rfl rfl ?_
      refine z_iload (i := 4) (x := v8) dX2_sumUp_52 rfl ?_
      refine z_iconst (v := 0) dX2_sumUp_54 rfl ?_
      refine z_cP (As := [.ref t, .int v8, .int 0]) (rest := [.int (F_X9_has t v3 0 D11), .int (D11 28 4), .ref 28]) (em_X9_has hl hT v8 0 D11) (fun o7 h => z_runV 55 2 h rfl kk_X2_55 hT.1 kl_9.1 kq_X9_has rfl (Nat.le_of_ble_eq_true rfl) ⟨Nat.le_of_ble_eq_true rfl, Nat.le_of_ble_eq_true rfl, Nat.le_of_ble_eq_true rfl, Nat.le_of_ble_eq_true rfl⟩ dX2_sumUp_55) z_gWV (fun hz13 => ?_)
      refine z_cP (As := [.int (F_X9_has t v3 0 D11), .int (F_X9_has t v8 0 D11)]) (rest := [.int (D11 28 4), .ref 28]) (em_X10_apart hl (F_X9_has t v3 0 D11) (F_X9_has t v8 0 D11) D11) (fun o7 h => z_runSN 60 2 h rfl kk_X2_60 kn_X2_60 kq_X10_apart rfl (Nat.le_of_ble_eq_true rfl) ⟨Nat.le_of_ble_eq_true rfl, Nat.le_of_ble_eq_true rfl, Nat.le_of_ble_eq_true rfl, Nat.le_of_ble_eq_true rfl⟩ dX2_sumUp_58) z_gWV (fun hz14 => ?_)
      refine z_iadd dX2_sumUp_61 ?_
      refine z_putI (j := 4) dX2_sumUp_62 kl_2 tyX2_ok nmX2 hs28 (by decide) rfl rfl rfl rfl rfl rfl kf_X2_93 (fun D15 => ?_)
      refine z_iinc (i := 3) (x := v3) (y := 1) dX2_sumUp_65 rfl (by decide) (by decide) rfl (fun v16 => ?_)
      refine z_goto 12 dX2_sumUp_68 (by decide) ?_
      refine z_weak (lv' := [some (.ref 28), some (.int a0), some (.ref t), some (.int v16), none]) ⟨Or.inr rfl, ⟨Or.inr rfl, ⟨Or.inr rfl, ⟨Or.inr rfl, ⟨Or.inl rfl, trivial⟩⟩⟩⟩⟩ ?_
      exact hkc5 (v16, D15)

def F_X2_arrange_L18 (N : Nat) (o : Nat) (t : Nat) (v3 : Int32) (kc6 : ((Int32 × z_Dat) → Option z_Dat)) (v4 : Int32) (D5 : z_Dat) : Option z_Dat :=
  if v3 < v4 then (z_bd (F_X2_choose N (D5 o 6) v3 D5) (fun a_9 => z_bd (F_X2_sumUp N t (a_9 o 6) a_9) (fun a_11 => some a_11)))
  else (z_bd (F_X2_bestOf N (D5 o 6) v4 D5) (fun a_13 => z_let (F_X10_put 29 256 v4 a_13 D5) (fun a_15 => z_let (v4 + 1) (fun v16 => kc6 (v16, a_15)))))
def F_X2_arrange (N : Nat) (o : Nat) (t : Nat) (D : z_Dat) : Option z_Dat :=
  z_bd (F_X2_weighAll N o t D) (fun a_2 => z_let ((z_shl 1 (a_2 o 6)) - 1) (fun v3 => z_loop (fun kc6 s => F_X2_arrange_L18 N o t v3 kc6 s.1 s.2) N (1, a_2)))
set_option maxRecDepth 100000 in
set_option maxHeartbeats 4000000 in
theorem em_X2_arrange {l : Launch} {S : List z_Shp} {oW : Nat} {o : Nat} {t : Nat} (hl : l.stackTraces = false) (hW : z_W S oW) (hC : z_isCity S o) (hT : z_isTown S t) (N : Nat) (D : z_Dat) : ∀ out, z_ko (z_kV S) (F_X2_arrange N o t D) out → z_EM l M_X2_arrange (60, 760, 0, 0) [.ref 28, .ref o, .ref t] S D out := by
  have hs28 : S[28]? = some (4, 5, [some (some 29), some (some 30), some (some 31), none, none]) := hW.1 28 _ rfl
  have hs29 : S[29]? = some (0, 256, []) := hW.1 29 _ rfl
  refine z_meth hl rfl kp_X2 (Nat.le_of_ble_eq_true rfl) (lv := [some (.ref 28), some (.ref o), some (.ref t), none, none]) rfl ?_
  unfold F_X2_arrange
  refine z_aload_n (i := 0) (x := 28) dX2_arrange_0 rfl rfl ?_
  refine z_aload_n (i := 1) (x := o) dX2_arrange_1 rfl rfl ?_
  refine z_aload_n (i := 2) (x := t) dX2_arrange_2 rfl rfl ?_
  refine z_cWV (As := [.ref 28, .ref o, .ref t]) (rest := []) (em_X2_weighAll hl hW hC hT N D) (fun o7 h => z_runV 21 2 h rfl kk_X2_21 hs28 kl_2.1 kq_X2_weighAll rfl (Nat.le_of_ble_eq_true rfl) ⟨Nat.le_of_ble_eq_true rfl, Nat.le_of_ble_eq_true rfl, Nat.le_of_ble_eq_true rfl, Nat.le_of_ble_eq_true rfl⟩ dX2_arrange_3) z_gWV (fun a_2 hz1 => ?_)
  refine z_iconst (v := 1) dX2_arrange_6 rfl ?_
  refine z_aload_n (i := 1) (x := o) dX2_arrange_7 rfl rfl ?_
  refine z_getIN (j := 6) dX2_arrange_8 kl_1 hC.1 (by decide) rfl rfl kf_X2_25 ?_
  refine z_ishl dX2_arrange_11 ?_
  refine z_iconst (v := 1) dX2_arrange_12 rfl ?_
  refine z_isub dX2_arrange_13 ?_
  refine z_topi (fun v3 => ?_)
  refine z_istore_n (i := 3) (x := v3) (lv' := [some (.ref 28), some (.ref o), some (.ref t), some (.int v3), none]) dX2_arrange_14 rfl (by decide) rfl rfl ?_
  refine z_iconst (v := 1) dX2_arrange_15 rfl ?_
  refine z_istore (i := 4) (x := 1) (lv' := [some (.ref 28), some (.ref o), some (.ref t), some (.int v3), some (.int 1)]) dX2_arrange_16 (by decide) rfl rfl ?_
  refine z_loops (lvOf := fun s : Int32 × z_Dat => [some (.ref 28), some (.ref o), some (.ref t), some (.int v3), some (.int s.1)]) (dOf := fun s : Int32 × z_Dat => s.2) (fun kc6 hkc6 s => ?_) N (1, a_2)
  obtain ⟨v4, D5⟩ := s
  show z_F _ _ _ _ _ 18 [some (.ref 28), some (.ref o), some (.ref t), some (.int v3), some (.int v4)] [] S D5 _ (F_X2_arrange_L18 N o t v3 kc6 v4 D5)
  unfold F_X2_arrange_L18
  refine z_iload (i := 4) (x := v4) dX2_arrange_18 rfl ?_
  refine z_iload_n (i := 3) (x := v3) dX2_arrange_20 rfl rfl ?_
  refine z_icmp_gt 49 dX2_arrange_21 (by decide) (fun c7 => ?_) (fun c7 => ?_)
  · refine z_aload_n (i := 0) (x := 28) dX2_arrange_49 rfl rfl ?_
    refine z_aload_n (i := 1) (x := o) dX2_arrange_50 rfl rfl ?_
    refine z_getIN (j := 6) dX2_arrange_51 kl_1 hC.1 (by decide) rfl rfl kf_X2_25 ?_
    refine z_iload_n (i := 3) (x := v3) dX2_arrange_54 rfl rfl ?_
    refine z_cWV (As := [.ref 28, .int (D5 o 6), .int v3]) (rest := []) (em_X2_choose hl hW N (D5 o 6) v3 D5) (fun o7 h => z_runV 39 2 h rfl kk_X2_39 hs28 kl_2.1 kq_X2_choose rfl (Nat.le_of_ble_eq_true rfl) ⟨Nat.le_of_ble_eq_true rfl, Nat.le_of_ble_eq_true rfl, Nat.le_of_ble_eq_true rfl, Nat.le_of_ble_eq_true rfl⟩ dX2_arrange_55) z_gWV (fun a_9 hz8 => ?_)
    refine z_aload_n (i := 0) (x := 28) dX2_arrange_58 rfl rfl ?_
    refine z_aload_n (i := 1) (x := o) dX2_arrange_59 rfl rfl ?_
    refine z_getIN (j := 6) dX2_arrange_60 kl_1 hC.1 (by decide) rfl rfl kf_X2_25 ?_
    refine z_aload_n (i := 2) (x := t) dX2_arrange_63 rfl rfl ?_
    refine z_cWV (As := [.ref 28, .int (a_9 o 6), .ref t]) (rest := []) (em_X2_sumUp hl hW hT N (a_9 o 6) a_9) (fun o7 h => z_runV 43 2 h rfl kk_X2_43 hs28 kl_2.1 kq_X2_sumUp rfl (Nat.le_of_ble_eq_true rfl) ⟨Nat.le_of_ble_eq_true rfl, Nat.le_of_ble_eq_true rfl, Nat.le_of_ble_eq_true rfl, Nat.le_of_ble_eq_true rfl⟩ dX2_arrange_64) z_gWV (fun a_11 hz10 => ?_)
    exact z_vreturn dX2_arrange_67 z_rWV trivial (by decide) (by decide)
  · refine z_aload_n (i := 0) (x := 28) dX2_arrange_24 rfl rfl ?_
    refine z_getR (j := 0) dX2_arrange_25 kl_2 hs28 (by decide) rfl rfl kf_X2_9 ?_
    refine z_iload (i := 4) (x := v4) dX2_arrange_28 rfl ?_
    refine z_aload_n (i := 0) (x := 28) dX2_arrange_30 rfl rfl ?_
    refine z_aload_n (i := 1) (x := o) dX2_arrange_31 rfl rfl ?_
    refine z_getIN (j := 6) dX2_arrange_32 kl_1 hC.1 (by decide) rfl rfl kf_X2_25 ?_
    refine z_iload (i := 4) (x := v4) dX2_arrange_35 rfl ?_
    refine z_cR (As := [.ref 28, .int (D5 o 6), .int v4]) (rest := [.int v4, .ref 29]) (em_X2_bestOf hl hW N (D5 o 6) v4 D5) (fun o7 h => z_runV 31 2 h rfl kk_X2_31 hs28 kl_2.1 kq_X2_bestOf rfl (Nat.le_of_ble_eq_true rfl) ⟨Nat.le_of_ble_eq_true rfl, Nat.le_of_ble_eq_true rfl, Nat.le_of_ble_eq_true rfl, Nat.le_of_ble_eq_true rfl⟩ dX2_arrange_37) z_gWV (fun a_13 hz12 => ?_)
    refine z_cTV (As := [.ref 29, .int v4, .int a_13]) (rest := []) (em_X10_put (n0 := 256) hl hs29 (by decide) v4 a_13 D5) (fun o7 h => z_runSN 35 3 h rfl kk_X2_35 kn_X2_35 kq_X10_put rfl (Nat.le_of_ble_eq_true rfl) ⟨Nat.le_of_ble_eq_true rfl, Nat.le_of_ble_eq_true rfl, Nat.le_of_ble_eq_true rfl, Nat.le_of_ble_eq_true rfl⟩ dX2_arrange_40) z_gWV (fun a_15 hz14 => ?_)
    refine z_iinc (i := 4) (x := v4) (y := 1) dX2_arrange_43 rfl (by decide) (by decide) rfl (fun v16 => ?_)
    refine z_goto 18 dX2_arrange_46 (by decide) ?_
    exact hkc6 (v16, a_15)

def F_X10_match_J15 (N : Nat) (o : Nat) (a0 : Int32) (D3 : z_Dat) : Option ((Int32 × z_Dat) ⊕ (String × z_Dat)) :=
  z_bt (F_X10_demand 0 D3) (fun a_5 => z_bd (F_X2_arrange N o 3 a_5) (fun a_7 => if a0 = 0 then (some (.inl (a_7 28 3, a_7)))
  else (some (.inl (a_7 28 4, a_7)))))
def F_X10_match_J14 (N : Nat) (o : Nat) (a0 : Int32) (D2 : z_Dat) : Option ((Int32 × z_Dat) ⊕ (String × z_Dat)) :=
  F_X10_match_J15 N o a0 D2
def F_X10_match_J15x (N : Nat) (o : Nat) (a0 : Int32) (D10 : z_Dat) : Option ((Int32 × z_Dat) ⊕ (String × z_Dat)) :=
  z_bt (F_X10_demand 1 D10) (fun a_12 => z_bd (F_X2_arrange N o 3 a_12) (fun a_14 => if a0 = 0 then (some (.inl (a_14 28 3, a_14)))
  else (some (.inl (a_14 28 4, a_14)))))
def F_X10_match (N : Nat) (o : Nat) (a0 : Int32) (D : z_Dat) : Option ((Int32 × z_Dat) ⊕ (String × z_Dat)) :=
  if a0 < 0 then (F_X10_match_J14 N o a0 D)
  else (if 1 < a0 then (F_X10_match_J14 N o a0 D)
  else (F_X10_match_J15x N o a0 D))
set_option maxRecDepth 100000 in
set_option maxHeartbeats 4000000 in
theorem em_X10_match {l : Launch} {S : List z_Shp} {o : Nat} (hl : l.stackTraces = false) (hW : z_W S o) (N : Nat) (a0 : Int32) (D : z_Dat) : ∀ out, z_ko (z_kTI S) (F_X10_match N o a0 D) out → z_EM l M_X10_match (70, 820, 1, 6) [.ref 0, .int a0] S D out := by
  have hC := hW.2
  have hs0 : S[0]? = some (12, 15, [some (some 1), some (some 3), some (some 5), some (some 7), some (some 12), some (some 15), some (some 21), some (some 25), some (some 28), some (some 32), some (some 33), some (some o), none, none, none]) := hW.1 0 _ rfl
  have hs3 : S[3]? = some (11, 1, [some (some 4)]) := hW.1 3 _ rfl
  have hs4 : S[4]? = some (0, 44, []) := hW.1 4 _ rfl
  have hs28 : S[28]? = some (4, 5, [some (some 29), some (some 30), some (some 31), none, none]) := hW.1 28 _ rfl
  refine z_meth hl rfl kp_X10 (Nat.le_of_ble_eq_true rfl) (lv := [some (.ref 0), some (.int a0)]) rfl ?_
  unfold F_X10_match
  have hJ_F_X10_match_J15 : ∀ (D3 : z_Dat) , z_F l M_X10_match (70, 820, 1, 6) 0 0 15 [some (.ref 0), some (.int a0)] [.int 0, .ref 0] S D3 (z_ko (z_kTI S)) (F_X10_match_J15 N o a0 D3) := by
    intro D3
    unfold F_X10_match_J15
    refine z_cXVI rfl (As := [.ref 0, .int 0]) (rest := []) (em_X10_demand hl hW 0 D3) (fun o7 h => z_runV 102 1 h rfl kk_X10_102 hs0 kl_10.1 kq_X10_demand rfl (Nat.le_of_ble_eq_true rfl) ⟨Nat.le_of_ble_eq_true rfl, Nat.le_of_ble_eq_true rfl, Nat.le_of_ble_eq_true rfl, Nat.le_of_ble_eq_true rfl⟩ dX10_match_15) (by decide) (by decide) (fun a_5 hz4 => ?_)
    refine z_aload_n (i := 0) (x := 0) dX10_match_18 rfl rfl ?_
    refine z_getR (j := 8) dX10_match_19 kl_10 hs0 (by decide) rfl rfl kf_X10_64 ?_
    refine z_aload_n (i := 0) (x := 0) dX10_match_22 rfl rfl ?_
    refine z_getR (j := 11) dX10_match_23 kl_10 hs0 (by decide) rfl rfl kf_X10_82 ?_
    refine z_aload_n (i := 0) (x := 0) dX10_match_26 rfl rfl ?_
    refine z_getR (j := 1) dX10_match_27 kl_10 hs0 (by decide) rfl rfl kf_X10_19 ?_
    refine z_cWV (As := [.ref 28, .ref o, .ref 3]) (rest := []) (em_X2_arrange hl hW hC ⟨hs3, hs4⟩ N a_5) (fun o7 h => z_runV 290 2 h rfl kk_X10_290 hs28 kl_2.1 kq_X2_arrange rfl (Nat.le_of_ble_eq_true rfl) ⟨Nat.le_of_ble_eq_true rfl, Nat.le_of_ble_eq_true rfl, Nat.le_of_ble_eq_true rfl, Nat.le_of_ble_eq_true rfl⟩ dX10_match_30) z_gXI (fun a_7 hz6 => ?_)
    refine z_iload_n (i := 1) (x := a0) dX10_match_33 rfl rfl ?_
    refine z_if_ne 47 dX10_match_34 (by decide) (fun c8 => ?_) (fun c8 => ?_)
    · refine z_aload_n (i := 0) (x := 0) dX10_match_37 rfl rfl ?_
      refine z_getR (j := 8) dX10_match_38 kl_10 hs0 (by decide) rfl rfl kf_X10_64 ?_
      refine z_getIN (j := 3) dX10_match_41 kl_2 hs28 (by decide) rfl rfl kf_X10_293 ?_
      refine z_goto 54 dX10_match_44 (by decide) ?_
      exact z_ireturn dX10_match_54 z_rXI rfl (by decide) (by decide)
    · refine z_aload_n (i := 0) (x := 0) dX10_match_47 rfl rfl ?_
      refine z_getR (j := 8) dX10_match_48 kl_10 hs0 (by decide) rfl rfl kf_X10_64 ?_
      refine z_getIN (j := 4) dX10_match_51 kl_2 hs28 (by decide) rfl rfl kf_X10_296 ?_
      exact z_ireturn dX10_match_54 z_rXI rfl (by decide) (by decide)
  have hJ_F_X10_match_J14 : ∀ (D2 : z_Dat) , z_F l M_X10_match (70, 820, 1, 6) 0 0 14 [some (.ref 0), some (.int a0)] [.ref 0] S D2 (z_ko (z_kTI S)) (F_X10_match_J14 N o a0 D2) := by
    intro D2
    unfold F_X10_match_J14
    refine z_iconst (v := 0) dX10_match_14 rfl ?_
    refine z_widen (k := 0) (n := 0) (by decide) (by decide) ?_
    exact hJ_F_X10_match_J15 D2
  have hJ_F_X10_match_J15x : ∀ (D10 : z_Dat) , z_F l M_X10_match (70, 820, 1, 6) 0 0 15 [some (.ref 0), some (.int a0)] [.int 1, .ref 0] S D10 (z_ko (z_kTI S)) (F_X10_match_J15x N o a0 D10) := by
    intro D10
    unfold F_X10_match_J15x
    refine z_cXVI rfl (As := [.ref 0, .int 1]) (rest := []) (em_X10_demand hl hW 1 D10) (fun o7 h => z_runV 102 1 h rfl kk_X10_102 hs0 kl_10.1 kq_X10_demand rfl (Nat.le_of_ble_eq_true rfl) ⟨Nat.le_of_ble_eq_true rfl, Nat.le_of_ble_eq_true rfl, Nat.le_of_ble_eq_true rfl, Nat.le_of_ble_eq_true rfl⟩ dX10_match_15) (by decide) (by decide) (fun a_12 hz11 => ?_)
    refine z_aload_n (i := 0) (x := 0) dX10_match_18 rfl rfl ?_
    refine z_getR (j := 8) dX10_match_19 kl_10 hs0 (by decide) rfl rfl kf_X10_64 ?_
    refine z_aload_n (i := 0) (x := 0) dX10_match_22 rfl rfl ?_
    refine z_getR (j := 11) dX10_match_23 kl_10 hs0 (by decide) rfl rfl kf_X10_82 ?_
    refine z_aload_n (i := 0) (x := 0) dX10_match_26 rfl rfl ?_
    refine z_getR (j := 1) dX10_match_27 kl_10 hs0 (by decide) rfl rfl kf_X10_19 ?_
    refine z_cWV (As := [.ref 28, .ref o, .ref 3]) (rest := []) (em_X2_arrange hl hW hC ⟨hs3, hs4⟩ N a_12) (fun o7 h => z_runV 290 2 h rfl kk_X10_290 hs28 kl_2.1 kq_X2_arrange rfl (Nat.le_of_ble_eq_true rfl) ⟨Nat.le_of_ble_eq_true rfl, Nat.le_of_ble_eq_true rfl, Nat.le_of_ble_eq_true rfl, Nat.le_of_ble_eq_true rfl⟩ dX10_match_30) z_gXI (fun a_14 hz13 => ?_)
    refine z_iload_n (i := 1) (x := a0) dX10_match_33 rfl rfl ?_
    refine z_if_ne 47 dX10_match_34 (by decide) (fun c15 => ?_) (fun c15 => ?_)
    · refine z_aload_n (i := 0) (x := 0) dX10_match_37 rfl rfl ?_
      refine z_getR (j := 8) dX10_match_38 kl_10 hs0 (by decide) rfl rfl kf_X10_64 ?_
      refine z_getIN (j := 3) dX10_match_41 kl_2 hs28 (by decide) rfl rfl kf_X10_293 ?_
      refine z_goto 54 dX10_match_44 (by decide) ?_
      exact z_ireturn dX10_match_54 z_rXI rfl (by decide) (by decide)
    · refine z_aload_n (i := 0) (x := 0) dX10_match_47 rfl rfl ?_
      refine z_getR (j := 8) dX10_match_48 kl_10 hs0 (by decide) rfl rfl kf_X10_64 ?_
      refine z_getIN (j := 4) dX10_match_51 kl_2 hs28 (by decide) rfl rfl kf_X10_296 ?_
      exact z_ireturn dX10_match_54 z_rXI rfl (by decide) (by decide)
  refine z_aload_n (i := 0) (x := 0) dX10_match_0 rfl rfl ?_
  refine z_iload_n (i := 1) (x := a0) dX10_match_1 rfl rfl ?_
  refine z_if_lt 14 dX10_match_2 (by decide) (fun c1 => ?_) (fun c1 => ?_)
  · refine z_widen (k := 0) (n := 0) (by decide) (by decide) ?_
    exact hJ_F_X10_match_J14 D
  · refine z_iload_n (i := 1) (x := a0) dX10_match_5 rfl rfl ?_
    refine z_iconst (v := 1) dX10_match_6 rfl ?_
    refine z_icmp_gt 14 dX10_match_7 (by decide) (fun c9 => ?_) (fun c9 => ?_)
    · refine z_widen (k := 0) (n := 0) (by decide) (by decide) ?_
      exact hJ_F_X10_match_J14 D
    · refine z_iconst (v := 1) dX10_match_10 rfl ?_
      refine z_goto 15 dX10_match_11 (by decide) ?_
      refine z_widen (k := 0) (n := 0) (by decide) (by decide) ?_
      exact hJ_F_X10_match_J15x D

def F_X10_bride (N : Nat) (o : Nat) (a0 : Int32) (D : z_Dat) : Option ((Int32 × z_Dat) ⊕ (String × z_Dat)) :=
  z_bt (F_X10_demandThere (F_X1_hasPerson o a0 D) D) (fun a_3 => z_bd (F_X2_arrange N o 3 a_3) (fun a_5 => some (.inl (F_X2_partnerOf a0 a_5, a_5))))
set_option maxRecDepth 100000 in
set_option maxHeartbeats 4000000 in
theorem em_X10_bride {l : Launch} {S : List z_Shp} {o : Nat} (hl : l.stackTraces = false) (hW : z_W S o) (N : Nat) (a0 : Int32) (D : z_Dat) : ∀ out, z_ko (z_kTI S) (F_X10_bride N o a0 D) out → z_EM l M_X10_bride (70, 820, 1, 6) [.ref 0, .int a0] S D out := by
  have hC := hW.2
  have hs0 : S[0]? = some (12, 15, [some (some 1), some (some 3), some (some 5), some (some 7), some (some 12), some (some 15), some (some 21), some (some 25), some (some 28), some (some 32), some (some 33), some (some o), none, none, none]) := hW.1 0 _ rfl
  have hs3 : S[3]? = some (11, 1, [some (some 4)]) := hW.1 3 _ rfl
  have hs4 : S[4]? = some (0, 44, []) := hW.1 4 _ rfl
  have hs28 : S[28]? = some (4, 5, [some (some 29), some (some 30), some (some 31), none, none]) := hW.1 28 _ rfl
  refine z_meth hl rfl kp_X10 (Nat.le_of_ble_eq_true rfl) (lv := [some (.ref 0), some (.int a0)]) rfl ?_
  unfold F_X10_bride
  refine z_aload_n (i := 0) (x := 0) dX10_bride_0 rfl rfl ?_
  refine z_aload_n (i := 0) (x := 0) dX10_bride_1 rfl rfl ?_
  refine z_getR (j := 11) dX10_bride_2 kl_10 hs0 (by decide) rfl rfl kf_X10_82 ?_
  refine z_iload_n (i := 1) (x := a0) dX10_bride_5 rfl rfl ?_
  refine z_cP (As := [.ref o, .int a0]) (rest := [.ref 0]) (em_X1_hasPerson hl hC a0 D) (fun o7 h => z_runV 210 1 h rfl kk_X10_210 hC.1 kl_1.1 kq_X1_hasPerson rfl (Nat.le_of_ble_eq_true rfl) ⟨Nat.le_of_ble_eq_true rfl, Nat.le_of_ble_eq_true rfl, Nat.le_of_ble_eq_true rfl, Nat.le_of_ble_eq_true rfl⟩ dX10_bride_6) z_gXI (fun hz1 => ?_)
  refine z_cXVI rfl (As := [.ref 0, .int (F_X1_hasPerson o a0 D)]) (rest := []) (em_X10_demandThere hl hW (F_X1_hasPerson o a0 D) D) (fun o7 h => z_runV 195 1 h rfl kk_X10_195 hs0 kl_10.1 kq_X10_demandThere rfl (Nat.le_of_ble_eq_true rfl) ⟨Nat.le_of_ble_eq_true rfl, Nat.le_of_ble_eq_true rfl, Nat.le_of_ble_eq_true rfl, Nat.le_of_ble_eq_true rfl⟩ dX10_bride_9) (by decide) (by decide) (fun a_3 hz2 => ?_)
  refine z_aload_n (i := 0) (x := 0) dX10_bride_12 rfl rfl ?_
  refine z_getR (j := 8) dX10_bride_13 kl_10 hs0 (by decide) rfl rfl kf_X10_64 ?_
  refine z_aload_n (i := 0) (x := 0) dX10_bride_16 rfl rfl ?_
  refine z_getR (j := 11) dX10_bride_17 kl_10 hs0 (by decide) rfl rfl kf_X10_82 ?_
  refine z_aload_n (i := 0) (x := 0) dX10_bride_20 rfl rfl ?_
  refine z_getR (j := 1) dX10_bride_21 kl_10 hs0 (by decide) rfl rfl kf_X10_19 ?_
  refine z_cWV (As := [.ref 28, .ref o, .ref 3]) (rest := []) (em_X2_arrange hl hW hC ⟨hs3, hs4⟩ N a_3) (fun o7 h => z_runV 290 2 h rfl kk_X10_290 hs28 kl_2.1 kq_X2_arrange rfl (Nat.le_of_ble_eq_true rfl) ⟨Nat.le_of_ble_eq_true rfl, Nat.le_of_ble_eq_true rfl, Nat.le_of_ble_eq_true rfl, Nat.le_of_ble_eq_true rfl⟩ dX10_bride_24) z_gXI (fun a_5 hz4 => ?_)
  refine z_aload_n (i := 0) (x := 0) dX10_bride_27 rfl rfl ?_
  refine z_getR (j := 8) dX10_bride_28 kl_10 hs0 (by decide) rfl rfl kf_X10_64 ?_
  refine z_iload_n (i := 1) (x := a0) dX10_bride_31 rfl rfl ?_
  refine z_cP (As := [.ref 28, .int a0]) (rest := []) (em_X2_partnerOf hl hW a0 a_5) (fun o7 h => z_runV 299 1 h rfl kk_X10_299 hs28 kl_2.1 kq_X2_partnerOf rfl (Nat.le_of_ble_eq_true rfl) ⟨Nat.le_of_ble_eq_true rfl, Nat.le_of_ble_eq_true rfl, Nat.le_of_ble_eq_true rfl, Nat.le_of_ble_eq_true rfl⟩ dX10_bride_32) z_gXI (fun hz6 => ?_)
  exact z_ireturn dX10_bride_35 z_rXI rfl (by decide) (by decide)

def F_X10_suffices_J2 : Option Int32 :=
  some 1
def F_X10_suffices_L13 (o : Nat) (a0 : Int32) (a1 : Int32) (D : z_Dat) (kc15 : ((Int32 × Int32) → Option Int32)) (v13 : Int32) (v14 : Int32) : Option Int32 :=
  if (D o 5) ≤ v14 then (if v13 ≤ (z_min 200 ((F_X9_stored 3 2 D) + (a1 * (D o 7)))) then (F_X10_suffices_J2)
  else (some 0))
  else (if ((z_shr a0 v14) &&& 1) = 1 then (z_let (v13 + (F_X10_partOf (F_X1_vatOf o v14 D) 2)) (fun v22 => z_let (v14 + 1) (fun v23 => kc15 (v22, v23))))
  else (z_let (v14 + 1) (fun v24 => kc15 (v13, v24))))
def F_X10_suffices_J2x (N : Nat) (o : Nat) (a0 : Int32) (a1 : Int32) (D : z_Dat) : Option Int32 :=
  z_loop (fun kc15 s => F_X10_suffices_L13 o a0 a1 D kc15 s.1 s.2) N (0, 0)
def F_X10_suffices_L13x (N : Nat) (o : Nat) (a0 : Int32) (a1 : Int32) (D : z_Dat) (kc9 : ((Int32 × Int32) → Option Int32)) (v7 : Int32) (v8 : Int32) : Option Int32 :=
  if (D o 5) ≤ v8 then (if v7 ≤ (z_min 200 ((F_X9_stored 3 1 D) + (a1 * (D o 7)))) then (F_X10_suffices_J2x N o a0 a1 D)
  else (some 0))
  else (if ((z_shr a0 v8) &&& 1) = 1 then (z_let (v7 + (F_X10_partOf (F_X1_vatOf o v8 D) 1)) (fun v29 => z_let (v8 + 1) (fun v30 => kc9 (v29, v30))))
  else (z_let (v8 + 1) (fun v31 => kc9 (v7, v31))))
def F_X10_suffices_J2xx (N : Nat) (o : Nat) (a0 : Int32) (a1 : Int32) (D : z_Dat) : Option Int32 :=
  z_loop (fun kc9 s => F_X10_suffices_L13x N o a0 a1 D kc9 s.1 s.2) N (0, 0)
def F_X10_suffices_L13xx (N : Nat) (o : Nat) (a0 : Int32) (a1 : Int32) (D : z_Dat) (kc3 : ((Int32 × Int32) → Option Int32)) (v1 : Int32) (v2 : Int32) : Option Int32 :=
  if (D o 5) ≤ v2 then (if v1 ≤ (z_min 200 ((F_X9_stored 3 0 D) + (a1 * (D o 7)))) then (F_X10_suffices_J2xx N o a0 a1 D)
  else (some 0))
  else (if ((z_shr a0 v2) &&& 1) = 1 then (z_let (v1 + (F_X10_partOf (F_X1_vatOf o v2 D) 0)) (fun v36 => z_let (v2 + 1) (fun v37 => kc3 (v36, v37))))
  else (z_let (v2 + 1) (fun v38 => kc3 (v1, v38))))
def F_X10_suffices_J2xxx (N : Nat) (o : Nat) (a0 : Int32) (a1 : Int32) (D : z_Dat) : Option Int32 :=
  z_loop (fun kc3 s => F_X10_suffices_L13xx N o a0 a1 D kc3 s.1 s.2) N (0, 0)
def F_X10_suffices (N : Nat) (o : Nat) (a0 : Int32) (a1 : Int32) (D : z_Dat) : Option Int32 :=
  F_X10_suffices_J2xxx N o a0 a1 D
set_option maxRecDepth 100000 in
set_option maxHeartbeats 4000000 in
theorem em_X10_suffices {l : Launch} {S : List z_Shp} {o : Nat} (hl : l.stackTraces = false) (hW : z_W S o) (N : Nat) (a0 : Int32) (a1 : Int32) (D : z_Dat) : ∀ out, z_ko (z_kR S D) (F_X10_suffices N o a0 a1 D) out → z_EM l M_X10_suffices (40, 640, 0, 0) [.ref 0, .int a0, .int a1] S D out := by
  have hC := hW.2
  have hs0 : S[0]? = some (12, 15, [some (some 1), some (some 3), some (some 5), some (some 7), some (some 12), some (some 15), some (some 21), some (some 25), some (some 28), some (some 32), some (some 33), some (some o), none, none, none]) := hW.1 0 _ rfl
  have hs3 : S[3]? = some (11, 1, [some (some 4)]) := hW.1 3 _ rfl
  have hs4 : S[4]? = some (0, 44, []) := hW.1 4 _ rfl
  refine z_meth hl rfl kp_X10 (Nat.le_of_ble_eq_true rfl) (lv := [some (.ref 0), some (.int a0), some (.int a1), none, none, none]) rfl ?_
  unfold F_X10_suffices
  have hJ_F_X10_suffices_J2 : z_F l M_X10_suffices (40, 640, 0, 0) 0 0 2 [some (.ref 0), some (.int a0), some (.int a1), some (.int 3), none, none] [] S D (z_ko (z_kR S D)) (F_X10_suffices_J2) := by
    unfold F_X10_suffices_J2
    refine z_iload_n (i := 3) (x := 3) dX10_suffices_2 rfl rfl ?_
    refine z_iconst (v := 3) dX10_suffices_3 rfl ?_
    refine z_icmp_geJ 96 dX10_suffices_4 (by decide) (by decide) ?_
    refine z_iconst (v := 1) dX10_suffices_96 rfl ?_
    exact z_ireturn dX10_suffices_97 z_rR rfl (by decide) (by decide)
  have hJ_F_X10_suffices_J2x : z_F l M_X10_suffices (40, 640, 0, 0) 0 0 2 [some (.ref 0), some (.int a0), some (.int a1), some (.int 2), none, none] [] S D (z_ko (z_kR S D)) (F_X10_suffices_J2x N o a0 a1 D) := by
    unfold F_X10_suffices_J2x
    refine z_iload_n (i := 3) (x := 2) dX10_suffices_2 rfl rfl ?_
    refine z_iconst (v := 3) dX10_suffices_3 rfl ?_
    refine z_icmp_geN 96 dX10_suffices_4 (by decide) (by decide) ?_
    refine z_iconst (v := 0) dX10_suffices_7 rfl ?_
    refine z_istore (i := 4) (x := 0) (lv' := [some (.ref 0), some (.int a0), some (.int a1), some (.int 2), some (.int 0), none]) dX10_suffices_8 (by decide) rfl rfl ?_
    refine z_iconst (v := 0) dX10_suffices_10 rfl ?_
    refine z_istore (i := 5) (x := 0) (lv' := [some (.ref 0), some (.int a0), some (.int a1), some (.int 2), some (.int 0), some (.int 0)]) dX10_suffices_11 (by decide) rfl rfl ?_
    refine z_loops (lvOf := fun s : Int32 × Int32 => [some (.ref 0), some (.int a0), some (.int a1), some (.int 2), some (.int s.1), some (.int s.2)]) (dOf := fun s : Int32 × Int32 => D) (fun kc15 hkc15 s => ?_) N (0, 0)
    obtain ⟨v13, v14⟩ := s
    show z_F _ _ _ _ _ 13 [some (.ref 0), some (.int a0), some (.int a1), some (.int 2), some (.int v13), some (.int v14)] [] S D _ (F_X10_suffices_L13 o a0 a1 D kc15 v13 v14)
    unfold F_X10_suffices_L13
    refine z_iload (i := 5) (x := v14) dX10_suffices_13 rfl ?_
    refine z_aload_n (i := 0) (x := 0) dX10_suffices_15 rfl rfl ?_
    refine z_getR (j := 11) dX10_suffices_16 kl_10 hs0 (by decide) rfl rfl kf_X10_82 ?_
    refine z_getIN (j := 5) dX10_suffices_19 kl_1 hC.1 (by decide) rfl rfl kf_X10_168 ?_
    refine z_icmp_ge 59 dX10_suffices_22 (by decide) (fun c16 => ?_) (fun c16 => ?_)
    · refine z_sipush (v := 200) dX10_suffices_59 (by decide) ?_
      refine z_aload_n (i := 0) (x := 0) dX10_suffices_62 rfl rfl ?_
      refine z_getR (j := 1) dX10_suffices_63 kl_10 hs0 (by decide) rfl rfl kf_X10_19 ?_
      refine z_iload_n (i := 3) (x := 2) dX10_suffices_66 rfl rfl ?_
      refine z_cP (As := [.ref 3, .int 2]) (rest := [.int 200]) (em_X9_stored hl ⟨hs3, hs4⟩ 2 D) (fun o7 h => z_runV 229 1 h rfl kk_X10_229 hs3 kl_9.1 kq_X9_stored rfl (Nat.le_of_ble_eq_true rfl) ⟨Nat.le_of_ble_eq_true rfl, Nat.le_of_ble_eq_true rfl, Nat.le_of_ble_eq_true rfl, Nat.le_of_ble_eq_true rfl⟩ dX10_suffices_67) z_gR (fun hz17 => ?_)
      refine z_iload_n (i := 2) (x := a1) dX10_suffices_70 rfl rfl ?_
      refine z_aload_n (i := 0) (x := 0) dX10_suffices_71 rfl rfl ?_
      refine z_getR (j := 11) dX10_suffices_72 kl_10 hs0 (by decide) rfl rfl kf_X10_82 ?_
      refine z_getIN (j := 7) dX10_suffices_75 kl_1 hC.1 (by decide) rfl rfl kf_X10_188 ?_
      refine z_imul dX10_suffices_78 ?_
      refine z_iadd dX10_suffices_79 ?_
      refine z_mmin dX10_suffices_80 km_X10_339 ⟨Nat.le_of_ble_eq_true rfl, Nat.le_of_ble_eq_true rfl, Nat.le_of_ble_eq_true rfl, Nat.le_of_ble_eq_true rfl⟩ ?_
      refine z_iload (i := 4) (x := v13) dX10_suffices_83 rfl ?_
      refine z_icmp_ge 90 dX10_suffices_85 (by decide) (fun c18 => ?_) (fun c18 => ?_)
      · refine z_iincC (i := 3) (x := 2) (v := 3) (lv' := [some (.ref 0), some (.int a0), some (.int a1), some (.int 3), some (.int v13), some (.int v14)]) dX10_suffices_90 rfl (by decide) (by decide) rfl rfl ?_
        refine z_goto 2 dX10_suffices_93 (by decide) ?_
        refine z_weak (lv' := [some (.ref 0), some (.int a0), some (.int a1), some (.int 3), none, none]) ⟨Or.inr rfl, ⟨Or.inr rfl, ⟨Or.inr rfl, ⟨Or.inr rfl, ⟨Or.inl rfl, ⟨Or.inl rfl, trivial⟩⟩⟩⟩⟩⟩ ?_
        exact hJ_F_X10_suffices_J2
      · refine z_iconst (v := 0) dX10_suffices_88 rfl ?_
        exact z_ireturn dX10_suffices_89 z_rR rfl (by decide) (by decide)
    · refine z_iload_n (i := 1) (x := a0) dX10_suffices_25 rfl rfl ?_
      refine z_iload (i := 5) (x := v14) dX10_suffices_26 rfl ?_
      refine z_ishr dX10_suffices_28 ?_
      refine z_iconst (v := 1) dX10_suffices_29 rfl ?_
      refine z_iand dX10_suffices_30 ?_
      refine z_iconst (v := 1) dX10_suffices_31 rfl ?_
      refine z_icmp_ne 53 dX10_suffices_32 (by decide) (fun c19 => ?_) (fun c19 => ?_)
      · refine z_iload (i := 4) (x := v13) dX10_suffices_35 rfl ?_
        refine z_aload_n (i := 0) (x := 0) dX10_suffices_37 rfl rfl ?_
        refine z_getR (j := 11) dX10_suffices_38 kl_10 hs0 (by decide) rfl rfl kf_X10_82 ?_
        refine z_iload (i := 5) (x := v14) dX10_suffices_41 rfl ?_
        refine z_cP (As := [.ref o, .int v14]) (rest := [.int v13]) (em_X1_vatOf hl hC v14 D) (fun o7 h => z_runV 198 1 h rfl kk_X10_198 hC.1 kl_1.1 kq_X1_vatOf rfl (Nat.le_of_ble_eq_true rfl) ⟨Nat.le_of_ble_eq_true rfl, Nat.le_of_ble_eq_true rfl, Nat.le_of_ble_eq_true rfl, Nat.le_of_ble_eq_true rfl⟩ dX10_suffices_43) z_gR (fun hz20 => ?_)
        refine z_iload_n (i := 3) (x := 2) dX10_suffices_46 rfl rfl ?_
        refine z_cP (As := [.int (F_X1_vatOf o v14 D), .int 2]) (rest := [.int v13]) (em_X10_partOf hl (F_X1_vatOf o v14 D) 2 D) (fun o7 h => z_runS 368 2 h rfl kk_X10_368 kq_X10_partOf rfl (Nat.le_of_ble_eq_true rfl) ⟨Nat.le_of_ble_eq_true rfl, Nat.le_of_ble_eq_true rfl, Nat.le_of_ble_eq_true rfl, Nat.le_of_ble_eq_true rfl⟩ dX10_suffices_47) z_gR (fun hz21 => ?_)
        refine z_iadd dX10_suffices_50 ?_
        refine z_topi (fun v22 => ?_)
        refine z_istore (i := 4) (x := v22) (lv' := [some (.ref 0), some (.int a0), some (.int a1), some (.int 2), some (.int v22), some (.int v14)]) dX10_suffices_51 (by decide) rfl rfl ?_
        refine z_iinc (i := 5) (x := v14) (y := 1) dX10_suffices_53 rfl (by decide) (by decide) rfl (fun v23 => ?_)
        refine z_goto 13 dX10_suffices_56 (by decide) ?_
        exact hkc15 (v22, v23)
      · refine z_iinc (i := 5) (x := v14) (y := 1) dX10_suffices_53 rfl (by decide) (by decide) rfl (fun v24 => ?_)
        refine z_goto 13 dX10_suffices_56 (by decide) ?_
        exact hkc15 (v13, v24)
  have hJ_F_X10_suffices_J2xx : z_F l M_X10_suffices (40, 640, 0, 0) 0 0 2 [some (.ref 0), some (.int a0), some (.int a1), some (.int 1), none, none] [] S D (z_ko (z_kR S D)) (F_X10_suffices_J2xx N o a0 a1 D) := by
    unfold F_X10_suffices_J2xx
    refine z_iload_n (i := 3) (x := 1) dX10_suffices_2 rfl rfl ?_
    refine z_iconst (v := 3) dX10_suffices_3 rfl ?_
    refine z_icmp_geN 96 dX10_suffices_4 (by decide) (by decide) ?_
    refine z_iconst (v := 0) dX10_suffices_7 rfl ?_
    refine z_istore (i := 4) (x := 0) (lv' := [some (.ref 0), some (.int a0), some (.int a1), some (.int 1), some (.int 0), none]) dX10_suffices_8 (by decide) rfl rfl ?_
    refine z_iconst (v := 0) dX10_suffices_10 rfl ?_
    refine z_istore (i := 5) (x := 0) (lv' := [some (.ref 0), some (.int a0), some (.int a1), some (.int 1), some (.int 0), some (.int 0)]) dX10_suffices_11 (by decide) rfl rfl ?_
    refine z_loops (lvOf := fun s : Int32 × Int32 => [some (.ref 0), some (.int a0), some (.int a1), some (.int 1), some (.int s.1), some (.int s.2)]) (dOf := fun s : Int32 × Int32 => D) (fun kc9 hkc9 s => ?_) N (0, 0)
    obtain ⟨v7, v8⟩ := s
    show z_F _ _ _ _ _ 13 [some (.ref 0), some (.int a0), some (.int a1), some (.int 1), some (.int v7), some (.int v8)] [] S D _ (F_X10_suffices_L13x N o a0 a1 D kc9 v7 v8)
    unfold F_X10_suffices_L13x
    refine z_iload (i := 5) (x := v8) dX10_suffices_13 rfl ?_
    refine z_aload_n (i := 0) (x := 0) dX10_suffices_15 rfl rfl ?_
    refine z_getR (j := 11) dX10_suffices_16 kl_10 hs0 (by decide) rfl rfl kf_X10_82 ?_
    refine z_getIN (j := 5) dX10_suffices_19 kl_1 hC.1 (by decide) rfl rfl kf_X10_168 ?_
    refine z_icmp_ge 59 dX10_suffices_22 (by decide) (fun c10 => ?_) (fun c10 => ?_)
    · refine z_sipush (v := 200) dX10_suffices_59 (by decide) ?_
      refine z_aload_n (i := 0) (x := 0) dX10_suffices_62 rfl rfl ?_
      refine z_getR (j := 1) dX10_suffices_63 kl_10 hs0 (by decide) rfl rfl kf_X10_19 ?_
      refine z_iload_n (i := 3) (x := 1) dX10_suffices_66 rfl rfl ?_
      refine z_cP (As := [.ref 3, .int 1]) (rest := [.int 200]) (em_X9_stored hl ⟨hs3, hs4⟩ 1 D) (fun o7 h => z_runV 229 1 h rfl kk_X10_229 hs3 kl_9.1 kq_X9_stored rfl (Nat.le_of_ble_eq_true rfl) ⟨Nat.le_of_ble_eq_true rfl, Nat.le_of_ble_eq_true rfl, Nat.le_of_ble_eq_true rfl, Nat.le_of_ble_eq_true rfl⟩ dX10_suffices_67) z_gR (fun hz11 => ?_)
      refine z_iload_n (i := 2) (x := a1) dX10_suffices_70 rfl rfl ?_
      refine z_aload_n (i := 0) (x := 0) dX10_suffices_71 rfl rfl ?_
      refine z_getR (j := 11) dX10_suffices_72 kl_10 hs0 (by decide) rfl rfl kf_X10_82 ?_
      refine z_getIN (j := 7) dX10_suffices_75 kl_1 hC.1 (by decide) rfl rfl kf_X10_188 ?_
      refine z_imul dX10_suffices_78 ?_
      refine z_iadd dX10_suffices_79 ?_
      refine z_mmin dX10_suffices_80 km_X10_339 ⟨Nat.le_of_ble_eq_true rfl, Nat.le_of_ble_eq_true rfl, Nat.le_of_ble_eq_true rfl, Nat.le_of_ble_eq_true rfl⟩ ?_
      refine z_iload (i := 4) (x := v7) dX10_suffices_83 rfl ?_
      refine z_icmp_ge 90 dX10_suffices_85 (by decide) (fun c12 => ?_) (fun c12 => ?_)
      · refine z_iincC (i := 3) (x := 1) (v := 2) (lv' := [some (.ref 0), some (.int a0), some (.int a1), some (.int 2), some (.int v7), some (.int v8)]) dX10_suffices_90 rfl (by decide) (by decide) rfl rfl ?_
        refine z_goto 2 dX10_suffices_93 (by decide) ?_
        refine z_weak (lv' := [some (.ref 0), some (.int a0), some (.int a1), some (.int 2), none, none]) ⟨Or.inr rfl, ⟨Or.inr rfl, ⟨Or.inr rfl, ⟨Or.inr rfl, ⟨Or.inl rfl, ⟨Or.inl rfl, trivial⟩⟩⟩⟩⟩⟩ ?_
        exact hJ_F_X10_suffices_J2x
      · refine z_iconst (v := 0) dX10_suffices_88 rfl ?_
        exact z_ireturn dX10_suffices_89 z_rR rfl (by decide) (by decide)
    · refine z_iload_n (i := 1) (x := a0) dX10_suffices_25 rfl rfl ?_
      refine z_iload (i := 5) (x := v8) dX10_suffices_26 rfl ?_
      refine z_ishr dX10_suffices_28 ?_
      refine z_iconst (v := 1) dX10_suffices_29 rfl ?_
      refine z_iand dX10_suffices_30 ?_
      refine z_iconst (v := 1) dX10_suffices_31 rfl ?_
      refine z_icmp_ne 53 dX10_suffices_32 (by decide) (fun c26 => ?_) (fun c26 => ?_)
      · refine z_iload (i := 4) (x := v7) dX10_suffices_35 rfl ?_
        refine z_aload_n (i := 0) (x := 0) dX10_suffices_37 rfl rfl ?_
        refine z_getR (j := 11) dX10_suffices_38 kl_10 hs0 (by decide) rfl rfl kf_X10_82 ?_
        refine z_iload (i := 5) (x := v8) dX10_suffices_41 rfl ?_
        refine z_cP (As := [.ref o, .int v8]) (rest := [.int v7]) (em_X1_vatOf hl hC v8 D) (fun o7 h => z_runV 198 1 h rfl kk_X10_198 hC.1 kl_1.1 kq_X1_vatOf rfl (Nat.le_of_ble_eq_true rfl) ⟨Nat.le_of_ble_eq_true rfl, Nat.le_of_ble_eq_true rfl, Nat.le_of_ble_eq_true rfl, Nat.le_of_ble_eq_true rfl⟩ dX10_suffices_43) z_gR (fun hz27 => ?_)
        refine z_iload_n (i := 3) (x := 1) dX10_suffices_46 rfl rfl ?_
        refine z_cP (As := [.int (F_X1_vatOf o v8 D), .int 1]) (rest := [.int v7]) (em_X10_partOf hl (F_X1_vatOf o v8 D) 1 D) (fun o7 h => z_runS 368 2 h rfl kk_X10_368 kq_X10_partOf rfl (Nat.le_of_ble_eq_true rfl) ⟨Nat.le_of_ble_eq_true rfl, Nat.le_of_ble_eq_true rfl, Nat.le_of_ble_eq_true rfl, Nat.le_of_ble_eq_true rfl⟩ dX10_suffices_47) z_gR (fun hz28 => ?_)
        refine z_iadd dX10_suffices_50 ?_
        refine z_topi (fun v29 => ?_)
        refine z_istore (i := 4) (x := v29) (lv' := [some (.ref 0), some (.int a0), some (.int a1), some (.int 1), some (.int v29), some (.int v8)]) dX10_suffices_51 (by decide) rfl rfl ?_
        refine z_iinc (i := 5) (x := v8) (y := 1) dX10_suffices_53 rfl (by decide) (by decide) rfl (fun v30 => ?_)
        refine z_goto 13 dX10_suffices_56 (by decide) ?_
        exact hkc9 (v29, v30)
      · refine z_iinc (i := 5) (x := v8) (y := 1) dX10_suffices_53 rfl (by decide) (by decide) rfl (fun v31 => ?_)
        refine z_goto 13 dX10_suffices_56 (by decide) ?_
        exact hkc9 (v7, v31)
  have hJ_F_X10_suffices_J2xxx : z_F l M_X10_suffices (40, 640, 0, 0) 0 0 2 [some (.ref 0), some (.int a0), some (.int a1), some (.int 0), none, none] [] S D (z_ko (z_kR S D)) (F_X10_suffices_J2xxx N o a0 a1 D) := by
    unfold F_X10_suffices_J2xxx
    refine z_iload_n (i := 3) (x := 0) dX10_suffices_2 rfl rfl ?_
    refine z_iconst (v := 3) dX10_suffices_3 rfl ?_
    refine z_icmp_geN 96 dX10_suffices_4 (by decide) (by decide) ?_
    refine z_iconst (v := 0) dX10_suffices_7 rfl ?_
    refine z_istore (i := 4) (x := 0) (lv' := [some (.ref 0), some (.int a0), some (.int a1), some (.int 0), some (.int 0), none]) dX10_suffices_8 (by decide) rfl rfl ?_
    refine z_iconst (v := 0) dX10_suffices_10 rfl ?_
    refine z_istore (i := 5) (x := 0) (lv' := [some (.ref 0), some (.int a0), some (.int a1), some (.int 0), some (.int 0), some (.int 0)]) dX10_suffices_11 (by decide) rfl rfl ?_
    refine z_loops (lvOf := fun s : Int32 × Int32 => [some (.ref 0), some (.int a0), some (.int a1), some (.int 0), some (.int s.1), some (.int s.2)]) (dOf := fun s : Int32 × Int32 => D) (fun kc3 hkc3 s => ?_) N (0, 0)
    obtain ⟨v1, v2⟩ := s
    show z_F _ _ _ _ _ 13 [some (.ref 0), some (.int a0), some (.int a1), some (.int 0), some (.int v1), some (.int v2)] [] S D _ (F_X10_suffices_L13xx N o a0 a1 D kc3 v1 v2)
    unfold F_X10_suffices_L13xx
    refine z_iload (i := 5) (x := v2) dX10_suffices_13 rfl ?_
    refine z_aload_n (i := 0) (x := 0) dX10_suffices_15 rfl rfl ?_
    refine z_getR (j := 11) dX10_suffices_16 kl_10 hs0 (by decide) rfl rfl kf_X10_82 ?_
    refine z_getIN (j := 5) dX10_suffices_19 kl_1 hC.1 (by decide) rfl rfl kf_X10_168 ?_
    refine z_icmp_ge 59 dX10_suffices_22 (by decide) (fun c4 => ?_) (fun c4 => ?_)
    · refine z_sipush (v := 200) dX10_suffices_59 (by decide) ?_
      refine z_aload_n (i := 0) (x := 0) dX10_suffices_62 rfl rfl ?_
      refine z_getR (j := 1) dX10_suffices_63 kl_10 hs0 (by decide) rfl rfl kf_X10_19 ?_
      refine z_iload_n (i := 3) (x := 0) dX10_suffices_66 rfl rfl ?_
      refine z_cP (As := [.ref 3, .int 0]) (rest := [.int 200]) (em_X9_stored hl ⟨hs3, hs4⟩ 0 D) (fun o7 h => z_runV 229 1 h rfl kk_X10_229 hs3 kl_9.1 kq_X9_stored rfl (Nat.le_of_ble_eq_true rfl) ⟨Nat.le_of_ble_eq_true rfl, Nat.le_of_ble_eq_true rfl, Nat.le_of_ble_eq_true rfl, Nat.le_of_ble_eq_true rfl⟩ dX10_suffices_67) z_gR (fun hz5 => ?_)
      refine z_iload_n (i := 2) (x := a1) dX10_suffices_70 rfl rfl ?_
      refine z_aload_n (i := 0) (x := 0) dX10_suffices_71 rfl rfl ?_
      refine z_getR (j := 11) dX10_suffices_72 kl_10 hs0 (by decide) rfl rfl kf_X10_82 ?_
      refine z_getIN (j := 7) dX10_suffices_75 kl_1 hC.1 (by decide) rfl rfl kf_X10_188 ?_
      refine z_imul dX10_suffices_78 ?_
      refine z_iadd dX10_suffices_79 ?_
      refine z_mmin dX10_suffices_80 km_X10_339 ⟨Nat.le_of_ble_eq_true rfl, Nat.le_of_ble_eq_true rfl, Nat.le_of_ble_eq_true rfl, Nat.le_of_ble_eq_true rfl⟩ ?_
      refine z_iload (i := 4) (x := v1) dX10_suffices_83 rfl ?_
      refine z_icmp_ge 90 dX10_suffices_85 (by decide) (fun c6 => ?_) (fun c6 => ?_)
      · refine z_iincC (i := 3) (x := 0) (v := 1) (lv' := [some (.ref 0), some (.int a0), some (.int a1), some (.int 1), some (.int v1), some (.int v2)]) dX10_suffices_90 rfl (by decide) (by decide) rfl rfl ?_
        refine z_goto 2 dX10_suffices_93 (by decide) ?_
        refine z_weak (lv' := [some (.ref 0), some (.int a0), some (.int a1), some (.int 1), none, none]) ⟨Or.inr rfl, ⟨Or.inr rfl, ⟨Or.inr rfl, ⟨Or.inr rfl, ⟨Or.inl rfl, ⟨Or.inl rfl, trivial⟩⟩⟩⟩⟩⟩ ?_
        exact hJ_F_X10_suffices_J2xx
      · refine z_iconst (v := 0) dX10_suffices_88 rfl ?_
        exact z_ireturn dX10_suffices_89 z_rR rfl (by decide) (by decide)
    · refine z_iload_n (i := 1) (x := a0) dX10_suffices_25 rfl rfl ?_
      refine z_iload (i := 5) (x := v2) dX10_suffices_26 rfl ?_
      refine z_ishr dX10_suffices_28 ?_
      refine z_iconst (v := 1) dX10_suffices_29 rfl ?_
      refine z_iand dX10_suffices_30 ?_
      refine z_iconst (v := 1) dX10_suffices_31 rfl ?_
      refine z_icmp_ne 53 dX10_suffices_32 (by decide) (fun c33 => ?_) (fun c33 => ?_)
      · refine z_iload (i := 4) (x := v1) dX10_suffices_35 rfl ?_
        refine z_aload_n (i := 0) (x := 0) dX10_suffices_37 rfl rfl ?_
        refine z_getR (j := 11) dX10_suffices_38 kl_10 hs0 (by decide) rfl rfl kf_X10_82 ?_
        refine z_iload (i := 5) (x := v2) dX10_suffices_41 rfl ?_
        refine z_cP (As := [.ref o, .int v2]) (rest := [.int v1]) (em_X1_vatOf hl hC v2 D) (fun o7 h => z_runV 198 1 h rfl kk_X10_198 hC.1 kl_1.1 kq_X1_vatOf rfl (Nat.le_of_ble_eq_true rfl) ⟨Nat.le_of_ble_eq_true rfl, Nat.le_of_ble_eq_true rfl, Nat.le_of_ble_eq_true rfl, Nat.le_of_ble_eq_true rfl⟩ dX10_suffices_43) z_gR (fun hz34 => ?_)
        refine z_iload_n (i := 3) (x := 0) dX10_suffices_46 rfl rfl ?_
        refine z_cP (As := [.int (F_X1_vatOf o v2 D), .int 0]) (rest := [.int v1]) (em_X10_partOf hl (F_X1_vatOf o v2 D) 0 D) (fun o7 h => z_runS 368 2 h rfl kk_X10_368 kq_X10_partOf rfl (Nat.le_of_ble_eq_true rfl) ⟨Nat.le_of_ble_eq_true rfl, Nat.le_of_ble_eq_true rfl, Nat.le_of_ble_eq_true rfl, Nat.le_of_ble_eq_true rfl⟩ dX10_suffices_47) z_gR (fun hz35 => ?_)
        refine z_iadd dX10_suffices_50 ?_
        refine z_topi (fun v36 => ?_)
        refine z_istore (i := 4) (x := v36) (lv' := [some (.ref 0), some (.int a0), some (.int a1), some (.int 0), some (.int v36), some (.int v2)]) dX10_suffices_51 (by decide) rfl rfl ?_
        refine z_iinc (i := 5) (x := v2) (y := 1) dX10_suffices_53 rfl (by decide) (by decide) rfl (fun v37 => ?_)
        refine z_goto 13 dX10_suffices_56 (by decide) ?_
        exact hkc3 (v36, v37)
      · refine z_iinc (i := 5) (x := v2) (y := 1) dX10_suffices_53 rfl (by decide) (by decide) rfl (fun v38 => ?_)
        refine z_goto 13 dX10_suffices_56 (by decide) ?_
        exact hkc3 (v1, v38)
  refine z_iconst (v := 0) dX10_suffices_0 rfl ?_
  refine z_istore_n (i := 3) (x := 0) (lv' := [some (.ref 0), some (.int a0), some (.int a1), some (.int 0), none, none]) dX10_suffices_1 rfl (by decide) rfl rfl ?_
  exact hJ_F_X10_suffices_J2xxx

def F_X10_enough_L28 (N : Nat) (o : Nat) (a0 : Int32) (a_3 : z_Dat) (kc5 : (Int32 → Option ((Int32 × z_Dat) ⊕ (String × z_Dat)))) (v4 : Int32) : Option ((Int32 × z_Dat) ⊕ (String × z_Dat)) :=
  if 100 < v4 then (some (.inl ((-1), a_3)))
  else (z_bd (F_X10_suffices N o a0 v4 a_3) (fun a_8 => if a_8 = 0 then (z_let (v4 + 1) (fun v10 => kc5 v10))
  else (some (.inl (v4, a_3)))))
def F_X10_enough_L28x (N : Nat) (o : Nat) (a0 : Int32) (a_14 : z_Dat) (kc16 : (Int32 → Option ((Int32 × z_Dat) ⊕ (String × z_Dat)))) (v15 : Int32) : Option ((Int32 × z_Dat) ⊕ (String × z_Dat)) :=
  if 100 < v15 then (some (.inl ((-1), a_14)))
  else (z_bd (F_X10_suffices N o a0 v15 a_14) (fun a_19 => if a_19 = 0 then (z_let (v15 + 1) (fun v21 => kc16 v21))
  else (some (.inl (v15, a_14)))))
def F_X10_enough_L28xx (N : Nat) (o : Nat) (a0 : Int32) (a_24 : z_Dat) (kc26 : (Int32 → Option ((Int32 × z_Dat) ⊕ (String × z_Dat)))) (v25 : Int32) : Option ((Int32 × z_Dat) ⊕ (String × z_Dat)) :=
  if 100 < v25 then (some (.inl ((-1), a_24)))
  else (z_bd (F_X10_suffices N o a0 v25 a_24) (fun a_29 => if a_29 = 0 then (z_let (v25 + 1) (fun v31 => kc26 v31))
  else (some (.inl (v25, a_24)))))
def F_X10_enough (N : Nat) (o : Nat) (a0 : Int32) (D : z_Dat) : Option ((Int32 × z_Dat) ⊕ (String × z_Dat)) :=
  if a0 < 0 then (z_bt (F_X10_demand 0 D) (fun a_3 => z_loop (fun kc5 s => F_X10_enough_L28 N o a0 a_3 kc5 s) N 0))
  else (if (z_shl 1 (D o 5)) ≤ a0 then (z_bt (F_X10_demand 0 D) (fun a_14 => z_loop (fun kc16 s => F_X10_enough_L28x N o a0 a_14 kc16 s) N 0))
  else (z_bt (F_X10_demand 1 D) (fun a_24 => z_loop (fun kc26 s => F_X10_enough_L28xx N o a0 a_24 kc26 s) N 0)))
set_option maxRecDepth 100000 in
set_option maxHeartbeats 4000000 in
theorem em_X10_enough {l : Launch} {S : List z_Shp} {o : Nat} (hl : l.stackTraces = false) (hW : z_W S o) (N : Nat) (a0 : Int32) (D : z_Dat) : ∀ out, z_ko (z_kTI S) (F_X10_enough N o a0 D) out → z_EM l M_X10_enough (60, 700, 1, 6) [.ref 0, .int a0] S D out := by
  have hC := hW.2
  have hs0 : S[0]? = some (12, 15, [some (some 1), some (some 3), some (some 5), some (some 7), some (some 12), some (some 15), some (some 21), some (some 25), some (some 28), some (some 32), some (some 33), some (some o), none, none, none]) := hW.1 0 _ rfl
  refine z_meth hl rfl kp_X10 (Nat.le_of_ble_eq_true rfl) (lv := [some (.ref 0), some (.int a0), none]) rfl ?_
  unfold F_X10_enough
  refine z_aload_n (i := 0) (x := 0) dX10_enough_0 rfl rfl ?_
  refine z_iload_n (i := 1) (x := a0) dX10_enough_1 rfl rfl ?_
  refine z_if_lt 22 dX10_enough_2 (by decide) (fun c1 => ?_) (fun c1 => ?_)
  · refine z_iconst (v := 0) dX10_enough_22 rfl ?_
    refine z_cXVI rfl (As := [.ref 0, .int 0]) (rest := []) (em_X10_demand hl hW 0 D) (fun o7 h => z_runV 102 1 h rfl kk_X10_102 hs0 kl_10.1 kq_X10_demand rfl (Nat.le_of_ble_eq_true rfl) ⟨Nat.le_of_ble_eq_true rfl, Nat.le_of_ble_eq_true rfl, Nat.le_of_ble_eq_true rfl, Nat.le_of_ble_eq_true rfl⟩ dX10_enough_23) (by decide) (by decide) (fun a_3 hz2 => ?_)
    refine z_iconst (v := 0) dX10_enough_26 rfl ?_
    refine z_istore_n (i := 2) (x := 0) (lv' := [some (.ref 0), some (.int a0), some (.int 0)]) dX10_enough_27 rfl (by decide) rfl rfl ?_
    refine z_widen (k := 1) (n := 6) (by decide) (by decide) ?_
    refine z_loops (lvOf := fun s : Int32 => [some (.ref 0), some (.int a0), some (.int s)]) (dOf := fun s : Int32 => a_3) (fun kc5 hkc5 s => ?_) N 0
    obtain ⟨v4, hq⟩ : ∃ z, z = s := ⟨_, rfl⟩
    subst hq
    show z_F _ _ _ _ _ 28 [some (.ref 0), some (.int a0), some (.int v4)] [] S a_3 _ (F_X10_enough_L28 N o a0 a_3 kc5 v4)
    unfold F_X10_enough_L28
    refine z_iload_n (i := 2) (x := v4) dX10_enough_28 rfl rfl ?_
    refine z_bipush (v := 100) dX10_enough_29 (by decide) ?_
    refine z_icmp_gt 51 dX10_enough_31 (by decide) (fun c6 => ?_) (fun c6 => ?_)
    · refine z_iconst (v := (-1)) dX10_enough_51 rfl ?_
      exact z_ireturn dX10_enough_52 z_rXI rfl (by decide) (by decide)
    · refine z_aload_n (i := 0) (x := 0) dX10_enough_34 rfl rfl ?_
      refine z_iload_n (i := 1) (x := a0) dX10_enough_35 rfl rfl ?_
      refine z_iload_n (i := 2) (x := v4) dX10_enough_36 rfl rfl ?_
      refine z_cR (As := [.ref 0, .int a0, .int v4]) (rest := []) (em_X10_suffices hl hW N a0 v4 a_3) (fun o7 h => z_runV 302 2 h rfl kk_X10_302 hs0 kl_10.1 kq_X10_suffices rfl (Nat.le_of_ble_eq_true rfl) ⟨Nat.le_of_ble_eq_true rfl, Nat.le_of_ble_eq_true rfl, Nat.le_of_ble_eq_true rfl, Nat.le_of_ble_eq_true rfl⟩ dX10_enough_37) z_gXI (fun a_8 hz7 => ?_)
      refine z_if_eq 45 dX10_enough_40 (by decide) (fun c9 => ?_) (fun c9 => ?_)
      · refine z_iinc (i := 2) (x := v4) (y := 1) dX10_enough_45 rfl (by decide) (by decide) rfl (fun v10 => ?_)
        refine z_goto 28 dX10_enough_48 (by decide) ?_
        exact hkc5 v10
      · refine z_iload_n (i := 2) (x := v4) dX10_enough_43 rfl rfl ?_
        exact z_ireturn dX10_enough_44 z_rXI rfl (by decide) (by decide)
  · refine z_iload_n (i := 1) (x := a0) dX10_enough_5 rfl rfl ?_
    refine z_iconst (v := 1) dX10_enough_6 rfl ?_
    refine z_aload_n (i := 0) (x := 0) dX10_enough_7 rfl rfl ?_
    refine z_getR (j := 11) dX10_enough_8 kl_10 hs0 (by decide) rfl rfl kf_X10_82 ?_
    refine z_getIN (j := 5) dX10_enough_11 kl_1 hC.1 (by decide) rfl rfl kf_X10_168 ?_
    refine z_ishl dX10_enough_14 ?_
    refine z_icmp_ge 22 dX10_enough_15 (by decide) (fun c12 => ?_) (fun c12 => ?_)
    · refine z_iconst (v := 0) dX10_enough_22 rfl ?_
      refine z_cXVI rfl (As := [.ref 0, .int 0]) (rest := []) (em_X10_demand hl hW 0 D) (fun o7 h => z_runV 102 1 h rfl kk_X10_102 hs0 kl_10.1 kq_X10_demand rfl (Nat.le_of_ble_eq_true rfl) ⟨Nat.le_of_ble_eq_true rfl, Nat.le_of_ble_eq_true rfl, Nat.le_of_ble_eq_true rfl, Nat.le_of_ble_eq_true rfl⟩ dX10_enough_23) (by decide) (by decide) (fun a_14 hz13 => ?_)
      refine z_iconst (v := 0) dX10_enough_26 rfl ?_
      refine z_istore_n (i := 2) (x := 0) (lv' := [some (.ref 0), some (.int a0), some (.int 0)]) dX10_enough_27 rfl (by decide) rfl rfl ?_
      refine z_widen (k := 1) (n := 6) (by decide) (by decide) ?_
      refine z_loops (lvOf := fun s : Int32 => [some (.ref 0), some (.int a0), some (.int s)]) (dOf := fun s : Int32 => a_14) (fun kc16 hkc16 s => ?_) N 0
      obtain ⟨v15, hq⟩ : ∃ z, z = s := ⟨_, rfl⟩
      subst hq
      show z_F _ _ _ _ _ 28 [some (.ref 0), some (.int a0), some (.int v15)] [] S a_14 _ (F_X10_enough_L28x N o a0 a_14 kc16 v15)
      unfold F_X10_enough_L28x
      refine z_iload_n (i := 2) (x := v15) dX10_enough_28 rfl rfl ?_
      refine z_bipush (v := 100) dX10_enough_29 (by decide) ?_
      refine z_icmp_gt 51 dX10_enough_31 (by decide) (fun c17 => ?_) (fun c17 => ?_)
      · refine z_iconst (v := (-1)) dX10_enough_51 rfl ?_
        exact z_ireturn dX10_enough_52 z_rXI rfl (by decide) (by decide)
      · refine z_aload_n (i := 0) (x := 0) dX10_enough_34 rfl rfl ?_
        refine z_iload_n (i := 1) (x := a0) dX10_enough_35 rfl rfl ?_
        refine z_iload_n (i := 2) (x := v15) dX10_enough_36 rfl rfl ?_
        refine z_cR (As := [.ref 0, .int a0, .int v15]) (rest := []) (em_X10_suffices hl hW N a0 v15 a_14) (fun o7 h => z_runV 302 2 h rfl kk_X10_302 hs0 kl_10.1 kq_X10_suffices rfl (Nat.le_of_ble_eq_true rfl) ⟨Nat.le_of_ble_eq_true rfl, Nat.le_of_ble_eq_true rfl, Nat.le_of_ble_eq_true rfl, Nat.le_of_ble_eq_true rfl⟩ dX10_enough_37) z_gXI (fun a_19 hz18 => ?_)
        refine z_if_eq 45 dX10_enough_40 (by decide) (fun c20 => ?_) (fun c20 => ?_)
        · refine z_iinc (i := 2) (x := v15) (y := 1) dX10_enough_45 rfl (by decide) (by decide) rfl (fun v21 => ?_)
          refine z_goto 28 dX10_enough_48 (by decide) ?_
          exact hkc16 v21
        · refine z_iload_n (i := 2) (x := v15) dX10_enough_43 rfl rfl ?_
          exact z_ireturn dX10_enough_44 z_rXI rfl (by decide) (by decide)
    · refine z_iconst (v := 1) dX10_enough_18 rfl ?_
      refine z_goto 23 dX10_enough_19 (by decide) ?_
      refine z_cXVI rfl (As := [.ref 0, .int 1]) (rest := []) (em_X10_demand hl hW 1 D) (fun o7 h => z_runV 102 1 h rfl kk_X10_102 hs0 kl_10.1 kq_X10_demand rfl (Nat.le_of_ble_eq_true rfl) ⟨Nat.le_of_ble_eq_true rfl, Nat.le_of_ble_eq_true rfl, Nat.le_of_ble_eq_true rfl, Nat.le_of_ble_eq_true rfl⟩ dX10_enough_23) (by decide) (by decide) (fun a_24 hz23 => ?_)
      refine z_iconst (v := 0) dX10_enough_26 rfl ?_
      refine z_istore_n (i := 2) (x := 0) (lv' := [some (.ref 0), some (.int a0), some (.int 0)]) dX10_enough_27 rfl (by decide) rfl rfl ?_
      refine z_widen (k := 1) (n := 6) (by decide) (by decide) ?_
      refine z_loops (lvOf := fun s : Int32 => [some (.ref 0), some (.int a0), some (.int s)]) (dOf := fun s : Int32 => a_24) (fun kc26 hkc26 s => ?_) N 0
      obtain ⟨v25, hq⟩ : ∃ z, z = s := ⟨_, rfl⟩
      subst hq
      show z_F _ _ _ _ _ 28 [some (.ref 0), some (.int a0), some (.int v25)] [] S a_24 _ (F_X10_enough_L28xx N o a0 a_24 kc26 v25)
      unfold F_X10_enough_L28xx
      refine z_iload_n (i := 2) (x := v25) dX10_enough_28 rfl rfl ?_
      refine z_bipush (v := 100) dX10_enough_29 (by decide) ?_
      refine z_icmp_gt 51 dX10_enough_31 (by decide) (fun c27 => ?_) (fun c27 => ?_)
      · refine z_iconst (v := (-1)) dX10_enough_51 rfl ?_
        exact z_ireturn dX10_enough_52 z_rXI rfl (by decide) (by decide)
      · refine z_aload_n (i := 0) (x := 0) dX10_enough_34 rfl rfl ?_
        refine z_iload_n (i := 1) (x := a0) dX10_enough_35 rfl rfl ?_
        refine z_iload_n (i := 2) (x := v25) dX10_enough_36 rfl rfl ?_
        refine z_cR (As := [.ref 0, .int a0, .int v25]) (rest := []) (em_X10_suffices hl hW N a0 v25 a_24) (fun o7 h => z_runV 302 2 h rfl kk_X10_302 hs0 kl_10.1 kq_X10_suffices rfl (Nat.le_of_ble_eq_true rfl) ⟨Nat.le_of_ble_eq_true rfl, Nat.le_of_ble_eq_true rfl, Nat.le_of_ble_eq_true rfl, Nat.le_of_ble_eq_true rfl⟩ dX10_enough_37) z_gXI (fun a_29 hz28 => ?_)
        refine z_if_eq 45 dX10_enough_40 (by decide) (fun c30 => ?_) (fun c30 => ?_)
        · refine z_iinc (i := 2) (x := v25) (y := 1) dX10_enough_45 rfl (by decide) (by decide) rfl (fun v31 => ?_)
          refine z_goto 28 dX10_enough_48 (by decide) ?_
          exact hkc26 v31
        · refine z_iload_n (i := 2) (x := v25) dX10_enough_43 rfl rfl ?_
          exact z_ireturn dX10_enough_44 z_rXI rfl (by decide) (by decide)

def F_X10_level_L31 (a0 : Int32) (a1 : Int32) (a_6 : z_Dat) (kc8 : (Int32 → Option ((Int32 × z_Dat) ⊕ (String × z_Dat)))) (v7 : Int32) : Option ((Int32 × z_Dat) ⊕ (String × z_Dat)) :=
  if v7 ≤ 0 then (some (.inl (0, a_6)))
  else (if (F_X9_stored 3 a0 a_6) < (v7 * a1) then (z_let (v7 + (-1)) (fun v12 => kc8 v12))
  else (some (.inl (v7, a_6))))
def F_X10_level_L31x (a0 : Int32) (a1 : Int32) (a_16 : z_Dat) (kc18 : (Int32 → Option ((Int32 × z_Dat) ⊕ (String × z_Dat)))) (v17 : Int32) : Option ((Int32 × z_Dat) ⊕ (String × z_Dat)) :=
  if v17 ≤ 0 then (some (.inl (0, a_16)))
  else (if (F_X9_stored 3 a0 a_16) < (v17 * a1) then (z_let (v17 + (-1)) (fun v22 => kc18 v22))
  else (some (.inl (v17, a_16))))
def F_X10_level_L31xx (a0 : Int32) (a1 : Int32) (a_25 : z_Dat) (kc27 : (Int32 → Option ((Int32 × z_Dat) ⊕ (String × z_Dat)))) (v26 : Int32) : Option ((Int32 × z_Dat) ⊕ (String × z_Dat)) :=
  if v26 ≤ 0 then (some (.inl (0, a_25)))
  else (if (F_X9_stored 3 a0 a_25) < (v26 * a1) then (z_let (v26 + (-1)) (fun v31 => kc27 v31))
  else (some (.inl (v26, a_25))))
def F_X10_level (N : Nat) (a0 : Int32) (a1 : Int32) (D : z_Dat) : Option ((Int32 × z_Dat) ⊕ (String × z_Dat)) :=
  z_bt (F_X10_demandThere (F_X10_isDye a0) D) (fun a_3 => if a1 < 1 then (z_bt (F_X10_demand 0 a_3) (fun a_6 => z_loop (fun kc8 s => F_X10_level_L31 a0 a1 a_6 kc8 s) N 9))
  else (if 99 < a1 then (z_bt (F_X10_demand 0 a_3) (fun a_16 => z_loop (fun kc18 s => F_X10_level_L31x a0 a1 a_16 kc18 s) N 9))
  else (z_bt (F_X10_demand 1 a_3) (fun a_25 => z_loop (fun kc27 s => F_X10_level_L31xx a0 a1 a_25 kc27 s) N 9))))
set_option maxRecDepth 100000 in
set_option maxHeartbeats 4000000 in
theorem em_X10_level {l : Launch} {S : List z_Shp} {o : Nat} (hl : l.stackTraces = false) (hW : z_W S o) (N : Nat) (a0 : Int32) (a1 : Int32) (D : z_Dat) : ∀ out, z_ko (z_kTI S) (F_X10_level N a0 a1 D) out → z_EM l M_X10_level (60, 640, 2, 12) [.ref 0, .int a0, .int a1] S D out := by
  have hC := hW.2
  have hs0 : S[0]? = some (12, 15, [some (some 1), some (some 3), some (some 5), some (some 7), some (some 12), some (some 15), some (some 21), some (some 25), some (some 28), some (some 32), some (some 33), some (some o), none, none, none]) := hW.1 0 _ rfl
  have hs3 : S[3]? = some (11, 1, [some (some 4)]) := hW.1 3 _ rfl
  have hs4 : S[4]? = some (0, 44, []) := hW.1 4 _ rfl
  refine z_meth hl rfl kp_X10 (Nat.le_of_ble_eq_true rfl) (lv := [some (.ref 0), some (.int a0), some (.int a1), none]) rfl ?_
  unfold F_X10_level
  refine z_aload_n (i := 0) (x := 0) dX10_level_0 rfl rfl ?_
  refine z_iload_n (i := 1) (x := a0) dX10_level_1 rfl rfl ?_
  refine z_cP (As := [.int a0]) (rest := [.ref 0]) (em_X10_isDye hl a0 D) (fun o7 h => z_runS 226 1 h rfl kk_X10_226 kq_X10_isDye rfl (Nat.le_of_ble_eq_true rfl) ⟨Nat.le_of_ble_eq_true rfl, Nat.le_of_ble_eq_true rfl, Nat.le_of_ble_eq_true rfl, Nat.le_of_ble_eq_true rfl⟩ dX10_level_2) z_gXI (fun hz1 => ?_)
  refine z_cXVI rfl (As := [.ref 0, .int (F_X10_isDye a0)]) (rest := []) (em_X10_demandThere hl hW (F_X10_isDye a0) D) (fun o7 h => z_runV 195 1 h rfl kk_X10_195 hs0 kl_10.1 kq_X10_demandThere rfl (Nat.le_of_ble_eq_true rfl) ⟨Nat.le_of_ble_eq_true rfl, Nat.le_of_ble_eq_true rfl, Nat.le_of_ble_eq_true rfl, Nat.le_of_ble_eq_true rfl⟩ dX10_level_5) (by decide) (by decide) (fun a_3 hz2 => ?_)
  refine z_aload_n (i := 0) (x := 0) dX10_level_8 rfl rfl ?_
  refine z_iload_n (i := 2) (x := a1) dX10_level_9 rfl rfl ?_
  refine z_iconst (v := 1) dX10_level_10 rfl ?_
  refine z_icmp_lt 24 dX10_level_11 (by decide) (fun c4 => ?_) (fun c4 => ?_)
  · refine z_iconst (v := 0) dX10_level_24 rfl ?_
    refine z_cXVI rfl (As := [.ref 0, .int 0]) (rest := []) (em_X10_demand hl hW 0 a_3) (fun o7 h => z_runV 102 1 h rfl kk_X10_102 hs0 kl_10.1 kq_X10_demand rfl (Nat.le_of_ble_eq_true rfl) ⟨Nat.le_of_ble_eq_true rfl, Nat.le_of_ble_eq_true rfl, Nat.le_of_ble_eq_true rfl, Nat.le_of_ble_eq_true rfl⟩ dX10_level_25) (by decide) (by decide) (fun a_6 hz5 => ?_)
    refine z_bipush (v := 9) dX10_level_28 (by decide) ?_
    refine z_istore_n (i := 3) (x := 9) (lv' := [some (.ref 0), some (.int a0), some (.int a1), some (.int 9)]) dX10_level_30 rfl (by decide) rfl rfl ?_
    refine z_widen (k := 2) (n := 12) (by decide) (by decide) ?_
    refine z_loops (lvOf := fun s : Int32 => [some (.ref 0), some (.int a0), some (.int a1), some (.int s)]) (dOf := fun s : Int32 => a_6) (fun kc8 hkc8 s => ?_) N 9
    obtain ⟨v7, hq⟩ : ∃ z, z = s := ⟨_, rfl⟩
    subst hq
    show z_F _ _ _ _ _ 31 [some (.ref 0), some (.int a0), some (.int a1), some (.int v7)] [] S a_6 _ (F_X10_level_L31 a0 a1 a_6 kc8 v7)
    unfold F_X10_level_L31
    refine z_iload_n (i := 3) (x := v7) dX10_level_31 rfl rfl ?_
    refine z_if_le 57 dX10_level_32 (by decide) (fun c9 => ?_) (fun c9 => ?_)
    · refine z_iconst (v := 0) dX10_level_57 rfl ?_
      exact z_ireturn dX10_level_58 z_rXI rfl (by decide) (by decide)
    · refine z_iload_n (i := 3) (x := v7) dX10_level_35 rfl rfl ?_
      refine z_iload_n (i := 2) (x := a1) dX10_level_36 rfl rfl ?_
      refine z_imul dX10_level_37 ?_
      refine z_aload_n (i := 0) (x := 0) dX10_level_38 rfl rfl ?_
      refine z_getR (j := 1) dX10_level_39 kl_10 hs0 (by decide) rfl rfl kf_X10_19 ?_
      refine z_iload_n (i := 1) (x := a0) dX10_level_42 rfl rfl ?_
      refine z_cP (As := [.ref 3, .int a0]) (rest := [.int (v7 * a1)]) (em_X9_stored hl ⟨hs3, hs4⟩ a0 a_6) (fun o7 h => z_runV 229 1 h rfl kk_X10_229 hs3 kl_9.1 kq_X9_stored rfl (Nat.le_of_ble_eq_true rfl) ⟨Nat.le_of_ble_eq_true rfl, Nat.le_of_ble_eq_true rfl, Nat.le_of_ble_eq_true rfl, Nat.le_of_ble_eq_true rfl⟩ dX10_level_43) z_gXI (fun hz10 => ?_)
      refine z_icmp_gt 51 dX10_level_46 (by decide) (fun c11 => ?_) (fun c11 => ?_)
      · refine z_iinc (i := 3) (x := v7) (y := (-1)) dX10_level_51 rfl (by decide) (by decide) rfl (fun v12 => ?_)
        refine z_goto 31 dX10_level_54 (by decide) ?_
        exact hkc8 v12
      · refine z_iload_n (i := 3) (x := v7) dX10_level_49 rfl rfl ?_
        exact z_ireturn dX10_level_50 z_rXI rfl (by decide) (by decide)
  · refine z_iload_n (i := 2) (x := a1) dX10_level_14 rfl rfl ?_
    refine z_bipush (v := 99) dX10_level_15 (by decide) ?_
    refine z_icmp_gt 24 dX10_level_17 (by decide) (fun c14 => ?_) (fun c14 => ?_)
    · refine z_iconst (v := 0) dX10_level_24 rfl ?_
      refine z_cXVI rfl (As := [.ref 0, .int 0]) (rest := []) (em_X10_demand hl hW 0 a_3) (fun o7 h => z_runV 102 1 h rfl kk_X10_102 hs0 kl_10.1 kq_X10_demand rfl (Nat.le_of_ble_eq_true rfl) ⟨Nat.le_of_ble_eq_true rfl, Nat.le_of_ble_eq_true rfl, Nat.le_of_ble_eq_true rfl, Nat.le_of_ble_eq_true rfl⟩ dX10_level_25) (by decide) (by decide) (fun a_16 hz15 => ?_)
      refine z_bipush (v := 9) dX10_level_28 (by decide) ?_
      refine z_istore_n (i := 3) (x := 9) (lv' := [some (.ref 0), some (.int a0), some (.int a1), some (.int 9)]) dX10_level_30 rfl (by decide) rfl rfl ?_
      refine z_widen (k := 2) (n := 12) (by decide) (by decide) ?_
      refine z_loops (lvOf := fun s : Int32 => [some (.ref 0), some (.int a0), some (.int a1), some (.int s)]) (dOf := fun s : Int32 => a_16) (fun kc18 hkc18 s => ?_) N 9
      obtain ⟨v17, hq⟩ : ∃ z, z = s := ⟨_, rfl⟩
      subst hq
      show z_F _ _ _ _ _ 31 [some (.ref 0), some (.int a0), some (.int a1), some (.int v17)] [] S a_16 _ (F_X10_level_L31x a0 a1 a_16 kc18 v17)
      unfold F_X10_level_L31x
      refine z_iload_n (i := 3) (x := v17) dX10_level_31 rfl rfl ?_
      refine z_if_le 57 dX10_level_32 (by decide) (fun c19 => ?_) (fun c19 => ?_)
      · refine z_iconst (v := 0) dX10_level_57 rfl ?_
        exact z_ireturn dX10_level_58 z_rXI rfl (by decide) (by decide)
      · refine z_iload_n (i := 3) (x := v17) dX10_level_35 rfl rfl ?_
        refine z_iload_n (i := 2) (x := a1) dX10_level_36 rfl rfl ?_
        refine z_imul dX10_level_37 ?_
        refine z_aload_n (i := 0) (x := 0) dX10_level_38 rfl rfl ?_
        refine z_getR (j := 1) dX10_level_39 kl_10 hs0 (by decide) rfl rfl kf_X10_19 ?_
        refine z_iload_n (i := 1) (x := a0) dX10_level_42 rfl rfl ?_
        refine z_cP (As := [.ref 3, .int a0]) (rest := [.int (v17 * a1)]) (em_X9_stored hl ⟨hs3, hs4⟩ a0 a_16) (fun o7 h => z_runV 229 1 h rfl kk_X10_229 hs3 kl_9.1 kq_X9_stored rfl (Nat.le_of_ble_eq_true rfl) ⟨Nat.le_of_ble_eq_true rfl, Nat.le_of_ble_eq_true rfl, Nat.le_of_ble_eq_true rfl, Nat.le_of_ble_eq_true rfl⟩ dX10_level_43) z_gXI (fun hz20 => ?_)
        refine z_icmp_gt 51 dX10_level_46 (by decide) (fun c21 => ?_) (fun c21 => ?_)
        · refine z_iinc (i := 3) (x := v17) (y := (-1)) dX10_level_51 rfl (by decide) (by decide) rfl (fun v22 => ?_)
          refine z_goto 31 dX10_level_54 (by decide) ?_
          exact hkc18 v22
        · refine z_iload_n (i := 3) (x := v17) dX10_level_49 rfl rfl ?_
          exact z_ireturn dX10_level_50 z_rXI rfl (by decide) (by decide)
    · refine z_iconst (v := 1) dX10_level_20 rfl ?_
      refine z_goto 25 dX10_level_21 (by decide) ?_
      refine z_cXVI rfl (As := [.ref 0, .int 1]) (rest := []) (em_X10_demand hl hW 1 a_3) (fun o7 h => z_runV 102 1 h rfl kk_X10_102 hs0 kl_10.1 kq_X10_demand rfl (Nat.le_of_ble_eq_true rfl) ⟨Nat.le_of_ble_eq_true rfl, Nat.le_of_ble_eq_true rfl, Nat.le_of_ble_eq_true rfl, Nat.le_of_ble_eq_true rfl⟩ dX10_level_25) (by decide) (by decide) (fun a_25 hz24 => ?_)
      refine z_bipush (v := 9) dX10_level_28 (by decide) ?_
      refine z_istore_n (i := 3) (x := 9) (lv' := [some (.ref 0), some (.int a0), some (.int a1), some (.int 9)]) dX10_level_30 rfl (by decide) rfl rfl ?_
      refine z_widen (k := 2) (n := 12) (by decide) (by decide) ?_
      refine z_loops (lvOf := fun s : Int32 => [some (.ref 0), some (.int a0), some (.int a1), some (.int s)]) (dOf := fun s : Int32 => a_25) (fun kc27 hkc27 s => ?_) N 9
      obtain ⟨v26, hq⟩ : ∃ z, z = s := ⟨_, rfl⟩
      subst hq
      show z_F _ _ _ _ _ 31 [some (.ref 0), some (.int a0), some (.int a1), some (.int v26)] [] S a_25 _ (F_X10_level_L31xx a0 a1 a_25 kc27 v26)
      unfold F_X10_level_L31xx
      refine z_iload_n (i := 3) (x := v26) dX10_level_31 rfl rfl ?_
      refine z_if_le 57 dX10_level_32 (by decide) (fun c28 => ?_) (fun c28 => ?_)
      · refine z_iconst (v := 0) dX10_level_57 rfl ?_
        exact z_ireturn dX10_level_58 z_rXI rfl (by decide) (by decide)
      · refine z_iload_n (i := 3) (x := v26) dX10_level_35 rfl rfl ?_
        refine z_iload_n (i := 2) (x := a1) dX10_level_36 rfl rfl ?_
        refine z_imul dX10_level_37 ?_
        refine z_aload_n (i := 0) (x := 0) dX10_level_38 rfl rfl ?_
        refine z_getR (j := 1) dX10_level_39 kl_10 hs0 (by decide) rfl rfl kf_X10_19 ?_
        refine z_iload_n (i := 1) (x := a0) dX10_level_42 rfl rfl ?_
        refine z_cP (As := [.ref 3, .int a0]) (rest := [.int (v26 * a1)]) (em_X9_stored hl ⟨hs3, hs4⟩ a0 a_25) (fun o7 h => z_runV 229 1 h rfl kk_X10_229 hs3 kl_9.1 kq_X9_stored rfl (Nat.le_of_ble_eq_true rfl) ⟨Nat.le_of_ble_eq_true rfl, Nat.le_of_ble_eq_true rfl, Nat.le_of_ble_eq_true rfl, Nat.le_of_ble_eq_true rfl⟩ dX10_level_43) z_gXI (fun hz29 => ?_)
        refine z_icmp_gt 51 dX10_level_46 (by decide) (fun c30 => ?_) (fun c30 => ?_)
        · refine z_iinc (i := 3) (x := v26) (y := (-1)) dX10_level_51 rfl (by decide) (by decide) rfl (fun v31 => ?_)
          refine z_goto 31 dX10_level_54 (by decide) ?_
          exact hkc27 v31
        · refine z_iload_n (i := 3) (x := v26) dX10_level_49 rfl rfl ?_
          exact z_ireturn dX10_level_50 z_rXI rfl (by decide) (by decide)

def F_J6_bitCount_0f7a4 (a0 : Int32) : Int32 :=
  z_let (a0 - ((z_ushr a0 1) &&& 1431655765)) (fun v1 => z_let ((v1 &&& 858993459) + ((z_ushr v1 2) &&& 858993459)) (fun v2 => z_let ((v2 + (z_ushr v2 4)) &&& 252645135) (fun v3 => z_let (v3 + (z_ushr v3 8)) (fun v4 => z_let (v4 + (z_ushr v4 16)) (fun v5 => v5 &&& 63)))))
set_option maxRecDepth 100000 in
set_option maxHeartbeats 4000000 in
theorem em_J6_bitCount_0f7a4 {l : Launch} {S : List z_Shp} (hl : l.stackTraces = false) (a0 : Int32) (D : z_Dat) : ∀ out, z_kt (z_kR S D) (F_J6_bitCount_0f7a4 a0) out → z_EM l M_J6_bitCount_0f7a4 (20, 520, 0, 0) [.int a0] S D out := by
  refine z_meth hl rfl kp_J6 (Nat.le_of_ble_eq_true rfl) (lv := [some (.int a0)]) rfl ?_
  unfold F_J6_bitCount_0f7a4
  refine z_iload_n (i := 0) (x := a0) dJ6_bitCount_0f7a4_0 rfl rfl ?_
  refine z_iload_n (i := 0) (x := a0) dJ6_bitCount_0f7a4_1 rfl rfl ?_
  refine z_iconst (v := 1) dJ6_bitCount_0f7a4_2 rfl ?_
  refine z_iushr dJ6_bitCount_0f7a4_3 ?_
  refine z_ldcw (v := 1431655765) dJ6_bitCount_0f7a4_4 kd_J6_265 ?_
  refine z_iand dJ6_bitCount_0f7a4_7 ?_
  refine z_isub dJ6_bitCount_0f7a4_8 ?_
  refine z_topi (fun v1 => ?_)
  refine z_istore_n (i := 0) (x := v1) (lv' := [some (.int v1)]) dJ6_bitCount_0f7a4_9 rfl (by decide) rfl rfl ?_
  refine z_iload_n (i := 0) (x := v1) dJ6_bitCount_0f7a4_10 rfl rfl ?_
  refine z_ldcw (v := 858993459) dJ6_bitCount_0f7a4_11 kd_J6_266 ?_
  refine z_iand dJ6_bitCount_0f7a4_14 ?_
  refine z_iload_n (i := 0) (x := v1) dJ6_bitCount_0f7a4_15 rfl rfl ?_
  refine z_iconst (v := 2) dJ6_bitCount_0f7a4_16 rfl ?_
  refine z_iushr dJ6_bitCount_0f7a4_17 ?_
  refine z_ldcw (v := 858993459) dJ6_bitCount_0f7a4_18 kd_J6_266 ?_
  refine z_iand dJ6_bitCount_0f7a4_21 ?_
  refine z_iadd dJ6_bitCount_0f7a4_22 ?_
  refine z_topi (fun v2 => ?_)
  refine z_istore_n (i := 0) (x := v2) (lv' := [some (.int v2)]) dJ6_bitCount_0f7a4_23 rfl (by decide) rfl rfl ?_
  refine z_iload_n (i := 0) (x := v2) dJ6_bitCount_0f7a4_24 rfl rfl ?_
  refine z_iload_n (i := 0) (x := v2) dJ6_bitCount_0f7a4_25 rfl rfl ?_
  refine z_iconst (v := 4) dJ6_bitCount_0f7a4_26 rfl ?_
  refine z_iushr dJ6_bitCount_0f7a4_27 ?_
  refine z_iadd dJ6_bitCount_0f7a4_28 ?_
  refine z_ldcw (v := 252645135) dJ6_bitCount_0f7a4_29 kd_J6_267 ?_
  refine z_iand dJ6_bitCount_0f7a4_32 ?_
  refine z_topi (fun v3 => ?_)
  refine z_istore_n (i := 0) (x := v3) (lv' := [some (.int v3)]) dJ6_bitCount_0f7a4_33 rfl (by decide) rfl rfl ?_
  refine z_iload_n (i := 0) (x := v3) dJ6_bitCount_0f7a4_34 rfl rfl ?_
  refine z_iload_n (i := 0) (x := v3) dJ6_bitCount_0f7a4_35 rfl rfl ?_
  refine z_bipush (v := 8) dJ6_bitCount_0f7a4_36 (by decide) ?_
  refine z_iushr dJ6_bitCount_0f7a4_38 ?_
  refine z_iadd dJ6_bitCount_0f7a4_39 ?_
  refine z_topi (fun v4 => ?_)
  refine z_istore_n (i := 0) (x := v4) (lv' := [some (.int v4)]) dJ6_bitCount_0f7a4_40 rfl (by decide) rfl rfl ?_
  refine z_iload_n (i := 0) (x := v4) dJ6_bitCount_0f7a4_41 rfl rfl ?_
  refine z_iload_n (i := 0) (x := v4) dJ6_bitCount_0f7a4_42 rfl rfl ?_
  refine z_bipush (v := 16) dJ6_bitCount_0f7a4_43 (by decide) ?_
  refine z_iushr dJ6_bitCount_0f7a4_45 ?_
  refine z_iadd dJ6_bitCount_0f7a4_46 ?_
  refine z_topi (fun v5 => ?_)
  refine z_istore_n (i := 0) (x := v5) (lv' := [some (.int v5)]) dJ6_bitCount_0f7a4_47 rfl (by decide) rfl rfl ?_
  refine z_iload_n (i := 0) (x := v5) dJ6_bitCount_0f7a4_48 rfl rfl ?_
  refine z_bipush (v := 63) dJ6_bitCount_0f7a4_49 (by decide) ?_
  refine z_iand dJ6_bitCount_0f7a4_51 ?_
  exact z_ireturn dJ6_bitCount_0f7a4_52 z_rP rfl (by decide) (by decide)

def F_X10_power_L5 (a0 : Int32) (a1 : Int32) (kc3 : ((Int64 × Int32) → Option Int64)) (v1 : Int64) (v2 : Int32) : Option Int64 :=
  if a1 ≤ v2 then (some v1)
  else (z_let (v1 * a0.toInt64) (fun v5 => z_let (v2 + 1) (fun v6 => kc3 (v5, v6))))
def F_X10_power (N : Nat) (a0 : Int32) (a1 : Int32) : Option Int64 :=
  z_loop (fun kc3 s => F_X10_power_L5 a0 a1 kc3 s.1 s.2) N (1, 0)
set_option maxRecDepth 100000 in
set_option maxHeartbeats 4000000 in
theorem em_X10_power {l : Launch} {S : List z_Shp} (hl : l.stackTraces = false) (N : Nat) (a0 : Int32) (a1 : Int32) (D : z_Dat) : ∀ out, z_ko (z_kRJ S D) (F_X10_power N a0 a1) out → z_EM l M_X10_power (20, 520, 0, 0) [.int a0, .int a1] S D out := by
  refine z_meth hl rfl kp_X10 (Nat.le_of_ble_eq_true rfl) (lv := [some (.int a0), some (.int a1), none, none, none]) rfl ?_
  unfold F_X10_power
  refine z_lconst (v := 1) dX10_power_0 rfl ?_
  refine z_lstore_n (i := 2) (x := 1) (lv' := [some (.int a0), some (.int a1), some (.long 1), none, none]) dX10_power_1 rfl (by decide) rfl rfl ?_
  refine z_iconst (v := 0) dX10_power_2 rfl ?_
  refine z_istore (i := 4) (x := 0) (lv' := [some (.int a0), some (.int a1), some (.long 1), none, some (.int 0)]) dX10_power_3 (by decide) rfl rfl ?_
  refine z_loops (lvOf := fun s : Int64 × Int32 => [some (.int a0), some (.int a1), some (.long s.1), none, some (.int s.2)]) (dOf := fun s : Int64 × Int32 => D) (fun kc3 hkc3 s => ?_) N (1, 0)
  obtain ⟨v1, v2⟩ := s
  show z_F _ _ _ _ _ 5 [some (.int a0), some (.int a1), some (.long v1), none, some (.int v2)] [] S D _ (F_X10_power_L5 a0 a1 kc3 v1 v2)
  unfold F_X10_power_L5
  refine z_iload (i := 4) (x := v2) dX10_power_5 rfl ?_
  refine z_iload_n (i := 1) (x := a1) dX10_power_7 rfl rfl ?_
  refine z_icmp_ge 22 dX10_power_8 (by decide) (fun c4 => ?_) (fun c4 => ?_)
  · refine z_lload_n (i := 2) (x := v1) dX10_power_22 rfl rfl ?_
    exact z_lreturn dX10_power_23 z_rRJ trivial (by decide) (by decide)
  · refine z_lload_n (i := 2) (x := v1) dX10_power_11 rfl rfl ?_
    refine z_iload_n (i := 0) (x := a0) dX10_power_12 rfl rfl ?_
    refine z_i2l dX10_power_13 ?_
    refine z_lmul dX10_power_14 ?_
    refine z_topl (fun v5 => ?_)
    refine z_lstore_n (i := 2) (x := v5) (lv' := [some (.int a0), some (.int a1), some (.long v5), none, some (.int v2)]) dX10_power_15 rfl (by decide) rfl rfl ?_
    refine z_iinc (i := 4) (x := v2) (y := 1) dX10_power_16 rfl (by decide) (by decide) rfl (fun v6 => ?_)
    refine z_goto 5 dX10_power_19 (by decide) ?_
    exact hkc3 (v5, v6)

def F_X10_mostRight_L5 (N : Nat) (a0 : Int32) (a1 : Int32) (kc3 : ((Int64 × Int32) → Option Int64)) (v1 : Int64) (v2 : Int32) : Option Int64 :=
  if (z_shl 1 a0) ≤ v2 then (some v1)
  else (z_let (F_J6_bitCount_0f7a4 v2) (fun v6 => if (2 * v6) ≤ a0 then (z_let (v2 + 1) (fun v8 => kc3 (v1, v8)))
  else (z_bd (F_X10_power N a1 v6) (fun a_10 => z_bd (F_X10_power N (16 - a1) (a0 - v6)) (fun a_12 => z_let (v1 + (a_10 * a_12)) (fun v13 => z_let (v2 + 1) (fun v14 => kc3 (v13, v14))))))))
def F_X10_mostRight (N : Nat) (a0 : Int32) (a1 : Int32) : Option Int64 :=
  z_loop (fun kc3 s => F_X10_mostRight_L5 N a0 a1 kc3 s.1 s.2) N (0, 0)
set_option maxRecDepth 100000 in
set_option maxHeartbeats 4000000 in
theorem em_X10_mostRight {l : Launch} {S : List z_Shp} (hl : l.stackTraces = false) (N : Nat) (a0 : Int32) (a1 : Int32) (D : z_Dat) : ∀ out, z_ko (z_kRJ S D) (F_X10_mostRight N a0 a1) out → z_EM l M_X10_mostRight (30, 580, 0, 0) [.int a0, .int a1] S D out := by
  refine z_meth hl rfl kp_X10 (Nat.le_of_ble_eq_true rfl) (lv := [some (.int a0), some (.int a1), none, none, none, none]) rfl ?_
  unfold F_X10_mostRight
  refine z_lconst (v := 0) dX10_mostRight_0 rfl ?_
  refine z_lstore_n (i := 2) (x := 0) (lv' := [some (.int a0), some (.int a1), some (.long 0), none, none, none]) dX10_mostRight_1 rfl (by decide) rfl rfl ?_
  refine z_iconst (v := 0) dX10_mostRight_2 rfl ?_
  refine z_istore (i := 4) (x := 0) (lv' := [some (.int a0), some (.int a1), some (.long 0), none, some (.int 0), none]) dX10_mostRight_3 (by decide) rfl rfl ?_
  refine z_loops (lvOf := fun s : Int64 × Int32 => [some (.int a0), some (.int a1), some (.long s.1), none, some (.int s.2), none]) (dOf := fun s : Int64 × Int32 => D) (fun kc3 hkc3 s => ?_) N (0, 0)
  obtain ⟨v1, v2⟩ := s
  show z_F _ _ _ _ _ 5 [some (.int a0), some (.int a1), some (.long v1), none, some (.int v2), none] [] S D _ (F_X10_mostRight_L5 N a0 a1 kc3 v1 v2)
  unfold F_X10_mostRight_L5
  refine z_iload (i := 4) (x := v2) dX10_mostRight_5 rfl ?_
  refine z_iconst (v := 1) dX10_mostRight_7 rfl ?_
  refine z_iload_n (i := 0) (x := a0) dX10_mostRight_8 rfl rfl ?_
  refine z_ishl dX10_mostRight_9 ?_
  refine z_icmp_ge 55 dX10_mostRight_10 (by decide) (fun c4 => ?_) (fun c4 => ?_)
  · refine z_lload_n (i := 2) (x := v1) dX10_mostRight_55 rfl rfl ?_
    exact z_lreturn dX10_mostRight_56 z_rRJ trivial (by decide) (by decide)
  · refine z_iload (i := 4) (x := v2) dX10_mostRight_13 rfl ?_
    refine z_cP (As := [.int v2]) (rest := []) (em_J6_bitCount_0f7a4 hl v2 D) (fun o7 h => z_runS 379 1 h rfl kk_X10_379 kq_J6_bitCount_0f7a4 rfl (Nat.le_of_ble_eq_true rfl) ⟨Nat.le_of_ble_eq_true rfl, Nat.le_of_ble_eq_true rfl, Nat.le_of_ble_eq_true rfl, Nat.le_of_ble_eq_true rfl⟩ dX10_mostRight_15) z_gRJ (fun hz5 => ?_)
    refine z_topi (fun v6 => ?_)
    refine z_istore (i := 5) (x := v6) (lv' := [some (.int a0), some (.int a1), some (.long v1), none, some (.int v2), some (.int v6)]) dX10_mostRight_18 (by decide) rfl rfl ?_
    refine z_iconst (v := 2) dX10_mostRight_20 rfl ?_
    refine z_iload (i := 5) (x := v6) dX10_mostRight_21 rfl ?_
    refine z_imul dX10_mostRight_23 ?_
    refine z_iload_n (i := 0) (x := a0) dX10_mostRight_24 rfl rfl ?_
    refine z_icmp_le 49 dX10_mostRight_25 (by decide) (fun c7 => ?_) (fun c7 => ?_)
    · refine z_iinc (i := 4) (x := v2) (y := 1) dX10_mostRight_49 rfl (by decide) (by decide) rfl (fun v8 => ?_)
      refine z_goto 5 dX10_mostRight_52 (by decide) ?_
      refine z_weak (lv' := [some (.int a0), some (.int a1), some (.long v1), none, some (.int v8), none]) ⟨Or.inr rfl, ⟨Or.inr rfl, ⟨Or.inr rfl, ⟨Or.inl rfl, ⟨Or.inr rfl, ⟨Or.inl rfl, trivial⟩⟩⟩⟩⟩⟩ ?_
      exact hkc3 (v1, v8)
    · refine z_lload_n (i := 2) (x := v1) dX10_mostRight_28 rfl rfl ?_
      refine z_iload_n (i := 1) (x := a1) dX10_mostRight_29 rfl rfl ?_
      refine z_iload (i := 5) (x := v6) dX10_mostRight_30 rfl ?_
      refine z_cRJ (As := [.int a1, .int v6]) (rest := [.long v1]) (em_X10_power hl N a1 v6 D) (fun o7 h => z_runS 309 2 h rfl kk_X10_309 kq_X10_power rfl (Nat.le_of_ble_eq_true rfl) ⟨Nat.le_of_ble_eq_true rfl, Nat.le_of_ble_eq_true rfl, Nat.le_of_ble_eq_true rfl, Nat.le_of_ble_eq_true rfl⟩ dX10_mostRight_32) z_gRJ (fun a_10 hz9 => ?_)
      refine z_bipush (v := 16) dX10_mostRight_35 (by decide) ?_
      refine z_iload_n (i := 1) (x := a1) dX10_mostRight_37 rfl rfl ?_
      refine z_isub dX10_mostRight_38 ?_
      refine z_iload_n (i := 0) (x := a0) dX10_mostRight_39 rfl rfl ?_
      refine z_iload (i := 5) (x := v6) dX10_mostRight_40 rfl ?_
      refine z_isub dX10_mostRight_42 ?_
      refine z_cRJ (As := [.int (16 - a1), .int (a0 - v6)]) (rest := [.long a_10, .long v1]) (em_X10_power hl N (16 - a1) (a0 - v6) D) (fun o7 h => z_runS 309 2 h rfl kk_X10_309 kq_X10_power rfl (Nat.le_of_ble_eq_true rfl) ⟨Nat.le_of_ble_eq_true rfl, Nat.le_of_ble_eq_true rfl, Nat.le_of_ble_eq_true rfl, Nat.le_of_ble_eq_true rfl⟩ dX10_mostRight_43) z_gRJ (fun a_12 hz11 => ?_)
      refine z_lmul dX10_mostRight_46 ?_
      refine z_ladd dX10_mostRight_47 ?_
      refine z_topl (fun v13 => ?_)
      refine z_lstore_n (i := 2) (x := v13) (lv' := [some (.int a0), some (.int a1), some (.long v13), none, some (.int v2), some (.int v6)]) dX10_mostRight_48 rfl (by decide) rfl rfl ?_
      refine z_iinc (i := 4) (x := v2) (y := 1) dX10_mostRight_49 rfl (by decide) (by decide) rfl (fun v14 => ?_)
      refine z_goto 5 dX10_mostRight_52 (by decide) ?_
      refine z_weak (lv' := [some (.int a0), some (.int a1), some (.long v13), none, some (.int v14), none]) ⟨Or.inr rfl, ⟨Or.inr rfl, ⟨Or.inr rfl, ⟨Or.inl rfl, ⟨Or.inr rfl, ⟨Or.inl rfl, trivial⟩⟩⟩⟩⟩⟩ ?_
      exact hkc3 (v13, v14)

def F_X10_night_L73 (a0 : Int32) (a2 : Int32) (a_10 : z_Dat) (kc18 : ((Int64 × Int64 × Int32) → Option ((Int64 × z_Dat) ⊕ (String × z_Dat)))) (v15 : Int64) (v16 : Int64) (v17 : Int32) : Option ((Int64 × z_Dat) ⊕ (String × z_Dat)) :=
  if (4 * a0) ≤ v17 then (if a2 = 0 then (some (.inl (v15, a_10)))
  else (some (.inl (v16, a_10))))
  else (if (lg_cmp (v15 - v15 / 2 * 2) 0) = 0 then (z_let (v15 / 2) (fun v22 => z_let (v16 / 2) (fun v23 => z_let (v17 + 1) (fun v24 => kc18 (v22, v23, v24)))))
  else (if a2 = 0 then (some (.inl (v15, a_10)))
  else (some (.inl (v16, a_10)))))
def F_X10_night_J52 (N : Nat) (a0 : Int32) (a1 : Int32) (a2 : Int32) (D8 : z_Dat) : Option ((Int64 × z_Dat) ⊕ (String × z_Dat)) :=
  z_bt (F_X10_demand 0 D8) (fun a_10 => z_bd (F_X10_mostRight N a0 a1) (fun a_12 => z_bd (F_X10_power N 16 a0) (fun a_14 => z_loop (fun kc18 s => F_X10_night_L73 a0 a2 a_10 kc18 s.1 s.2.1 s.2.2) N (a_12, a_14, 0))))
def F_X10_night_J51 (N : Nat) (a0 : Int32) (a1 : Int32) (a2 : Int32) (D7 : z_Dat) : Option ((Int64 × z_Dat) ⊕ (String × z_Dat)) :=
  F_X10_night_J52 N a0 a1 a2 D7
def F_X10_night_L73x (a0 : Int32) (a2 : Int32) (a_32 : z_Dat) (kc40 : ((Int64 × Int64 × Int32) → Option ((Int64 × z_Dat) ⊕ (String × z_Dat)))) (v37 : Int64) (v38 : Int64) (v39 : Int32) : Option ((Int64 × z_Dat) ⊕ (String × z_Dat)) :=
  if (4 * a0) ≤ v39 then (if a2 = 0 then (some (.inl (v37, a_32)))
  else (some (.inl (v38, a_32))))
  else (if (lg_cmp (v37 - v37 / 2 * 2) 0) = 0 then (z_let (v37 / 2) (fun v44 => z_let (v38 / 2) (fun v45 => z_let (v39 + 1) (fun v46 => kc40 (v44, v45, v46)))))
  else (if a2 = 0 then (some (.inl (v37, a_32)))
  else (some (.inl (v38, a_32)))))
def F_X10_night_J52x (N : Nat) (a0 : Int32) (a1 : Int32) (a2 : Int32) (D30 : z_Dat) : Option ((Int64 × z_Dat) ⊕ (String × z_Dat)) :=
  z_bt (F_X10_demand 1 D30) (fun a_32 => z_bd (F_X10_mostRight N a0 a1) (fun a_34 => z_bd (F_X10_power N 16 a0) (fun a_36 => z_loop (fun kc40 s => F_X10_night_L73x a0 a2 a_32 kc40 s.1 s.2.1 s.2.2) N (a_34, a_36, 0))))
def F_X10_night_J24 (N : Nat) (a0 : Int32) (a1 : Int32) (a2 : Int32) (D3 : z_Dat) : Option ((Int64 × z_Dat) ⊕ (String × z_Dat)) :=
  z_bt (F_X10_demand 0 D3) (fun a_5 => if a1 < 0 then (F_X10_night_J51 N a0 a1 a2 a_5)
  else (if 16 < a1 then (F_X10_night_J51 N a0 a1 a2 a_5)
  else (if a2 < 0 then (F_X10_night_J51 N a0 a1 a2 a_5)
  else (if 1 < a2 then (F_X10_night_J51 N a0 a1 a2 a_5)
  else (F_X10_night_J52x N a0 a1 a2 a_5)))))
def F_X10_night_J23 (N : Nat) (a0 : Int32) (a1 : Int32) (a2 : Int32) (D2 : z_Dat) : Option ((Int64 × z_Dat) ⊕ (String × z_Dat)) :=
  F_X10_night_J24 N a0 a1 a2 D2
def F_X10_night_J24x (N : Nat) (a0 : Int32) (a1 : Int32) (a2 : Int32) (D51 : z_Dat) : Option ((Int64 × z_Dat) ⊕ (String × z_Dat)) :=
  z_bt (F_X10_demand 1 D51) (fun a_53 => if a1 < 0 then (F_X10_night_J51 N a0 a1 a2 a_53)
  else (if 16 < a1 then (F_X10_night_J51 N a0 a1 a2 a_53)
  else (if a2 < 0 then (F_X10_night_J51 N a0 a1 a2 a_53)
  else (if 1 < a2 then (F_X10_night_J51 N a0 a1 a2 a_53)
  else (F_X10_night_J52x N a0 a1 a2 a_53)))))
def F_X10_night (N : Nat) (a0 : Int32) (a1 : Int32) (a2 : Int32) (D : z_Dat) : Option ((Int64 × z_Dat) ⊕ (String × z_Dat)) :=
  if a0 < 1 then (F_X10_night_J23 N a0 a1 a2 D)
  else (if 9 < a0 then (F_X10_night_J23 N a0 a1 a2 D)
  else (if (z_rem a0 2) = 1 then (F_X10_night_J24x N a0 a1 a2 D)
  else (F_X10_night_J23 N a0 a1 a2 D)))
set_option maxRecDepth 100000 in
set_option maxHeartbeats 4000000 in
theorem em_X10_night {l : Launch} {S : List z_Shp} {o : Nat} (hl : l.stackTraces = false) (hW : z_W S o) (N : Nat) (a0 : Int32) (a1 : Int32) (a2 : Int32) (D : z_Dat) : ∀ out, z_ko (z_kTJ S) (F_X10_night N a0 a1 a2 D) out → z_EM l M_X10_night (60, 640, 2, 12) [.ref 0, .int a0, .int a1, .int a2] S D out := by
  have hC := hW.2
  have hs0 : S[0]? = some (12, 15, [some (some 1), some (some 3), some (some 5), some (some 7), some (some 12), some (some 15), some (some 21), some (some 25), some (some 28), some (some 32), some (some 33), some (some o), none, none, none]) := hW.1 0 _ rfl
  refine z_meth hl rfl kp_X10 (Nat.le_of_ble_eq_true rfl) (lv := [some (.ref 0), some (.int a0), some (.int a1), some (.int a2), none, none, none, none, none]) rfl ?_
  unfold F_X10_night
  have hJ_F_X10_night_J52 : ∀ (D8 : z_Dat) , z_F l M_X10_night (60, 640, 2, 12) 1 6 52 [none, some (.int a0), some (.int a1), some (.int a2), none, none, none, none, none] [.int 0, .ref 0] S D8 (z_ko (z_kTJ S)) (F_X10_night_J52 N a0 a1 a2 D8) := by
    intro D8
    unfold F_X10_night_J52
    refine z_cXVJ rfl (As := [.ref 0, .int 0]) (rest := []) (em_X10_demand hl hW 0 D8) (fun o7 h => z_runV 102 1 h rfl kk_X10_102 hs0 kl_10.1 kq_X10_demand rfl (Nat.le_of_ble_eq_true rfl) ⟨Nat.le_of_ble_eq_true rfl, Nat.le_of_ble_eq_true rfl, Nat.le_of_ble_eq_true rfl, Nat.le_of_ble_eq_true rfl⟩ dX10_night_52) (by decide) (by decide) (fun a_10 hz9 => ?_)
    refine z_iload_n (i := 1) (x := a0) dX10_night_55 rfl rfl ?_
    refine z_iload_n (i := 2) (x := a1) dX10_night_56 rfl rfl ?_
    refine z_cRJ (As := [.int a0, .int a1]) (rest := []) (em_X10_mostRight hl N a0 a1 a_10) (fun o7 h => z_runS 305 2 h rfl kk_X10_305 kq_X10_mostRight rfl (Nat.le_of_ble_eq_true rfl) ⟨Nat.le_of_ble_eq_true rfl, Nat.le_of_ble_eq_true rfl, Nat.le_of_ble_eq_true rfl, Nat.le_of_ble_eq_true rfl⟩ dX10_night_57) z_gXJ (fun a_12 hz11 => ?_)
    refine z_lstore (i := 4) (x := a_12) (lv' := [none, some (.int a0), some (.int a1), some (.int a2), some (.long a_12), none, none, none, none]) dX10_night_60 (by decide) rfl rfl ?_
    refine z_bipush (v := 16) dX10_night_62 (by decide) ?_
    refine z_iload_n (i := 1) (x := a0) dX10_night_64 rfl rfl ?_
    refine z_cRJ (As := [.int 16, .int a0]) (rest := []) (em_X10_power hl N 16 a0 a_10) (fun o7 h => z_runS 309 2 h rfl kk_X10_309 kq_X10_power rfl (Nat.le_of_ble_eq_true rfl) ⟨Nat.le_of_ble_eq_true rfl, Nat.le_of_ble_eq_true rfl, Nat.le_of_ble_eq_true rfl, Nat.le_of_ble_eq_true rfl⟩ dX10_night_65) z_gXJ (fun a_14 hz13 => ?_)
    refine z_lstore (i := 6) (x := a_14) (lv' := [none, some (.int a0), some (.int a1), some (.int a2), some (.long a_12), none, some (.long a_14), none, none]) dX10_night_68 (by decide) rfl rfl ?_
    refine z_iconst (v := 0) dX10_night_70 rfl ?_
    refine z_istore (i := 8) (x := 0) (lv' := [none, some (.int a0), some (.int a1), some (.int a2), some (.long a_12), none, some (.long a_14), none, some (.int 0)]) dX10_night_71 (by decide) rfl rfl ?_
    refine z_widen (k := 2) (n := 12) (by decide) (by decide) ?_
    refine z_weak (lv' := [none, some (.int a0), none, some (.int a2), some (.long a_12), none, some (.long a_14), none, some (.int 0)]) ⟨Or.inl rfl, ⟨Or.inr rfl, ⟨Or.inl rfl, ⟨Or.inr rfl, ⟨Or.inr rfl, ⟨Or.inl rfl, ⟨Or.inr rfl, ⟨Or.inl rfl, ⟨Or.inr rfl, trivial⟩⟩⟩⟩⟩⟩⟩⟩⟩ ?_
    refine z_loops (lvOf := fun s : Int64 × Int64 × Int32 => [none, some (.int a0), none, some (.int a2), some (.long s.1), none, some (.long s.2.1), none, some (.int s.2.2)]) (dOf := fun s : Int64 × Int64 × Int32 => a_10) (fun kc18 hkc18 s => ?_) N (a_12, a_14, 0)
    obtain ⟨v15, v16, v17⟩ := s
    show z_F _ _ _ _ _ 73 [none, some (.int a0), none, some (.int a2), some (.long v15), none, some (.long v16), none, some (.int v17)] [] S a_10 _ (F_X10_night_L73 a0 a2 a_10 kc18 v15 v16 v17)
    unfold F_X10_night_L73
    refine z_iload (i := 8) (x := v17) dX10_night_73 rfl ?_
    refine z_iconst (v := 4) dX10_night_75 rfl ?_
    refine z_iload_n (i := 1) (x := a0) dX10_night_76 rfl rfl ?_
    refine z_imul dX10_night_77 ?_
    refine z_icmp_ge 114 dX10_night_78 (by decide) (fun c19 => ?_) (fun c19 => ?_)
    · refine z_iload_n (i := 3) (x := a2) dX10_night_114 rfl rfl ?_
      refine z_if_ne 123 dX10_night_115 (by decide) (fun c20 => ?_) (fun c20 => ?_)
      · refine z_lload (i := 4) (x := v15) dX10_night_118 rfl ?_
        refine z_goto 125 dX10_night_120 (by decide) ?_
        exact z_lreturn dX10_night_125 z_rXJ trivial (by decide) (by decide)
      · refine z_lload (i := 6) (x := v16) dX10_night_123 rfl ?_
        exact z_lreturn dX10_night_125 z_rXJ trivial (by decide) (by decide)
    · refine z_lload (i := 4) (x := v15) dX10_night_81 rfl ?_
      refine z_ldc2 (v := 2) dX10_night_83 kd_X10_312 ?_
      refine z_lremC dX10_night_86 (by decide) ?_
      refine z_lconst (v := 0) dX10_night_87 rfl ?_
      refine z_lcmp dX10_night_88 ?_
      refine z_if_ne 114 dX10_night_89 (by decide) (fun c21 => ?_) (fun c21 => ?_)
      · refine z_lload (i := 4) (x := v15) dX10_night_92 rfl ?_
        refine z_ldc2 (v := 2) dX10_night_94 kd_X10_312 ?_
        refine z_ldivC dX10_night_97 (by decide) ?_
        refine z_topl (fun v22 => ?_)
        refine z_lstore (i := 4) (x := v22) (lv' := [none, some (.int a0), none, some (.int a2), some (.long v22), none, some (.long v16), none, some (.int v17)]) dX10_night_98 (by decide) rfl rfl ?_
        refine z_lload (i := 6) (x := v16) dX10_night_100 rfl ?_
        refine z_ldc2 (v := 2) dX10_night_102 kd_X10_312 ?_
        refine z_ldivC dX10_night_105 (by decide) ?_
        refine z_topl (fun v23 => ?_)
        refine z_lstore (i := 6) (x := v23) (lv' := [none, some (.int a0), none, some (.int a2), some (.long v22), none, some (.long v23), none, some (.int v17)]) dX10_night_106 (by decide) rfl rfl ?_
        refine z_iinc (i := 8) (x := v17) (y := 1) dX10_night_108 rfl (by decide) (by decide) rfl (fun v24 => ?_)
        refine z_goto 73 dX10_night_111 (by decide) ?_
        exact hkc18 (v22, v23, v24)
      · refine z_iload_n (i := 3) (x := a2) dX10_night_114 rfl rfl ?_
        refine z_if_ne 123 dX10_night_115 (by decide) (fun c25 => ?_) (fun c25 => ?_)
        · refine z_lload (i := 4) (x := v15) dX10_night_118 rfl ?_
          refine z_goto 125 dX10_night_120 (by decide) ?_
          exact z_lreturn dX10_night_125 z_rXJ trivial (by decide) (by decide)
        · refine z_lload (i := 6) (x := v16) dX10_night_123 rfl ?_
          exact z_lreturn dX10_night_125 z_rXJ trivial (by decide) (by decide)
  have hJ_F_X10_night_J51 : ∀ (D7 : z_Dat) , z_F l M_X10_night (60, 640, 2, 12) 1 6 51 [none, some (.int a0), some (.int a1), some (.int a2), none, none, none, none, none] [.ref 0] S D7 (z_ko (z_kTJ S)) (F_X10_night_J51 N a0 a1 a2 D7) := by
    intro D7
    unfold F_X10_night_J51
    refine z_iconst (v := 0) dX10_night_51 rfl ?_
    refine z_widen (k := 1) (n := 6) (by decide) (by decide) ?_
    exact hJ_F_X10_night_J52 D7
  have hJ_F_X10_night_J52x : ∀ (D30 : z_Dat) , z_F l M_X10_night (60, 640, 2, 12) 1 6 52 [none, some (.int a0), some (.int a1), some (.int a2), none, none, none, none, none] [.int 1, .ref 0] S D30 (z_ko (z_kTJ S)) (F_X10_night_J52x N a0 a1 a2 D30) := by
    intro D30
    unfold F_X10_night_J52x
    refine z_cXVJ rfl (As := [.ref 0, .int 1]) (rest := []) (em_X10_demand hl hW 1 D30) (fun o7 h => z_runV 102 1 h rfl kk_X10_102 hs0 kl_10.1 kq_X10_demand rfl (Nat.le_of_ble_eq_true rfl) ⟨Nat.le_of_ble_eq_true rfl, Nat.le_of_ble_eq_true rfl, Nat.le_of_ble_eq_true rfl, Nat.le_of_ble_eq_true rfl⟩ dX10_night_52) (by decide) (by decide) (fun a_32 hz31 => ?_)
    refine z_iload_n (i := 1) (x := a0) dX10_night_55 rfl rfl ?_
    refine z_iload_n (i := 2) (x := a1) dX10_night_56 rfl rfl ?_
    refine z_cRJ (As := [.int a0, .int a1]) (rest := []) (em_X10_mostRight hl N a0 a1 a_32) (fun o7 h => z_runS 305 2 h rfl kk_X10_305 kq_X10_mostRight rfl (Nat.le_of_ble_eq_true rfl) ⟨Nat.le_of_ble_eq_true rfl, Nat.le_of_ble_eq_true rfl, Nat.le_of_ble_eq_true rfl, Nat.le_of_ble_eq_true rfl⟩ dX10_night_57) z_gXJ (fun a_34 hz33 => ?_)
    refine z_lstore (i := 4) (x := a_34) (lv' := [none, some (.int a0), some (.int a1), some (.int a2), some (.long a_34), none, none, none, none]) dX10_night_60 (by decide) rfl rfl ?_
    refine z_bipush (v := 16) dX10_night_62 (by decide) ?_
    refine z_iload_n (i := 1) (x := a0) dX10_night_64 rfl rfl ?_
    refine z_cRJ (As := [.int 16, .int a0]) (rest := []) (em_X10_power hl N 16 a0 a_32) (fun o7 h => z_runS 309 2 h rfl kk_X10_309 kq_X10_power rfl (Nat.le_of_ble_eq_true rfl) ⟨Nat.le_of_ble_eq_true rfl, Nat.le_of_ble_eq_true rfl, Nat.le_of_ble_eq_true rfl, Nat.le_of_ble_eq_true rfl⟩ dX10_night_65) z_gXJ (fun a_36 hz35 => ?_)
    refine z_lstore (i := 6) (x := a_36) (lv' := [none, some (.int a0), some (.int a1), some (.int a2), some (.long a_34), none, some (.long a_36), none, none]) dX10_night_68 (by decide) rfl rfl ?_
    refine z_iconst (v := 0) dX10_night_70 rfl ?_
    refine z_istore (i := 8) (x := 0) (lv' := [none, some (.int a0), some (.int a1), some (.int a2), some (.long a_34), none, some (.long a_36), none, some (.int 0)]) dX10_night_71 (by decide) rfl rfl ?_
    refine z_widen (k := 2) (n := 12) (by decide) (by decide) ?_
    refine z_weak (lv' := [none, some (.int a0), none, some (.int a2), some (.long a_34), none, some (.long a_36), none, some (.int 0)]) ⟨Or.inl rfl, ⟨Or.inr rfl, ⟨Or.inl rfl, ⟨Or.inr rfl, ⟨Or.inr rfl, ⟨Or.inl rfl, ⟨Or.inr rfl, ⟨Or.inl rfl, ⟨Or.inr rfl, trivial⟩⟩⟩⟩⟩⟩⟩⟩⟩ ?_
    refine z_loops (lvOf := fun s : Int64 × Int64 × Int32 => [none, some (.int a0), none, some (.int a2), some (.long s.1), none, some (.long s.2.1), none, some (.int s.2.2)]) (dOf := fun s : Int64 × Int64 × Int32 => a_32) (fun kc40 hkc40 s => ?_) N (a_34, a_36, 0)
    obtain ⟨v37, v38, v39⟩ := s
    show z_F _ _ _ _ _ 73 [none, some (.int a0), none, some (.int a2), some (.long v37), none, some (.long v38), none, some (.int v39)] [] S a_32 _ (F_X10_night_L73x a0 a2 a_32 kc40 v37 v38 v39)
    unfold F_X10_night_L73x
    refine z_iload (i := 8) (x := v39) dX10_night_73 rfl ?_
    refine z_iconst (v := 4) dX10_night_75 rfl ?_
    refine z_iload_n (i := 1) (x := a0) dX10_night_76 rfl rfl ?_
    refine z_imul dX10_night_77 ?_
    refine z_icmp_ge 114 dX10_night_78 (by decide) (fun c41 => ?_) (fun c41 => ?_)
    · refine z_iload_n (i := 3) (x := a2) dX10_night_114 rfl rfl ?_
      refine z_if_ne 123 dX10_night_115 (by decide) (fun c42 => ?_) (fun c42 => ?_)
      · refine z_lload (i := 4) (x := v37) dX10_night_118 rfl ?_
        refine z_goto 125 dX10_night_120 (by decide) ?_
        exact z_lreturn dX10_night_125 z_rXJ trivial (by decide) (by decide)
      · refine z_lload (i := 6) (x := v38) dX10_night_123 rfl ?_
        exact z_lreturn dX10_night_125 z_rXJ trivial (by decide) (by decide)
    · refine z_lload (i := 4) (x := v37) dX10_night_81 rfl ?_
      refine z_ldc2 (v := 2) dX10_night_83 kd_X10_312 ?_
      refine z_lremC dX10_night_86 (by decide) ?_
      refine z_lconst (v := 0) dX10_night_87 rfl ?_
      refine z_lcmp dX10_night_88 ?_
      refine z_if_ne 114 dX10_night_89 (by decide) (fun c43 => ?_) (fun c43 => ?_)
      · refine z_lload (i := 4) (x := v37) dX10_night_92 rfl ?_
        refine z_ldc2 (v := 2) dX10_night_94 kd_X10_312 ?_
        refine z_ldivC dX10_night_97 (by decide) ?_
        refine z_topl (fun v44 => ?_)
        refine z_lstore (i := 4) (x := v44) (lv' := [none, some (.int a0), none, some (.int a2), some (.long v44), none, some (.long v38), none, some (.int v39)]) dX10_night_98 (by decide) rfl rfl ?_
        refine z_lload (i := 6) (x := v38) dX10_night_100 rfl ?_
        refine z_ldc2 (v := 2) dX10_night_102 kd_X10_312 ?_
        refine z_ldivC dX10_night_105 (by decide) ?_
        refine z_topl (fun v45 => ?_)
        refine z_lstore (i := 6) (x := v45) (lv' := [none, some (.int a0), none, some (.int a2), some (.long v44), none, some (.long v45), none, some (.int v39)]) dX10_night_106 (by decide) rfl rfl ?_
        refine z_iinc (i := 8) (x := v39) (y := 1) dX10_night_108 rfl (by decide) (by decide) rfl (fun v46 => ?_)
        refine z_goto 73 dX10_night_111 (by decide) ?_
        exact hkc40 (v44, v45, v46)
      · refine z_iload_n (i := 3) (x := a2) dX10_night_114 rfl rfl ?_
        refine z_if_ne 123 dX10_night_115 (by decide) (fun c47 => ?_) (fun c47 => ?_)
        · refine z_lload (i := 4) (x := v37) dX10_night_118 rfl ?_
          refine z_goto 125 dX10_night_120 (by decide) ?_
          exact z_lreturn dX10_night_125 z_rXJ trivial (by decide) (by decide)
        · refine z_lload (i := 6) (x := v38) dX10_night_123 rfl ?_
          exact z_lreturn dX10_night_125 z_rXJ trivial (by decide) (by decide)
  have hJ_F_X10_night_J24 : ∀ (D3 : z_Dat) , z_F l M_X10_night (60, 640, 2, 12) 0 0 24 [some (.ref 0), some (.int a0), some (.int a1), some (.int a2), none, none, none, none, none] [.int 0, .ref 0] S D3 (z_ko (z_kTJ S)) (F_X10_night_J24 N a0 a1 a2 D3) := by
    intro D3
    unfold F_X10_night_J24
    refine z_cXVJ rfl (As := [.ref 0, .int 0]) (rest := []) (em_X10_demand hl hW 0 D3) (fun o7 h => z_runV 102 1 h rfl kk_X10_102 hs0 kl_10.1 kq_X10_demand rfl (Nat.le_of_ble_eq_true rfl) ⟨Nat.le_of_ble_eq_true rfl, Nat.le_of_ble_eq_true rfl, Nat.le_of_ble_eq_true rfl, Nat.le_of_ble_eq_true rfl⟩ dX10_night_24) (by decide) (by decide) (fun a_5 hz4 => ?_)
    refine z_aload_n (i := 0) (x := 0) dX10_night_27 rfl rfl ?_
    refine z_iload_n (i := 2) (x := a1) dX10_night_28 rfl rfl ?_
    refine z_if_lt 51 dX10_night_29 (by decide) (fun c6 => ?_) (fun c6 => ?_)
    · refine z_weak (lv' := [none, some (.int a0), some (.int a1), some (.int a2), none, none, none, none, none]) ⟨Or.inl rfl, ⟨Or.inr rfl, ⟨Or.inr rfl, ⟨Or.inr rfl, ⟨Or.inl rfl, ⟨Or.inl rfl, ⟨Or.inl rfl, ⟨Or.inl rfl, ⟨Or.inl rfl, trivial⟩⟩⟩⟩⟩⟩⟩⟩⟩ ?_
      refine z_widen (k := 1) (n := 6) (by decide) (by decide) ?_
      exact hJ_F_X10_night_J51 a_5
    · refine z_iload_n (i := 2) (x := a1) dX10_night_32 rfl rfl ?_
      refine z_bipush (v := 16) dX10_night_33 (by decide) ?_
      refine z_icmp_gt 51 dX10_night_35 (by decide) (fun c27 => ?_) (fun c27 => ?_)
      · refine z_weak (lv' := [none, some (.int a0), some (.int a1), some (.int a2), none, none, none, none, none]) ⟨Or.inl rfl, ⟨Or.inr rfl, ⟨Or.inr rfl, ⟨Or.inr rfl, ⟨Or.inl rfl, ⟨Or.inl rfl, ⟨Or.inl rfl, ⟨Or.inl rfl, ⟨Or.inl rfl, trivial⟩⟩⟩⟩⟩⟩⟩⟩⟩ ?_
        refine z_widen (k := 1) (n := 6) (by decide) (by decide) ?_
        exact hJ_F_X10_night_J51 a_5
      · refine z_iload_n (i := 3) (x := a2) dX10_night_38 rfl rfl ?_
        refine z_if_lt 51 dX10_night_39 (by decide) (fun c28 => ?_) (fun c28 => ?_)
        · refine z_weak (lv' := [none, some (.int a0), some (.int a1), some (.int a2), none, none, none, none, none]) ⟨Or.inl rfl, ⟨Or.inr rfl, ⟨Or.inr rfl, ⟨Or.inr rfl, ⟨Or.inl rfl, ⟨Or.inl rfl, ⟨Or.inl rfl, ⟨Or.inl rfl, ⟨Or.inl rfl, trivial⟩⟩⟩⟩⟩⟩⟩⟩⟩ ?_
          refine z_widen (k := 1) (n := 6) (by decide) (by decide) ?_
          exact hJ_F_X10_night_J51 a_5
        · refine z_iload_n (i := 3) (x := a2) dX10_night_42 rfl rfl ?_
          refine z_iconst (v := 1) dX10_night_43 rfl ?_
          refine z_icmp_gt 51 dX10_night_44 (by decide) (fun c29 => ?_) (fun c29 => ?_)
          · refine z_weak (lv' := [none, some (.int a0), some (.int a1), some (.int a2), none, none, none, none, none]) ⟨Or.inl rfl, ⟨Or.inr rfl, ⟨Or.inr rfl, ⟨Or.inr rfl, ⟨Or.inl rfl, ⟨Or.inl rfl, ⟨Or.inl rfl, ⟨Or.inl rfl, ⟨Or.inl rfl, trivial⟩⟩⟩⟩⟩⟩⟩⟩⟩ ?_
            refine z_widen (k := 1) (n := 6) (by decide) (by decide) ?_
            exact hJ_F_X10_night_J51 a_5
          · refine z_iconst (v := 1) dX10_night_47 rfl ?_
            refine z_goto 52 dX10_night_48 (by decide) ?_
            refine z_weak (lv' := [none, some (.int a0), some (.int a1), some (.int a2), none, none, none, none, none]) ⟨Or.inl rfl, ⟨Or.inr rfl, ⟨Or.inr rfl, ⟨Or.inr rfl, ⟨Or.inl rfl, ⟨Or.inl rfl, ⟨Or.inl rfl, ⟨Or.inl rfl, ⟨Or.inl rfl, trivial⟩⟩⟩⟩⟩⟩⟩⟩⟩ ?_
            refine z_widen (k := 1) (n := 6) (by decide) (by decide) ?_
            exact hJ_F_X10_night_J52x a_5
  have hJ_F_X10_night_J23 : ∀ (D2 : z_Dat) , z_F l M_X10_night (60, 640, 2, 12) 0 0 23 [some (.ref 0), some (.int a0), some (.int a1), some (.int a2), none, none, none, none, none] [.ref 0] S D2 (z_ko (z_kTJ S)) (F_X10_night_J23 N a0 a1 a2 D2) := by
    intro D2
    unfold F_X10_night_J23
    refine z_iconst (v := 0) dX10_night_23 rfl ?_
    refine z_widen (k := 0) (n := 0) (by decide) (by decide) ?_
    exact hJ_F_X10_night_J24 D2
  have hJ_F_X10_night_J24x : ∀ (D51 : z_Dat) , z_F l M_X10_night (60, 640, 2, 12) 0 0 24 [some (.ref 0), some (.int a0), some (.int a1), some (.int a2), none, none, none, none, none] [.int 1, .ref 0] S D51 (z_ko (z_kTJ S)) (F_X10_night_J24x N a0 a1 a2 D51) := by
    intro D51
    unfold F_X10_night_J24x
    refine z_cXVJ rfl (As := [.ref 0, .int 1]) (rest := []) (em_X10_demand hl hW 1 D51) (fun o7 h => z_runV 102 1 h rfl kk_X10_102 hs0 kl_10.1 kq_X10_demand rfl (Nat.le_of_ble_eq_true rfl) ⟨Nat.le_of_ble_eq_true rfl, Nat.le_of_ble_eq_true rfl, Nat.le_of_ble_eq_true rfl, Nat.le_of_ble_eq_true rfl⟩ dX10_night_24) (by decide) (by decide) (fun a_53 hz52 => ?_)
    refine z_aload_n (i := 0) (x := 0) dX10_night_27 rfl rfl ?_
    refine z_iload_n (i := 2) (x := a1) dX10_night_28 rfl rfl ?_
    refine z_if_lt 51 dX10_night_29 (by decide) (fun c54 => ?_) (fun c54 => ?_)
    · refine z_weak (lv' := [none, some (.int a0), some (.int a1), some (.int a2), none, none, none, none, none]) ⟨Or.inl rfl, ⟨Or.inr rfl, ⟨Or.inr rfl, ⟨Or.inr rfl, ⟨Or.inl rfl, ⟨Or.inl rfl, ⟨Or.inl rfl, ⟨Or.inl rfl, ⟨Or.inl rfl, trivial⟩⟩⟩⟩⟩⟩⟩⟩⟩ ?_
      refine z_widen (k := 1) (n := 6) (by decide) (by decide) ?_
      exact hJ_F_X10_night_J51 a_53
    · refine z_iload_n (i := 2) (x := a1) dX10_night_32 rfl rfl ?_
      refine z_bipush (v := 16) dX10_night_33 (by decide) ?_
      refine z_icmp_gt 51 dX10_night_35 (by decide) (fun c55 => ?_) (fun c55 => ?_)
      · refine z_weak (lv' := [none, some (.int a0), some (.int a1), some (.int a2), none, none, none, none, none]) ⟨Or.inl rfl, ⟨Or.inr rfl, ⟨Or.inr rfl, ⟨Or.inr rfl, ⟨Or.inl rfl, ⟨Or.inl rfl, ⟨Or.inl rfl, ⟨Or.inl rfl, ⟨Or.inl rfl, trivial⟩⟩⟩⟩⟩⟩⟩⟩⟩ ?_
        refine z_widen (k := 1) (n := 6) (by decide) (by decide) ?_
        exact hJ_F_X10_night_J51 a_53
      · refine z_iload_n (i := 3) (x := a2) dX10_night_38 rfl rfl ?_
        refine z_if_lt 51 dX10_night_39 (by decide) (fun c56 => ?_) (fun c56 => ?_)
        · refine z_weak (lv' := [none, some (.int a0), some (.int a1), some (.int a2), none, none, none, none, none]) ⟨Or.inl rfl, ⟨Or.inr rfl, ⟨Or.inr rfl, ⟨Or.inr rfl, ⟨Or.inl rfl, ⟨Or.inl rfl, ⟨Or.inl rfl, ⟨Or.inl rfl, ⟨Or.inl rfl, trivial⟩⟩⟩⟩⟩⟩⟩⟩⟩ ?_
          refine z_widen (k := 1) (n := 6) (by decide) (by decide) ?_
          exact hJ_F_X10_night_J51 a_53
        · refine z_iload_n (i := 3) (x := a2) dX10_night_42 rfl rfl ?_
          refine z_iconst (v := 1) dX10_night_43 rfl ?_
          refine z_icmp_gt 51 dX10_night_44 (by decide) (fun c57 => ?_) (fun c57 => ?_)
          · refine z_weak (lv' := [none, some (.int a0), some (.int a1), some (.int a2), none, none, none, none, none]) ⟨Or.inl rfl, ⟨Or.inr rfl, ⟨Or.inr rfl, ⟨Or.inr rfl, ⟨Or.inl rfl, ⟨Or.inl rfl, ⟨Or.inl rfl, ⟨Or.inl rfl, ⟨Or.inl rfl, trivial⟩⟩⟩⟩⟩⟩⟩⟩⟩ ?_
            refine z_widen (k := 1) (n := 6) (by decide) (by decide) ?_
            exact hJ_F_X10_night_J51 a_53
          · refine z_iconst (v := 1) dX10_night_47 rfl ?_
            refine z_goto 52 dX10_night_48 (by decide) ?_
            refine z_weak (lv' := [none, some (.int a0), some (.int a1), some (.int a2), none, none, none, none, none]) ⟨Or.inl rfl, ⟨Or.inr rfl, ⟨Or.inr rfl, ⟨Or.inr rfl, ⟨Or.inl rfl, ⟨Or.inl rfl, ⟨Or.inl rfl, ⟨Or.inl rfl, ⟨Or.inl rfl, trivial⟩⟩⟩⟩⟩⟩⟩⟩⟩ ?_
            refine z_widen (k := 1) (n := 6) (by decide) (by decide) ?_
            exact hJ_F_X10_night_J52x a_53
  refine z_aload_n (i := 0) (x := 0) dX10_night_0 rfl rfl ?_
  refine z_iload_n (i := 1) (x := a0) dX10_night_1 rfl rfl ?_
  refine z_iconst (v := 1) dX10_night_2 rfl ?_
  refine z_icmp_lt 23 dX10_night_3 (by decide) (fun c1 => ?_) (fun c1 => ?_)
  · refine z_widen (k := 0) (n := 0) (by decide) (by decide) ?_
    exact hJ_F_X10_night_J23 D
  · refine z_iload_n (i := 1) (x := a0) dX10_night_6 rfl rfl ?_
    refine z_bipush (v := 9) dX10_night_7 (by decide) ?_
    refine z_icmp_gt 23 dX10_night_9 (by decide) (fun c49 => ?_) (fun c49 => ?_)
    · refine z_widen (k := 0) (n := 0) (by decide) (by decide) ?_
      exact hJ_F_X10_night_J23 D
    · refine z_iload_n (i := 1) (x := a0) dX10_night_12 rfl rfl ?_
      refine z_iconst (v := 2) dX10_night_13 rfl ?_
      refine z_iremC dX10_night_14 (by decide) ?_
      refine z_iconst (v := 1) dX10_night_15 rfl ?_
      refine z_icmp_ne 23 dX10_night_16 (by decide) (fun c50 => ?_) (fun c50 => ?_)
      · refine z_iconst (v := 1) dX10_night_19 rfl ?_
        refine z_goto 24 dX10_night_20 (by decide) ?_
        refine z_widen (k := 0) (n := 0) (by decide) (by decide) ?_
        exact hJ_F_X10_night_J24x D
      · refine z_widen (k := 0) (n := 0) (by decide) (by decide) ?_
        exact hJ_F_X10_night_J23 D

def F_X10_preferring_L5 (o : Nat) (a0 : Int32) (a1 : Int32) (D : z_Dat) (kc3 : ((Int32 × Int32) → Option Int32)) (v1 : Int32) (v2 : Int32) : Option Int32 :=
  if (D o 6) ≤ v2 then (some v1)
  else (z_let (F_X9_has 3 v2 0 D) (fun v6 => if (F_X10_apart v6 a1) ≤ (F_X10_apart v6 a0) then (z_let (v2 + 1) (fun v10 => kc3 (v1, v10)))
  else (z_let (v1 + 1) (fun v11 => z_let (v2 + 1) (fun v12 => kc3 (v11, v12))))))
def F_X10_preferring (N : Nat) (o : Nat) (a0 : Int32) (a1 : Int32) (D : z_Dat) : Option Int32 :=
  z_loop (fun kc3 s => F_X10_preferring_L5 o a0 a1 D kc3 s.1 s.2) N (0, 0)
set_option maxRecDepth 100000 in
set_option maxHeartbeats 4000000 in
theorem em_X10_preferring {l : Launch} {S : List z_Shp} {o : Nat} (hl : l.stackTraces = false) (hW : z_W S o) (N : Nat) (a0 : Int32) (a1 : Int32) (D : z_Dat) : ∀ out, z_ko (z_kR S D) (F_X10_preferring N o a0 a1 D) out → z_EM l M_X10_preferring (40, 640, 0, 0) [.ref 0, .int a0, .int a1] S D out := by
  have hC := hW.2
  have hs0 : S[0]? = some (12, 15, [some (some 1), some (some 3), some (some 5), some (some 7), some (some 12), some (some 15), some (some 21), some (some 25), some (some 28), some (some 32), some (some 33), some (some o), none, none, none]) := hW.1 0 _ rfl
  have hs3 : S[3]? = some (11, 1, [some (some 4)]) := hW.1 3 _ rfl
  have hs4 : S[4]? = some (0, 44, []) := hW.1 4 _ rfl
  refine z_meth hl rfl kp_X10 (Nat.le_of_ble_eq_true rfl) (lv := [some (.ref 0), some (.int a0), some (.int a1), none, none, none]) rfl ?_
  unfold F_X10_preferring
  refine z_iconst (v := 0) dX10_preferring_0 rfl ?_
  refine z_istore_n (i := 3) (x := 0) (lv' := [some (.ref 0), some (.int a0), some (.int a1), some (.int 0), none, none]) dX10_preferring_1 rfl (by decide) rfl rfl ?_
  refine z_iconst (v := 0) dX10_preferring_2 rfl ?_
  refine z_istore (i := 4) (x := 0) (lv' := [some (.ref 0), some (.int a0), some (.int a1), some (.int 0), some (.int 0), none]) dX10_preferring_3 (by decide) rfl rfl ?_
  refine z_loops (lvOf := fun s : Int32 × Int32 => [some (.ref 0), some (.int a0), some (.int a1), some (.int s.1), some (.int s.2), none]) (dOf := fun s : Int32 × Int32 => D) (fun kc3 hkc3 s => ?_) N (0, 0)
  obtain ⟨v1, v2⟩ := s
  show z_F _ _ _ _ _ 5 [some (.ref 0), some (.int a0), some (.int a1), some (.int v1), some (.int v2), none] [] S D _ (F_X10_preferring_L5 o a0 a1 D kc3 v1 v2)
  unfold F_X10_preferring_L5
  refine z_iload (i := 4) (x := v2) dX10_preferring_5 rfl ?_
  refine z_aload_n (i := 0) (x := 0) dX10_preferring_7 rfl rfl ?_
  refine z_getR (j := 11) dX10_preferring_8 kl_10 hs0 (by decide) rfl rfl kf_X10_82 ?_
  refine z_getIN (j := 6) dX10_preferring_11 kl_1 hC.1 (by decide) rfl rfl kf_X10_134 ?_
  refine z_icmp_ge 53 dX10_preferring_14 (by decide) (fun c4 => ?_) (fun c4 => ?_)
  · refine z_iload_n (i := 3) (x := v1) dX10_preferring_53 rfl rfl ?_
    exact z_ireturn dX10_preferring_54 z_rR rfl (by decide) (by decide)
  · refine z_aload_n (i := 0) (x := 0) dX10_preferring_17 rfl rfl ?_
    refine z_getR (j := 1) dX10_preferring_18 kl_10 hs0 (by decide) rfl rfl kf_X10_19 ?_
    refine z_iload (i := 4) (x := v2) dX10_preferring_21 rfl ?_
    refine z_iconst (v := 0) dX10_preferring_23 rfl ?_
    refine z_cP (As := [.ref 3, .int v2, .int 0]) (rest := []) (em_X9_has hl ⟨hs3, hs4⟩ v2 0 D) (fun o7 h => z_runV 216 2 h rfl kk_X10_216 hs3 kl_9.1 kq_X9_has rfl (Nat.le_of_ble_eq_true rfl) ⟨Nat.le_of_ble_eq_true rfl, Nat.le_of_ble_eq_true rfl, Nat.le_of_ble_eq_true rfl, Nat.le_of_ble_eq_true rfl⟩ dX10_preferring_24) z_gR (fun hz5 => ?_)
    refine z_topi (fun v6 => ?_)
    refine z_istore (i := 5) (x := v6) (lv' := [some (.ref 0), some (.int a0), some (.int a1), some (.int v1), some (.int v2), some (.int v6)]) dX10_preferring_27 (by decide) rfl rfl ?_
    refine z_iload (i := 5) (x := v6) dX10_preferring_29 rfl ?_
    refine z_iload_n (i := 1) (x := a0) dX10_preferring_31 rfl rfl ?_
    refine z_cP (As := [.int v6, .int a0]) (rest := []) (em_X10_apart hl v6 a0 D) (fun o7 h => z_runS 239 2 h rfl kk_X10_239 kq_X10_apart rfl (Nat.le_of_ble_eq_true rfl) ⟨Nat.le_of_ble_eq_true rfl, Nat.le_of_ble_eq_true rfl, Nat.le_of_ble_eq_true rfl, Nat.le_of_ble_eq_true rfl⟩ dX10_preferring_32) z_gR (fun hz7 => ?_)
    refine z_iload (i := 5) (x := v6) dX10_preferring_35 rfl ?_
    refine z_iload_n (i := 2) (x := a1) dX10_preferring_37 rfl rfl ?_
    refine z_cP (As := [.int v6, .int a1]) (rest := [.int (F_X10_apart v6 a0)]) (em_X10_apart hl v6 a1 D) (fun o7 h => z_runS 239 2 h rfl kk_X10_239 kq_X10_apart rfl (Nat.le_of_ble_eq_true rfl) ⟨Nat.le_of_ble_eq_true rfl, Nat.le_of_ble_eq_true rfl, Nat.le_of_ble_eq_true rfl, Nat.le_of_ble_eq_true rfl⟩ dX10_preferring_38) z_gR (fun hz8 => ?_)
    refine z_icmp_ge 47 dX10_preferring_41 (by decide) (fun c9 => ?_) (fun c9 => ?_)
    · refine z_iinc (i := 4) (x := v2) (y := 1) dX10_preferring_47 rfl (by decide) (by decide) rfl (fun v10 => ?_)
      refine z_goto 5 dX10_preferring_50 (by decide) ?_
      refine z_weak (lv' := [some (.ref 0), some (.int a0), some (.int a1), some (.int v1), some (.int v10), none]) ⟨Or.inr rfl, ⟨Or.inr rfl, ⟨Or.inr rfl, ⟨Or.inr rfl, ⟨Or.inr rfl, ⟨Or.inl rfl, trivial⟩⟩⟩⟩⟩⟩ ?_
      exact hkc3 (v1, v10)
    · refine z_iinc (i := 3) (x := v1) (y := 1) dX10_preferring_44 rfl (by decide) (by decide) rfl (fun v11 => ?_)
      refine z_iinc (i := 4) (x := v2) (y := 1) dX10_preferring_47 rfl (by decide) (by decide) rfl (fun v12 => ?_)
      refine z_goto 5 dX10_preferring_50 (by decide) ?_
      refine z_weak (lv' := [some (.ref 0), some (.int a0), some (.int a1), some (.int v11), some (.int v12), none]) ⟨Or.inr rfl, ⟨Or.inr rfl, ⟨Or.inr rfl, ⟨Or.inr rfl, ⟨Or.inr rfl, ⟨Or.inl rfl, trivial⟩⟩⟩⟩⟩⟩ ?_
      exact hkc3 (v11, v12)

def F_X10_countGoers_L15 (N : Nat) (o : Nat) (kc3 : ((Int32 × z_Dat) → Option z_Dat)) (v1 : Int32) (kc7 : ((Int32 × z_Dat) → Option z_Dat)) (v5 : Int32) (D6 : z_Dat) : Option z_Dat :=
  if (D6 o 5) ≤ v5 then (z_let (v1 + 1) (fun v9 => kc3 (v9, D6)))
  else (z_bd (F_X10_preferring N o (F_X1_vatOf o v1 D6) (F_X1_vatOf o v5 D6) D6) (fun a_13 => z_let (F_X10_put 33 36 ((v1 * 6) + v5) a_13 D6) (fun a_15 => z_let (v5 + 1) (fun v16 => kc7 (v16, a_15)))))
def F_X10_countGoers_L2 (N : Nat) (o : Nat) (kc3 : ((Int32 × z_Dat) → Option z_Dat)) (v1 : Int32) (D2 : z_Dat) : Option z_Dat :=
  if (D2 o 5) ≤ v1 then (some D2)
  else (z_loop (fun kc7 s => F_X10_countGoers_L15 N o kc3 v1 kc7 s.1 s.2) N (0, D2))
def F_X10_countGoers (N : Nat) (o : Nat) (D : z_Dat) : Option z_Dat :=
  z_loop (fun kc3 s => F_X10_countGoers_L2 N o kc3 s.1 s.2) N (0, D)
set_option maxRecDepth 100000 in
set_option maxHeartbeats 4000000 in
theorem em_X10_countGoers {l : Launch} {S : List z_Shp} {o : Nat} (hl : l.stackTraces = false) (hW : z_W S o) (N : Nat) (D : z_Dat) : ∀ out, z_ko (z_kV S) (F_X10_countGoers N o D) out → z_EM l M_X10_countGoers (50, 700, 0, 0) [.ref 0] S D out := by
  have hC := hW.2
  have hs0 : S[0]? = some (12, 15, [some (some 1), some (some 3), some (some 5), some (some 7), some (some 12), some (some 15), some (some 21), some (some 25), some (some 28), some (some 32), some (some 33), some (some o), none, none, none]) := hW.1 0 _ rfl
  have hs33 : S[33]? = some (0, 36, []) := hW.1 33 _ rfl
  refine z_meth hl rfl kp_X10 (Nat.le_of_ble_eq_true rfl) (lv := [some (.ref 0), none, none, none]) rfl ?_
  unfold F_X10_countGoers
  refine z_iconst (v := 0) dX10_countGoers_0 rfl ?_
  refine z_istore_n (i := 1) (x := 0) (lv' := [some (.ref 0), some (.int 0), none, none]) dX10_countGoers_1 rfl (by decide) rfl rfl ?_
  refine z_loops (lvOf := fun s : Int32 × z_Dat => [some (.ref 0), some (.int s.1), none, none]) (dOf := fun s : Int32 × z_Dat => s.2) (fun kc3 hkc3 s => ?_) N (0, D)
  obtain ⟨v1, D2⟩ := s
  show z_F _ _ _ _ _ 2 [some (.ref 0), some (.int v1), none, none] [] S D2 _ (F_X10_countGoers_L2 N o kc3 v1 D2)
  unfold F_X10_countGoers_L2
  refine z_iload_n (i := 1) (x := v1) dX10_countGoers_2 rfl rfl ?_
  refine z_aload_n (i := 0) (x := 0) dX10_countGoers_3 rfl rfl ?_
  refine z_getR (j := 11) dX10_countGoers_4 kl_10 hs0 (by decide) rfl rfl kf_X10_82 ?_
  refine z_getIN (j := 5) dX10_countGoers_7 kl_1 hC.1 (by decide) rfl rfl kf_X10_168 ?_
  refine z_icmp_ge 73 dX10_countGoers_10 (by decide) (fun c4 => ?_) (fun c4 => ?_)
  · exact z_vreturn dX10_countGoers_73 z_rWV trivial (by decide) (by decide)
  · refine z_iconst (v := 0) dX10_countGoers_13 rfl ?_
    refine z_istore_n (i := 2) (x := 0) (lv' := [some (.ref 0), some (.int v1), some (.int 0), none]) dX10_countGoers_14 rfl (by decide) rfl rfl ?_
    refine z_loops (lvOf := fun s : Int32 × z_Dat => [some (.ref 0), some (.int v1), some (.int s.1), none]) (dOf := fun s : Int32 × z_Dat => s.2) (fun kc7 hkc7 s => ?_) N (0, D2)
    obtain ⟨v5, D6⟩ := s
    show z_F _ _ _ _ _ 15 [some (.ref 0), some (.int v1), some (.int v5), none] [] S D6 _ (F_X10_countGoers_L15 N o kc3 v1 kc7 v5 D6)
    unfold F_X10_countGoers_L15
    refine z_iload_n (i := 2) (x := v5) dX10_countGoers_15 rfl rfl ?_
    refine z_aload_n (i := 0) (x := 0) dX10_countGoers_16 rfl rfl ?_
    refine z_getR (j := 11) dX10_countGoers_17 kl_10 hs0 (by decide) rfl rfl kf_X10_82 ?_
    refine z_getIN (j := 5) dX10_countGoers_20 kl_1 hC.1 (by decide) rfl rfl kf_X10_168 ?_
    refine z_icmp_ge 67 dX10_countGoers_23 (by decide) (fun c8 => ?_) (fun c8 => ?_)
    · refine z_iinc (i := 1) (x := v1) (y := 1) dX10_countGoers_67 rfl (by decide) (by decide) rfl (fun v9 => ?_)
      refine z_goto 2 dX10_countGoers_70 (by decide) ?_
      refine z_weak (lv' := [some (.ref 0), some (.int v9), none, none]) ⟨Or.inr rfl, ⟨Or.inr rfl, ⟨Or.inl rfl, ⟨Or.inl rfl, trivial⟩⟩⟩⟩ ?_
      exact hkc3 (v9, D6)
    · refine z_aload_n (i := 0) (x := 0) dX10_countGoers_26 rfl rfl ?_
      refine z_aload_n (i := 0) (x := 0) dX10_countGoers_27 rfl rfl ?_
      refine z_getR (j := 11) dX10_countGoers_28 kl_10 hs0 (by decide) rfl rfl kf_X10_82 ?_
      refine z_iload_n (i := 1) (x := v1) dX10_countGoers_31 rfl rfl ?_
      refine z_cP (As := [.ref o, .int v1]) (rest := [.ref 0]) (em_X1_vatOf hl hC v1 D6) (fun o7 h => z_runV 198 1 h rfl kk_X10_198 hC.1 kl_1.1 kq_X1_vatOf rfl (Nat.le_of_ble_eq_true rfl) ⟨Nat.le_of_ble_eq_true rfl, Nat.le_of_ble_eq_true rfl, Nat.le_of_ble_eq_true rfl, Nat.le_of_ble_eq_true rfl⟩ dX10_countGoers_32) z_gWV (fun hz10 => ?_)
      refine z_aload_n (i := 0) (x := 0) dX10_countGoers_35 rfl rfl ?_
      refine z_getR (j := 11) dX10_countGoers_36 kl_10 hs0 (by decide) rfl rfl kf_X10_82 ?_
      refine z_iload_n (i := 2) (x := v5) dX10_countGoers_39 rfl rfl ?_
      refine z_cP (As := [.ref o, .int v5]) (rest := [.int (F_X1_vatOf o v1 D6), .ref 0]) (em_X1_vatOf hl hC v5 D6) (fun o7 h => z_runV 198 1 h rfl kk_X10_198 hC.1 kl_1.1 kq_X1_vatOf rfl (Nat.le_of_ble_eq_true rfl) ⟨Nat.le_of_ble_eq_true rfl, Nat.le_of_ble_eq_true rfl, Nat.le_of_ble_eq_true rfl, Nat.le_of_ble_eq_true rfl⟩ dX10_countGoers_40) z_gWV (fun hz11 => ?_)
      refine z_cR (As := [.ref 0, .int (F_X1_vatOf o v1 D6), .int (F_X1_vatOf o v5 D6)]) (rest := []) (em_X10_preferring hl hW N (F_X1_vatOf o v1 D6) (F_X1_vatOf o v5 D6) D6) (fun o7 h => z_runV 323 2 h rfl kk_X10_323 hs0 kl_10.1 kq_X10_preferring rfl (Nat.le_of_ble_eq_true rfl) ⟨Nat.le_of_ble_eq_true rfl, Nat.le_of_ble_eq_true rfl, Nat.le_of_ble_eq_true rfl, Nat.le_of_ble_eq_true rfl⟩ dX10_countGoers_43) z_gWV (fun a_13 hz12 => ?_)
      refine z_istore_n (i := 3) (x := a_13) (lv' := [some (.ref 0), some (.int v1), some (.int v5), some (.int a_13)]) dX10_countGoers_46 rfl (by decide) rfl rfl ?_
      refine z_aload_n (i := 0) (x := 0) dX10_countGoers_47 rfl rfl ?_
      refine z_getR (j := 10) dX10_countGoers_48 kl_10 hs0 (by decide) rfl rfl kf_X10_75 ?_
      refine z_iload_n (i := 1) (x := v1) dX10_countGoers_51 rfl rfl ?_
      refine z_bipush (v := 6) dX10_countGoers_52 (by decide) ?_
      refine z_imul dX10_countGoers_54 ?_
      refine z_iload_n (i := 2) (x := v5) dX10_countGoers_55 rfl rfl ?_
      refine z_iadd dX10_countGoers_56 ?_
      refine z_iload_n (i := 3) (x := a_13) dX10_countGoers_57 rfl rfl ?_
      refine z_cTV (As := [.ref 33, .int ((v1 * 6) + v5), .int a_13]) (rest := []) (em_X10_put (n0 := 36) hl hs33 (by decide) ((v1 * 6) + v5) a_13 D6) (fun o7 h => z_runS 371 3 h rfl kk_X10_371 kq_X10_put rfl (Nat.le_of_ble_eq_true rfl) ⟨Nat.le_of_ble_eq_true rfl, Nat.le_of_ble_eq_true rfl, Nat.le_of_ble_eq_true rfl, Nat.le_of_ble_eq_true rfl⟩ dX10_countGoers_58) z_gWV (fun a_15 hz14 => ?_)
      refine z_iinc (i := 2) (x := v5) (y := 1) dX10_countGoers_61 rfl (by decide) (by decide) rfl (fun v16 => ?_)
      refine z_goto 15 dX10_countGoers_64 (by decide) ?_
      refine z_weak (lv' := [some (.ref 0), some (.int v1), some (.int v16), none]) ⟨Or.inr rfl, ⟨Or.inr rfl, ⟨Or.inr rfl, ⟨Or.inl rfl, trivial⟩⟩⟩⟩ ?_
      exact hkc7 (v16, a_15)

def F_X10_goersTo (a0 : Int32) (a1 : Int32) (D : z_Dat) : Int32 :=
  F_X10_at 33 36 ((a0 * 6) + a1) D
set_option maxRecDepth 100000 in
set_option maxHeartbeats 4000000 in
theorem em_X10_goersTo {l : Launch} {S : List z_Shp} {o : Nat} (hl : l.stackTraces = false) (hW : z_W S o) (a0 : Int32) (a1 : Int32) (D : z_Dat) : ∀ out, z_kt (z_kR S D) (F_X10_goersTo a0 a1 D) out → z_EM l M_X10_goersTo (30, 580, 0, 0) [.ref 0, .int a0, .int a1] S D out := by
  have hC := hW.2
  have hs0 : S[0]? = some (12, 15, [some (some 1), some (some 3), some (some 5), some (some 7), some (some 12), some (some 15), some (some 21), some (some 25), some (some 28), some (some 32), some (some 33), some (some o), none, none, none]) := hW.1 0 _ rfl
  have hs33 : S[33]? = some (0, 36, []) := hW.1 33 _ rfl
  refine z_meth hl rfl kp_X10 (Nat.le_of_ble_eq_true rfl) (lv := [some (.ref 0), some (.int a0), some (.int a1)]) rfl ?_
  unfold F_X10_goersTo
  refine z_aload_n (i := 0) (x := 0) dX10_goersTo_0 rfl rfl ?_
  refine z_getR (j := 10) dX10_goersTo_1 kl_10 hs0 (by decide) rfl rfl kf_X10_75 ?_
  refine z_iload_n (i := 1) (x := a0) dX10_goersTo_4 rfl rfl ?_
  refine z_bipush (v := 6) dX10_goersTo_5 (by decide) ?_
  refine z_imul dX10_goersTo_7 ?_
  refine z_iload_n (i := 2) (x := a1) dX10_goersTo_8 rfl rfl ?_
  refine z_iadd dX10_goersTo_9 ?_
  refine z_cP (As := [.ref 33, .int ((a0 * 6) + a1)]) (rest := []) (em_X10_at (n0 := 36) hl hs33 (by decide) ((a0 * 6) + a1) D) (fun o7 h => z_runS 375 2 h rfl kk_X10_375 kq_X10_at rfl (Nat.le_of_ble_eq_true rfl) ⟨Nat.le_of_ble_eq_true rfl, Nat.le_of_ble_eq_true rfl, Nat.le_of_ble_eq_true rfl, Nat.le_of_ble_eq_true rfl⟩ dX10_goersTo_10) z_gP (fun hz1 => ?_)
  exact z_ireturn dX10_goersTo_13 z_rP rfl (by decide) (by decide)

def F_X10_restsAt_L2 (o : Nat) (a0 : Int32) (a1 : Int32) (D : z_Dat) (kc2 : (Int32 → Option Int32)) (v1 : Int32) : Option Int32 :=
  if (D o 5) ≤ v1 then (some 1)
  else (if (F_X10_goersTo a0 a1 D) < (F_X10_goersTo v1 a1 D) then (some 0)
  else (if (F_X10_goersTo v1 a0 D) ≤ (F_X10_goersTo a1 a0 D) then (z_let (v1 + 1) (fun v10 => kc2 v10))
  else (some 0)))
def F_X10_restsAt (N : Nat) (o : Nat) (a0 : Int32) (a1 : Int32) (D : z_Dat) : Option Int32 :=
  z_loop (fun kc2 s => F_X10_restsAt_L2 o a0 a1 D kc2 s) N 0
set_option maxRecDepth 100000 in
set_option maxHeartbeats 4000000 in
theorem em_X10_restsAt {l : Launch} {S : List z_Shp} {o : Nat} (hl : l.stackTraces = false) (hW : z_W S o) (N : Nat) (a0 : Int32) (a1 : Int32) (D : z_Dat) : ∀ out, z_ko (z_kR S D) (F_X10_restsAt N o a0 a1 D) out → z_EM l M_X10_restsAt (40, 640, 0, 0) [.ref 0, .int a0, .int a1] S D out := by
  have hC := hW.2
  have hs0 : S[0]? = some (12, 15, [some (some 1), some (some 3), some (some 5), some (some 7), some (some 12), some (some 15), some (some 21), some (some 25), some (some 28), some (some 32), some (some 33), some (some o), none, none, none]) := hW.1 0 _ rfl
  refine z_meth hl rfl kp_X10 (Nat.le_of_ble_eq_true rfl) (lv := [some (.ref 0), some (.int a0), some (.int a1), none]) rfl ?_
  unfold F_X10_restsAt
  refine z_iconst (v := 0) dX10_restsAt_0 rfl ?_
  refine z_istore_n (i := 3) (x := 0) (lv' := [some (.ref 0), some (.int a0), some (.int a1), some (.int 0)]) dX10_restsAt_1 rfl (by decide) rfl rfl ?_
  refine z_loops (lvOf := fun s : Int32 => [some (.ref 0), some (.int a0), some (.int a1), some (.int s)]) (dOf := fun s : Int32 => D) (fun kc2 hkc2 s => ?_) N 0
  obtain ⟨v1, hq⟩ : ∃ z, z = s := ⟨_, rfl⟩
  subst hq
  show z_F _ _ _ _ _ 2 [some (.ref 0), some (.int a0), some (.int a1), some (.int v1)] [] S D _ (F_X10_restsAt_L2 o a0 a1 D kc2 v1)
  unfold F_X10_restsAt_L2
  refine z_iload_n (i := 3) (x := v1) dX10_restsAt_2 rfl rfl ?_
  refine z_aload_n (i := 0) (x := 0) dX10_restsAt_3 rfl rfl ?_
  refine z_getR (j := 11) dX10_restsAt_4 kl_10 hs0 (by decide) rfl rfl kf_X10_82 ?_
  refine z_getIN (j := 5) dX10_restsAt_7 kl_1 hC.1 (by decide) rfl rfl kf_X10_168 ?_
  refine z_icmp_ge 51 dX10_restsAt_10 (by decide) (fun c3 => ?_) (fun c3 => ?_)
  · refine z_iconst (v := 1) dX10_restsAt_51 rfl ?_
    exact z_ireturn dX10_restsAt_52 z_rR rfl (by decide) (by decide)
  · refine z_aload_n (i := 0) (x := 0) dX10_restsAt_13 rfl rfl ?_
    refine z_iload_n (i := 3) (x := v1) dX10_restsAt_14 rfl rfl ?_
    refine z_iload_n (i := 2) (x := a1) dX10_restsAt_15 rfl rfl ?_
    refine z_cP (As := [.ref 0, .int v1, .int a1]) (rest := []) (em_X10_goersTo hl hW v1 a1 D) (fun o7 h => z_runV 320 2 h rfl kk_X10_320 hs0 kl_10.1 kq_X10_goersTo rfl (Nat.le_of_ble_eq_true rfl) ⟨Nat.le_of_ble_eq_true rfl, Nat.le_of_ble_eq_true rfl, Nat.le_of_ble_eq_true rfl, Nat.le_of_ble_eq_true rfl⟩ dX10_restsAt_16) z_gR (fun hz4 => ?_)
    refine z_aload_n (i := 0) (x := 0) dX10_restsAt_19 rfl rfl ?_
    refine z_iload_n (i := 1) (x := a0) dX10_restsAt_20 rfl rfl ?_
    refine z_iload_n (i := 2) (x := a1) dX10_restsAt_21 rfl rfl ?_
    refine z_cP (As := [.ref 0, .int a0, .int a1]) (rest := [.int (F_X10_goersTo v1 a1 D)]) (em_X10_goersTo hl hW a0 a1 D) (fun o7 h => z_runV 320 2 h rfl kk_X10_320 hs0 kl_10.1 kq_X10_goersTo rfl (Nat.le_of_ble_eq_true rfl) ⟨Nat.le_of_ble_eq_true rfl, Nat.le_of_ble_eq_true rfl, Nat.le_of_ble_eq_true rfl, Nat.le_of_ble_eq_true rfl⟩ dX10_restsAt_22) z_gR (fun hz5 => ?_)
    refine z_icmp_gt 43 dX10_restsAt_25 (by decide) (fun c6 => ?_) (fun c6 => ?_)
    · refine z_iconst (v := 0) dX10_restsAt_43 rfl ?_
      exact z_ireturn dX10_restsAt_44 z_rR rfl (by decide) (by decide)
    · refine z_aload_n (i := 0) (x := 0) dX10_restsAt_28 rfl rfl ?_
      refine z_iload_n (i := 3) (x := v1) dX10_restsAt_29 rfl rfl ?_
      refine z_iload_n (i := 1) (x := a0) dX10_restsAt_30 rfl rfl ?_
      refine z_cP (As := [.ref 0, .int v1, .int a0]) (rest := []) (em_X10_goersTo hl hW v1 a0 D) (fun o7 h => z_runV 320 2 h rfl kk_X10_320 hs0 kl_10.1 kq_X10_goersTo rfl (Nat.le_of_ble_eq_true rfl) ⟨Nat.le_of_ble_eq_true rfl, Nat.le_of_ble_eq_true rfl, Nat.le_of_ble_eq_true rfl, Nat.le_of_ble_eq_true rfl⟩ dX10_restsAt_31) z_gR (fun hz7 => ?_)
      refine z_aload_n (i := 0) (x := 0) dX10_restsAt_34 rfl rfl ?_
      refine z_iload_n (i := 2) (x := a1) dX10_restsAt_35 rfl rfl ?_
      refine z_iload_n (i := 1) (x := a0) dX10_restsAt_36 rfl rfl ?_
      refine z_cP (As := [.ref 0, .int a1, .int a0]) (rest := [.int (F_X10_goersTo v1 a0 D)]) (em_X10_goersTo hl hW a1 a0 D) (fun o7 h => z_runV 320 2 h rfl kk_X10_320 hs0 kl_10.1 kq_X10_goersTo rfl (Nat.le_of_ble_eq_true rfl) ⟨Nat.le_of_ble_eq_true rfl, Nat.le_of_ble_eq_true rfl, Nat.le_of_ble_eq_true rfl, Nat.le_of_ble_eq_true rfl⟩ dX10_restsAt_37) z_gR (fun hz8 => ?_)
      refine z_icmp_le 45 dX10_restsAt_40 (by decide) (fun c9 => ?_) (fun c9 => ?_)
      · refine z_iinc (i := 3) (x := v1) (y := 1) dX10_restsAt_45 rfl (by decide) (by decide) rfl (fun v10 => ?_)
        refine z_goto 2 dX10_restsAt_48 (by decide) ?_
        exact hkc2 v10
      · refine z_iconst (v := 0) dX10_restsAt_43 rfl ?_
        exact z_ireturn dX10_restsAt_44 z_rR rfl (by decide) (by decide)

def F_X10_guilds_L47 (N : Nat) (o : Nat) (kc12 : ((Int32 × Int32 × Int32 × Int32) → Option ((Int32 × z_Dat) ⊕ (String × z_Dat)))) (a_7 : z_Dat) (v11 : Int32) (kc20 : ((Int32 × Int32 × Int32 × Int32) → Option ((Int32 × z_Dat) ⊕ (String × z_Dat)))) (v16 : Int32) (v17 : Int32) (v18 : Int32) (v19 : Int32) : Option ((Int32 × z_Dat) ⊕ (String × z_Dat)) :=
  if (a_7 o 5) ≤ v19 then (z_let (v11 + 1) (fun v22 => kc12 (v16, v17, v18, v22)))
  else (z_bd (F_X10_restsAt N o v11 v19 a_7) (fun a_24 => if a_24 = 0 then (z_let (v19 + 1) (fun v26 => kc20 (v16, v17, v18, v26)))
  else (if v16 = 0 then (z_let ((10 * v11) + v19) (fun v28 => z_let ((F_X10_goersTo v11 v19 a_7) + (F_X10_goersTo v19 v11 a_7)) (fun v31 => z_let (v16 + 1) (fun v32 => z_let (v19 + 1) (fun v33 => kc20 (v32, v28, v31, v33))))))
  else (z_let (v16 + 1) (fun v34 => z_let (v19 + 1) (fun v35 => kc20 (v34, v17, v18, v35)))))))
def F_X10_guilds_L32 (N : Nat) (o : Nat) (a0 : Int32) (a_7 : z_Dat) (kc12 : ((Int32 × Int32 × Int32 × Int32) → Option ((Int32 × z_Dat) ⊕ (String × z_Dat)))) (v8 : Int32) (v9 : Int32) (v10 : Int32) (v11 : Int32) : Option ((Int32 × z_Dat) ⊕ (String × z_Dat)) :=
  if (a_7 o 5) ≤ v11 then (if a0 = 0 then (some (.inl (v8, a_7)))
  else (if a0 = 1 then (some (.inl (v9, a_7)))
  else (some (.inl (v10, a_7)))))
  else (z_loop (fun kc20 s => F_X10_guilds_L47 N o kc12 a_7 v11 kc20 s.1 s.2.1 s.2.2.1 s.2.2.2) N (v8, v9, v10, 0))
def F_X10_guilds_J15 (N : Nat) (o : Nat) (a0 : Int32) (D3 : z_Dat) : Option ((Int32 × z_Dat) ⊕ (String × z_Dat)) :=
  z_bt (F_X10_demand 0 D3) (fun a_5 => z_bd (F_X10_countGoers N o a_5) (fun a_7 => z_loop (fun kc12 s => F_X10_guilds_L32 N o a0 a_7 kc12 s.1 s.2.1 s.2.2.1 s.2.2.2) N (0, (-1), 0, 0)))
def F_X10_guilds_J14 (N : Nat) (o : Nat) (a0 : Int32) (D2 : z_Dat) : Option ((Int32 × z_Dat) ⊕ (String × z_Dat)) :=
  F_X10_guilds_J15 N o a0 D2
def F_X10_guilds_L47x (N : Nat) (o : Nat) (kc48 : ((Int32 × Int32 × Int32 × Int32) → Option ((Int32 × z_Dat) ⊕ (String × z_Dat)))) (a_43 : z_Dat) (v47 : Int32) (kc56 : ((Int32 × Int32 × Int32 × Int32) → Option ((Int32 × z_Dat) ⊕ (String × z_Dat)))) (v52 : Int32) (v53 : Int32) (v54 : Int32) (v55 : Int32) : Option ((Int32 × z_Dat) ⊕ (String × z_Dat)) :=
  if (a_43 o 5) ≤ v55 then (z_let (v47 + 1) (fun v58 => kc48 (v52, v53, v54, v58)))
  else (z_bd (F_X10_restsAt N o v47 v55 a_43) (fun a_60 => if a_60 = 0 then (z_let (v55 + 1) (fun v62 => kc56 (v52, v53, v54, v62)))
  else (if v52 = 0 then (z_let ((10 * v47) + v55) (fun v64 => z_let ((F_X10_goersTo v47 v55 a_43) + (F_X10_goersTo v55 v47 a_43)) (fun v67 => z_let (v52 + 1) (fun v68 => z_let (v55 + 1) (fun v69 => kc56 (v68, v64, v67, v69))))))
  else (z_let (v52 + 1) (fun v70 => z_let (v55 + 1) (fun v71 => kc56 (v70, v53, v54, v71)))))))
def F_X10_guilds_L32x (N : Nat) (o : Nat) (a0 : Int32) (a_43 : z_Dat) (kc48 : ((Int32 × Int32 × Int32 × Int32) → Option ((Int32 × z_Dat) ⊕ (String × z_Dat)))) (v44 : Int32) (v45 : Int32) (v46 : Int32) (v47 : Int32) : Option ((Int32 × z_Dat) ⊕ (String × z_Dat)) :=
  if (a_43 o 5) ≤ v47 then (if a0 = 0 then (some (.inl (v44, a_43)))
  else (if a0 = 1 then (some (.inl (v45, a_43)))
  else (some (.inl (v46, a_43)))))
  else (z_loop (fun kc56 s => F_X10_guilds_L47x N o kc48 a_43 v47 kc56 s.1 s.2.1 s.2.2.1 s.2.2.2) N (v44, v45, v46, 0))
def F_X10_guilds_J15x (N : Nat) (o : Nat) (a0 : Int32) (D39 : z_Dat) : Option ((Int32 × z_Dat) ⊕ (String × z_Dat)) :=
  z_bt (F_X10_demand 1 D39) (fun a_41 => z_bd (F_X10_countGoers N o a_41) (fun a_43 => z_loop (fun kc48 s => F_X10_guilds_L32x N o a0 a_43 kc48 s.1 s.2.1 s.2.2.1 s.2.2.2) N (0, (-1), 0, 0)))
def F_X10_guilds (N : Nat) (o : Nat) (a0 : Int32) (D : z_Dat) : Option ((Int32 × z_Dat) ⊕ (String × z_Dat)) :=
  if a0 < 0 then (F_X10_guilds_J14 N o a0 D)
  else (if 2 < a0 then (F_X10_guilds_J14 N o a0 D)
  else (F_X10_guilds_J15x N o a0 D))
set_option maxRecDepth 100000 in
set_option maxHeartbeats 4000000 in
theorem em_X10_guilds {l : Launch} {S : List z_Shp} {o : Nat} (hl : l.stackTraces = false) (hW : z_W S o) (N : Nat) (a0 : Int32) (D : z_Dat) : ∀ out, z_ko (z_kTI S) (F_X10_guilds N o a0 D) out → z_EM l M_X10_guilds (60, 760, 1, 6) [.ref 0, .int a0] S D out := by
  have hC := hW.2
  have hs0 : S[0]? = some (12, 15, [some (some 1), some (some 3), some (some 5), some (some 7), some (some 12), some (some 15), some (some 21), some (some 25), some (some 28), some (some 32), some (some 33), some (some o), none, none, none]) := hW.1 0 _ rfl
  refine z_meth hl rfl kp_X10 (Nat.le_of_ble_eq_true rfl) (lv := [some (.ref 0), some (.int a0), none, none, none, none, none]) rfl ?_
  unfold F_X10_guilds
  have hJ_F_X10_guilds_J15 : ∀ (D3 : z_Dat) , z_F l M_X10_guilds (60, 760, 1, 6) 0 0 15 [some (.ref 0), some (.int a0), none, none, none, none, none] [.int 0, .ref 0] S D3 (z_ko (z_kTI S)) (F_X10_guilds_J15 N o a0 D3) := by
    intro D3
    unfold F_X10_guilds_J15
    refine z_cXVI rfl (As := [.ref 0, .int 0]) (rest := []) (em_X10_demand hl hW 0 D3) (fun o7 h => z_runV 102 1 h rfl kk_X10_102 hs0 kl_10.1 kq_X10_demand rfl (Nat.le_of_ble_eq_true rfl) ⟨Nat.le_of_ble_eq_true rfl, Nat.le_of_ble_eq_true rfl, Nat.le_of_ble_eq_true rfl, Nat.le_of_ble_eq_true rfl⟩ dX10_guilds_15) (by decide) (by decide) (fun a_5 hz4 => ?_)
    refine z_aload_n (i := 0) (x := 0) dX10_guilds_18 rfl rfl ?_
    refine z_cWV (As := [.ref 0]) (rest := []) (em_X10_countGoers hl hW N a_5) (fun o7 h => z_runV 314 0 h rfl kk_X10_314 hs0 kl_10.1 kq_X10_countGoers rfl (Nat.le_of_ble_eq_true rfl) ⟨Nat.le_of_ble_eq_true rfl, Nat.le_of_ble_eq_true rfl, Nat.le_of_ble_eq_true rfl, Nat.le_of_ble_eq_true rfl⟩ dX10_guilds_19) z_gXI (fun a_7 hz6 => ?_)
    refine z_iconst (v := 0) dX10_guilds_22 rfl ?_
    refine z_istore_n (i := 2) (x := 0) (lv' := [some (.ref 0), some (.int a0), some (.int 0), none, none, none, none]) dX10_guilds_23 rfl (by decide) rfl rfl ?_
    refine z_iconst (v := (-1)) dX10_guilds_24 rfl ?_
    refine z_istore_n (i := 3) (x := (-1)) (lv' := [some (.ref 0), some (.int a0), some (.int 0), some (.int (-1)), none, none, none]) dX10_guilds_25 rfl (by decide) rfl rfl ?_
    refine z_iconst (v := 0) dX10_guilds_26 rfl ?_
    refine z_istore (i := 4) (x := 0) (lv' := [some (.ref 0), some (.int a0), some (.int 0), some (.int (-1)), some (.int 0), none, none]) dX10_guilds_27 (by decide) rfl rfl ?_
    refine z_iconst (v := 0) dX10_guilds_29 rfl ?_
    refine z_istore (i := 5) (x := 0) (lv' := [some (.ref 0), some (.int a0), some (.int 0), some (.int (-1)), some (.int 0), some (.int 0), none]) dX10_guilds_30 (by decide) rfl rfl ?_
    refine z_widen (k := 1) (n := 6) (by decide) (by decide) ?_
    refine z_loops (lvOf := fun s : Int32 × Int32 × Int32 × Int32 => [some (.ref 0), some (.int a0), some (.int s.1), some (.int s.2.1), some (.int s.2.2.1), some (.int s.2.2.2), none]) (dOf := fun s : Int32 × Int32 × Int32 × Int32 => a_7) (fun kc12 hkc12 s => ?_) N (0, (-1), 0, 0)
    obtain ⟨v8, v9, v10, v11⟩ := s
    show z_F _ _ _ _ _ 32 [some (.ref 0), some (.int a0), some (.int v8), some (.int v9), some (.int v10), some (.int v11), none] [] S a_7 _ (F_X10_guilds_L32 N o a0 a_7 kc12 v8 v9 v10 v11)
    unfold F_X10_guilds_L32
    refine z_iload (i := 5) (x := v11) dX10_guilds_32 rfl ?_
    refine z_aload_n (i := 0) (x := 0) dX10_guilds_34 rfl rfl ?_
    refine z_getR (j := 11) dX10_guilds_35 kl_10 hs0 (by decide) rfl rfl kf_X10_82 ?_
    refine z_getIN (j := 5) dX10_guilds_38 kl_1 hC.1 (by decide) rfl rfl kf_X10_168 ?_
    refine z_icmp_ge 117 dX10_guilds_41 (by decide) (fun c13 => ?_) (fun c13 => ?_)
    · refine z_iload_n (i := 1) (x := a0) dX10_guilds_117 rfl rfl ?_
      refine z_if_ne 125 dX10_guilds_118 (by decide) (fun c14 => ?_) (fun c14 => ?_)
      · refine z_iload_n (i := 2) (x := v8) dX10_guilds_121 rfl rfl ?_
        refine z_goto 136 dX10_guilds_122 (by decide) ?_
        exact z_ireturn dX10_guilds_136 z_rXI rfl (by decide) (by decide)
      · refine z_iload_n (i := 1) (x := a0) dX10_guilds_125 rfl rfl ?_
        refine z_iconst (v := 1) dX10_guilds_126 rfl ?_
        refine z_icmp_ne 134 dX10_guilds_127 (by decide) (fun c15 => ?_) (fun c15 => ?_)
        · refine z_iload_n (i := 3) (x := v9) dX10_guilds_130 rfl rfl ?_
          refine z_goto 136 dX10_guilds_131 (by decide) ?_
          exact z_ireturn dX10_guilds_136 z_rXI rfl (by decide) (by decide)
        · refine z_iload (i := 4) (x := v10) dX10_guilds_134 rfl ?_
          exact z_ireturn dX10_guilds_136 z_rXI rfl (by decide) (by decide)
    · refine z_iconst (v := 0) dX10_guilds_44 rfl ?_
      refine z_istore (i := 6) (x := 0) (lv' := [some (.ref 0), some (.int a0), some (.int v8), some (.int v9), some (.int v10), some (.int v11), some (.int 0)]) dX10_guilds_45 (by decide) rfl rfl ?_
      refine z_widen (k := 1) (n := 6) (by decide) (by decide) ?_
      refine z_loops (lvOf := fun s : Int32 × Int32 × Int32 × Int32 => [some (.ref 0), some (.int a0), some (.int s.1), some (.int s.2.1), some (.int s.2.2.1), some (.int v11), some (.int s.2.2.2)]) (dOf := fun s : Int32 × Int32 × Int32 × Int32 => a_7) (fun kc20 hkc20 s => ?_) N (v8, v9, v10, 0)
      obtain ⟨v16, v17, v18, v19⟩ := s
      show z_F _ _ _ _ _ 47 [some (.ref 0), some (.int a0), some (.int v16), some (.int v17), some (.int v18), some (.int v11), some (.int v19)] [] S a_7 _ (F_X10_guilds_L47 N o kc12 a_7 v11 kc20 v16 v17 v18 v19)
      unfold F_X10_guilds_L47
      refine z_iload (i := 6) (x := v19) dX10_guilds_47 rfl ?_
      refine z_aload_n (i := 0) (x := 0) dX10_guilds_49 rfl rfl ?_
      refine z_getR (j := 11) dX10_guilds_50 kl_10 hs0 (by decide) rfl rfl kf_X10_82 ?_
      refine z_getIN (j := 5) dX10_guilds_53 kl_1 hC.1 (by decide) rfl rfl kf_X10_168 ?_
      refine z_icmp_ge 111 dX10_guilds_56 (by decide) (fun c21 => ?_) (fun c21 => ?_)
      · refine z_iinc (i := 5) (x := v11) (y := 1) dX10_guilds_111 rfl (by decide) (by decide) rfl (fun v22 => ?_)
        refine z_goto 32 dX10_guilds_114 (by decide) ?_
        refine z_weak (lv' := [some (.ref 0), some (.int a0), some (.int v16), some (.int v17), some (.int v18), some (.int v22), none]) ⟨Or.inr rfl, ⟨Or.inr rfl, ⟨Or.inr rfl, ⟨Or.inr rfl, ⟨Or.inr rfl, ⟨Or.inr rfl, ⟨Or.inl rfl, trivial⟩⟩⟩⟩⟩⟩⟩ ?_
        exact hkc12 (v16, v17, v18, v22)
      · refine z_aload_n (i := 0) (x := 0) dX10_guilds_59 rfl rfl ?_
        refine z_iload (i := 5) (x := v11) dX10_guilds_60 rfl ?_
        refine z_iload (i := 6) (x := v19) dX10_guilds_62 rfl ?_
        refine z_cR (As := [.ref 0, .int v11, .int v19]) (rest := []) (em_X10_restsAt hl hW N v11 v19 a_7) (fun o7 h => z_runV 317 2 h rfl kk_X10_317 hs0 kl_10.1 kq_X10_restsAt rfl (Nat.le_of_ble_eq_true rfl) ⟨Nat.le_of_ble_eq_true rfl, Nat.le_of_ble_eq_true rfl, Nat.le_of_ble_eq_true rfl, Nat.le_of_ble_eq_true rfl⟩ dX10_guilds_64) z_gXI (fun a_24 hz23 => ?_)
        refine z_if_eq 105 dX10_guilds_67 (by decide) (fun c25 => ?_) (fun c25 => ?_)
        · refine z_iinc (i := 6) (x := v19) (y := 1) dX10_guilds_105 rfl (by decide) (by decide) rfl (fun v26 => ?_)
          refine z_goto 47 dX10_guilds_108 (by decide) ?_
          exact hkc20 (v16, v17, v18, v26)
        · refine z_iload_n (i := 2) (x := v16) dX10_guilds_70 rfl rfl ?_
          refine z_if_ne 102 dX10_guilds_71 (by decide) (fun c27 => ?_) (fun c27 => ?_)
          · refine z_bipush (v := 10) dX10_guilds_74 (by decide) ?_
            refine z_iload (i := 5) (x := v11) dX10_guilds_76 rfl ?_
            refine z_imul dX10_guilds_78 ?_
            refine z_iload (i := 6) (x := v19) dX10_guilds_79 rfl ?_
            refine z_iadd dX10_guilds_81 ?_
            refine z_topi (fun v28 => ?_)
            refine z_istore_n (i := 3) (x := v28) (lv' := [some (.ref 0), some (.int a0), some (.int v16), some (.int v28), some (.int v18), some (.int v11), some (.int v19)]) dX10_guilds_82 rfl (by decide) rfl rfl ?_
            refine z_aload_n (i := 0) (x := 0) dX10_guilds_83 rfl rfl ?_
            refine z_iload (i := 5) (x := v11) dX10_guilds_84 rfl ?_
            refine z_iload (i := 6) (x := v19) dX10_guilds_86 rfl ?_
            refine z_cP (As := [.ref 0, .int v11, .int v19]) (rest := []) (em_X10_goersTo hl hW v11 v19 a_7) (fun o7 h => z_runV 320 2 h rfl kk_X10_320 hs0 kl_10.1 kq_X10_goersTo rfl (Nat.le_of_ble_eq_true rfl) ⟨Nat.le_of_ble_eq_true rfl, Nat.le_of_ble_eq_true rfl, Nat.le_of_ble_eq_true rfl, Nat.le_of_ble_eq_true rfl⟩ dX10_guilds_88) z_gXI (fun hz29 => ?_)
            refine z_aload_n (i := 0) (x := 0) dX10_guilds_91 rfl rfl ?_
            refine z_iload (i := 6) (x := v19) dX10_guilds_92 rfl ?_
            refine z_iload (i := 5) (x := v11) dX10_guilds_94 rfl ?_
            refine z_cP (As := [.ref 0, .int v19, .int v11]) (rest := [.int (F_X10_goersTo v11 v19 a_7)]) (em_X10_goersTo hl hW v19 v11 a_7) (fun o7 h => z_runV 320 2 h rfl kk_X10_320 hs0 kl_10.1 kq_X10_goersTo rfl (Nat.le_of_ble_eq_true rfl) ⟨Nat.le_of_ble_eq_true rfl, Nat.le_of_ble_eq_true rfl, Nat.le_of_ble_eq_true rfl, Nat.le_of_ble_eq_true rfl⟩ dX10_guilds_96) z_gXI (fun hz30 => ?_)
            refine z_iadd dX10_guilds_99 ?_
            refine z_topi (fun v31 => ?_)
            refine z_istore (i := 4) (x := v31) (lv' := [some (.ref 0), some (.int a0), some (.int v16), some (.int v28), some (.int v31), some (.int v11), some (.int v19)]) dX10_guilds_100 (by decide) rfl rfl ?_
            refine z_iinc (i := 2) (x := v16) (y := 1) dX10_guilds_102 rfl (by decide) (by decide) rfl (fun v32 => ?_)
            refine z_iinc (i := 6) (x := v19) (y := 1) dX10_guilds_105 rfl (by decide) (by decide) rfl (fun v33 => ?_)
            refine z_goto 47 dX10_guilds_108 (by decide) ?_
            exact hkc20 (v32, v28, v31, v33)
          · refine z_iinc (i := 2) (x := v16) (y := 1) dX10_guilds_102 rfl (by decide) (by decide) rfl (fun v34 => ?_)
            refine z_iinc (i := 6) (x := v19) (y := 1) dX10_guilds_105 rfl (by decide) (by decide) rfl (fun v35 => ?_)
            refine z_goto 47 dX10_guilds_108 (by decide) ?_
            exact hkc20 (v34, v17, v18, v35)
  have hJ_F_X10_guilds_J14 : ∀ (D2 : z_Dat) , z_F l M_X10_guilds (60, 760, 1, 6) 0 0 14 [some (.ref 0), some (.int a0), none, none, none, none, none] [.ref 0] S D2 (z_ko (z_kTI S)) (F_X10_guilds_J14 N o a0 D2) := by
    intro D2
    unfold F_X10_guilds_J14
    refine z_iconst (v := 0) dX10_guilds_14 rfl ?_
    refine z_widen (k := 0) (n := 0) (by decide) (by decide) ?_
    exact hJ_F_X10_guilds_J15 D2
  have hJ_F_X10_guilds_J15x : ∀ (D39 : z_Dat) , z_F l M_X10_guilds (60, 760, 1, 6) 0 0 15 [some (.ref 0), some (.int a0), none, none, none, none, none] [.int 1, .ref 0] S D39 (z_ko (z_kTI S)) (F_X10_guilds_J15x N o a0 D39) := by
    intro D39
    unfold F_X10_guilds_J15x
    refine z_cXVI rfl (As := [.ref 0, .int 1]) (rest := []) (em_X10_demand hl hW 1 D39) (fun o7 h => z_runV 102 1 h rfl kk_X10_102 hs0 kl_10.1 kq_X10_demand rfl (Nat.le_of_ble_eq_true rfl) ⟨Nat.le_of_ble_eq_true rfl, Nat.le_of_ble_eq_true rfl, Nat.le_of_ble_eq_true rfl, Nat.le_of_ble_eq_true rfl⟩ dX10_guilds_15) (by decide) (by decide) (fun a_41 hz40 => ?_)
    refine z_aload_n (i := 0) (x := 0) dX10_guilds_18 rfl rfl ?_
    refine z_cWV (As := [.ref 0]) (rest := []) (em_X10_countGoers hl hW N a_41) (fun o7 h => z_runV 314 0 h rfl kk_X10_314 hs0 kl_10.1 kq_X10_countGoers rfl (Nat.le_of_ble_eq_true rfl) ⟨Nat.le_of_ble_eq_true rfl, Nat.le_of_ble_eq_true rfl, Nat.le_of_ble_eq_true rfl, Nat.le_of_ble_eq_true rfl⟩ dX10_guilds_19) z_gXI (fun a_43 hz42 => ?_)
    refine z_iconst (v := 0) dX10_guilds_22 rfl ?_
    refine z_istore_n (i := 2) (x := 0) (lv' := [some (.ref 0), some (.int a0), some (.int 0), none, none, none, none]) dX10_guilds_23 rfl (by decide) rfl rfl ?_
    refine z_iconst (v := (-1)) dX10_guilds_24 rfl ?_
    refine z_istore_n (i := 3) (x := (-1)) (lv' := [some (.ref 0), some (.int a0), some (.int 0), some (.int (-1)), none, none, none]) dX10_guilds_25 rfl (by decide) rfl rfl ?_
    refine z_iconst (v := 0) dX10_guilds_26 rfl ?_
    refine z_istore (i := 4) (x := 0) (lv' := [some (.ref 0), some (.int a0), some (.int 0), some (.int (-1)), some (.int 0), none, none]) dX10_guilds_27 (by decide) rfl rfl ?_
    refine z_iconst (v := 0) dX10_guilds_29 rfl ?_
    refine z_istore (i := 5) (x := 0) (lv' := [some (.ref 0), some (.int a0), some (.int 0), some (.int (-1)), some (.int 0), some (.int 0), none]) dX10_guilds_30 (by decide) rfl rfl ?_
    refine z_widen (k := 1) (n := 6) (by decide) (by decide) ?_
    refine z_loops (lvOf := fun s : Int32 × Int32 × Int32 × Int32 => [some (.ref 0), some (.int a0), some (.int s.1), some (.int s.2.1), some (.int s.2.2.1), some (.int s.2.2.2), none]) (dOf := fun s : Int32 × Int32 × Int32 × Int32 => a_43) (fun kc48 hkc48 s => ?_) N (0, (-1), 0, 0)
    obtain ⟨v44, v45, v46, v47⟩ := s
    show z_F _ _ _ _ _ 32 [some (.ref 0), some (.int a0), some (.int v44), some (.int v45), some (.int v46), some (.int v47), none] [] S a_43 _ (F_X10_guilds_L32x N o a0 a_43 kc48 v44 v45 v46 v47)
    unfold F_X10_guilds_L32x
    refine z_iload (i := 5) (x := v47) dX10_guilds_32 rfl ?_
    refine z_aload_n (i := 0) (x := 0) dX10_guilds_34 rfl rfl ?_
    refine z_getR (j := 11) dX10_guilds_35 kl_10 hs0 (by decide) rfl rfl kf_X10_82 ?_
    refine z_getIN (j := 5) dX10_guilds_38 kl_1 hC.1 (by decide) rfl rfl kf_X10_168 ?_
    refine z_icmp_ge 117 dX10_guilds_41 (by decide) (fun c49 => ?_) (fun c49 => ?_)
    · refine z_iload_n (i := 1) (x := a0) dX10_guilds_117 rfl rfl ?_
      refine z_if_ne 125 dX10_guilds_118 (by decide) (fun c50 => ?_) (fun c50 => ?_)
      · refine z_iload_n (i := 2) (x := v44) dX10_guilds_121 rfl rfl ?_
        refine z_goto 136 dX10_guilds_122 (by decide) ?_
        exact z_ireturn dX10_guilds_136 z_rXI rfl (by decide) (by decide)
      · refine z_iload_n (i := 1) (x := a0) dX10_guilds_125 rfl rfl ?_
        refine z_iconst (v := 1) dX10_guilds_126 rfl ?_
        refine z_icmp_ne 134 dX10_guilds_127 (by decide) (fun c51 => ?_) (fun c51 => ?_)
        · refine z_iload_n (i := 3) (x := v45) dX10_guilds_130 rfl rfl ?_
          refine z_goto 136 dX10_guilds_131 (by decide) ?_
          exact z_ireturn dX10_guilds_136 z_rXI rfl (by decide) (by decide)
        · refine z_iload (i := 4) (x := v46) dX10_guilds_134 rfl ?_
          exact z_ireturn dX10_guilds_136 z_rXI rfl (by decide) (by decide)
    · refine z_iconst (v := 0) dX10_guilds_44 rfl ?_
      refine z_istore (i := 6) (x := 0) (lv' := [some (.ref 0), some (.int a0), some (.int v44), some (.int v45), some (.int v46), some (.int v47), some (.int 0)]) dX10_guilds_45 (by decide) rfl rfl ?_
      refine z_widen (k := 1) (n := 6) (by decide) (by decide) ?_
      refine z_loops (lvOf := fun s : Int32 × Int32 × Int32 × Int32 => [some (.ref 0), some (.int a0), some (.int s.1), some (.int s.2.1), some (.int s.2.2.1), some (.int v47), some (.int s.2.2.2)]) (dOf := fun s : Int32 × Int32 × Int32 × Int32 => a_43) (fun kc56 hkc56 s => ?_) N (v44, v45, v46, 0)
      obtain ⟨v52, v53, v54, v55⟩ := s
      show z_F _ _ _ _ _ 47 [some (.ref 0), some (.int a0), some (.int v52), some (.int v53), some (.int v54), some (.int v47), some (.int v55)] [] S a_43 _ (F_X10_guilds_L47x N o kc48 a_43 v47 kc56 v52 v53 v54 v55)
      unfold F_X10_guilds_L47x
      refine z_iload (i := 6) (x := v55) dX10_guilds_47 rfl ?_
      refine z_aload_n (i := 0) (x := 0) dX10_guilds_49 rfl rfl ?_
      refine z_getR (j := 11) dX10_guilds_50 kl_10 hs0 (by decide) rfl rfl kf_X10_82 ?_
      refine z_getIN (j := 5) dX10_guilds_53 kl_1 hC.1 (by decide) rfl rfl kf_X10_168 ?_
      refine z_icmp_ge 111 dX10_guilds_56 (by decide) (fun c57 => ?_) (fun c57 => ?_)
      · refine z_iinc (i := 5) (x := v47) (y := 1) dX10_guilds_111 rfl (by decide) (by decide) rfl (fun v58 => ?_)
        refine z_goto 32 dX10_guilds_114 (by decide) ?_
        refine z_weak (lv' := [some (.ref 0), some (.int a0), some (.int v52), some (.int v53), some (.int v54), some (.int v58), none]) ⟨Or.inr rfl, ⟨Or.inr rfl, ⟨Or.inr rfl, ⟨Or.inr rfl, ⟨Or.inr rfl, ⟨Or.inr rfl, ⟨Or.inl rfl, trivial⟩⟩⟩⟩⟩⟩⟩ ?_
        exact hkc48 (v52, v53, v54, v58)
      · refine z_aload_n (i := 0) (x := 0) dX10_guilds_59 rfl rfl ?_
        refine z_iload (i := 5) (x := v47) dX10_guilds_60 rfl ?_
        refine z_iload (i := 6) (x := v55) dX10_guilds_62 rfl ?_
        refine z_cR (As := [.ref 0, .int v47, .int v55]) (rest := []) (em_X10_restsAt hl hW N v47 v55 a_43) (fun o7 h => z_runV 317 2 h rfl kk_X10_317 hs0 kl_10.1 kq_X10_restsAt rfl (Nat.le_of_ble_eq_true rfl) ⟨Nat.le_of_ble_eq_true rfl, Nat.le_of_ble_eq_true rfl, Nat.le_of_ble_eq_true rfl, Nat.le_of_ble_eq_true rfl⟩ dX10_guilds_64) z_gXI (fun a_60 hz59 => ?_)
        refine z_if_eq 105 dX10_guilds_67 (by decide) (fun c61 => ?_) (fun c61 => ?_)
        · refine z_iinc (i := 6) (x := v55) (y := 1) dX10_guilds_105 rfl (by decide) (by decide) rfl (fun v62 => ?_)
          refine z_goto 47 dX10_guilds_108 (by decide) ?_
          exact hkc56 (v52, v53, v54, v62)
        · refine z_iload_n (i := 2) (x := v52) dX10_guilds_70 rfl rfl ?_
          refine z_if_ne 102 dX10_guilds_71 (by decide) (fun c63 => ?_) (fun c63 => ?_)
          · refine z_bipush (v := 10) dX10_guilds_74 (by decide) ?_
            refine z_iload (i := 5) (x := v47) dX10_guilds_76 rfl ?_
            refine z_imul dX10_guilds_78 ?_
            refine z_iload (i := 6) (x := v55) dX10_guilds_79 rfl ?_
            refine z_iadd dX10_guilds_81 ?_
            refine z_topi (fun v64 => ?_)
            refine z_istore_n (i := 3) (x := v64) (lv' := [some (.ref 0), some (.int a0), some (.int v52), some (.int v64), some (.int v54), some (.int v47), some (.int v55)]) dX10_guilds_82 rfl (by decide) rfl rfl ?_
            refine z_aload_n (i := 0) (x := 0) dX10_guilds_83 rfl rfl ?_
            refine z_iload (i := 5) (x := v47) dX10_guilds_84 rfl ?_
            refine z_iload (i := 6) (x := v55) dX10_guilds_86 rfl ?_
            refine z_cP (As := [.ref 0, .int v47, .int v55]) (rest := []) (em_X10_goersTo hl hW v47 v55 a_43) (fun o7 h => z_runV 320 2 h rfl kk_X10_320 hs0 kl_10.1 kq_X10_goersTo rfl (Nat.le_of_ble_eq_true rfl) ⟨Nat.le_of_ble_eq_true rfl, Nat.le_of_ble_eq_true rfl, Nat.le_of_ble_eq_true rfl, Nat.le_of_ble_eq_true rfl⟩ dX10_guilds_88) z_gXI (fun hz65 => ?_)
            refine z_aload_n (i := 0) (x := 0) dX10_guilds_91 rfl rfl ?_
            refine z_iload (i := 6) (x := v55) dX10_guilds_92 rfl ?_
            refine z_iload (i := 5) (x := v47) dX10_guilds_94 rfl ?_
            refine z_cP (As := [.ref 0, .int v55, .int v47]) (rest := [.int (F_X10_goersTo v47 v55 a_43)]) (em_X10_goersTo hl hW v55 v47 a_43) (fun o7 h => z_runV 320 2 h rfl kk_X10_320 hs0 kl_10.1 kq_X10_goersTo rfl (Nat.le_of_ble_eq_true rfl) ⟨Nat.le_of_ble_eq_true rfl, Nat.le_of_ble_eq_true rfl, Nat.le_of_ble_eq_true rfl, Nat.le_of_ble_eq_true rfl⟩ dX10_guilds_96) z_gXI (fun hz66 => ?_)
            refine z_iadd dX10_guilds_99 ?_
            refine z_topi (fun v67 => ?_)
            refine z_istore (i := 4) (x := v67) (lv' := [some (.ref 0), some (.int a0), some (.int v52), some (.int v64), some (.int v67), some (.int v47), some (.int v55)]) dX10_guilds_100 (by decide) rfl rfl ?_
            refine z_iinc (i := 2) (x := v52) (y := 1) dX10_guilds_102 rfl (by decide) (by decide) rfl (fun v68 => ?_)
            refine z_iinc (i := 6) (x := v55) (y := 1) dX10_guilds_105 rfl (by decide) (by decide) rfl (fun v69 => ?_)
            refine z_goto 47 dX10_guilds_108 (by decide) ?_
            exact hkc56 (v68, v64, v67, v69)
          · refine z_iinc (i := 2) (x := v52) (y := 1) dX10_guilds_102 rfl (by decide) (by decide) rfl (fun v70 => ?_)
            refine z_iinc (i := 6) (x := v55) (y := 1) dX10_guilds_105 rfl (by decide) (by decide) rfl (fun v71 => ?_)
            refine z_goto 47 dX10_guilds_108 (by decide) ?_
            exact hkc56 (v70, v53, v54, v71)
  refine z_aload_n (i := 0) (x := 0) dX10_guilds_0 rfl rfl ?_
  refine z_iload_n (i := 1) (x := a0) dX10_guilds_1 rfl rfl ?_
  refine z_if_lt 14 dX10_guilds_2 (by decide) (fun c1 => ?_) (fun c1 => ?_)
  · refine z_widen (k := 0) (n := 0) (by decide) (by decide) ?_
    exact hJ_F_X10_guilds_J14 D
  · refine z_iload_n (i := 1) (x := a0) dX10_guilds_5 rfl rfl ?_
    refine z_iconst (v := 2) dX10_guilds_6 rfl ?_
    refine z_icmp_gt 14 dX10_guilds_7 (by decide) (fun c38 => ?_) (fun c38 => ?_)
    · refine z_widen (k := 0) (n := 0) (by decide) (by decide) ?_
      exact hJ_F_X10_guilds_J14 D
    · refine z_iconst (v := 1) dX10_guilds_10 rfl ?_
      refine z_goto 15 dX10_guilds_11 (by decide) ?_
      refine z_widen (k := 0) (n := 0) (by decide) (by decide) ?_
      exact hJ_F_X10_guilds_J15x D

def F_X10_follows_J28 (N : Nat) (o : Nat) (a0 : Int32) (a1 : Int32) (D4 : z_Dat) : Option ((Int32 × z_Dat) ⊕ (String × z_Dat)) :=
  z_bt (F_X10_demandThere 0 D4) (fun a_6 => z_bd (F_X10_preferring N o (F_X1_vatOf o a0 a_6) (F_X1_vatOf o a1 a_6) a_6) (fun a_10 => some (.inl (a_10, a_6))))
def F_X10_follows_J27 (N : Nat) (o : Nat) (a0 : Int32) (a1 : Int32) (D3 : z_Dat) : Option ((Int32 × z_Dat) ⊕ (String × z_Dat)) :=
  F_X10_follows_J28 N o a0 a1 D3
def F_X10_follows_J28x (N : Nat) (o : Nat) (a0 : Int32) (a1 : Int32) (D13 : z_Dat) : Option ((Int32 × z_Dat) ⊕ (String × z_Dat)) :=
  z_bt (F_X10_demandThere 1 D13) (fun a_15 => z_bd (F_X10_preferring N o (F_X1_vatOf o a0 a_15) (F_X1_vatOf o a1 a_15) a_15) (fun a_19 => some (.inl (a_19, a_15))))
def F_X10_follows (N : Nat) (o : Nat) (a0 : Int32) (a1 : Int32) (D : z_Dat) : Option ((Int32 × z_Dat) ⊕ (String × z_Dat)) :=
  if (F_X1_hasStreet o a0 D) = 0 then (F_X10_follows_J27 N o a0 a1 D)
  else (if (F_X1_hasStreet o a1 D) = 0 then (F_X10_follows_J27 N o a0 a1 D)
  else (F_X10_follows_J28x N o a0 a1 D))
set_option maxRecDepth 100000 in
set_option maxHeartbeats 4000000 in
theorem em_X10_follows {l : Launch} {S : List z_Shp} {o : Nat} (hl : l.stackTraces = false) (hW : z_W S o) (N : Nat) (a0 : Int32) (a1 : Int32) (D : z_Dat) : ∀ out, z_ko (z_kTI S) (F_X10_follows N o a0 a1 D) out → z_EM l M_X10_follows (60, 700, 1, 6) [.ref 0, .int a0, .int a1] S D out := by
  have hC := hW.2
  have hs0 : S[0]? = some (12, 15, [some (some 1), some (some 3), some (some 5), some (some 7), some (some 12), some (some 15), some (some 21), some (some 25), some (some 28), some (some 32), some (some 33), some (some o), none, none, none]) := hW.1 0 _ rfl
  refine z_meth hl rfl kp_X10 (Nat.le_of_ble_eq_true rfl) (lv := [some (.ref 0), some (.int a0), some (.int a1)]) rfl ?_
  unfold F_X10_follows
  have hJ_F_X10_follows_J28 : ∀ (D4 : z_Dat) , z_F l M_X10_follows (60, 700, 1, 6) 0 0 28 [some (.ref 0), some (.int a0), some (.int a1)] [.int 0, .ref 0] S D4 (z_ko (z_kTI S)) (F_X10_follows_J28 N o a0 a1 D4) := by
    intro D4
    unfold F_X10_follows_J28
    refine z_cXVI rfl (As := [.ref 0, .int 0]) (rest := []) (em_X10_demandThere hl hW 0 D4) (fun o7 h => z_runV 195 1 h rfl kk_X10_195 hs0 kl_10.1 kq_X10_demandThere rfl (Nat.le_of_ble_eq_true rfl) ⟨Nat.le_of_ble_eq_true rfl, Nat.le_of_ble_eq_true rfl, Nat.le_of_ble_eq_true rfl, Nat.le_of_ble_eq_true rfl⟩ dX10_follows_28) (by decide) (by decide) (fun a_6 hz5 => ?_)
    refine z_aload_n (i := 0) (x := 0) dX10_follows_31 rfl rfl ?_
    refine z_aload_n (i := 0) (x := 0) dX10_follows_32 rfl rfl ?_
    refine z_getR (j := 11) dX10_follows_33 kl_10 hs0 (by decide) rfl rfl kf_X10_82 ?_
    refine z_iload_n (i := 1) (x := a0) dX10_follows_36 rfl rfl ?_
    refine z_cP (As := [.ref o, .int a0]) (rest := [.ref 0]) (em_X1_vatOf hl hC a0 a_6) (fun o7 h => z_runV 198 1 h rfl kk_X10_198 hC.1 kl_1.1 kq_X1_vatOf rfl (Nat.le_of_ble_eq_true rfl) ⟨Nat.le_of_ble_eq_true rfl, Nat.le_of_ble_eq_true rfl, Nat.le_of_ble_eq_true rfl, Nat.le_of_ble_eq_true rfl⟩ dX10_follows_37) z_gXI (fun hz7 => ?_)
    refine z_aload_n (i := 0) (x := 0) dX10_follows_40 rfl rfl ?_
    refine z_getR (j := 11) dX10_follows_41 kl_10 hs0 (by decide) rfl rfl kf_X10_82 ?_
    refine z_iload_n (i := 2) (x := a1) dX10_follows_44 rfl rfl ?_
    refine z_cP (As := [.ref o, .int a1]) (rest := [.int (F_X1_vatOf o a0 a_6), .ref 0]) (em_X1_vatOf hl hC a1 a_6) (fun o7 h => z_runV 198 1 h rfl kk_X10_198 hC.1 kl_1.1 kq_X1_vatOf rfl (Nat.le_of_ble_eq_true rfl) ⟨Nat.le_of_ble_eq_true rfl, Nat.le_of_ble_eq_true rfl, Nat.le_of_ble_eq_true rfl, Nat.le_of_ble_eq_true rfl⟩ dX10_follows_45) z_gXI (fun hz8 => ?_)
    refine z_cR (As := [.ref 0, .int (F_X1_vatOf o a0 a_6), .int (F_X1_vatOf o a1 a_6)]) (rest := []) (em_X10_preferring hl hW N (F_X1_vatOf o a0 a_6) (F_X1_vatOf o a1 a_6) a_6) (fun o7 h => z_runV 323 2 h rfl kk_X10_323 hs0 kl_10.1 kq_X10_preferring rfl (Nat.le_of_ble_eq_true rfl) ⟨Nat.le_of_ble_eq_true rfl, Nat.le_of_ble_eq_true rfl, Nat.le_of_ble_eq_true rfl, Nat.le_of_ble_eq_true rfl⟩ dX10_follows_48) z_gXI (fun a_10 hz9 => ?_)
    exact z_ireturn dX10_follows_51 z_rXI rfl (by decide) (by decide)
  have hJ_F_X10_follows_J27 : ∀ (D3 : z_Dat) , z_F l M_X10_follows (60, 700, 1, 6) 0 0 27 [some (.ref 0), some (.int a0), some (.int a1)] [.ref 0] S D3 (z_ko (z_kTI S)) (F_X10_follows_J27 N o a0 a1 D3) := by
    intro D3
    unfold F_X10_follows_J27
    refine z_iconst (v := 0) dX10_follows_27 rfl ?_
    refine z_widen (k := 0) (n := 0) (by decide) (by decide) ?_
    exact hJ_F_X10_follows_J28 D3
  have hJ_F_X10_follows_J28x : ∀ (D13 : z_Dat) , z_F l M_X10_follows (60, 700, 1, 6) 0 0 28 [some (.ref 0), some (.int a0), some (.int a1)] [.int 1, .ref 0] S D13 (z_ko (z_kTI S)) (F_X10_follows_J28x N o a0 a1 D13) := by
    intro D13
    unfold F_X10_follows_J28x
    refine z_cXVI rfl (As := [.ref 0, .int 1]) (rest := []) (em_X10_demandThere hl hW 1 D13) (fun o7 h => z_runV 195 1 h rfl kk_X10_195 hs0 kl_10.1 kq_X10_demandThere rfl (Nat.le_of_ble_eq_true rfl) ⟨Nat.le_of_ble_eq_true rfl, Nat.le_of_ble_eq_true rfl, Nat.le_of_ble_eq_true rfl, Nat.le_of_ble_eq_true rfl⟩ dX10_follows_28) (by decide) (by decide) (fun a_15 hz14 => ?_)
    refine z_aload_n (i := 0) (x := 0) dX10_follows_31 rfl rfl ?_
    refine z_aload_n (i := 0) (x := 0) dX10_follows_32 rfl rfl ?_
    refine z_getR (j := 11) dX10_follows_33 kl_10 hs0 (by decide) rfl rfl kf_X10_82 ?_
    refine z_iload_n (i := 1) (x := a0) dX10_follows_36 rfl rfl ?_
    refine z_cP (As := [.ref o, .int a0]) (rest := [.ref 0]) (em_X1_vatOf hl hC a0 a_15) (fun o7 h => z_runV 198 1 h rfl kk_X10_198 hC.1 kl_1.1 kq_X1_vatOf rfl (Nat.le_of_ble_eq_true rfl) ⟨Nat.le_of_ble_eq_true rfl, Nat.le_of_ble_eq_true rfl, Nat.le_of_ble_eq_true rfl, Nat.le_of_ble_eq_true rfl⟩ dX10_follows_37) z_gXI (fun hz16 => ?_)
    refine z_aload_n (i := 0) (x := 0) dX10_follows_40 rfl rfl ?_
    refine z_getR (j := 11) dX10_follows_41 kl_10 hs0 (by decide) rfl rfl kf_X10_82 ?_
    refine z_iload_n (i := 2) (x := a1) dX10_follows_44 rfl rfl ?_
    refine z_cP (As := [.ref o, .int a1]) (rest := [.int (F_X1_vatOf o a0 a_15), .ref 0]) (em_X1_vatOf hl hC a1 a_15) (fun o7 h => z_runV 198 1 h rfl kk_X10_198 hC.1 kl_1.1 kq_X1_vatOf rfl (Nat.le_of_ble_eq_true rfl) ⟨Nat.le_of_ble_eq_true rfl, Nat.le_of_ble_eq_true rfl, Nat.le_of_ble_eq_true rfl, Nat.le_of_ble_eq_true rfl⟩ dX10_follows_45) z_gXI (fun hz17 => ?_)
    refine z_cR (As := [.ref 0, .int (F_X1_vatOf o a0 a_15), .int (F_X1_vatOf o a1 a_15)]) (rest := []) (em_X10_preferring hl hW N (F_X1_vatOf o a0 a_15) (F_X1_vatOf o a1 a_15) a_15) (fun o7 h => z_runV 323 2 h rfl kk_X10_323 hs0 kl_10.1 kq_X10_preferring rfl (Nat.le_of_ble_eq_true rfl) ⟨Nat.le_of_ble_eq_true rfl, Nat.le_of_ble_eq_true rfl, Nat.le_of_ble_eq_true rfl, Nat.le_of_ble_eq_true rfl⟩ dX10_follows_48) z_gXI (fun a_19 hz18 => ?_)
    exact z_ireturn dX10_follows_51 z_rXI rfl (by decide) (by decide)
  refine z_aload_n (i := 0) (x := 0) dX10_follows_0 rfl rfl ?_
  refine z_aload_n (i := 0) (x := 0) dX10_follows_1 rfl rfl ?_
  refine z_getR (j := 11) dX10_follows_2 kl_10 hs0 (by decide) rfl rfl kf_X10_82 ?_
  refine z_iload_n (i := 1) (x := a0) dX10_follows_5 rfl rfl ?_
  refine z_cP (As := [.ref o, .int a0]) (rest := [.ref 0]) (em_X1_hasStreet hl hC a0 D) (fun o7 h => z_runV 191 1 h rfl kk_X10_191 hC.1 kl_1.1 kq_X1_hasStreet rfl (Nat.le_of_ble_eq_true rfl) ⟨Nat.le_of_ble_eq_true rfl, Nat.le_of_ble_eq_true rfl, Nat.le_of_ble_eq_true rfl, Nat.le_of_ble_eq_true rfl⟩ dX10_follows_6) z_gXI (fun hz1 => ?_)
  refine z_if_eq 27 dX10_follows_9 (by decide) (fun c2 => ?_) (fun c2 => ?_)
  · refine z_widen (k := 0) (n := 0) (by decide) (by decide) ?_
    exact hJ_F_X10_follows_J27 D
  · refine z_aload_n (i := 0) (x := 0) dX10_follows_12 rfl rfl ?_
    refine z_getR (j := 11) dX10_follows_13 kl_10 hs0 (by decide) rfl rfl kf_X10_82 ?_
    refine z_iload_n (i := 2) (x := a1) dX10_follows_16 rfl rfl ?_
    refine z_cP (As := [.ref o, .int a1]) (rest := [.ref 0]) (em_X1_hasStreet hl hC a1 D) (fun o7 h => z_runV 191 1 h rfl kk_X10_191 hC.1 kl_1.1 kq_X1_hasStreet rfl (Nat.le_of_ble_eq_true rfl) ⟨Nat.le_of_ble_eq_true rfl, Nat.le_of_ble_eq_true rfl, Nat.le_of_ble_eq_true rfl, Nat.le_of_ble_eq_true rfl⟩ dX10_follows_17) z_gXI (fun hz11 => ?_)
    refine z_if_eq 27 dX10_follows_20 (by decide) (fun c12 => ?_) (fun c12 => ?_)
    · refine z_widen (k := 0) (n := 0) (by decide) (by decide) ?_
      exact hJ_F_X10_follows_J27 D
    · refine z_iconst (v := 1) dX10_follows_23 rfl ?_
      refine z_goto 28 dX10_follows_24 (by decide) ?_
      refine z_widen (k := 0) (n := 0) (by decide) (by decide) ?_
      exact hJ_F_X10_follows_J28x D

def F_X9_allDyes_L4 (t : Nat) (a0 : Int32) (D : z_Dat) (kc3 : ((Int32 × Int32) → Option Int32)) (v1 : Int32) (v2 : Int32) : Option Int32 :=
  if a0 ≤ v2 then (some v1)
  else (z_let (v1 + (F_X10_darkness (F_X9_has t v2 0 D))) (fun v7 => z_let (v2 + 1) (fun v8 => kc3 (v7, v8))))
def F_X9_allDyes (N : Nat) (t : Nat) (a0 : Int32) (D : z_Dat) : Option Int32 :=
  z_loop (fun kc3 s => F_X9_allDyes_L4 t a0 D kc3 s.1 s.2) N (0, 0)
set_option maxRecDepth 100000 in
set_option maxHeartbeats 4000000 in
theorem em_X9_allDyes {l : Launch} {S : List z_Shp} {t : Nat} (hl : l.stackTraces = false) (hT : z_isTown S t) (N : Nat) (a0 : Int32) (D : z_Dat) : ∀ out, z_ko (z_kR S D) (F_X9_allDyes N t a0 D) out → z_EM l M_X9_allDyes (40, 640, 0, 0) [.ref t, .int a0] S D out := by
  refine z_meth hl rfl kp_X9 (Nat.le_of_ble_eq_true rfl) (lv := [some (.ref t), some (.int a0), none, none]) rfl ?_
  unfold F_X9_allDyes
  refine z_iconst (v := 0) dX9_allDyes_0 rfl ?_
  refine z_istore_n (i := 2) (x := 0) (lv' := [some (.ref t), some (.int a0), some (.int 0), none]) dX9_allDyes_1 rfl (by decide) rfl rfl ?_
  refine z_iconst (v := 0) dX9_allDyes_2 rfl ?_
  refine z_istore_n (i := 3) (x := 0) (lv' := [some (.ref t), some (.int a0), some (.int 0), some (.int 0)]) dX9_allDyes_3 rfl (by decide) rfl rfl ?_
  refine z_loops (lvOf := fun s : Int32 × Int32 => [some (.ref t), some (.int a0), some (.int s.1), some (.int s.2)]) (dOf := fun s : Int32 × Int32 => D) (fun kc3 hkc3 s => ?_) N (0, 0)
  obtain ⟨v1, v2⟩ := s
  show z_F _ _ _ _ _ 4 [some (.ref t), some (.int a0), some (.int v1), some (.int v2)] [] S D _ (F_X9_allDyes_L4 t a0 D kc3 v1 v2)
  unfold F_X9_allDyes_L4
  refine z_iload_n (i := 3) (x := v2) dX9_allDyes_4 rfl rfl ?_
  refine z_iload_n (i := 1) (x := a0) dX9_allDyes_5 rfl rfl ?_
  refine z_icmp_ge 27 dX9_allDyes_6 (by decide) (fun c4 => ?_) (fun c4 => ?_)
  · refine z_iload_n (i := 2) (x := v1) dX9_allDyes_27 rfl rfl ?_
    exact z_ireturn dX9_allDyes_28 z_rR rfl (by decide) (by decide)
  · refine z_iload_n (i := 2) (x := v1) dX9_allDyes_9 rfl rfl ?_
    refine z_aload_n (i := 0) (x := t) dX9_allDyes_10 rfl rfl ?_
    refine z_iload_n (i := 3) (x := v2) dX9_allDyes_11 rfl rfl ?_
    refine z_iconst (v := 0) dX9_allDyes_12 rfl ?_
    refine z_cP (As := [.ref t, .int v2, .int 0]) (rest := [.int v1]) (em_X9_has hl hT v2 0 D) (fun o7 h => z_runV 47 2 h rfl kk_X9_47 hT.1 kl_9.1 kq_X9_has rfl (Nat.le_of_ble_eq_true rfl) ⟨Nat.le_of_ble_eq_true rfl, Nat.le_of_ble_eq_true rfl, Nat.le_of_ble_eq_true rfl, Nat.le_of_ble_eq_true rfl⟩ dX9_allDyes_13) z_gR (fun hz5 => ?_)
    refine z_cP (As := [.int (F_X9_has t v2 0 D)]) (rest := [.int v1]) (em_X10_darkness hl (F_X9_has t v2 0 D) D) (fun o7 h => z_runSN 89 1 h rfl kk_X9_89 kn_X9_89 kq_X10_darkness rfl (Nat.le_of_ble_eq_true rfl) ⟨Nat.le_of_ble_eq_true rfl, Nat.le_of_ble_eq_true rfl, Nat.le_of_ble_eq_true rfl, Nat.le_of_ble_eq_true rfl⟩ dX9_allDyes_16) z_gR (fun hz6 => ?_)
    refine z_iadd dX9_allDyes_19 ?_
    refine z_topi (fun v7 => ?_)
    refine z_istore_n (i := 2) (x := v7) (lv' := [some (.ref t), some (.int a0), some (.int v7), some (.int v2)]) dX9_allDyes_20 rfl (by decide) rfl rfl ?_
    refine z_iinc (i := 3) (x := v2) (y := 1) dX9_allDyes_21 rfl (by decide) (by decide) rfl (fun v8 => ?_)
    refine z_goto 4 dX9_allDyes_24 (by decide) ?_
    exact hkc3 (v7, v8)

def F_X10_ahead_L41 (N : Nat) (o : Nat) (a0 : Int32) (a1 : Int32) (kc10 : ((Int32 × z_Dat) → Option ((Int32 × z_Dat) ⊕ (String × z_Dat)))) (v8 : Int32) (D9 : z_Dat) : Option ((Int32 × z_Dat) ⊕ (String × z_Dat)) :=
  if a0 ≤ v8 then (if a1 = 0 then (z_bd (F_X10_seated N o 5 D9) (fun a_17 => some (.inl (a_17.1, a_17.2))))
  else (if a1 = 1 then (z_bd (F_X9_allDyes N 5 (D9 o 6) D9) (fun a_15 => some (.inl (a_15, D9))))
  else (z_bd (F_X9_unlikeShades N 5 (D9 o 6) D9) (fun a_13 => some (.inl (a_13, D9))))))
  else (z_bd (F_X9_passYear N 5 (D9 o 6) (D9 o 7) D9) (fun a_19 => z_let (v8 + 1) (fun v20 => kc10 (v20, a_19))))
def F_X10_ahead_J25 (N : Nat) (o : Nat) (a0 : Int32) (a1 : Int32) (D3 : z_Dat) : Option ((Int32 × z_Dat) ⊕ (String × z_Dat)) :=
  z_bt (F_X10_demand 0 D3) (fun a_5 => z_bd (F_X9_copyFrom N 5 3 a_5) (fun a_7 => z_loop (fun kc10 s => F_X10_ahead_L41 N o a0 a1 kc10 s.1 s.2) N (0, a_7)))
def F_X10_ahead_J24 (N : Nat) (o : Nat) (a0 : Int32) (a1 : Int32) (D2 : z_Dat) : Option ((Int32 × z_Dat) ⊕ (String × z_Dat)) :=
  F_X10_ahead_J25 N o a0 a1 D2
def F_X10_ahead_L41x (N : Nat) (o : Nat) (a0 : Int32) (a1 : Int32) (kc32 : ((Int32 × z_Dat) → Option ((Int32 × z_Dat) ⊕ (String × z_Dat)))) (v30 : Int32) (D31 : z_Dat) : Option ((Int32 × z_Dat) ⊕ (String × z_Dat)) :=
  if a0 ≤ v30 then (if a1 = 0 then (z_bd (F_X10_seated N o 5 D31) (fun a_39 => some (.inl (a_39.1, a_39.2))))
  else (if a1 = 1 then (z_bd (F_X9_allDyes N 5 (D31 o 6) D31) (fun a_37 => some (.inl (a_37, D31))))
  else (z_bd (F_X9_unlikeShades N 5 (D31 o 6) D31) (fun a_35 => some (.inl (a_35, D31))))))
  else (z_bd (F_X9_passYear N 5 (D31 o 6) (D31 o 7) D31) (fun a_41 => z_let (v30 + 1) (fun v42 => kc32 (v42, a_41))))
def F_X10_ahead_J25x (N : Nat) (o : Nat) (a0 : Int32) (a1 : Int32) (D25 : z_Dat) : Option ((Int32 × z_Dat) ⊕ (String × z_Dat)) :=
  z_bt (F_X10_demand 1 D25) (fun a_27 => z_bd (F_X9_copyFrom N 5 3 a_27) (fun a_29 => z_loop (fun kc32 s => F_X10_ahead_L41x N o a0 a1 kc32 s.1 s.2) N (0, a_29)))
def F_X10_ahead (N : Nat) (o : Nat) (a0 : Int32) (a1 : Int32) (D : z_Dat) : Option ((Int32 × z_Dat) ⊕ (String × z_Dat)) :=
  if a0 < 0 then (F_X10_ahead_J24 N o a0 a1 D)
  else (if 100 < a0 then (F_X10_ahead_J24 N o a0 a1 D)
  else (if a1 < 0 then (F_X10_ahead_J24 N o a0 a1 D)
  else (if 2 < a1 then (F_X10_ahead_J24 N o a0 a1 D)
  else (F_X10_ahead_J25x N o a0 a1 D))))
set_option maxRecDepth 100000 in
set_option maxHeartbeats 4000000 in
theorem em_X10_ahead {l : Launch} {S : List z_Shp} {o : Nat} (hl : l.stackTraces = false) (hW : z_W S o) (N : Nat) (a0 : Int32) (a1 : Int32) (D : z_Dat) : ∀ out, z_ko (z_kTI S) (F_X10_ahead N o a0 a1 D) out → z_EM l M_X10_ahead (70, 820, 1, 6) [.ref 0, .int a0, .int a1] S D out := by
  have hC := hW.2
  have hs0 : S[0]? = some (12, 15, [some (some 1), some (some 3), some (some 5), some (some 7), some (some 12), some (some 15), some (some 21), some (some 25), some (some 28), some (some 32), some (some 33), some (some o), none, none, none]) := hW.1 0 _ rfl
  have hs3 : S[3]? = some (11, 1, [some (some 4)]) := hW.1 3 _ rfl
  have hs4 : S[4]? = some (0, 44, []) := hW.1 4 _ rfl
  have hs5 : S[5]? = some (11, 1, [some (some 6)]) := hW.1 5 _ rfl
  have hs6 : S[6]? = some (0, 44, []) := hW.1 6 _ rfl
  refine z_meth hl rfl kp_X10 (Nat.le_of_ble_eq_true rfl) (lv := [some (.ref 0), some (.int a0), some (.int a1), none]) rfl ?_
  unfold F_X10_ahead
  have hJ_F_X10_ahead_J25 : ∀ (D3 : z_Dat) , z_F l M_X10_ahead (70, 820, 1, 6) 0 0 25 [some (.ref 0), some (.int a0), some (.int a1), none] [.int 0, .ref 0] S D3 (z_ko (z_kTI S)) (F_X10_ahead_J25 N o a0 a1 D3) := by
    intro D3
    unfold F_X10_ahead_J25
    refine z_cXVI rfl (As := [.ref 0, .int 0]) (rest := []) (em_X10_demand hl hW 0 D3) (fun o7 h => z_runV 102 1 h rfl kk_X10_102 hs0 kl_10.1 kq_X10_demand rfl (Nat.le_of_ble_eq_true rfl) ⟨Nat.le_of_ble_eq_true rfl, Nat.le_of_ble_eq_true rfl, Nat.le_of_ble_eq_true rfl, Nat.le_of_ble_eq_true rfl⟩ dX10_ahead_25) (by decide) (by decide) (fun a_5 hz4 => ?_)
    refine z_aload_n (i := 0) (x := 0) dX10_ahead_28 rfl rfl ?_
    refine z_getR (j := 2) dX10_ahead_29 kl_10 hs0 (by decide) rfl rfl kf_X10_23 ?_
    refine z_aload_n (i := 0) (x := 0) dX10_ahead_32 rfl rfl ?_
    refine z_getR (j := 1) dX10_ahead_33 kl_10 hs0 (by decide) rfl rfl kf_X10_19 ?_
    refine z_cWV (As := [.ref 5, .ref 3]) (rest := []) (em_X9_copyFrom hl ⟨hs5, hs6⟩ ⟨hs3, hs4⟩ N a_5) (fun o7 h => z_runV 248 1 h rfl kk_X10_248 hs5 kl_9.1 kq_X9_copyFrom rfl (Nat.le_of_ble_eq_true rfl) ⟨Nat.le_of_ble_eq_true rfl, Nat.le_of_ble_eq_true rfl, Nat.le_of_ble_eq_true rfl, Nat.le_of_ble_eq_true rfl⟩ dX10_ahead_36) z_gXI (fun a_7 hz6 => ?_)
    refine z_iconst (v := 0) dX10_ahead_39 rfl ?_
    refine z_istore_n (i := 3) (x := 0) (lv' := [some (.ref 0), some (.int a0), some (.int a1), some (.int 0)]) dX10_ahead_40 rfl (by decide) rfl rfl ?_
    refine z_widen (k := 1) (n := 6) (by decide) (by decide) ?_
    refine z_loops (lvOf := fun s : Int32 × z_Dat => [some (.ref 0), some (.int a0), some (.int a1), some (.int s.1)]) (dOf := fun s : Int32 × z_Dat => s.2) (fun kc10 hkc10 s => ?_) N (0, a_7)
    obtain ⟨v8, D9⟩ := s
    show z_F _ _ _ _ _ 41 [some (.ref 0), some (.int a0), some (.int a1), some (.int v8)] [] S D9 _ (F_X10_ahead_L41 N o a0 a1 kc10 v8 D9)
    unfold F_X10_ahead_L41
    refine z_iload_n (i := 3) (x := v8) dX10_ahead_41 rfl rfl ?_
    refine z_iload_n (i := 1) (x := a0) dX10_ahead_42 rfl rfl ?_
    refine z_icmp_ge 73 dX10_ahead_43 (by decide) (fun c11 => ?_) (fun c11 => ?_)
    · refine z_iload_n (i := 2) (x := a1) dX10_ahead_73 rfl rfl ?_
      refine z_ite (fun h_0 => ?_) (fun h_0 => ?_)
      · refine z_lsw 100 dX10_ahead_74 (by decide) (by rw [h_0]; first | done | rfl) (by decide) ?_
        refine z_aload_n (i := 0) (x := 0) dX10_ahead_100 rfl rfl ?_
        refine z_aload_n (i := 0) (x := 0) dX10_ahead_101 rfl rfl ?_
        refine z_getR (j := 2) dX10_ahead_102 kl_10 hs0 (by decide) rfl rfl kf_X10_23 ?_
        refine z_cWI (As := [.ref 0, .ref 5]) (rest := []) (em_X10_seated hl hW ⟨hs5, hs6⟩ N D9) (fun o7 h => z_runV 174 1 h rfl kk_X10_174 hs0 kl_10.1 kq_X10_seated rfl (Nat.le_of_ble_eq_true rfl) ⟨Nat.le_of_ble_eq_true rfl, Nat.le_of_ble_eq_true rfl, Nat.le_of_ble_eq_true rfl, Nat.le_of_ble_eq_true rfl⟩ dX10_ahead_105) z_gXI (fun a_17 hz16 => ?_)
        exact z_ireturn dX10_ahead_108 z_rXI rfl (by decide) (by decide)
      · refine z_ite (fun h_1 => ?_) (fun h_1 => ?_)
        · refine z_lsw 109 dX10_ahead_74 (by decide) (by rw [h_1]; first | done | rfl) (by decide) ?_
          refine z_aload_n (i := 0) (x := 0) dX10_ahead_109 rfl rfl ?_
          refine z_getR (j := 2) dX10_ahead_110 kl_10 hs0 (by decide) rfl rfl kf_X10_23 ?_
          refine z_aload_n (i := 0) (x := 0) dX10_ahead_113 rfl rfl ?_
          refine z_getR (j := 11) dX10_ahead_114 kl_10 hs0 (by decide) rfl rfl kf_X10_82 ?_
          refine z_getIN (j := 6) dX10_ahead_117 kl_1 hC.1 (by decide) rfl rfl kf_X10_134 ?_
          refine z_cR (As := [.ref 5, .int (D9 o 6)]) (rest := []) (em_X9_allDyes hl ⟨hs5, hs6⟩ N (D9 o 6) D9) (fun o7 h => z_runV 326 1 h rfl kk_X10_326 hs5 kl_9.1 kq_X9_allDyes rfl (Nat.le_of_ble_eq_true rfl) ⟨Nat.le_of_ble_eq_true rfl, Nat.le_of_ble_eq_true rfl, Nat.le_of_ble_eq_true rfl, Nat.le_of_ble_eq_true rfl⟩ dX10_ahead_120) z_gXI (fun a_15 hz14 => ?_)
          exact z_ireturn dX10_ahead_123 z_rXI rfl (by decide) (by decide)
        · refine z_lsw (off := 50) 124 dX10_ahead_74 (by decide) ((lv_osw h_0 (by decide)).trans ((lv_osw h_1 (by decide)).trans rfl)) (by decide) ?_
          refine z_aload_n (i := 0) (x := 0) dX10_ahead_124 rfl rfl ?_
          refine z_getR (j := 2) dX10_ahead_125 kl_10 hs0 (by decide) rfl rfl kf_X10_23 ?_
          refine z_aload_n (i := 0) (x := 0) dX10_ahead_128 rfl rfl ?_
          refine z_getR (j := 11) dX10_ahead_129 kl_10 hs0 (by decide) rfl rfl kf_X10_82 ?_
          refine z_getIN (j := 6) dX10_ahead_132 kl_1 hC.1 (by decide) rfl rfl kf_X10_134 ?_
          refine z_cR (As := [.ref 5, .int (D9 o 6)]) (rest := []) (em_X9_unlikeShades hl ⟨hs5, hs6⟩ N (D9 o 6) D9) (fun o7 h => z_runV 185 1 h rfl kk_X10_185 hs5 kl_9.1 kq_X9_unlikeShades rfl (Nat.le_of_ble_eq_true rfl) ⟨Nat.le_of_ble_eq_true rfl, Nat.le_of_ble_eq_true rfl, Nat.le_of_ble_eq_true rfl, Nat.le_of_ble_eq_true rfl⟩ dX10_ahead_135) z_gXI (fun a_13 hz12 => ?_)
          exact z_ireturn dX10_ahead_138 z_rXI rfl (by decide) (by decide)
    · refine z_aload_n (i := 0) (x := 0) dX10_ahead_46 rfl rfl ?_
      refine z_getR (j := 2) dX10_ahead_47 kl_10 hs0 (by decide) rfl rfl kf_X10_23 ?_
      refine z_aload_n (i := 0) (x := 0) dX10_ahead_50 rfl rfl ?_
      refine z_getR (j := 11) dX10_ahead_51 kl_10 hs0 (by decide) rfl rfl kf_X10_82 ?_
      refine z_getIN (j := 6) dX10_ahead_54 kl_1 hC.1 (by decide) rfl rfl kf_X10_134 ?_
      refine z_aload_n (i := 0) (x := 0) dX10_ahead_57 rfl rfl ?_
      refine z_getR (j := 11) dX10_ahead_58 kl_10 hs0 (by decide) rfl rfl kf_X10_82 ?_
      refine z_getIN (j := 7) dX10_ahead_61 kl_1 hC.1 (by decide) rfl rfl kf_X10_188 ?_
      refine z_cWV (As := [.ref 5, .int (D9 o 6), .int (D9 o 7)]) (rest := []) (em_X9_passYear hl ⟨hs5, hs6⟩ N (D9 o 6) (D9 o 7) D9) (fun o7 h => z_runV 251 2 h rfl kk_X10_251 hs5 kl_9.1 kq_X9_passYear rfl (Nat.le_of_ble_eq_true rfl) ⟨Nat.le_of_ble_eq_true rfl, Nat.le_of_ble_eq_true rfl, Nat.le_of_ble_eq_true rfl, Nat.le_of_ble_eq_true rfl⟩ dX10_ahead_64) z_gXI (fun a_19 hz18 => ?_)
      refine z_iinc (i := 3) (x := v8) (y := 1) dX10_ahead_67 rfl (by decide) (by decide) rfl (fun v20 => ?_)
      refine z_goto 41 dX10_ahead_70 (by decide) ?_
      exact hkc10 (v20, a_19)
  have hJ_F_X10_ahead_J24 : ∀ (D2 : z_Dat) , z_F l M_X10_ahead (70, 820, 1, 6) 0 0 24 [some (.ref 0), some (.int a0), some (.int a1), none] [.ref 0] S D2 (z_ko (z_kTI S)) (F_X10_ahead_J24 N o a0 a1 D2) := by
    intro D2
    unfold F_X10_ahead_J24
    refine z_iconst (v := 0) dX10_ahead_24 rfl ?_
    refine z_widen (k := 0) (n := 0) (by decide) (by decide) ?_
    exact hJ_F_X10_ahead_J25 D2
  have hJ_F_X10_ahead_J25x : ∀ (D25 : z_Dat) , z_F l M_X10_ahead (70, 820, 1, 6) 0 0 25 [some (.ref 0), some (.int a0), some (.int a1), none] [.int 1, .ref 0] S D25 (z_ko (z_kTI S)) (F_X10_ahead_J25x N o a0 a1 D25) := by
    intro D25
    unfold F_X10_ahead_J25x
    refine z_cXVI rfl (As := [.ref 0, .int 1]) (rest := []) (em_X10_demand hl hW 1 D25) (fun o7 h => z_runV 102 1 h rfl kk_X10_102 hs0 kl_10.1 kq_X10_demand rfl (Nat.le_of_ble_eq_true rfl) ⟨Nat.le_of_ble_eq_true rfl, Nat.le_of_ble_eq_true rfl, Nat.le_of_ble_eq_true rfl, Nat.le_of_ble_eq_true rfl⟩ dX10_ahead_25) (by decide) (by decide) (fun a_27 hz26 => ?_)
    refine z_aload_n (i := 0) (x := 0) dX10_ahead_28 rfl rfl ?_
    refine z_getR (j := 2) dX10_ahead_29 kl_10 hs0 (by decide) rfl rfl kf_X10_23 ?_
    refine z_aload_n (i := 0) (x := 0) dX10_ahead_32 rfl rfl ?_
    refine z_getR (j := 1) dX10_ahead_33 kl_10 hs0 (by decide) rfl rfl kf_X10_19 ?_
    refine z_cWV (As := [.ref 5, .ref 3]) (rest := []) (em_X9_copyFrom hl ⟨hs5, hs6⟩ ⟨hs3, hs4⟩ N a_27) (fun o7 h => z_runV 248 1 h rfl kk_X10_248 hs5 kl_9.1 kq_X9_copyFrom rfl (Nat.le_of_ble_eq_true rfl) ⟨Nat.le_of_ble_eq_true rfl, Nat.le_of_ble_eq_true rfl, Nat.le_of_ble_eq_true rfl, Nat.le_of_ble_eq_true rfl⟩ dX10_ahead_36) z_gXI (fun a_29 hz28 => ?_)
    refine z_iconst (v := 0) dX10_ahead_39 rfl ?_
    refine z_istore_n (i := 3) (x := 0) (lv' := [some (.ref 0), some (.int a0), some (.int a1), some (.int 0)]) dX10_ahead_40 rfl (by decide) rfl rfl ?_
    refine z_widen (k := 1) (n := 6) (by decide) (by decide) ?_
    refine z_loops (lvOf := fun s : Int32 × z_Dat => [some (.ref 0), some (.int a0), some (.int a1), some (.int s.1)]) (dOf := fun s : Int32 × z_Dat => s.2) (fun kc32 hkc32 s => ?_) N (0, a_29)
    obtain ⟨v30, D31⟩ := s
    show z_F _ _ _ _ _ 41 [some (.ref 0), some (.int a0), some (.int a1), some (.int v30)] [] S D31 _ (F_X10_ahead_L41x N o a0 a1 kc32 v30 D31)
    unfold F_X10_ahead_L41x
    refine z_iload_n (i := 3) (x := v30) dX10_ahead_41 rfl rfl ?_
    refine z_iload_n (i := 1) (x := a0) dX10_ahead_42 rfl rfl ?_
    refine z_icmp_ge 73 dX10_ahead_43 (by decide) (fun c33 => ?_) (fun c33 => ?_)
    · refine z_iload_n (i := 2) (x := a1) dX10_ahead_73 rfl rfl ?_
      refine z_ite (fun h_0 => ?_) (fun h_0 => ?_)
      · refine z_lsw 100 dX10_ahead_74 (by decide) (by rw [h_0]; first | done | rfl) (by decide) ?_
        refine z_aload_n (i := 0) (x := 0) dX10_ahead_100 rfl rfl ?_
        refine z_aload_n (i := 0) (x := 0) dX10_ahead_101 rfl rfl ?_
        refine z_getR (j := 2) dX10_ahead_102 kl_10 hs0 (by decide) rfl rfl kf_X10_23 ?_
        refine z_cWI (As := [.ref 0, .ref 5]) (rest := []) (em_X10_seated hl hW ⟨hs5, hs6⟩ N D31) (fun o7 h => z_runV 174 1 h rfl kk_X10_174 hs0 kl_10.1 kq_X10_seated rfl (Nat.le_of_ble_eq_true rfl) ⟨Nat.le_of_ble_eq_true rfl, Nat.le_of_ble_eq_true rfl, Nat.le_of_ble_eq_true rfl, Nat.le_of_ble_eq_true rfl⟩ dX10_ahead_105) z_gXI (fun a_39 hz38 => ?_)
        exact z_ireturn dX10_ahead_108 z_rXI rfl (by decide) (by decide)
      · refine z_ite (fun h_1 => ?_) (fun h_1 => ?_)
        · refine z_lsw 109 dX10_ahead_74 (by decide) (by rw [h_1]; first | done | rfl) (by decide) ?_
          refine z_aload_n (i := 0) (x := 0) dX10_ahead_109 rfl rfl ?_
          refine z_getR (j := 2) dX10_ahead_110 kl_10 hs0 (by decide) rfl rfl kf_X10_23 ?_
          refine z_aload_n (i := 0) (x := 0) dX10_ahead_113 rfl rfl ?_
          refine z_getR (j := 11) dX10_ahead_114 kl_10 hs0 (by decide) rfl rfl kf_X10_82 ?_
          refine z_getIN (j := 6) dX10_ahead_117 kl_1 hC.1 (by decide) rfl rfl kf_X10_134 ?_
          refine z_cR (As := [.ref 5, .int (D31 o 6)]) (rest := []) (em_X9_allDyes hl ⟨hs5, hs6⟩ N (D31 o 6) D31) (fun o7 h => z_runV 326 1 h rfl kk_X10_326 hs5 kl_9.1 kq_X9_allDyes rfl (Nat.le_of_ble_eq_true rfl) ⟨Nat.le_of_ble_eq_true rfl, Nat.le_of_ble_eq_true rfl, Nat.le_of_ble_eq_true rfl, Nat.le_of_ble_eq_true rfl⟩ dX10_ahead_120) z_gXI (fun a_37 hz36 => ?_)
          exact z_ireturn dX10_ahead_123 z_rXI rfl (by decide) (by decide)
        · refine z_lsw (off := 50) 124 dX10_ahead_74 (by decide) ((lv_osw h_0 (by decide)).trans ((lv_osw h_1 (by decide)).trans rfl)) (by decide) ?_
          refine z_aload_n (i := 0) (x := 0) dX10_ahead_124 rfl rfl ?_
          refine z_getR (j := 2) dX10_ahead_125 kl_10 hs0 (by decide) rfl rfl kf_X10_23 ?_
          refine z_aload_n (i := 0) (x := 0) dX10_ahead_128 rfl rfl ?_
          refine z_getR (j := 11) dX10_ahead_129 kl_10 hs0 (by decide) rfl rfl kf_X10_82 ?_
          refine z_getIN (j := 6) dX10_ahead_132 kl_1 hC.1 (by decide) rfl rfl kf_X10_134 ?_
          refine z_cR (As := [.ref 5, .int (D31 o 6)]) (rest := []) (em_X9_unlikeShades hl ⟨hs5, hs6⟩ N (D31 o 6) D31) (fun o7 h => z_runV 185 1 h rfl kk_X10_185 hs5 kl_9.1 kq_X9_unlikeShades rfl (Nat.le_of_ble_eq_true rfl) ⟨Nat.le_of_ble_eq_true rfl, Nat.le_of_ble_eq_true rfl, Nat.le_of_ble_eq_true rfl, Nat.le_of_ble_eq_true rfl⟩ dX10_ahead_135) z_gXI (fun a_35 hz34 => ?_)
          exact z_ireturn dX10_ahead_138 z_rXI rfl (by decide) (by decide)
    · refine z_aload_n (i := 0) (x := 0) dX10_ahead_46 rfl rfl ?_
      refine z_getR (j := 2) dX10_ahead_47 kl_10 hs0 (by decide) rfl rfl kf_X10_23 ?_
      refine z_aload_n (i := 0) (x := 0) dX10_ahead_50 rfl rfl ?_
      refine z_getR (j := 11) dX10_ahead_51 kl_10 hs0 (by decide) rfl rfl kf_X10_82 ?_
      refine z_getIN (j := 6) dX10_ahead_54 kl_1 hC.1 (by decide) rfl rfl kf_X10_134 ?_
      refine z_aload_n (i := 0) (x := 0) dX10_ahead_57 rfl rfl ?_
      refine z_getR (j := 11) dX10_ahead_58 kl_10 hs0 (by decide) rfl rfl kf_X10_82 ?_
      refine z_getIN (j := 7) dX10_ahead_61 kl_1 hC.1 (by decide) rfl rfl kf_X10_188 ?_
      refine z_cWV (As := [.ref 5, .int (D31 o 6), .int (D31 o 7)]) (rest := []) (em_X9_passYear hl ⟨hs5, hs6⟩ N (D31 o 6) (D31 o 7) D31) (fun o7 h => z_runV 251 2 h rfl kk_X10_251 hs5 kl_9.1 kq_X9_passYear rfl (Nat.le_of_ble_eq_true rfl) ⟨Nat.le_of_ble_eq_true rfl, Nat.le_of_ble_eq_true rfl, Nat.le_of_ble_eq_true rfl, Nat.le_of_ble_eq_true rfl⟩ dX10_ahead_64) z_gXI (fun a_41 hz40 => ?_)
      refine z_iinc (i := 3) (x := v30) (y := 1) dX10_ahead_67 rfl (by decide) (by decide) rfl (fun v42 => ?_)
      refine z_goto 41 dX10_ahead_70 (by decide) ?_
      exact hkc32 (v42, a_41)
  refine z_aload_n (i := 0) (x := 0) dX10_ahead_0 rfl rfl ?_
  refine z_iload_n (i := 1) (x := a0) dX10_ahead_1 rfl rfl ?_
  refine z_if_lt 24 dX10_ahead_2 (by decide) (fun c1 => ?_) (fun c1 => ?_)
  · refine z_widen (k := 0) (n := 0) (by decide) (by decide) ?_
    exact hJ_F_X10_ahead_J24 D
  · refine z_iload_n (i := 1) (x := a0) dX10_ahead_5 rfl rfl ?_
    refine z_bipush (v := 100) dX10_ahead_6 (by decide) ?_
    refine z_icmp_gt 24 dX10_ahead_8 (by decide) (fun c22 => ?_) (fun c22 => ?_)
    · refine z_widen (k := 0) (n := 0) (by decide) (by decide) ?_
      exact hJ_F_X10_ahead_J24 D
    · refine z_iload_n (i := 2) (x := a1) dX10_ahead_11 rfl rfl ?_
      refine z_if_lt 24 dX10_ahead_12 (by decide) (fun c23 => ?_) (fun c23 => ?_)
      · refine z_widen (k := 0) (n := 0) (by decide) (by decide) ?_
        exact hJ_F_X10_ahead_J24 D
      · refine z_iload_n (i := 2) (x := a1) dX10_ahead_15 rfl rfl ?_
        refine z_iconst (v := 2) dX10_ahead_16 rfl ?_
        refine z_icmp_gt 24 dX10_ahead_17 (by decide) (fun c24 => ?_) (fun c24 => ?_)
        · refine z_widen (k := 0) (n := 0) (by decide) (by decide) ?_
          exact hJ_F_X10_ahead_J24 D
        · refine z_iconst (v := 1) dX10_ahead_20 rfl ?_
          refine z_goto 25 dX10_ahead_21 (by decide) ?_
          refine z_widen (k := 0) (n := 0) (by decide) (by decide) ?_
          exact hJ_F_X10_ahead_J25x D

def F_X3_draw (a0 : Int32) (D : z_Dat) : Option (Int32 × z_Dat) :=
  z_let (z_up D 32 0 (((D 32 0) * 1103515245) + 12345)) (fun D1 => if a0 ≤ 0 then (some (0, D1))
  else (if a0 = 0 then none else (some (z_rem ((z_ushr (D1 32 0) 16) &&& 32767) a0, D1))))
set_option maxRecDepth 100000 in
set_option maxHeartbeats 4000000 in
theorem em_X3_draw {l : Launch} {S : List z_Shp} {oW : Nat} (hl : l.stackTraces = false) (hW : z_W S oW) (a0 : Int32) (D : z_Dat) : ∀ out, z_ko (z_kI S) (F_X3_draw a0 D) out → z_EM l M_X3_draw (20, 520, 0, 0) [.ref 32, .int a0] S D out := by
  have hs32 : S[32]? = some (5, 3, [none, none, none]) := hW.1 32 _ rfl
  refine z_meth hl rfl kp_X3 (Nat.le_of_ble_eq_true rfl) (lv := [some (.ref 32), some (.int a0)]) rfl ?_
  unfold F_X3_draw
  refine z_aload_n (i := 0) (x := 32) dX3_draw_0 rfl rfl ?_
  refine z_aload_n (i := 0) (x := 32) dX3_draw_1 rfl rfl ?_
  refine z_getI (j := 0) dX3_draw_2 kl_3 hs32 (by decide) rfl rfl kf_X3_7 ?_
  refine z_ldc (v := 1103515245) dX3_draw_5 kd_X3_51 ?_
  refine z_imul dX3_draw_7 ?_
  refine z_sipush (v := 12345) dX3_draw_8 (by decide) ?_
  refine z_iadd dX3_draw_11 ?_
  refine z_putI (j := 0) dX3_draw_12 kl_3 tyX3_ok nmX3 hs32 (by decide) rfl rfl rfl rfl rfl rfl kf_X3_7 (fun D1 => ?_)
  refine z_iload_n (i := 1) (x := a0) dX3_draw_15 rfl rfl ?_
  refine z_if_le 35 dX3_draw_16 (by decide) (fun c2 => ?_) (fun c2 => ?_)
  · refine z_iconst (v := 0) dX3_draw_35 rfl ?_
    exact z_ireturn dX3_draw_36 z_rWI rfl (by decide) (by decide)
  · refine z_aload_n (i := 0) (x := 32) dX3_draw_19 rfl rfl ?_
    refine z_getI (j := 0) dX3_draw_20 kl_3 hs32 (by decide) rfl rfl kf_X3_7 ?_
    refine z_bipush (v := 16) dX3_draw_23 (by decide) ?_
    refine z_iushr dX3_draw_25 ?_
    refine z_sipush (v := 32767) dX3_draw_26 (by decide) ?_
    refine z_iand dX3_draw_29 ?_
    refine z_iload_n (i := 1) (x := a0) dX3_draw_30 rfl rfl ?_
    refine z_irem dX3_draw_31 (fun c3 => ?_)
    refine z_goto 36 dX3_draw_32 (by decide) ?_
    exact z_ireturn dX3_draw_36 z_rWI rfl (by decide) (by decide)

def F_X3_live_J116 (N : Nat) (o : Nat) (t : Nat) (kc6 : ((Int32 × z_Dat) → Option z_Dat)) (v14 : Int32) (D15 : z_Dat) : Option z_Dat :=
  z_bd (F_X9_passYear N t (D15 o 6) (D15 o 7) D15) (fun a_17 => z_let (v14 + 1) (fun v18 => kc6 (v18, a_17)))
def F_X3_live_J57 (N : Nat) (o : Nat) (t : Nat) (kc6 : ((Int32 × z_Dat) → Option z_Dat)) (v11 : Int32) (D12 : z_Dat) : Option z_Dat :=
  if (D12 o 6) ≤ 0 then (F_X3_live_J116 N o t kc6 v11 D12)
  else (if (D12 o 5) ≤ 0 then (F_X3_live_J116 N o t kc6 v11 D12)
  else (z_bd (F_X3_draw (D12 o 6) D12) (fun a_21 => z_bd (F_X3_draw (a_21.2 o 5) a_21.2) (fun a_23 => z_let (F_X9_dip t a_21.1 (F_X1_vatOf o a_23.1 a_23.2) a_23.2) (fun a_26 => if a_26.1 = 0 then (F_X3_live_J116 N o t kc6 v11 a_26.2)
  else (z_let (z_up a_26.2 32 1 ((a_26.2 32 1) + 1)) (fun D28 => F_X3_live_J116 N o t kc6 v11 D28)))))))
def F_X3_live_L18 (N : Nat) (o : Nat) (t : Nat) (a1 : Int32) (a2 : Int32) (kc6 : ((Int32 × z_Dat) → Option z_Dat)) (v4 : Int32) (D5 : z_Dat) : Option z_Dat :=
  if a2 ≤ v4 then (some D5)
  else (z_bd (F_X3_draw 16 D5) (fun a_9 => if a1 ≤ a_9.1 then (F_X3_live_J57 N o t kc6 v4 a_9.2)
  else (z_bd (F_X9_rain N t (a_9.2 o 6) a_9.2) (fun a_30 => if a_30.1 = 0 then (F_X3_live_J57 N o t kc6 v4 a_30.2)
  else (z_let (z_up a_30.2 32 2 ((a_30.2 32 2) + 1)) (fun D32 => F_X3_live_J57 N o t kc6 v4 D32))))))
def F_X3_live (N : Nat) (o : Nat) (t : Nat) (a0 : Int32) (a1 : Int32) (a2 : Int32) (D : z_Dat) : Option z_Dat :=
  z_let (z_up D 32 0 a0) (fun D1 => z_let (z_up D1 32 1 0) (fun D2 => z_let (z_up D2 32 2 0) (fun D3 => z_loop (fun kc6 s => F_X3_live_L18 N o t a1 a2 kc6 s.1 s.2) N (0, D3))))
set_option maxRecDepth 100000 in
set_option maxHeartbeats 4000000 in
theorem em_X3_live {l : Launch} {S : List z_Shp} {oW : Nat} {o : Nat} {t : Nat} (hl : l.stackTraces = false) (hW : z_W S oW) (hC : z_isCity S o) (hT : z_isTown S t) (N : Nat) (a0 : Int32) (a1 : Int32) (a2 : Int32) (D : z_Dat) : ∀ out, z_ko (z_kV S) (F_X3_live N o t a0 a1 a2 D) out → z_EM l M_X3_live (70, 820, 0, 0) [.ref 32, .ref o, .ref t, .int a0, .int a1, .int a2] S D out := by
  have hs32 : S[32]? = some (5, 3, [none, none, none]) := hW.1 32 _ rfl
  refine z_meth hl rfl kp_X3 (Nat.le_of_ble_eq_true rfl) (lv := [some (.ref 32), some (.ref o), some (.ref t), some (.int a0), some (.int a1), some (.int a2), none, none, none]) rfl ?_
  unfold F_X3_live
  refine z_aload_n (i := 0) (x := 32) dX3_live_0 rfl rfl ?_
  refine z_iload_n (i := 3) (x := a0) dX3_live_1 rfl rfl ?_
  refine z_putI (j := 0) dX3_live_2 kl_3 tyX3_ok nmX3 hs32 (by decide) rfl rfl rfl rfl rfl rfl kf_X3_7 (fun D1 => ?_)
  refine z_aload_n (i := 0) (x := 32) dX3_live_5 rfl rfl ?_
  refine z_iconst (v := 0) dX3_live_6 rfl ?_
  refine z_putI (j := 1) dX3_live_7 kl_3 tyX3_ok nmX3 hs32 (by decide) rfl rfl rfl rfl rfl rfl kf_X3_13 (fun D2 => ?_)
  refine z_aload_n (i := 0) (x := 32) dX3_live_10 rfl rfl ?_
  refine z_iconst (v := 0) dX3_live_11 rfl ?_
  refine z_putI (j := 2) dX3_live_12 kl_3 tyX3_ok nmX3 hs32 (by decide) rfl rfl rfl rfl rfl rfl kf_X3_16 (fun D3 => ?_)
  refine z_iconst (v := 0) dX3_live_15 rfl ?_
  refine z_istore (i := 6) (x := 0) (lv' := [some (.ref 32), some (.ref o), some (.ref t), some (.int a0), some (.int a1), some (.int a2), some (.int 0), none, none]) dX3_live_16 (by decide) rfl rfl ?_
  refine z_weak (lv' := [some (.ref 32), some (.ref o), some (.ref t), none, some (.int a1), some (.int a2), some (.int 0), none, none]) ⟨Or.inr rfl, ⟨Or.inr rfl, ⟨Or.inr rfl, ⟨Or.inl rfl, ⟨Or.inr rfl, ⟨Or.inr rfl, ⟨Or.inr rfl, ⟨Or.inl rfl, ⟨Or.inl rfl, trivial⟩⟩⟩⟩⟩⟩⟩⟩⟩ ?_
  refine z_loops (lvOf := fun s : Int32 × z_Dat => [some (.ref 32), some (.ref o), some (.ref t), none, some (.int a1), some (.int a2), some (.int s.1), none, none]) (dOf := fun s : Int32 × z_Dat => s.2) (fun kc6 hkc6 s => ?_) N (0, D3)
  obtain ⟨v4, D5⟩ := s
  show z_F _ _ _ _ _ 18 [some (.ref 32), some (.ref o), some (.ref t), none, some (.int a1), some (.int a2), some (.int v4), none, none] [] S D5 _ (F_X3_live_L18 N o t a1 a2 kc6 v4 D5)
  unfold F_X3_live_L18
  have hJ_F_X3_live_J116 : ∀ (v14 : Int32) (D15 : z_Dat) , z_F l M_X3_live (70, 820, 0, 0) 0 0 116 [some (.ref 32), some (.ref o), some (.ref t), none, some (.int a1), some (.int a2), some (.int v14), none, none] [] S D15 (z_ko (z_kV S)) (F_X3_live_J116 N o t kc6 v14 D15) := by
    intro v14 D15
    unfold F_X3_live_J116
    refine z_aload_n (i := 2) (x := t) dX3_live_116 rfl rfl ?_
    refine z_aload_n (i := 1) (x := o) dX3_live_117 rfl rfl ?_
    refine z_getIN (j := 6) dX3_live_118 kl_1 hC.1 (by decide) rfl rfl kf_X3_23 ?_
    refine z_aload_n (i := 1) (x := o) dX3_live_121 rfl rfl ?_
    refine z_getIN (j := 7) dX3_live_122 kl_1 hC.1 (by decide) rfl rfl kf_X3_44 ?_
    refine z_cWV (As := [.ref t, .int (D15 o 6), .int (D15 o 7)]) (rest := []) (em_X9_passYear hl hT N (D15 o 6) (D15 o 7) D15) (fun o7 h => z_runV 47 2 h rfl kk_X3_47 hT.1 kl_9.1 kq_X9_passYear rfl (Nat.le_of_ble_eq_true rfl) ⟨Nat.le_of_ble_eq_true rfl, Nat.le_of_ble_eq_true rfl, Nat.le_of_ble_eq_true rfl, Nat.le_of_ble_eq_true rfl⟩ dX3_live_125) z_gWV (fun a_17 hz16 => ?_)
    refine z_iinc (i := 6) (x := v14) (y := 1) dX3_live_128 rfl (by decide) (by decide) rfl (fun v18 => ?_)
    refine z_goto 18 dX3_live_131 (by decide) ?_
    exact hkc6 (v18, a_17)
  have hJ_F_X3_live_J57 : ∀ (v11 : Int32) (D12 : z_Dat) , z_F l M_X3_live (70, 820, 0, 0) 0 0 57 [some (.ref 32), some (.ref o), some (.ref t), none, some (.int a1), some (.int a2), some (.int v11), none, none] [] S D12 (z_ko (z_kV S)) (F_X3_live_J57 N o t kc6 v11 D12) := by
    intro v11 D12
    unfold F_X3_live_J57
    refine z_aload_n (i := 1) (x := o) dX3_live_57 rfl rfl ?_
    refine z_getIN (j := 6) dX3_live_58 kl_1 hC.1 (by decide) rfl rfl kf_X3_23 ?_
    refine z_if_le 116 dX3_live_61 (by decide) (fun c13 => ?_) (fun c13 => ?_)
    · exact hJ_F_X3_live_J116 v11 D12
    · refine z_aload_n (i := 1) (x := o) dX3_live_64 rfl rfl ?_
      refine z_getIN (j := 5) dX3_live_65 kl_1 hC.1 (by decide) rfl rfl kf_X3_34 ?_
      refine z_if_le 116 dX3_live_68 (by decide) (fun c19 => ?_) (fun c19 => ?_)
      · exact hJ_F_X3_live_J116 v11 D12
      · refine z_aload_n (i := 0) (x := 32) dX3_live_71 rfl rfl ?_
        refine z_aload_n (i := 1) (x := o) dX3_live_72 rfl rfl ?_
        refine z_getIN (j := 6) dX3_live_73 kl_1 hC.1 (by decide) rfl rfl kf_X3_23 ?_
        refine z_cWI (As := [.ref 32, .int (D12 o 6)]) (rest := []) (em_X3_draw hl hW (D12 o 6) D12) (fun o7 h => z_runV 19 1 h rfl kk_X3_19 hs32 kl_3.1 kq_X3_draw rfl (Nat.le_of_ble_eq_true rfl) ⟨Nat.le_of_ble_eq_true rfl, Nat.le_of_ble_eq_true rfl, Nat.le_of_ble_eq_true rfl, Nat.le_of_ble_eq_true rfl⟩ dX3_live_76) z_gWV (fun a_21 hz20 => ?_)
        refine z_istore (i := 7) (x := a_21.1) (lv' := [some (.ref 32), some (.ref o), some (.ref t), none, some (.int a1), some (.int a2), some (.int v11), some (.int a_21.1), none]) dX3_live_79 (by decide) rfl rfl ?_
        refine z_aload_n (i := 0) (x := 32) dX3_live_81 rfl rfl ?_
        refine z_aload_n (i := 1) (x := o) dX3_live_82 rfl rfl ?_
        refine z_getIN (j := 5) dX3_live_83 kl_1 hC.1 (by decide) rfl rfl kf_X3_34 ?_
        refine z_cWI (As := [.ref 32, .int (a_21.2 o 5)]) (rest := []) (em_X3_draw hl hW (a_21.2 o 5) a_21.2) (fun o7 h => z_runV 19 1 h rfl kk_X3_19 hs32 kl_3.1 kq_X3_draw rfl (Nat.le_of_ble_eq_true rfl) ⟨Nat.le_of_ble_eq_true rfl, Nat.le_of_ble_eq_true rfl, Nat.le_of_ble_eq_true rfl, Nat.le_of_ble_eq_true rfl⟩ dX3_live_86) z_gWV (fun a_23 hz22 => ?_)
        refine z_istore (i := 8) (x := a_23.1) (lv' := [some (.ref 32), some (.ref o), some (.ref t), none, some (.int a1), some (.int a2), some (.int v11), some (.int a_21.1), some (.int a_23.1)]) dX3_live_89 (by decide) rfl rfl ?_
        refine z_aload_n (i := 2) (x := t) dX3_live_91 rfl rfl ?_
        refine z_iload (i := 7) (x := a_21.1) dX3_live_92 rfl ?_
        refine z_aload_n (i := 1) (x := o) dX3_live_94 rfl rfl ?_
        refine z_iload (i := 8) (x := a_23.1) dX3_live_95 rfl ?_
        refine z_cP (As := [.ref o, .int a_23.1]) (rest := [.int a_21.1, .ref t]) (em_X1_vatOf hl hC a_23.1 a_23.2) (fun o7 h => z_runV 37 1 h rfl kk_X3_37 hC.1 kl_1.1 kq_X1_vatOf rfl (Nat.le_of_ble_eq_true rfl) ⟨Nat.le_of_ble_eq_true rfl, Nat.le_of_ble_eq_true rfl, Nat.le_of_ble_eq_true rfl, Nat.le_of_ble_eq_true rfl⟩ dX3_live_97) z_gWV (fun hz24 => ?_)
        refine z_cTI (As := [.ref t, .int a_21.1, .int (F_X1_vatOf o a_23.1 a_23.2)]) (rest := []) (em_X9_dip hl hT a_21.1 (F_X1_vatOf o a_23.1 a_23.2) a_23.2) (fun o7 h => z_runV 40 2 h rfl kk_X3_40 hT.1 kl_9.1 kq_X9_dip rfl (Nat.le_of_ble_eq_true rfl) ⟨Nat.le_of_ble_eq_true rfl, Nat.le_of_ble_eq_true rfl, Nat.le_of_ble_eq_true rfl, Nat.le_of_ble_eq_true rfl⟩ dX3_live_100) z_gWV (fun a_26 hz25 => ?_)
        refine z_if_eq 116 dX3_live_103 (by decide) (fun c27 => ?_) (fun c27 => ?_)
        · refine z_weak (lv' := [some (.ref 32), some (.ref o), some (.ref t), none, some (.int a1), some (.int a2), some (.int v11), none, none]) ⟨Or.inr rfl, ⟨Or.inr rfl, ⟨Or.inr rfl, ⟨Or.inl rfl, ⟨Or.inr rfl, ⟨Or.inr rfl, ⟨Or.inr rfl, ⟨Or.inl rfl, ⟨Or.inl rfl, trivial⟩⟩⟩⟩⟩⟩⟩⟩⟩ ?_
          exact hJ_F_X3_live_J116 v11 a_26.2
        · refine z_aload_n (i := 0) (x := 32) dX3_live_106 rfl rfl ?_
          refine z_dup dX3_live_107 rfl ?_
          refine z_getI (j := 1) dX3_live_108 kl_3 hs32 (by decide) rfl rfl kf_X3_13 ?_
          refine z_iconst (v := 1) dX3_live_111 rfl ?_
          refine z_iadd dX3_live_112 ?_
          refine z_putI (j := 1) dX3_live_113 kl_3 tyX3_ok nmX3 hs32 (by decide) rfl rfl rfl rfl rfl rfl kf_X3_13 (fun D28 => ?_)
          refine z_weak (lv' := [some (.ref 32), some (.ref o), some (.ref t), none, some (.int a1), some (.int a2), some (.int v11), none, none]) ⟨Or.inr rfl, ⟨Or.inr rfl, ⟨Or.inr rfl, ⟨Or.inl rfl, ⟨Or.inr rfl, ⟨Or.inr rfl, ⟨Or.inr rfl, ⟨Or.inl rfl, ⟨Or.inl rfl, trivial⟩⟩⟩⟩⟩⟩⟩⟩⟩ ?_
          exact hJ_F_X3_live_J116 v11 D28
  refine z_iload (i := 6) (x := v4) dX3_live_18 rfl ?_
  refine z_iload (i := 5) (x := a2) dX3_live_20 rfl ?_
  refine z_icmp_ge 134 dX3_live_22 (by decide) (fun c7 => ?_) (fun c7 => ?_)
  · exact z_vreturn dX3_live_134 z_rWV trivial (by decide) (by decide)
  · refine z_aload_n (i := 0) (x := 32) dX3_live_25 rfl rfl ?_
    refine z_bipush (v := 16) dX3_live_26 (by decide) ?_
    refine z_cWI (As := [.ref 32, .int 16]) (rest := []) (em_X3_draw hl hW 16 D5) (fun o7 h => z_runV 19 1 h rfl kk_X3_19 hs32 kl_3.1 kq_X3_draw rfl (Nat.le_of_ble_eq_true rfl) ⟨Nat.le_of_ble_eq_true rfl, Nat.le_of_ble_eq_true rfl, Nat.le_of_ble_eq_true rfl, Nat.le_of_ble_eq_true rfl⟩ dX3_live_28) z_gWV (fun a_9 hz8 => ?_)
    refine z_iload (i := 4) (x := a1) dX3_live_31 rfl ?_
    refine z_icmp_ge 57 dX3_live_33 (by decide) (fun c10 => ?_) (fun c10 => ?_)
    · exact hJ_F_X3_live_J57 v4 a_9.2
    · refine z_aload_n (i := 2) (x := t) dX3_live_36 rfl rfl ?_
      refine z_aload_n (i := 1) (x := o) dX3_live_37 rfl rfl ?_
      refine z_getIN (j := 6) dX3_live_38 kl_1 hC.1 (by decide) rfl rfl kf_X3_23 ?_
      refine z_cWI (As := [.ref t, .int (a_9.2 o 6)]) (rest := []) (em_X9_rain hl hT N (a_9.2 o 6) a_9.2) (fun o7 h => z_runV 28 1 h rfl kk_X3_28 hT.1 kl_9.1 kq_X9_rain rfl (Nat.le_of_ble_eq_true rfl) ⟨Nat.le_of_ble_eq_true rfl, Nat.le_of_ble_eq_true rfl, Nat.le_of_ble_eq_true rfl, Nat.le_of_ble_eq_true rfl⟩ dX3_live_41) z_gWV (fun a_30 hz29 => ?_)
      refine z_if_eq 57 dX3_live_44 (by decide) (fun c31 => ?_) (fun c31 => ?_)
      · exact hJ_F_X3_live_J57 v4 a_30.2
      · refine z_aload_n (i := 0) (x := 32) dX3_live_47 rfl rfl ?_
        refine z_dup dX3_live_48 rfl ?_
        refine z_getI (j := 2) dX3_live_49 kl_3 hs32 (by decide) rfl rfl kf_X3_16 ?_
        refine z_iconst (v := 1) dX3_live_52 rfl ?_
        refine z_iadd dX3_live_53 ?_
        refine z_putI (j := 2) dX3_live_54 kl_3 tyX3_ok nmX3 hs32 (by decide) rfl rfl rfl rfl rfl rfl kf_X3_16 (fun D32 => ?_)
        exact hJ_F_X3_live_J57 v4 D32

def F_X10_ages_J38 (N : Nat) (o : Nat) (a0 : Int32) (a1 : Int32) (a2 : Int32) (a3 : Int32) (D3 : z_Dat) : Option ((Int32 × z_Dat) ⊕ (String × z_Dat)) :=
  z_bt (F_X10_demand 0 D3) (fun a_5 => z_bd (F_X9_copyFrom N 5 3 a_5) (fun a_7 => z_bd (F_X3_live N o 5 a0 a1 a2 a_7) (fun a_9 => if a3 = 0 then (z_bd (F_X10_seated N o 5 a_9) (fun a_13 => some (.inl (a_13.1, a_13.2))))
  else (if a3 = 1 then (some (.inl (a_9 32 1, a_9)))
  else (if a3 = 2 then (some (.inl (a_9 32 2, a_9)))
  else (z_bd (F_X9_unlikeShades N 5 (a_9 o 6) a_9) (fun a_11 => some (.inl (a_11, a_9)))))))))
def F_X10_ages_J37 (N : Nat) (o : Nat) (a0 : Int32) (a1 : Int32) (a2 : Int32) (a3 : Int32) (D2 : z_Dat) : Option ((Int32 × z_Dat) ⊕ (String × z_Dat)) :=
  F_X10_ages_J38 N o a0 a1 a2 a3 D2
def F_X10_ages_J38x (N : Nat) (o : Nat) (a0 : Int32) (a1 : Int32) (a2 : Int32) (a3 : Int32) (D19 : z_Dat) : Option ((Int32 × z_Dat) ⊕ (String × z_Dat)) :=
  z_bt (F_X10_demand 1 D19) (fun a_21 => z_bd (F_X9_copyFrom N 5 3 a_21) (fun a_23 => z_bd (F_X3_live N o 5 a0 a1 a2 a_23) (fun a_25 => if a3 = 0 then (z_bd (F_X10_seated N o 5 a_25) (fun a_29 => some (.inl (a_29.1, a_29.2))))
  else (if a3 = 1 then (some (.inl (a_25 32 1, a_25)))
  else (if a3 = 2 then (some (.inl (a_25 32 2, a_25)))
  else (z_bd (F_X9_unlikeShades N 5 (a_25 o 6) a_25) (fun a_27 => some (.inl (a_27, a_25)))))))))
def F_X10_ages (N : Nat) (o : Nat) (a0 : Int32) (a1 : Int32) (a2 : Int32) (a3 : Int32) (D : z_Dat) : Option ((Int32 × z_Dat) ⊕ (String × z_Dat)) :=
  if a1 < 0 then (F_X10_ages_J37 N o a0 a1 a2 a3 D)
  else (if 16 < a1 then (F_X10_ages_J37 N o a0 a1 a2 a3 D)
  else (if a2 < 1 then (F_X10_ages_J37 N o a0 a1 a2 a3 D)
  else (if 96 < a2 then (F_X10_ages_J37 N o a0 a1 a2 a3 D)
  else (if a3 < 0 then (F_X10_ages_J37 N o a0 a1 a2 a3 D)
  else (if 3 < a3 then (F_X10_ages_J37 N o a0 a1 a2 a3 D)
  else (F_X10_ages_J38x N o a0 a1 a2 a3 D))))))
set_option maxRecDepth 100000 in
set_option maxHeartbeats 4000000 in
theorem em_X10_ages {l : Launch} {S : List z_Shp} {o : Nat} (hl : l.stackTraces = false) (hW : z_W S o) (N : Nat) (a0 : Int32) (a1 : Int32) (a2 : Int32) (a3 : Int32) (D : z_Dat) : ∀ out, z_ko (z_kTI S) (F_X10_ages N o a0 a1 a2 a3 D) out → z_EM l M_X10_ages (80, 880, 1, 6) [.ref 0, .int a0, .int a1, .int a2, .int a3] S D out := by
  have hC := hW.2
  have hs0 : S[0]? = some (12, 15, [some (some 1), some (some 3), some (some 5), some (some 7), some (some 12), some (some 15), some (some 21), some (some 25), some (some 28), some (some 32), some (some 33), some (some o), none, none, none]) := hW.1 0 _ rfl
  have hs3 : S[3]? = some (11, 1, [some (some 4)]) := hW.1 3 _ rfl
  have hs4 : S[4]? = some (0, 44, []) := hW.1 4 _ rfl
  have hs5 : S[5]? = some (11, 1, [some (some 6)]) := hW.1 5 _ rfl
  have hs6 : S[6]? = some (0, 44, []) := hW.1 6 _ rfl
  have hs32 : S[32]? = some (5, 3, [none, none, none]) := hW.1 32 _ rfl
  refine z_meth hl rfl kp_X10 (Nat.le_of_ble_eq_true rfl) (lv := [some (.ref 0), some (.int a0), some (.int a1), some (.int a2), some (.int a3)]) rfl ?_
  unfold F_X10_ages
  have hJ_F_X10_ages_J38 : ∀ (D3 : z_Dat) , z_F l M_X10_ages (80, 880, 1, 6) 0 0 38 [some (.ref 0), some (.int a0), some (.int a1), some (.int a2), some (.int a3)] [.int 0, .ref 0] S D3 (z_ko (z_kTI S)) (F_X10_ages_J38 N o a0 a1 a2 a3 D3) := by
    intro D3
    unfold F_X10_ages_J38
    refine z_cXVI rfl (As := [.ref 0, .int 0]) (rest := []) (em_X10_demand hl hW 0 D3) (fun o7 h => z_runV 102 1 h rfl kk_X10_102 hs0 kl_10.1 kq_X10_demand rfl (Nat.le_of_ble_eq_true rfl) ⟨Nat.le_of_ble_eq_true rfl, Nat.le_of_ble_eq_true rfl, Nat.le_of_ble_eq_true rfl, Nat.le_of_ble_eq_true rfl⟩ dX10_ages_38) (by decide) (by decide) (fun a_5 hz4 => ?_)
    refine z_aload_n (i := 0) (x := 0) dX10_ages_41 rfl rfl ?_
    refine z_getR (j := 2) dX10_ages_42 kl_10 hs0 (by decide) rfl rfl kf_X10_23 ?_
    refine z_aload_n (i := 0) (x := 0) dX10_ages_45 rfl rfl ?_
    refine z_getR (j := 1) dX10_ages_46 kl_10 hs0 (by decide) rfl rfl kf_X10_19 ?_
    refine z_cWV (As := [.ref 5, .ref 3]) (rest := []) (em_X9_copyFrom hl ⟨hs5, hs6⟩ ⟨hs3, hs4⟩ N a_5) (fun o7 h => z_runV 248 1 h rfl kk_X10_248 hs5 kl_9.1 kq_X9_copyFrom rfl (Nat.le_of_ble_eq_true rfl) ⟨Nat.le_of_ble_eq_true rfl, Nat.le_of_ble_eq_true rfl, Nat.le_of_ble_eq_true rfl, Nat.le_of_ble_eq_true rfl⟩ dX10_ages_49) z_gXI (fun a_7 hz6 => ?_)
    refine z_aload_n (i := 0) (x := 0) dX10_ages_52 rfl rfl ?_
    refine z_getR (j := 9) dX10_ages_53 kl_10 hs0 (by decide) rfl rfl kf_X10_71 ?_
    refine z_aload_n (i := 0) (x := 0) dX10_ages_56 rfl rfl ?_
    refine z_getR (j := 11) dX10_ages_57 kl_10 hs0 (by decide) rfl rfl kf_X10_82 ?_
    refine z_aload_n (i := 0) (x := 0) dX10_ages_60 rfl rfl ?_
    refine z_getR (j := 2) dX10_ages_61 kl_10 hs0 (by decide) rfl rfl kf_X10_23 ?_
    refine z_iload_n (i := 1) (x := a0) dX10_ages_64 rfl rfl ?_
    refine z_iload_n (i := 2) (x := a1) dX10_ages_65 rfl rfl ?_
    refine z_iload_n (i := 3) (x := a2) dX10_ages_66 rfl rfl ?_
    refine z_cWV (As := [.ref 32, .ref o, .ref 5, .int a0, .int a1, .int a2]) (rest := []) (em_X3_live hl hW hC ⟨hs5, hs6⟩ N a0 a1 a2 a_7) (fun o7 h => z_runV 329 5 h rfl kk_X10_329 hs32 kl_3.1 kq_X3_live rfl (Nat.le_of_ble_eq_true rfl) ⟨Nat.le_of_ble_eq_true rfl, Nat.le_of_ble_eq_true rfl, Nat.le_of_ble_eq_true rfl, Nat.le_of_ble_eq_true rfl⟩ dX10_ages_67) z_gXI (fun a_9 hz8 => ?_)
    refine z_iload (i := 4) (x := a3) dX10_ages_70 rfl ?_
    refine z_ite (fun h_0 => ?_) (fun h_0 => ?_)
    · refine z_tswC (c := 0) 100 dX10_ages_72 h_0 (by decide) (by decide) rfl (by decide) ?_
      refine z_aload_n (i := 0) (x := 0) dX10_ages_100 rfl rfl ?_
      refine z_aload_n (i := 0) (x := 0) dX10_ages_101 rfl rfl ?_
      refine z_getR (j := 2) dX10_ages_102 kl_10 hs0 (by decide) rfl rfl kf_X10_23 ?_
      refine z_cWI (As := [.ref 0, .ref 5]) (rest := []) (em_X10_seated hl hW ⟨hs5, hs6⟩ N a_9) (fun o7 h => z_runV 174 1 h rfl kk_X10_174 hs0 kl_10.1 kq_X10_seated rfl (Nat.le_of_ble_eq_true rfl) ⟨Nat.le_of_ble_eq_true rfl, Nat.le_of_ble_eq_true rfl, Nat.le_of_ble_eq_true rfl, Nat.le_of_ble_eq_true rfl⟩ dX10_ages_105) z_gXI (fun a_13 hz12 => ?_)
      exact z_ireturn dX10_ages_108 z_rXI rfl (by decide) (by decide)
    · refine z_ite (fun h_1 => ?_) (fun h_1 => ?_)
      · refine z_tswC (c := 1) 109 dX10_ages_72 h_1 (by decide) (by decide) rfl (by decide) ?_
        refine z_aload_n (i := 0) (x := 0) dX10_ages_109 rfl rfl ?_
        refine z_getR (j := 9) dX10_ages_110 kl_10 hs0 (by decide) rfl rfl kf_X10_71 ?_
        refine z_getIN (j := 1) dX10_ages_113 kl_3 hs32 (by decide) rfl rfl kf_X10_333 ?_
        exact z_ireturn dX10_ages_116 z_rXI rfl (by decide) (by decide)
      · refine z_ite (fun h_2 => ?_) (fun h_2 => ?_)
        · refine z_tswC (c := 2) 117 dX10_ages_72 h_2 (by decide) (by decide) rfl (by decide) ?_
          refine z_aload_n (i := 0) (x := 0) dX10_ages_117 rfl rfl ?_
          refine z_getR (j := 9) dX10_ages_118 kl_10 hs0 (by decide) rfl rfl kf_X10_71 ?_
          refine z_getIN (j := 2) dX10_ages_121 kl_3 hs32 (by decide) rfl rfl kf_X10_336 ?_
          exact z_ireturn dX10_ages_124 z_rXI rfl (by decide) (by decide)
        · refine z_tswD 125 dX10_ages_72 (by
            have q0 := z_swn h_0 (k := 0) (by decide)
            have q1 := z_swn h_1 (k := 1) (by decide)
            have q2 := z_swn h_2 (k := 2) (by decide)
            omega) (by decide) ?_
          refine z_aload_n (i := 0) (x := 0) dX10_ages_125 rfl rfl ?_
          refine z_getR (j := 2) dX10_ages_126 kl_10 hs0 (by decide) rfl rfl kf_X10_23 ?_
          refine z_aload_n (i := 0) (x := 0) dX10_ages_129 rfl rfl ?_
          refine z_getR (j := 11) dX10_ages_130 kl_10 hs0 (by decide) rfl rfl kf_X10_82 ?_
          refine z_getIN (j := 6) dX10_ages_133 kl_1 hC.1 (by decide) rfl rfl kf_X10_134 ?_
          refine z_cR (As := [.ref 5, .int (a_9 o 6)]) (rest := []) (em_X9_unlikeShades hl ⟨hs5, hs6⟩ N (a_9 o 6) a_9) (fun o7 h => z_runV 185 1 h rfl kk_X10_185 hs5 kl_9.1 kq_X9_unlikeShades rfl (Nat.le_of_ble_eq_true rfl) ⟨Nat.le_of_ble_eq_true rfl, Nat.le_of_ble_eq_true rfl, Nat.le_of_ble_eq_true rfl, Nat.le_of_ble_eq_true rfl⟩ dX10_ages_136) z_gXI (fun a_11 hz10 => ?_)
          exact z_ireturn dX10_ages_139 z_rXI rfl (by decide) (by decide)
  have hJ_F_X10_ages_J37 : ∀ (D2 : z_Dat) , z_F l M_X10_ages (80, 880, 1, 6) 0 0 37 [some (.ref 0), some (.int a0), some (.int a1), some (.int a2), some (.int a3)] [.ref 0] S D2 (z_ko (z_kTI S)) (F_X10_ages_J37 N o a0 a1 a2 a3 D2) := by
    intro D2
    unfold F_X10_ages_J37
    refine z_iconst (v := 0) dX10_ages_37 rfl ?_
    refine z_widen (k := 0) (n := 0) (by decide) (by decide) ?_
    exact hJ_F_X10_ages_J38 D2
  have hJ_F_X10_ages_J38x : ∀ (D19 : z_Dat) , z_F l M_X10_ages (80, 880, 1, 6) 0 0 38 [some (.ref 0), some (.int a0), some (.int a1), some (.int a2), some (.int a3)] [.int 1, .ref 0] S D19 (z_ko (z_kTI S)) (F_X10_ages_J38x N o a0 a1 a2 a3 D19) := by
    intro D19
    unfold F_X10_ages_J38x
    refine z_cXVI rfl (As := [.ref 0, .int 1]) (rest := []) (em_X10_demand hl hW 1 D19) (fun o7 h => z_runV 102 1 h rfl kk_X10_102 hs0 kl_10.1 kq_X10_demand rfl (Nat.le_of_ble_eq_true rfl) ⟨Nat.le_of_ble_eq_true rfl, Nat.le_of_ble_eq_true rfl, Nat.le_of_ble_eq_true rfl, Nat.le_of_ble_eq_true rfl⟩ dX10_ages_38) (by decide) (by decide) (fun a_21 hz20 => ?_)
    refine z_aload_n (i := 0) (x := 0) dX10_ages_41 rfl rfl ?_
    refine z_getR (j := 2) dX10_ages_42 kl_10 hs0 (by decide) rfl rfl kf_X10_23 ?_
    refine z_aload_n (i := 0) (x := 0) dX10_ages_45 rfl rfl ?_
    refine z_getR (j := 1) dX10_ages_46 kl_10 hs0 (by decide) rfl rfl kf_X10_19 ?_
    refine z_cWV (As := [.ref 5, .ref 3]) (rest := []) (em_X9_copyFrom hl ⟨hs5, hs6⟩ ⟨hs3, hs4⟩ N a_21) (fun o7 h => z_runV 248 1 h rfl kk_X10_248 hs5 kl_9.1 kq_X9_copyFrom rfl (Nat.le_of_ble_eq_true rfl) ⟨Nat.le_of_ble_eq_true rfl, Nat.le_of_ble_eq_true rfl, Nat.le_of_ble_eq_true rfl, Nat.le_of_ble_eq_true rfl⟩ dX10_ages_49) z_gXI (fun a_23 hz22 => ?_)
    refine z_aload_n (i := 0) (x := 0) dX10_ages_52 rfl rfl ?_
    refine z_getR (j := 9) dX10_ages_53 kl_10 hs0 (by decide) rfl rfl kf_X10_71 ?_
    refine z_aload_n (i := 0) (x := 0) dX10_ages_56 rfl rfl ?_
    refine z_getR (j := 11) dX10_ages_57 kl_10 hs0 (by decide) rfl rfl kf_X10_82 ?_
    refine z_aload_n (i := 0) (x := 0) dX10_ages_60 rfl rfl ?_
    refine z_getR (j := 2) dX10_ages_61 kl_10 hs0 (by decide) rfl rfl kf_X10_23 ?_
    refine z_iload_n (i := 1) (x := a0) dX10_ages_64 rfl rfl ?_
    refine z_iload_n (i := 2) (x := a1) dX10_ages_65 rfl rfl ?_
    refine z_iload_n (i := 3) (x := a2) dX10_ages_66 rfl rfl ?_
    refine z_cWV (As := [.ref 32, .ref o, .ref 5, .int a0, .int a1, .int a2]) (rest := []) (em_X3_live hl hW hC ⟨hs5, hs6⟩ N a0 a1 a2 a_23) (fun o7 h => z_runV 329 5 h rfl kk_X10_329 hs32 kl_3.1 kq_X3_live rfl (Nat.le_of_ble_eq_true rfl) ⟨Nat.le_of_ble_eq_true rfl, Nat.le_of_ble_eq_true rfl, Nat.le_of_ble_eq_true rfl, Nat.le_of_ble_eq_true rfl⟩ dX10_ages_67) z_gXI (fun a_25 hz24 => ?_)
    refine z_iload (i := 4) (x := a3) dX10_ages_70 rfl ?_
    refine z_ite (fun h_0 => ?_) (fun h_0 => ?_)
    · refine z_tswC (c := 0) 100 dX10_ages_72 h_0 (by decide) (by decide) rfl (by decide) ?_
      refine z_aload_n (i := 0) (x := 0) dX10_ages_100 rfl rfl ?_
      refine z_aload_n (i := 0) (x := 0) dX10_ages_101 rfl rfl ?_
      refine z_getR (j := 2) dX10_ages_102 kl_10 hs0 (by decide) rfl rfl kf_X10_23 ?_
      refine z_cWI (As := [.ref 0, .ref 5]) (rest := []) (em_X10_seated hl hW ⟨hs5, hs6⟩ N a_25) (fun o7 h => z_runV 174 1 h rfl kk_X10_174 hs0 kl_10.1 kq_X10_seated rfl (Nat.le_of_ble_eq_true rfl) ⟨Nat.le_of_ble_eq_true rfl, Nat.le_of_ble_eq_true rfl, Nat.le_of_ble_eq_true rfl, Nat.le_of_ble_eq_true rfl⟩ dX10_ages_105) z_gXI (fun a_29 hz28 => ?_)
      exact z_ireturn dX10_ages_108 z_rXI rfl (by decide) (by decide)
    · refine z_ite (fun h_1 => ?_) (fun h_1 => ?_)
      · refine z_tswC (c := 1) 109 dX10_ages_72 h_1 (by decide) (by decide) rfl (by decide) ?_
        refine z_aload_n (i := 0) (x := 0) dX10_ages_109 rfl rfl ?_
        refine z_getR (j := 9) dX10_ages_110 kl_10 hs0 (by decide) rfl rfl kf_X10_71 ?_
        refine z_getIN (j := 1) dX10_ages_113 kl_3 hs32 (by decide) rfl rfl kf_X10_333 ?_
        exact z_ireturn dX10_ages_116 z_rXI rfl (by decide) (by decide)
      · refine z_ite (fun h_2 => ?_) (fun h_2 => ?_)
        · refine z_tswC (c := 2) 117 dX10_ages_72 h_2 (by decide) (by decide) rfl (by decide) ?_
          refine z_aload_n (i := 0) (x := 0) dX10_ages_117 rfl rfl ?_
          refine z_getR (j := 9) dX10_ages_118 kl_10 hs0 (by decide) rfl rfl kf_X10_71 ?_
          refine z_getIN (j := 2) dX10_ages_121 kl_3 hs32 (by decide) rfl rfl kf_X10_336 ?_
          exact z_ireturn dX10_ages_124 z_rXI rfl (by decide) (by decide)
        · refine z_tswD 125 dX10_ages_72 (by
            have q0 := z_swn h_0 (k := 0) (by decide)
            have q1 := z_swn h_1 (k := 1) (by decide)
            have q2 := z_swn h_2 (k := 2) (by decide)
            omega) (by decide) ?_
          refine z_aload_n (i := 0) (x := 0) dX10_ages_125 rfl rfl ?_
          refine z_getR (j := 2) dX10_ages_126 kl_10 hs0 (by decide) rfl rfl kf_X10_23 ?_
          refine z_aload_n (i := 0) (x := 0) dX10_ages_129 rfl rfl ?_
          refine z_getR (j := 11) dX10_ages_130 kl_10 hs0 (by decide) rfl rfl kf_X10_82 ?_
          refine z_getIN (j := 6) dX10_ages_133 kl_1 hC.1 (by decide) rfl rfl kf_X10_134 ?_
          refine z_cR (As := [.ref 5, .int (a_25 o 6)]) (rest := []) (em_X9_unlikeShades hl ⟨hs5, hs6⟩ N (a_25 o 6) a_25) (fun o7 h => z_runV 185 1 h rfl kk_X10_185 hs5 kl_9.1 kq_X9_unlikeShades rfl (Nat.le_of_ble_eq_true rfl) ⟨Nat.le_of_ble_eq_true rfl, Nat.le_of_ble_eq_true rfl, Nat.le_of_ble_eq_true rfl, Nat.le_of_ble_eq_true rfl⟩ dX10_ages_136) z_gXI (fun a_27 hz26 => ?_)
          exact z_ireturn dX10_ages_139 z_rXI rfl (by decide) (by decide)
  refine z_aload_n (i := 0) (x := 0) dX10_ages_0 rfl rfl ?_
  refine z_iload_n (i := 2) (x := a1) dX10_ages_1 rfl rfl ?_
  refine z_if_lt 37 dX10_ages_2 (by decide) (fun c1 => ?_) (fun c1 => ?_)
  · refine z_widen (k := 0) (n := 0) (by decide) (by decide) ?_
    exact hJ_F_X10_ages_J37 D
  · refine z_iload_n (i := 2) (x := a1) dX10_ages_5 rfl rfl ?_
    refine z_bipush (v := 16) dX10_ages_6 (by decide) ?_
    refine z_icmp_gt 37 dX10_ages_8 (by decide) (fun c14 => ?_) (fun c14 => ?_)
    · refine z_widen (k := 0) (n := 0) (by decide) (by decide) ?_
      exact hJ_F_X10_ages_J37 D
    · refine z_iload_n (i := 3) (x := a2) dX10_ages_11 rfl rfl ?_
      refine z_iconst (v := 1) dX10_ages_12 rfl ?_
      refine z_icmp_lt 37 dX10_ages_13 (by decide) (fun c15 => ?_) (fun c15 => ?_)
      · refine z_widen (k := 0) (n := 0) (by decide) (by decide) ?_
        exact hJ_F_X10_ages_J37 D
      · refine z_iload_n (i := 3) (x := a2) dX10_ages_16 rfl rfl ?_
        refine z_bipush (v := 96) dX10_ages_17 (by decide) ?_
        refine z_icmp_gt 37 dX10_ages_19 (by decide) (fun c16 => ?_) (fun c16 => ?_)
        · refine z_widen (k := 0) (n := 0) (by decide) (by decide) ?_
          exact hJ_F_X10_ages_J37 D
        · refine z_iload (i := 4) (x := a3) dX10_ages_22 rfl ?_
          refine z_if_lt 37 dX10_ages_24 (by decide) (fun c17 => ?_) (fun c17 => ?_)
          · refine z_widen (k := 0) (n := 0) (by decide) (by decide) ?_
            exact hJ_F_X10_ages_J37 D
          · refine z_iload (i := 4) (x := a3) dX10_ages_27 rfl ?_
            refine z_iconst (v := 3) dX10_ages_29 rfl ?_
            refine z_icmp_gt 37 dX10_ages_30 (by decide) (fun c18 => ?_) (fun c18 => ?_)
            · refine z_widen (k := 0) (n := 0) (by decide) (by decide) ?_
              exact hJ_F_X10_ages_J37 D
            · refine z_iconst (v := 1) dX10_ages_33 rfl ?_
              refine z_goto 38 dX10_ages_34 (by decide) ?_
              refine z_widen (k := 0) (n := 0) (by decide) (by decide) ?_
              exact hJ_F_X10_ages_J38x D

def F_X10_span_L76 (N : Nat) (o : Nat) (a0 : Int32) (a1 : Int32) (a2 : Int32) (a3 : Int32) (a4 : Int32) (kc16 : ((Int32 × Int32 × Int32 × Int32 × z_Dat) → Option ((Int32 × z_Dat) ⊕ (String × z_Dat)))) (v11 : Int32) (v12 : Int32) (v13 : Int32) (v14 : Int32) (D15 : z_Dat) : Option ((Int32 × z_Dat) ⊕ (String × z_Dat)) :=
  if a1 ≤ v14 then (if a4 = 0 then (some (.inl (v11, D15)))
  else (if a4 = 1 then (some (.inl (v12, D15)))
  else (some (.inl (v13, D15)))))
  else (z_bd (F_X9_copyFrom N 5 3 D15) (fun a_21 => z_bd (F_X3_live N o 5 (a0 + v14) a2 a3 a_21) (fun a_23 => z_bd (F_X9_unlikeShades N 5 (a_23 o 6) a_23) (fun a_25 => z_let (z_min v11 a_25) (fun v26 => z_let (z_max v12 a_25) (fun v27 => z_bd (F_X10_seated N o 5 a_23) (fun a_29 => if a_29.1 = 0 then (z_let (v13 + 1) (fun v31 => z_let (v14 + 1) (fun v32 => kc16 (v26, v27, v31, v32, a_29.2))))
  else (z_let (v14 + 1) (fun v33 => kc16 (v26, v27, v13, v33, a_29.2))))))))))
def F_X10_span_J60 (N : Nat) (o : Nat) (a0 : Int32) (a1 : Int32) (a2 : Int32) (a3 : Int32) (a4 : Int32) (D8 : z_Dat) : Option ((Int32 × z_Dat) ⊕ (String × z_Dat)) :=
  z_bt (F_X10_demand 0 D8) (fun a_10 => z_loop (fun kc16 s => F_X10_span_L76 N o a0 a1 a2 a3 a4 kc16 s.1 s.2.1 s.2.2.1 s.2.2.2.1 s.2.2.2.2) N (8, 0, 0, 0, a_10))
def F_X10_span_J59 (N : Nat) (o : Nat) (a0 : Int32) (a1 : Int32) (a2 : Int32) (a3 : Int32) (a4 : Int32) (D7 : z_Dat) : Option ((Int32 × z_Dat) ⊕ (String × z_Dat)) :=
  F_X10_span_J60 N o a0 a1 a2 a3 a4 D7
def F_X10_span_L76x (N : Nat) (o : Nat) (a0 : Int32) (a1 : Int32) (a2 : Int32) (a3 : Int32) (a4 : Int32) (kc46 : ((Int32 × Int32 × Int32 × Int32 × z_Dat) → Option ((Int32 × z_Dat) ⊕ (String × z_Dat)))) (v41 : Int32) (v42 : Int32) (v43 : Int32) (v44 : Int32) (D45 : z_Dat) : Option ((Int32 × z_Dat) ⊕ (String × z_Dat)) :=
  if a1 ≤ v44 then (if a4 = 0 then (some (.inl (v41, D45)))
  else (if a4 = 1 then (some (.inl (v42, D45)))
  else (some (.inl (v43, D45)))))
  else (z_bd (F_X9_copyFrom N 5 3 D45) (fun a_51 => z_bd (F_X3_live N o 5 (a0 + v44) a2 a3 a_51) (fun a_53 => z_bd (F_X9_unlikeShades N 5 (a_53 o 6) a_53) (fun a_55 => z_let (z_min v41 a_55) (fun v56 => z_let (z_max v42 a_55) (fun v57 => z_bd (F_X10_seated N o 5 a_53) (fun a_59 => if a_59.1 = 0 then (z_let (v43 + 1) (fun v61 => z_let (v44 + 1) (fun v62 => kc46 (v56, v57, v61, v62, a_59.2))))
  else (z_let (v44 + 1) (fun v63 => kc46 (v56, v57, v43, v63, a_59.2))))))))))
def F_X10_span_J60x (N : Nat) (o : Nat) (a0 : Int32) (a1 : Int32) (a2 : Int32) (a3 : Int32) (a4 : Int32) (D38 : z_Dat) : Option ((Int32 × z_Dat) ⊕ (String × z_Dat)) :=
  z_bt (F_X10_demand 1 D38) (fun a_40 => z_loop (fun kc46 s => F_X10_span_L76x N o a0 a1 a2 a3 a4 kc46 s.1 s.2.1 s.2.2.1 s.2.2.2.1 s.2.2.2.2) N (8, 0, 0, 0, a_40))
def F_X10_span_J27 (N : Nat) (o : Nat) (a0 : Int32) (a1 : Int32) (a2 : Int32) (a3 : Int32) (a4 : Int32) (D3 : z_Dat) : Option ((Int32 × z_Dat) ⊕ (String × z_Dat)) :=
  z_bt (F_X10_demand 0 D3) (fun a_5 => if a3 < 1 then (F_X10_span_J59 N o a0 a1 a2 a3 a4 a_5)
  else (if 96 < a3 then (F_X10_span_J59 N o a0 a1 a2 a3 a4 a_5)
  else (if a4 < 0 then (F_X10_span_J59 N o a0 a1 a2 a3 a4 a_5)
  else (if 2 < a4 then (F_X10_span_J59 N o a0 a1 a2 a3 a4 a_5)
  else (F_X10_span_J60x N o a0 a1 a2 a3 a4 a_5)))))
def F_X10_span_J26 (N : Nat) (o : Nat) (a0 : Int32) (a1 : Int32) (a2 : Int32) (a3 : Int32) (a4 : Int32) (D2 : z_Dat) : Option ((Int32 × z_Dat) ⊕ (String × z_Dat)) :=
  F_X10_span_J27 N o a0 a1 a2 a3 a4 D2
def F_X10_span_J27x (N : Nat) (o : Nat) (a0 : Int32) (a1 : Int32) (a2 : Int32) (a3 : Int32) (a4 : Int32) (D68 : z_Dat) : Option ((Int32 × z_Dat) ⊕ (String × z_Dat)) :=
  z_bt (F_X10_demand 1 D68) (fun a_70 => if a3 < 1 then (F_X10_span_J59 N o a0 a1 a2 a3 a4 a_70)
  else (if 96 < a3 then (F_X10_span_J59 N o a0 a1 a2 a3 a4 a_70)
  else (if a4 < 0 then (F_X10_span_J59 N o a0 a1 a2 a3 a4 a_70)
  else (if 2 < a4 then (F_X10_span_J59 N o a0 a1 a2 a3 a4 a_70)
  else (F_X10_span_J60x N o a0 a1 a2 a3 a4 a_70)))))
def F_X10_span (N : Nat) (o : Nat) (a0 : Int32) (a1 : Int32) (a2 : Int32) (a3 : Int32) (a4 : Int32) (D : z_Dat) : Option ((Int32 × z_Dat) ⊕ (String × z_Dat)) :=
  if a1 < 1 then (F_X10_span_J26 N o a0 a1 a2 a3 a4 D)
  else (if 20 < a1 then (F_X10_span_J26 N o a0 a1 a2 a3 a4 D)
  else (if a2 < 0 then (F_X10_span_J26 N o a0 a1 a2 a3 a4 D)
  else (if 16 < a2 then (F_X10_span_J26 N o a0 a1 a2 a3 a4 D)
  else (F_X10_span_J27x N o a0 a1 a2 a3 a4 D))))
set_option maxRecDepth 100000 in
set_option maxHeartbeats 4000000 in
theorem em_X10_span {l : Launch} {S : List z_Shp} {o : Nat} (hl : l.stackTraces = false) (hW : z_W S o) (N : Nat) (a0 : Int32) (a1 : Int32) (a2 : Int32) (a3 : Int32) (a4 : Int32) (D : z_Dat) : ∀ out, z_ko (z_kTI S) (F_X10_span N o a0 a1 a2 a3 a4 D) out → z_EM l M_X10_span (80, 880, 2, 12) [.ref 0, .int a0, .int a1, .int a2, .int a3, .int a4] S D out := by
  have hC := hW.2
  have hs0 : S[0]? = some (12, 15, [some (some 1), some (some 3), some (some 5), some (some 7), some (some 12), some (some 15), some (some 21), some (some 25), some (some 28), some (some 32), some (some 33), some (some o), none, none, none]) := hW.1 0 _ rfl
  have hs3 : S[3]? = some (11, 1, [some (some 4)]) := hW.1 3 _ rfl
  have hs4 : S[4]? = some (0, 44, []) := hW.1 4 _ rfl
  have hs5 : S[5]? = some (11, 1, [some (some 6)]) := hW.1 5 _ rfl
  have hs6 : S[6]? = some (0, 44, []) := hW.1 6 _ rfl
  have hs32 : S[32]? = some (5, 3, [none, none, none]) := hW.1 32 _ rfl
  refine z_meth hl rfl kp_X10 (Nat.le_of_ble_eq_true rfl) (lv := [some (.ref 0), some (.int a0), some (.int a1), some (.int a2), some (.int a3), some (.int a4), none, none, none, none, none]) rfl ?_
  unfold F_X10_span
  have hJ_F_X10_span_J60 : ∀ (D8 : z_Dat) , z_F l M_X10_span (80, 880, 2, 12) 1 6 60 [some (.ref 0), some (.int a0), some (.int a1), some (.int a2), some (.int a3), some (.int a4), none, none, none, none, none] [.int 0, .ref 0] S D8 (z_ko (z_kTI S)) (F_X10_span_J60 N o a0 a1 a2 a3 a4 D8) := by
    intro D8
    unfold F_X10_span_J60
    refine z_cXVI rfl (As := [.ref 0, .int 0]) (rest := []) (em_X10_demand hl hW 0 D8) (fun o7 h => z_runV 102 1 h rfl kk_X10_102 hs0 kl_10.1 kq_X10_demand rfl (Nat.le_of_ble_eq_true rfl) ⟨Nat.le_of_ble_eq_true rfl, Nat.le_of_ble_eq_true rfl, Nat.le_of_ble_eq_true rfl, Nat.le_of_ble_eq_true rfl⟩ dX10_span_60) (by decide) (by decide) (fun a_10 hz9 => ?_)
    refine z_bipush (v := 8) dX10_span_63 (by decide) ?_
    refine z_istore (i := 6) (x := 8) (lv' := [some (.ref 0), some (.int a0), some (.int a1), some (.int a2), some (.int a3), some (.int a4), some (.int 8), none, none, none, none]) dX10_span_65 (by decide) rfl rfl ?_
    refine z_iconst (v := 0) dX10_span_67 rfl ?_
    refine z_istore (i := 7) (x := 0) (lv' := [some (.ref 0), some (.int a0), some (.int a1), some (.int a2), some (.int a3), some (.int a4), some (.int 8), some (.int 0), none, none, none]) dX10_span_68 (by decide) rfl rfl ?_
    refine z_iconst (v := 0) dX10_span_70 rfl ?_
    refine z_istore (i := 8) (x := 0) (lv' := [some (.ref 0), some (.int a0), some (.int a1), some (.int a2), some (.int a3), some (.int a4), some (.int 8), some (.int 0), some (.int 0), none, none]) dX10_span_71 (by decide) rfl rfl ?_
    refine z_iconst (v := 0) dX10_span_73 rfl ?_
    refine z_istore (i := 9) (x := 0) (lv' := [some (.ref 0), some (.int a0), some (.int a1), some (.int a2), some (.int a3), some (.int a4), some (.int 8), some (.int 0), some (.int 0), some (.int 0), none]) dX10_span_74 (by decide) rfl rfl ?_
    refine z_widen (k := 2) (n := 12) (by decide) (by decide) ?_
    refine z_loops (lvOf := fun s : Int32 × Int32 × Int32 × Int32 × z_Dat => [some (.ref 0), some (.int a0), some (.int a1), some (.int a2), some (.int a3), some (.int a4), some (.int s.1), some (.int s.2.1), some (.int s.2.2.1), some (.int s.2.2.2.1), none]) (dOf := fun s : Int32 × Int32 × Int32 × Int32 × z_Dat => s.2.2.2.2) (fun kc16 hkc16 s => ?_) N (8, 0, 0, 0, a_10)
    obtain ⟨v11, v12, v13, v14, D15⟩ := s
    show z_F _ _ _ _ _ 76 [some (.ref 0), some (.int a0), some (.int a1), some (.int a2), some (.int a3), some (.int a4), some (.int v11), some (.int v12), some (.int v13), some (.int v14), none] [] S D15 _ (F_X10_span_L76 N o a0 a1 a2 a3 a4 kc16 v11 v12 v13 v14 D15)
    unfold F_X10_span_L76
    refine z_iload (i := 9) (x := v14) dX10_span_76 rfl ?_
    refine z_iload_n (i := 2) (x := a1) dX10_span_78 rfl rfl ?_
    refine z_icmp_ge 169 dX10_span_79 (by decide) (fun c17 => ?_) (fun c17 => ?_)
    · refine z_iload (i := 5) (x := a4) dX10_span_169 rfl ?_
      refine z_if_ne 179 dX10_span_171 (by decide) (fun c18 => ?_) (fun c18 => ?_)
      · refine z_iload (i := 6) (x := v11) dX10_span_174 rfl ?_
        refine z_goto 192 dX10_span_176 (by decide) ?_
        exact z_ireturn dX10_span_192 z_rXI rfl (by decide) (by decide)
      · refine z_iload (i := 5) (x := a4) dX10_span_179 rfl ?_
        refine z_iconst (v := 1) dX10_span_181 rfl ?_
        refine z_icmp_ne 190 dX10_span_182 (by decide) (fun c19 => ?_) (fun c19 => ?_)
        · refine z_iload (i := 7) (x := v12) dX10_span_185 rfl ?_
          refine z_goto 192 dX10_span_187 (by decide) ?_
          exact z_ireturn dX10_span_192 z_rXI rfl (by decide) (by decide)
        · refine z_iload (i := 8) (x := v13) dX10_span_190 rfl ?_
          exact z_ireturn dX10_span_192 z_rXI rfl (by decide) (by decide)
    · refine z_aload_n (i := 0) (x := 0) dX10_span_82 rfl rfl ?_
      refine z_getR (j := 2) dX10_span_83 kl_10 hs0 (by decide) rfl rfl kf_X10_23 ?_
      refine z_aload_n (i := 0) (x := 0) dX10_span_86 rfl rfl ?_
      refine z_getR (j := 1) dX10_span_87 kl_10 hs0 (by decide) rfl rfl kf_X10_19 ?_
      refine z_cWV (As := [.ref 5, .ref 3]) (rest := []) (em_X9_copyFrom hl ⟨hs5, hs6⟩ ⟨hs3, hs4⟩ N D15) (fun o7 h => z_runV 248 1 h rfl kk_X10_248 hs5 kl_9.1 kq_X9_copyFrom rfl (Nat.le_of_ble_eq_true rfl) ⟨Nat.le_of_ble_eq_true rfl, Nat.le_of_ble_eq_true rfl, Nat.le_of_ble_eq_true rfl, Nat.le_of_ble_eq_true rfl⟩ dX10_span_90) z_gXI (fun a_21 hz20 => ?_)
      refine z_aload_n (i := 0) (x := 0) dX10_span_93 rfl rfl ?_
      refine z_getR (j := 9) dX10_span_94 kl_10 hs0 (by decide) rfl rfl kf_X10_71 ?_
      refine z_aload_n (i := 0) (x := 0) dX10_span_97 rfl rfl ?_
      refine z_getR (j := 11) dX10_span_98 kl_10 hs0 (by decide) rfl rfl kf_X10_82 ?_
      refine z_aload_n (i := 0) (x := 0) dX10_span_101 rfl rfl ?_
      refine z_getR (j := 2) dX10_span_102 kl_10 hs0 (by decide) rfl rfl kf_X10_23 ?_
      refine z_iload_n (i := 1) (x := a0) dX10_span_105 rfl rfl ?_
      refine z_iload (i := 9) (x := v14) dX10_span_106 rfl ?_
      refine z_iadd dX10_span_108 ?_
      refine z_iload_n (i := 3) (x := a2) dX10_span_109 rfl rfl ?_
      refine z_iload (i := 4) (x := a3) dX10_span_110 rfl ?_
      refine z_cWV (As := [.ref 32, .ref o, .ref 5, .int (a0 + v14), .int a2, .int a3]) (rest := []) (em_X3_live hl hW hC ⟨hs5, hs6⟩ N (a0 + v14) a2 a3 a_21) (fun o7 h => z_runV 329 5 h rfl kk_X10_329 hs32 kl_3.1 kq_X3_live rfl (Nat.le_of_ble_eq_true rfl) ⟨Nat.le_of_ble_eq_true rfl, Nat.le_of_ble_eq_true rfl, Nat.le_of_ble_eq_true rfl, Nat.le_of_ble_eq_true rfl⟩ dX10_span_112) z_gXI (fun a_23 hz22 => ?_)
      refine z_aload_n (i := 0) (x := 0) dX10_span_115 rfl rfl ?_
      refine z_getR (j := 2) dX10_span_116 kl_10 hs0 (by decide) rfl rfl kf_X10_23 ?_
      refine z_aload_n (i := 0) (x := 0) dX10_span_119 rfl rfl ?_
      refine z_getR (j := 11) dX10_span_120 kl_10 hs0 (by decide) rfl rfl kf_X10_82 ?_
      refine z_getIN (j := 6) dX10_span_123 kl_1 hC.1 (by decide) rfl rfl kf_X10_134 ?_
      refine z_cR (As := [.ref 5, .int (a_23 o 6)]) (rest := []) (em_X9_unlikeShades hl ⟨hs5, hs6⟩ N (a_23 o 6) a_23) (fun o7 h => z_runV 185 1 h rfl kk_X10_185 hs5 kl_9.1 kq_X9_unlikeShades rfl (Nat.le_of_ble_eq_true rfl) ⟨Nat.le_of_ble_eq_true rfl, Nat.le_of_ble_eq_true rfl, Nat.le_of_ble_eq_true rfl, Nat.le_of_ble_eq_true rfl⟩ dX10_span_126) z_gXI (fun a_25 hz24 => ?_)
      refine z_istore (i := 10) (x := a_25) (lv' := [some (.ref 0), some (.int a0), some (.int a1), some (.int a2), some (.int a3), some (.int a4), some (.int v11), some (.int v12), some (.int v13), some (.int v14), some (.int a_25)]) dX10_span_129 (by decide) rfl rfl ?_
      refine z_iload (i := 6) (x := v11) dX10_span_131 rfl ?_
      refine z_iload (i := 10) (x := a_25) dX10_span_133 rfl ?_
      refine z_mmin dX10_span_135 km_X10_339 ⟨Nat.le_of_ble_eq_true rfl, Nat.le_of_ble_eq_true rfl, Nat.le_of_ble_eq_true rfl, Nat.le_of_ble_eq_true rfl⟩ ?_
      refine z_topi (fun v26 => ?_)
      refine z_istore (i := 6) (x := v26) (lv' := [some (.ref 0), some (.int a0), some (.int a1), some (.int a2), some (.int a3), some (.int a4), some (.int v26), some (.int v12), some (.int v13), some (.int v14), some (.int a_25)]) dX10_span_138 (by decide) rfl rfl ?_
      refine z_iload (i := 7) (x := v12) dX10_span_140 rfl ?_
      refine z_iload (i := 10) (x := a_25) dX10_span_142 rfl ?_
      refine z_mmax dX10_span_144 km_X10_344 ⟨Nat.le_of_ble_eq_true rfl, Nat.le_of_ble_eq_true rfl, Nat.le_of_ble_eq_true rfl, Nat.le_of_ble_eq_true rfl⟩ ?_
      refine z_topi (fun v27 => ?_)
      refine z_istore (i := 7) (x := v27) (lv' := [some (.ref 0), some (.int a0), some (.int a1), some (.int a2), some (.int a3), some (.int a4), some (.int v26), some (.int v27), some (.int v13), some (.int v14), some (.int a_25)]) dX10_span_147 (by decide) rfl rfl ?_
      refine z_aload_n (i := 0) (x := 0) dX10_span_149 rfl rfl ?_
      refine z_aload_n (i := 0) (x := 0) dX10_span_150 rfl rfl ?_
      refine z_getR (j := 2) dX10_span_151 kl_10 hs0 (by decide) rfl rfl kf_X10_23 ?_
      refine z_cWI (As := [.ref 0, .ref 5]) (rest := []) (em_X10_seated hl hW ⟨hs5, hs6⟩ N a_23) (fun o7 h => z_runV 174 1 h rfl kk_X10_174 hs0 kl_10.1 kq_X10_seated rfl (Nat.le_of_ble_eq_true rfl) ⟨Nat.le_of_ble_eq_true rfl, Nat.le_of_ble_eq_true rfl, Nat.le_of_ble_eq_true rfl, Nat.le_of_ble_eq_true rfl⟩ dX10_span_154) z_gXI (fun a_29 hz28 => ?_)
      refine z_if_ne 163 dX10_span_157 (by decide) (fun c30 => ?_) (fun c30 => ?_)
      · refine z_iinc (i := 8) (x := v13) (y := 1) dX10_span_160 rfl (by decide) (by decide) rfl (fun v31 => ?_)
        refine z_iinc (i := 9) (x := v14) (y := 1) dX10_span_163 rfl (by decide) (by decide) rfl (fun v32 => ?_)
        refine z_goto 76 dX10_span_166 (by decide) ?_
        refine z_weak (lv' := [some (.ref 0), some (.int a0), some (.int a1), some (.int a2), some (.int a3), some (.int a4), some (.int v26), some (.int v27), some (.int v31), some (.int v32), none]) ⟨Or.inr rfl, ⟨Or.inr rfl, ⟨Or.inr rfl, ⟨Or.inr rfl, ⟨Or.inr rfl, ⟨Or.inr rfl, ⟨Or.inr rfl, ⟨Or.inr rfl, ⟨Or.inr rfl, ⟨Or.inr rfl, ⟨Or.inl rfl, trivial⟩⟩⟩⟩⟩⟩⟩⟩⟩⟩⟩ ?_
        exact hkc16 (v26, v27, v31, v32, a_29.2)
      · refine z_iinc (i := 9) (x := v14) (y := 1) dX10_span_163 rfl (by decide) (by decide) rfl (fun v33 => ?_)
        refine z_goto 76 dX10_span_166 (by decide) ?_
        refine z_weak (lv' := [some (.ref 0), some (.int a0), some (.int a1), some (.int a2), some (.int a3), some (.int a4), some (.int v26), some (.int v27), some (.int v13), some (.int v33), none]) ⟨Or.inr rfl, ⟨Or.inr rfl, ⟨Or.inr rfl, ⟨Or.inr rfl, ⟨Or.inr rfl, ⟨Or.inr rfl, ⟨Or.inr rfl, ⟨Or.inr rfl, ⟨Or.inr rfl, ⟨Or.inr rfl, ⟨Or.inl rfl, trivial⟩⟩⟩⟩⟩⟩⟩⟩⟩⟩⟩ ?_
        exact hkc16 (v26, v27, v13, v33, a_29.2)
  have hJ_F_X10_span_J59 : ∀ (D7 : z_Dat) , z_F l M_X10_span (80, 880, 2, 12) 1 6 59 [some (.ref 0), some (.int a0), some (.int a1), some (.int a2), some (.int a3), some (.int a4), none, none, none, none, none] [.ref 0] S D7 (z_ko (z_kTI S)) (F_X10_span_J59 N o a0 a1 a2 a3 a4 D7) := by
    intro D7
    unfold F_X10_span_J59
    refine z_iconst (v := 0) dX10_span_59 rfl ?_
    refine z_widen (k := 1) (n := 6) (by decide) (by decide) ?_
    exact hJ_F_X10_span_J60 D7
  have hJ_F_X10_span_J60x : ∀ (D38 : z_Dat) , z_F l M_X10_span (80, 880, 2, 12) 1 6 60 [some (.ref 0), some (.int a0), some (.int a1), some (.int a2), some (.int a3), some (.int a4), none, none, none, none, none] [.int 1, .ref 0] S D38 (z_ko (z_kTI S)) (F_X10_span_J60x N o a0 a1 a2 a3 a4 D38) := by
    intro D38
    unfold F_X10_span_J60x
    refine z_cXVI rfl (As := [.ref 0, .int 1]) (rest := []) (em_X10_demand hl hW 1 D38) (fun o7 h => z_runV 102 1 h rfl kk_X10_102 hs0 kl_10.1 kq_X10_demand rfl (Nat.le_of_ble_eq_true rfl) ⟨Nat.le_of_ble_eq_true rfl, Nat.le_of_ble_eq_true rfl, Nat.le_of_ble_eq_true rfl, Nat.le_of_ble_eq_true rfl⟩ dX10_span_60) (by decide) (by decide) (fun a_40 hz39 => ?_)
    refine z_bipush (v := 8) dX10_span_63 (by decide) ?_
    refine z_istore (i := 6) (x := 8) (lv' := [some (.ref 0), some (.int a0), some (.int a1), some (.int a2), some (.int a3), some (.int a4), some (.int 8), none, none, none, none]) dX10_span_65 (by decide) rfl rfl ?_
    refine z_iconst (v := 0) dX10_span_67 rfl ?_
    refine z_istore (i := 7) (x := 0) (lv' := [some (.ref 0), some (.int a0), some (.int a1), some (.int a2), some (.int a3), some (.int a4), some (.int 8), some (.int 0), none, none, none]) dX10_span_68 (by decide) rfl rfl ?_
    refine z_iconst (v := 0) dX10_span_70 rfl ?_
    refine z_istore (i := 8) (x := 0) (lv' := [some (.ref 0), some (.int a0), some (.int a1), some (.int a2), some (.int a3), some (.int a4), some (.int 8), some (.int 0), some (.int 0), none, none]) dX10_span_71 (by decide) rfl rfl ?_
    refine z_iconst (v := 0) dX10_span_73 rfl ?_
    refine z_istore (i := 9) (x := 0) (lv' := [some (.ref 0), some (.int a0), some (.int a1), some (.int a2), some (.int a3), some (.int a4), some (.int 8), some (.int 0), some (.int 0), some (.int 0), none]) dX10_span_74 (by decide) rfl rfl ?_
    refine z_widen (k := 2) (n := 12) (by decide) (by decide) ?_
    refine z_loops (lvOf := fun s : Int32 × Int32 × Int32 × Int32 × z_Dat => [some (.ref 0), some (.int a0), some (.int a1), some (.int a2), some (.int a3), some (.int a4), some (.int s.1), some (.int s.2.1), some (.int s.2.2.1), some (.int s.2.2.2.1), none]) (dOf := fun s : Int32 × Int32 × Int32 × Int32 × z_Dat => s.2.2.2.2) (fun kc46 hkc46 s => ?_) N (8, 0, 0, 0, a_40)
    obtain ⟨v41, v42, v43, v44, D45⟩ := s
    show z_F _ _ _ _ _ 76 [some (.ref 0), some (.int a0), some (.int a1), some (.int a2), some (.int a3), some (.int a4), some (.int v41), some (.int v42), some (.int v43), some (.int v44), none] [] S D45 _ (F_X10_span_L76x N o a0 a1 a2 a3 a4 kc46 v41 v42 v43 v44 D45)
    unfold F_X10_span_L76x
    refine z_iload (i := 9) (x := v44) dX10_span_76 rfl ?_
    refine z_iload_n (i := 2) (x := a1) dX10_span_78 rfl rfl ?_
    refine z_icmp_ge 169 dX10_span_79 (by decide) (fun c47 => ?_) (fun c47 => ?_)
    · refine z_iload (i := 5) (x := a4) dX10_span_169 rfl ?_
      refine z_if_ne 179 dX10_span_171 (by decide) (fun c48 => ?_) (fun c48 => ?_)
      · refine z_iload (i := 6) (x := v41) dX10_span_174 rfl ?_
        refine z_goto 192 dX10_span_176 (by decide) ?_
        exact z_ireturn dX10_span_192 z_rXI rfl (by decide) (by decide)
      · refine z_iload (i := 5) (x := a4) dX10_span_179 rfl ?_
        refine z_iconst (v := 1) dX10_span_181 rfl ?_
        refine z_icmp_ne 190 dX10_span_182 (by decide) (fun c49 => ?_) (fun c49 => ?_)
        · refine z_iload (i := 7) (x := v42) dX10_span_185 rfl ?_
          refine z_goto 192 dX10_span_187 (by decide) ?_
          exact z_ireturn dX10_span_192 z_rXI rfl (by decide) (by decide)
        · refine z_iload (i := 8) (x := v43) dX10_span_190 rfl ?_
          exact z_ireturn dX10_span_192 z_rXI rfl (by decide) (by decide)
    · refine z_aload_n (i := 0) (x := 0) dX10_span_82 rfl rfl ?_
      refine z_getR (j := 2) dX10_span_83 kl_10 hs0 (by decide) rfl rfl kf_X10_23 ?_
      refine z_aload_n (i := 0) (x := 0) dX10_span_86 rfl rfl ?_
      refine z_getR (j := 1) dX10_span_87 kl_10 hs0 (by decide) rfl rfl kf_X10_19 ?_
      refine z_cWV (As := [.ref 5, .ref 3]) (rest := []) (em_X9_copyFrom hl ⟨hs5, hs6⟩ ⟨hs3, hs4⟩ N D45) (fun o7 h => z_runV 248 1 h rfl kk_X10_248 hs5 kl_9.1 kq_X9_copyFrom rfl (Nat.le_of_ble_eq_true rfl) ⟨Nat.le_of_ble_eq_true rfl, Nat.le_of_ble_eq_true rfl, Nat.le_of_ble_eq_true rfl, Nat.le_of_ble_eq_true rfl⟩ dX10_span_90) z_gXI (fun a_51 hz50 => ?_)
      refine z_aload_n (i := 0) (x := 0) dX10_span_93 rfl rfl ?_
      refine z_getR (j := 9) dX10_span_94 kl_10 hs0 (by decide) rfl rfl kf_X10_71 ?_
      refine z_aload_n (i := 0) (x := 0) dX10_span_97 rfl rfl ?_
      refine z_getR (j := 11) dX10_span_98 kl_10 hs0 (by decide) rfl rfl kf_X10_82 ?_
      refine z_aload_n (i := 0) (x := 0) dX10_span_101 rfl rfl ?_
      refine z_getR (j := 2) dX10_span_102 kl_10 hs0 (by decide) rfl rfl kf_X10_23 ?_
      refine z_iload_n (i := 1) (x := a0) dX10_span_105 rfl rfl ?_
      refine z_iload (i := 9) (x := v44) dX10_span_106 rfl ?_
      refine z_iadd dX10_span_108 ?_
      refine z_iload_n (i := 3) (x := a2) dX10_span_109 rfl rfl ?_
      refine z_iload (i := 4) (x := a3) dX10_span_110 rfl ?_
      refine z_cWV (As := [.ref 32, .ref o, .ref 5, .int (a0 + v44), .int a2, .int a3]) (rest := []) (em_X3_live hl hW hC ⟨hs5, hs6⟩ N (a0 + v44) a2 a3 a_51) (fun o7 h => z_runV 329 5 h rfl kk_X10_329 hs32 kl_3.1 kq_X3_live rfl (Nat.le_of_ble_eq_true rfl) ⟨Nat.le_of_ble_eq_true rfl, Nat.le_of_ble_eq_true rfl, Nat.le_of_ble_eq_true rfl, Nat.le_of_ble_eq_true rfl⟩ dX10_span_112) z_gXI (fun a_53 hz52 => ?_)
      refine z_aload_n (i := 0) (x := 0) dX10_span_115 rfl rfl ?_
      refine z_getR (j := 2) dX10_span_116 kl_10 hs0 (by decide) rfl rfl kf_X10_23 ?_
      refine z_aload_n (i := 0) (x := 0) dX10_span_119 rfl rfl ?_
      refine z_getR (j := 11) dX10_span_120 kl_10 hs0 (by decide) rfl rfl kf_X10_82 ?_
      refine z_getIN (j := 6) dX10_span_123 kl_1 hC.1 (by decide) rfl rfl kf_X10_134 ?_
      refine z_cR (As := [.ref 5, .int (a_53 o 6)]) (rest := []) (em_X9_unlikeShades hl ⟨hs5, hs6⟩ N (a_53 o 6) a_53) (fun o7 h => z_runV 185 1 h rfl kk_X10_185 hs5 kl_9.1 kq_X9_unlikeShades rfl (Nat.le_of_ble_eq_true rfl) ⟨Nat.le_of_ble_eq_true rfl, Nat.le_of_ble_eq_true rfl, Nat.le_of_ble_eq_true rfl, Nat.le_of_ble_eq_true rfl⟩ dX10_span_126) z_gXI (fun a_55 hz54 => ?_)
      refine z_istore (i := 10) (x := a_55) (lv' := [some (.ref 0), some (.int a0), some (.int a1), some (.int a2), some (.int a3), some (.int a4), some (.int v41), some (.int v42), some (.int v43), some (.int v44), some (.int a_55)]) dX10_span_129 (by decide) rfl rfl ?_
      refine z_iload (i := 6) (x := v41) dX10_span_131 rfl ?_
      refine z_iload (i := 10) (x := a_55) dX10_span_133 rfl ?_
      refine z_mmin dX10_span_135 km_X10_339 ⟨Nat.le_of_ble_eq_true rfl, Nat.le_of_ble_eq_true rfl, Nat.le_of_ble_eq_true rfl, Nat.le_of_ble_eq_true rfl⟩ ?_
      refine z_topi (fun v56 => ?_)
      refine z_istore (i := 6) (x := v56) (lv' := [some (.ref 0), some (.int a0), some (.int a1), some (.int a2), some (.int a3), some (.int a4), some (.int v56), some (.int v42), some (.int v43), some (.int v44), some (.int a_55)]) dX10_span_138 (by decide) rfl rfl ?_
      refine z_iload (i := 7) (x := v42) dX10_span_140 rfl ?_
      refine z_iload (i := 10) (x := a_55) dX10_span_142 rfl ?_
      refine z_mmax dX10_span_144 km_X10_344 ⟨Nat.le_of_ble_eq_true rfl, Nat.le_of_ble_eq_true rfl, Nat.le_of_ble_eq_true rfl, Nat.le_of_ble_eq_true rfl⟩ ?_
      refine z_topi (fun v57 => ?_)
      refine z_istore (i := 7) (x := v57) (lv' := [some (.ref 0), some (.int a0), some (.int a1), some (.int a2), some (.int a3), some (.int a4), some (.int v56), some (.int v57), some (.int v43), some (.int v44), some (.int a_55)]) dX10_span_147 (by decide) rfl rfl ?_
      refine z_aload_n (i := 0) (x := 0) dX10_span_149 rfl rfl ?_
      refine z_aload_n (i := 0) (x := 0) dX10_span_150 rfl rfl ?_
      refine z_getR (j := 2) dX10_span_151 kl_10 hs0 (by decide) rfl rfl kf_X10_23 ?_
      refine z_cWI (As := [.ref 0, .ref 5]) (rest := []) (em_X10_seated hl hW ⟨hs5, hs6⟩ N a_53) (fun o7 h => z_runV 174 1 h rfl kk_X10_174 hs0 kl_10.1 kq_X10_seated rfl (Nat.le_of_ble_eq_true rfl) ⟨Nat.le_of_ble_eq_true rfl, Nat.le_of_ble_eq_true rfl, Nat.le_of_ble_eq_true rfl, Nat.le_of_ble_eq_true rfl⟩ dX10_span_154) z_gXI (fun a_59 hz58 => ?_)
      refine z_if_ne 163 dX10_span_157 (by decide) (fun c60 => ?_) (fun c60 => ?_)
      · refine z_iinc (i := 8) (x := v43) (y := 1) dX10_span_160 rfl (by decide) (by decide) rfl (fun v61 => ?_)
        refine z_iinc (i := 9) (x := v44) (y := 1) dX10_span_163 rfl (by decide) (by decide) rfl (fun v62 => ?_)
        refine z_goto 76 dX10_span_166 (by decide) ?_
        refine z_weak (lv' := [some (.ref 0), some (.int a0), some (.int a1), some (.int a2), some (.int a3), some (.int a4), some (.int v56), some (.int v57), some (.int v61), some (.int v62), none]) ⟨Or.inr rfl, ⟨Or.inr rfl, ⟨Or.inr rfl, ⟨Or.inr rfl, ⟨Or.inr rfl, ⟨Or.inr rfl, ⟨Or.inr rfl, ⟨Or.inr rfl, ⟨Or.inr rfl, ⟨Or.inr rfl, ⟨Or.inl rfl, trivial⟩⟩⟩⟩⟩⟩⟩⟩⟩⟩⟩ ?_
        exact hkc46 (v56, v57, v61, v62, a_59.2)
      · refine z_iinc (i := 9) (x := v44) (y := 1) dX10_span_163 rfl (by decide) (by decide) rfl (fun v63 => ?_)
        refine z_goto 76 dX10_span_166 (by decide) ?_
        refine z_weak (lv' := [some (.ref 0), some (.int a0), some (.int a1), some (.int a2), some (.int a3), some (.int a4), some (.int v56), some (.int v57), some (.int v43), some (.int v63), none]) ⟨Or.inr rfl, ⟨Or.inr rfl, ⟨Or.inr rfl, ⟨Or.inr rfl, ⟨Or.inr rfl, ⟨Or.inr rfl, ⟨Or.inr rfl, ⟨Or.inr rfl, ⟨Or.inr rfl, ⟨Or.inr rfl, ⟨Or.inl rfl, trivial⟩⟩⟩⟩⟩⟩⟩⟩⟩⟩⟩ ?_
        exact hkc46 (v56, v57, v43, v63, a_59.2)
  have hJ_F_X10_span_J27 : ∀ (D3 : z_Dat) , z_F l M_X10_span (80, 880, 2, 12) 0 0 27 [some (.ref 0), some (.int a0), some (.int a1), some (.int a2), some (.int a3), some (.int a4), none, none, none, none, none] [.int 0, .ref 0] S D3 (z_ko (z_kTI S)) (F_X10_span_J27 N o a0 a1 a2 a3 a4 D3) := by
    intro D3
    unfold F_X10_span_J27
    refine z_cXVI rfl (As := [.ref 0, .int 0]) (rest := []) (em_X10_demand hl hW 0 D3) (fun o7 h => z_runV 102 1 h rfl kk_X10_102 hs0 kl_10.1 kq_X10_demand rfl (Nat.le_of_ble_eq_true rfl) ⟨Nat.le_of_ble_eq_true rfl, Nat.le_of_ble_eq_true rfl, Nat.le_of_ble_eq_true rfl, Nat.le_of_ble_eq_true rfl⟩ dX10_span_27) (by decide) (by decide) (fun a_5 hz4 => ?_)
    refine z_aload_n (i := 0) (x := 0) dX10_span_30 rfl rfl ?_
    refine z_iload (i := 4) (x := a3) dX10_span_31 rfl ?_
    refine z_iconst (v := 1) dX10_span_33 rfl ?_
    refine z_icmp_lt 59 dX10_span_34 (by decide) (fun c6 => ?_) (fun c6 => ?_)
    · refine z_widen (k := 1) (n := 6) (by decide) (by decide) ?_
      exact hJ_F_X10_span_J59 a_5
    · refine z_iload (i := 4) (x := a3) dX10_span_37 rfl ?_
      refine z_bipush (v := 96) dX10_span_39 (by decide) ?_
      refine z_icmp_gt 59 dX10_span_41 (by decide) (fun c35 => ?_) (fun c35 => ?_)
      · refine z_widen (k := 1) (n := 6) (by decide) (by decide) ?_
        exact hJ_F_X10_span_J59 a_5
      · refine z_iload (i := 5) (x := a4) dX10_span_44 rfl ?_
        refine z_if_lt 59 dX10_span_46 (by decide) (fun c36 => ?_) (fun c36 => ?_)
        · refine z_widen (k := 1) (n := 6) (by decide) (by decide) ?_
          exact hJ_F_X10_span_J59 a_5
        · refine z_iload (i := 5) (x := a4) dX10_span_49 rfl ?_
          refine z_iconst (v := 2) dX10_span_51 rfl ?_
          refine z_icmp_gt 59 dX10_span_52 (by decide) (fun c37 => ?_) (fun c37 => ?_)
          · refine z_widen (k := 1) (n := 6) (by decide) (by decide) ?_
            exact hJ_F_X10_span_J59 a_5
          · refine z_iconst (v := 1) dX10_span_55 rfl ?_
            refine z_goto 60 dX10_span_56 (by decide) ?_
            refine z_widen (k := 1) (n := 6) (by decide) (by decide) ?_
            exact hJ_F_X10_span_J60x a_5
  have hJ_F_X10_span_J26 : ∀ (D2 : z_Dat) , z_F l M_X10_span (80, 880, 2, 12) 0 0 26 [some (.ref 0), some (.int a0), some (.int a1), some (.int a2), some (.int a3), some (.int a4), none, none, none, none, none] [.ref 0] S D2 (z_ko (z_kTI S)) (F_X10_span_J26 N o a0 a1 a2 a3 a4 D2) := by
    intro D2
    unfold F_X10_span_J26
    refine z_iconst (v := 0) dX10_span_26 rfl ?_
    refine z_widen (k := 0) (n := 0) (by decide) (by decide) ?_
    exact hJ_F_X10_span_J27 D2
  have hJ_F_X10_span_J27x : ∀ (D68 : z_Dat) , z_F l M_X10_span (80, 880, 2, 12) 0 0 27 [some (.ref 0), some (.int a0), some (.int a1), some (.int a2), some (.int a3), some (.int a4), none, none, none, none, none] [.int 1, .ref 0] S D68 (z_ko (z_kTI S)) (F_X10_span_J27x N o a0 a1 a2 a3 a4 D68) := by
    intro D68
    unfold F_X10_span_J27x
    refine z_cXVI rfl (As := [.ref 0, .int 1]) (rest := []) (em_X10_demand hl hW 1 D68) (fun o7 h => z_runV 102 1 h rfl kk_X10_102 hs0 kl_10.1 kq_X10_demand rfl (Nat.le_of_ble_eq_true rfl) ⟨Nat.le_of_ble_eq_true rfl, Nat.le_of_ble_eq_true rfl, Nat.le_of_ble_eq_true rfl, Nat.le_of_ble_eq_true rfl⟩ dX10_span_27) (by decide) (by decide) (fun a_70 hz69 => ?_)
    refine z_aload_n (i := 0) (x := 0) dX10_span_30 rfl rfl ?_
    refine z_iload (i := 4) (x := a3) dX10_span_31 rfl ?_
    refine z_iconst (v := 1) dX10_span_33 rfl ?_
    refine z_icmp_lt 59 dX10_span_34 (by decide) (fun c71 => ?_) (fun c71 => ?_)
    · refine z_widen (k := 1) (n := 6) (by decide) (by decide) ?_
      exact hJ_F_X10_span_J59 a_70
    · refine z_iload (i := 4) (x := a3) dX10_span_37 rfl ?_
      refine z_bipush (v := 96) dX10_span_39 (by decide) ?_
      refine z_icmp_gt 59 dX10_span_41 (by decide) (fun c72 => ?_) (fun c72 => ?_)
      · refine z_widen (k := 1) (n := 6) (by decide) (by decide) ?_
        exact hJ_F_X10_span_J59 a_70
      · refine z_iload (i := 5) (x := a4) dX10_span_44 rfl ?_
        refine z_if_lt 59 dX10_span_46 (by decide) (fun c73 => ?_) (fun c73 => ?_)
        · refine z_widen (k := 1) (n := 6) (by decide) (by decide) ?_
          exact hJ_F_X10_span_J59 a_70
        · refine z_iload (i := 5) (x := a4) dX10_span_49 rfl ?_
          refine z_iconst (v := 2) dX10_span_51 rfl ?_
          refine z_icmp_gt 59 dX10_span_52 (by decide) (fun c74 => ?_) (fun c74 => ?_)
          · refine z_widen (k := 1) (n := 6) (by decide) (by decide) ?_
            exact hJ_F_X10_span_J59 a_70
          · refine z_iconst (v := 1) dX10_span_55 rfl ?_
            refine z_goto 60 dX10_span_56 (by decide) ?_
            refine z_widen (k := 1) (n := 6) (by decide) (by decide) ?_
            exact hJ_F_X10_span_J60x a_70
  refine z_aload_n (i := 0) (x := 0) dX10_span_0 rfl rfl ?_
  refine z_iload_n (i := 2) (x := a1) dX10_span_1 rfl rfl ?_
  refine z_iconst (v := 1) dX10_span_2 rfl ?_
  refine z_icmp_lt 26 dX10_span_3 (by decide) (fun c1 => ?_) (fun c1 => ?_)
  · refine z_widen (k := 0) (n := 0) (by decide) (by decide) ?_
    exact hJ_F_X10_span_J26 D
  · refine z_iload_n (i := 2) (x := a1) dX10_span_6 rfl rfl ?_
    refine z_bipush (v := 20) dX10_span_7 (by decide) ?_
    refine z_icmp_gt 26 dX10_span_9 (by decide) (fun c65 => ?_) (fun c65 => ?_)
    · refine z_widen (k := 0) (n := 0) (by decide) (by decide) ?_
      exact hJ_F_X10_span_J26 D
    · refine z_iload_n (i := 3) (x := a2) dX10_span_12 rfl rfl ?_
      refine z_if_lt 26 dX10_span_13 (by decide) (fun c66 => ?_) (fun c66 => ?_)
      · refine z_widen (k := 0) (n := 0) (by decide) (by decide) ?_
        exact hJ_F_X10_span_J26 D
      · refine z_iload_n (i := 3) (x := a2) dX10_span_16 rfl rfl ?_
        refine z_bipush (v := 16) dX10_span_17 (by decide) ?_
        refine z_icmp_gt 26 dX10_span_19 (by decide) (fun c67 => ?_) (fun c67 => ?_)
        · refine z_widen (k := 0) (n := 0) (by decide) (by decide) ?_
          exact hJ_F_X10_span_J26 D
        · refine z_iconst (v := 1) dX10_span_22 rfl ?_
          refine z_goto 27 dX10_span_23 (by decide) ?_
          refine z_widen (k := 0) (n := 0) (by decide) (by decide) ?_
          exact hJ_F_X10_span_J27x D

def F_X4_keepImage (N : Nat) (t : Nat) (D : z_Dat) : Option z_Dat :=
  z_let ((D 21 4) * 748) (fun v1 => z_bd (F_X9_saveTo N t 23 2244 v1 D) (fun a_3 => z_bd (F_X10_copy N 22 704 23 2244 0 (v1 + 44) ((a_3 21 3) * 44) a_3) (fun a_5 => z_let (F_X10_put 24 3 (a_5 21 4) (a_5 21 3) a_5) (fun a_7 => z_let (z_up a_7 21 4 ((a_7 21 4) + 1)) (fun D8 => some D8)))))
set_option maxRecDepth 100000 in
set_option maxHeartbeats 4000000 in
theorem em_X4_keepImage {l : Launch} {S : List z_Shp} {oW : Nat} {t : Nat} (hl : l.stackTraces = false) (hW : z_W S oW) (hT : z_isTown S t) (N : Nat) (D : z_Dat) : ∀ out, z_ko (z_kV S) (F_X4_keepImage N t D) out → z_EM l M_X4_keepImage (50, 700, 0, 0) [.ref 21, .ref t] S D out := by
  have hs21 : S[21]? = some (6, 5, [some (some 22), some (some 23), some (some 24), none, none]) := hW.1 21 _ rfl
  have hs22 : S[22]? = some (0, 704, []) := hW.1 22 _ rfl
  have hs23 : S[23]? = some (0, 2244, []) := hW.1 23 _ rfl
  have hs24 : S[24]? = some (0, 3, []) := hW.1 24 _ rfl
  refine z_meth hl rfl kp_X4 (Nat.le_of_ble_eq_true rfl) (lv := [some (.ref 21), some (.ref t), none]) rfl ?_
  unfold F_X4_keepImage
  refine z_aload_n (i := 0) (x := 21) dX4_keepImage_0 rfl rfl ?_
  refine z_getI (j := 4) dX4_keepImage_1 kl_4 hs21 (by decide) rfl rfl kf_X4_25 ?_
  refine z_sipush (v := 748) dX4_keepImage_4 (by decide) ?_
  refine z_imul dX4_keepImage_7 ?_
  refine z_topi (fun v1 => ?_)
  refine z_istore_n (i := 2) (x := v1) (lv' := [some (.ref 21), some (.ref t), some (.int v1)]) dX4_keepImage_8 rfl (by decide) rfl rfl ?_
  refine z_aload_n (i := 1) (x := t) dX4_keepImage_9 rfl rfl ?_
  refine z_aload_n (i := 0) (x := 21) dX4_keepImage_10 rfl rfl ?_
  refine z_getR (j := 1) dX4_keepImage_11 kl_4 hs21 (by decide) rfl rfl kf_X4_15 ?_
  refine z_iload_n (i := 2) (x := v1) dX4_keepImage_14 rfl rfl ?_
  refine z_cWV (As := [.ref t, .ref 23, .int v1]) (rest := []) (em_X9_saveTo (n0 := 2244) hl hT hs23 (by decide) N v1 D) (fun o7 h => z_runV 28 2 h rfl kk_X4_28 hT.1 kl_9.1 kq_X9_saveTo rfl (Nat.le_of_ble_eq_true rfl) ⟨Nat.le_of_ble_eq_true rfl, Nat.le_of_ble_eq_true rfl, Nat.le_of_ble_eq_true rfl, Nat.le_of_ble_eq_true rfl⟩ dX4_keepImage_15) z_gWV (fun a_3 hz2 => ?_)
  refine z_aload_n (i := 0) (x := 21) dX4_keepImage_18 rfl rfl ?_
  refine z_getR (j := 0) dX4_keepImage_19 kl_4 hs21 (by decide) rfl rfl kf_X4_9 ?_
  refine z_iconst (v := 0) dX4_keepImage_22 rfl ?_
  refine z_aload_n (i := 0) (x := 21) dX4_keepImage_23 rfl rfl ?_
  refine z_getR (j := 1) dX4_keepImage_24 kl_4 hs21 (by decide) rfl rfl kf_X4_15 ?_
  refine z_iload_n (i := 2) (x := v1) dX4_keepImage_27 rfl rfl ?_
  refine z_bipush (v := 44) dX4_keepImage_28 (by decide) ?_
  refine z_iadd dX4_keepImage_30 ?_
  refine z_aload_n (i := 0) (x := 21) dX4_keepImage_31 rfl rfl ?_
  refine z_getI (j := 3) dX4_keepImage_32 kl_4 hs21 (by decide) rfl rfl kf_X4_21 ?_
  refine z_bipush (v := 44) dX4_keepImage_35 (by decide) ?_
  refine z_imul dX4_keepImage_37 ?_
  refine z_cWV (As := [.ref 22, .int 0, .ref 23, .int (v1 + 44), .int ((a_3 21 3) * 44)]) (rest := []) (em_X10_copy (n0 := 704) (n1 := 2244) hl hs22 (by decide) hs23 (by decide) N 0 (v1 + 44) ((a_3 21 3) * 44) a_3) (fun o7 h => z_runSN 37 5 h rfl kk_X4_37 kn_X4_37 kq_X10_copy rfl (Nat.le_of_ble_eq_true rfl) ⟨Nat.le_of_ble_eq_true rfl, Nat.le_of_ble_eq_true rfl, Nat.le_of_ble_eq_true rfl, Nat.le_of_ble_eq_true rfl⟩ dX4_keepImage_38) z_gWV (fun a_5 hz4 => ?_)
  refine z_aload_n (i := 0) (x := 21) dX4_keepImage_41 rfl rfl ?_
  refine z_getR (j := 2) dX4_keepImage_42 kl_4 hs21 (by decide) rfl rfl kf_X4_18 ?_
  refine z_aload_n (i := 0) (x := 21) dX4_keepImage_45 rfl rfl ?_
  refine z_getI (j := 4) dX4_keepImage_46 kl_4 hs21 (by decide) rfl rfl kf_X4_25 ?_
  refine z_aload_n (i := 0) (x := 21) dX4_keepImage_49 rfl rfl ?_
  refine z_getI (j := 3) dX4_keepImage_50 kl_4 hs21 (by decide) rfl rfl kf_X4_21 ?_
  refine z_cTV (As := [.ref 24, .int (a_5 21 4), .int (a_5 21 3)]) (rest := []) (em_X10_put (n0 := 3) hl hs24 (by decide) (a_5 21 4) (a_5 21 3) a_5) (fun o7 h => z_runSN 41 3 h rfl kk_X4_41 kn_X4_41 kq_X10_put rfl (Nat.le_of_ble_eq_true rfl) ⟨Nat.le_of_ble_eq_true rfl, Nat.le_of_ble_eq_true rfl, Nat.le_of_ble_eq_true rfl, Nat.le_of_ble_eq_true rfl⟩ dX4_keepImage_53) z_gWV (fun a_7 hz6 => ?_)
  refine z_aload_n (i := 0) (x := 21) dX4_keepImage_56 rfl rfl ?_
  refine z_dup dX4_keepImage_57 rfl ?_
  refine z_getI (j := 4) dX4_keepImage_58 kl_4 hs21 (by decide) rfl rfl kf_X4_25 ?_
  refine z_iconst (v := 1) dX4_keepImage_61 rfl ?_
  refine z_iadd dX4_keepImage_62 ?_
  refine z_putI (j := 4) dX4_keepImage_63 kl_4 tyX4_ok nmX4 hs21 (by decide) rfl rfl rfl rfl rfl rfl kf_X4_25 (fun D8 => ?_)
  exact z_vreturn dX4_keepImage_66 z_rWV trivial (by decide) (by decide)

def F_X10_image (N : Nat) (D : z_Dat) : Option (Int32 × z_Dat) :=
  if (D 21 4) < 3 then (z_bd (F_X4_keepImage N 3 D) (fun a_3 => some (a_3 21 4, a_3)))
  else (some ((-1), D))
set_option maxRecDepth 100000 in
set_option maxHeartbeats 4000000 in
theorem em_X10_image {l : Launch} {S : List z_Shp} {o : Nat} (hl : l.stackTraces = false) (hW : z_W S o) (N : Nat) (D : z_Dat) : ∀ out, z_ko (z_kI S) (F_X10_image N D) out → z_EM l M_X10_image (60, 760, 0, 0) [.ref 0] S D out := by
  have hC := hW.2
  have hs0 : S[0]? = some (12, 15, [some (some 1), some (some 3), some (some 5), some (some 7), some (some 12), some (some 15), some (some 21), some (some 25), some (some 28), some (some 32), some (some 33), some (some o), none, none, none]) := hW.1 0 _ rfl
  have hs3 : S[3]? = some (11, 1, [some (some 4)]) := hW.1 3 _ rfl
  have hs4 : S[4]? = some (0, 44, []) := hW.1 4 _ rfl
  have hs21 : S[21]? = some (6, 5, [some (some 22), some (some 23), some (some 24), none, none]) := hW.1 21 _ rfl
  refine z_meth hl rfl kp_X10 (Nat.le_of_ble_eq_true rfl) (lv := [some (.ref 0)]) rfl ?_
  unfold F_X10_image
  refine z_aload_n (i := 0) (x := 0) dX10_image_0 rfl rfl ?_
  refine z_getR (j := 6) dX10_image_1 kl_10 hs0 (by decide) rfl rfl kf_X10_50 ?_
  refine z_getIN (j := 4) dX10_image_4 kl_4 hs21 (by decide) rfl rfl kf_X10_347 ?_
  refine z_iconst (v := 3) dX10_image_7 rfl ?_
  refine z_icmp_lt 13 dX10_image_8 (by decide) (fun c1 => ?_) (fun c1 => ?_)
  · refine z_aload_n (i := 0) (x := 0) dX10_image_13 rfl rfl ?_
    refine z_getR (j := 6) dX10_image_14 kl_10 hs0 (by decide) rfl rfl kf_X10_50 ?_
    refine z_aload_n (i := 0) (x := 0) dX10_image_17 rfl rfl ?_
    refine z_getR (j := 1) dX10_image_18 kl_10 hs0 (by decide) rfl rfl kf_X10_19 ?_
    refine z_cWV (As := [.ref 21, .ref 3]) (rest := []) (em_X4_keepImage hl hW ⟨hs3, hs4⟩ N D) (fun o7 h => z_runV 350 1 h rfl kk_X10_350 hs21 kl_4.1 kq_X4_keepImage rfl (Nat.le_of_ble_eq_true rfl) ⟨Nat.le_of_ble_eq_true rfl, Nat.le_of_ble_eq_true rfl, Nat.le_of_ble_eq_true rfl, Nat.le_of_ble_eq_true rfl⟩ dX10_image_21) z_gWI (fun a_3 hz2 => ?_)
    refine z_aload_n (i := 0) (x := 0) dX10_image_24 rfl rfl ?_
    refine z_getR (j := 6) dX10_image_25 kl_10 hs0 (by decide) rfl rfl kf_X10_50 ?_
    refine z_getIN (j := 4) dX10_image_28 kl_4 hs21 (by decide) rfl rfl kf_X10_347 ?_
    exact z_ireturn dX10_image_31 z_rWI rfl (by decide) (by decide)
  · refine z_iconst (v := (-1)) dX10_image_11 rfl ?_
    exact z_ireturn dX10_image_12 z_rWI rfl (by decide) (by decide)

def F_X4_bringBack (N : Nat) (t : Nat) (D : z_Dat) : Option z_Dat :=
  z_let (z_up D 21 4 ((D 21 4) - 1)) (fun D1 => z_let ((D1 21 4) * 748) (fun v2 => z_bd (F_X9_loadFrom N t 23 2244 v2 D1) (fun a_4 => z_let (z_up a_4 21 3 (F_X10_at 24 3 (a_4 21 4) a_4)) (fun D6 => z_bd (F_X10_copy N 23 2244 22 704 (v2 + 44) 0 ((D6 21 3) * 44) D6) (fun a_8 => some a_8)))))
set_option maxRecDepth 100000 in
set_option maxHeartbeats 4000000 in
theorem em_X4_bringBack {l : Launch} {S : List z_Shp} {oW : Nat} {t : Nat} (hl : l.stackTraces = false) (hW : z_W S oW) (hT : z_isTown S t) (N : Nat) (D : z_Dat) : ∀ out, z_ko (z_kV S) (F_X4_bringBack N t D) out → z_EM l M_X4_bringBack (50, 700, 0, 0) [.ref 21, .ref t] S D out := by
  have hs21 : S[21]? = some (6, 5, [some (some 22), some (some 23), some (some 24), none, none]) := hW.1 21 _ rfl
  have hs22 : S[22]? = some (0, 704, []) := hW.1 22 _ rfl
  have hs23 : S[23]? = some (0, 2244, []) := hW.1 23 _ rfl
  have hs24 : S[24]? = some (0, 3, []) := hW.1 24 _ rfl
  refine z_meth hl rfl kp_X4 (Nat.le_of_ble_eq_true rfl) (lv := [some (.ref 21), some (.ref t), none]) rfl ?_
  unfold F_X4_bringBack
  refine z_aload_n (i := 0) (x := 21) dX4_bringBack_0 rfl rfl ?_
  refine z_dup dX4_bringBack_1 rfl ?_
  refine z_getI (j := 4) dX4_bringBack_2 kl_4 hs21 (by decide) rfl rfl kf_X4_25 ?_
  refine z_iconst (v := 1) dX4_bringBack_5 rfl ?_
  refine z_isub dX4_bringBack_6 ?_
  refine z_putI (j := 4) dX4_bringBack_7 kl_4 tyX4_ok nmX4 hs21 (by decide) rfl rfl rfl rfl rfl rfl kf_X4_25 (fun D1 => ?_)
  refine z_aload_n (i := 0) (x := 21) dX4_bringBack_10 rfl rfl ?_
  refine z_getI (j := 4) dX4_bringBack_11 kl_4 hs21 (by decide) rfl rfl kf_X4_25 ?_
  refine z_sipush (v := 748) dX4_bringBack_14 (by decide) ?_
  refine z_imul dX4_bringBack_17 ?_
  refine z_topi (fun v2 => ?_)
  refine z_istore_n (i := 2) (x := v2) (lv' := [some (.ref 21), some (.ref t), some (.int v2)]) dX4_bringBack_18 rfl (by decide) rfl rfl ?_
  refine z_aload_n (i := 1) (x := t) dX4_bringBack_19 rfl rfl ?_
  refine z_aload_n (i := 0) (x := 21) dX4_bringBack_20 rfl rfl ?_
  refine z_getR (j := 1) dX4_bringBack_21 kl_4 hs21 (by decide) rfl rfl kf_X4_15 ?_
  refine z_iload_n (i := 2) (x := v2) dX4_bringBack_24 rfl rfl ?_
  refine z_cWV (As := [.ref t, .ref 23, .int v2]) (rest := []) (em_X9_loadFrom (n0 := 2244) hl hT hs23 (by decide) N v2 D1) (fun o7 h => z_runV 34 2 h rfl kk_X4_34 hT.1 kl_9.1 kq_X9_loadFrom rfl (Nat.le_of_ble_eq_true rfl) ⟨Nat.le_of_ble_eq_true rfl, Nat.le_of_ble_eq_true rfl, Nat.le_of_ble_eq_true rfl, Nat.le_of_ble_eq_true rfl⟩ dX4_bringBack_25) z_gWV (fun a_4 hz3 => ?_)
  refine z_aload_n (i := 0) (x := 21) dX4_bringBack_28 rfl rfl ?_
  refine z_aload_n (i := 0) (x := 21) dX4_bringBack_29 rfl rfl ?_
  refine z_getR (j := 2) dX4_bringBack_30 kl_4 hs21 (by decide) rfl rfl kf_X4_18 ?_
  refine z_aload_n (i := 0) (x := 21) dX4_bringBack_33 rfl rfl ?_
  refine z_getI (j := 4) dX4_bringBack_34 kl_4 hs21 (by decide) rfl rfl kf_X4_25 ?_
  refine z_cP (As := [.ref 24, .int (a_4 21 4)]) (rest := [.ref 21]) (em_X10_at (n0 := 3) hl hs24 (by decide) (a_4 21 4) a_4) (fun o7 h => z_runSN 45 2 h rfl kk_X4_45 kn_X4_45 kq_X10_at rfl (Nat.le_of_ble_eq_true rfl) ⟨Nat.le_of_ble_eq_true rfl, Nat.le_of_ble_eq_true rfl, Nat.le_of_ble_eq_true rfl, Nat.le_of_ble_eq_true rfl⟩ dX4_bringBack_37) z_gWV (fun hz5 => ?_)
  refine z_putI (j := 3) dX4_bringBack_40 kl_4 tyX4_ok nmX4 hs21 (by decide) rfl rfl rfl rfl rfl rfl kf_X4_21 (fun D6 => ?_)
  refine z_aload_n (i := 0) (x := 21) dX4_bringBack_43 rfl rfl ?_
  refine z_getR (j := 1) dX4_bringBack_44 kl_4 hs21 (by decide) rfl rfl kf_X4_15 ?_
  refine z_iload_n (i := 2) (x := v2) dX4_bringBack_47 rfl rfl ?_
  refine z_bipush (v := 44) dX4_bringBack_48 (by decide) ?_
  refine z_iadd dX4_bringBack_50 ?_
  refine z_aload_n (i := 0) (x := 21) dX4_bringBack_51 rfl rfl ?_
  refine z_getR (j := 0) dX4_bringBack_52 kl_4 hs21 (by decide) rfl rfl kf_X4_9 ?_
  refine z_iconst (v := 0) dX4_bringBack_55 rfl ?_
  refine z_aload_n (i := 0) (x := 21) dX4_bringBack_56 rfl rfl ?_
  refine z_getI (j := 3) dX4_bringBack_57 kl_4 hs21 (by decide) rfl rfl kf_X4_21 ?_
  refine z_bipush (v := 44) dX4_bringBack_60 (by decide) ?_
  refine z_imul dX4_bringBack_62 ?_
  refine z_cWV (As := [.ref 23, .int (v2 + 44), .ref 22, .int 0, .int ((D6 21 3) * 44)]) (rest := []) (em_X10_copy (n0 := 2244) (n1 := 704) hl hs23 (by decide) hs22 (by decide) N (v2 + 44) 0 ((D6 21 3) * 44) D6) (fun o7 h => z_runSN 37 5 h rfl kk_X4_37 kn_X4_37 kq_X10_copy rfl (Nat.le_of_ble_eq_true rfl) ⟨Nat.le_of_ble_eq_true rfl, Nat.le_of_ble_eq_true rfl, Nat.le_of_ble_eq_true rfl, Nat.le_of_ble_eq_true rfl⟩ dX4_bringBack_63) z_gWV (fun a_8 hz7 => ?_)
  exact z_vreturn dX4_bringBack_66 z_rWV trivial (by decide) (by decide)

def F_X10_restore (N : Nat) (D : z_Dat) : Option (Int32 × z_Dat) :=
  if 0 < (D 21 4) then (z_bd (F_X4_bringBack N 3 D) (fun a_3 => z_let (z_up a_3 0 12 0) (fun D4 => some (D4 21 4, D4))))
  else (some ((-1), D))
set_option maxRecDepth 100000 in
set_option maxHeartbeats 4000000 in
theorem em_X10_restore {l : Launch} {S : List z_Shp} {o : Nat} (hl : l.stackTraces = false) (hW : z_W S o) (N : Nat) (D : z_Dat) : ∀ out, z_ko (z_kI S) (F_X10_restore N D) out → z_EM l M_X10_restore (60, 760, 0, 0) [.ref 0] S D out := by
  have hC := hW.2
  have hs0 : S[0]? = some (12, 15, [some (some 1), some (some 3), some (some 5), some (some 7), some (some 12), some (some 15), some (some 21), some (some 25), some (some 28), some (some 32), some (some 33), some (some o), none, none, none]) := hW.1 0 _ rfl
  have hs3 : S[3]? = some (11, 1, [some (some 4)]) := hW.1 3 _ rfl
  have hs4 : S[4]? = some (0, 44, []) := hW.1 4 _ rfl
  have hs21 : S[21]? = some (6, 5, [some (some 22), some (some 23), some (some 24), none, none]) := hW.1 21 _ rfl
  refine z_meth hl rfl kp_X10 (Nat.le_of_ble_eq_true rfl) (lv := [some (.ref 0)]) rfl ?_
  unfold F_X10_restore
  refine z_aload_n (i := 0) (x := 0) dX10_restore_0 rfl rfl ?_
  refine z_getR (j := 6) dX10_restore_1 kl_10 hs0 (by decide) rfl rfl kf_X10_50 ?_
  refine z_getIN (j := 4) dX10_restore_4 kl_4 hs21 (by decide) rfl rfl kf_X10_347 ?_
  refine z_if_gt 12 dX10_restore_7 (by decide) (fun c1 => ?_) (fun c1 => ?_)
  · refine z_aload_n (i := 0) (x := 0) dX10_restore_12 rfl rfl ?_
    refine z_getR (j := 6) dX10_restore_13 kl_10 hs0 (by decide) rfl rfl kf_X10_50 ?_
    refine z_aload_n (i := 0) (x := 0) dX10_restore_16 rfl rfl ?_
    refine z_getR (j := 1) dX10_restore_17 kl_10 hs0 (by decide) rfl rfl kf_X10_19 ?_
    refine z_cWV (As := [.ref 21, .ref 3]) (rest := []) (em_X4_bringBack hl hW ⟨hs3, hs4⟩ N D) (fun o7 h => z_runV 353 1 h rfl kk_X10_353 hs21 kl_4.1 kq_X4_bringBack rfl (Nat.le_of_ble_eq_true rfl) ⟨Nat.le_of_ble_eq_true rfl, Nat.le_of_ble_eq_true rfl, Nat.le_of_ble_eq_true rfl, Nat.le_of_ble_eq_true rfl⟩ dX10_restore_20) z_gWI (fun a_3 hz2 => ?_)
    refine z_aload_n (i := 0) (x := 0) dX10_restore_23 rfl rfl ?_
    refine z_iconst (v := 0) dX10_restore_24 rfl ?_
    refine z_putI (j := 12) dX10_restore_25 kl_10 tyX10_ok nmX10 hs0 (by decide) rfl rfl rfl rfl rfl rfl kf_X10_131 (fun D4 => ?_)
    refine z_aload_n (i := 0) (x := 0) dX10_restore_28 rfl rfl ?_
    refine z_getR (j := 6) dX10_restore_29 kl_10 hs0 (by decide) rfl rfl kf_X10_50 ?_
    refine z_getIN (j := 4) dX10_restore_32 kl_4 hs21 (by decide) rfl rfl kf_X10_347 ?_
    exact z_ireturn dX10_restore_35 z_rWI rfl (by decide) (by decide)
  · refine z_iconst (v := (-1)) dX10_restore_10 rfl ?_
    exact z_ireturn dX10_restore_11 z_rWI rfl (by decide) (by decide)

def F_X10_status (a0 : Int32) (D : z_Dat) : Int32 :=
  if a0 = 0 then (D 0 13)
  else (if a0 = 1 then (D 0 14)
  else ((-1)))
set_option maxRecDepth 100000 in
set_option maxHeartbeats 4000000 in
theorem em_X10_status {l : Launch} {S : List z_Shp} {o : Nat} (hl : l.stackTraces = false) (hW : z_W S o) (a0 : Int32) (D : z_Dat) : ∀ out, z_kt (z_kR S D) (F_X10_status a0 D) out → z_EM l M_X10_status (20, 520, 0, 0) [.ref 0, .int a0] S D out := by
  have hC := hW.2
  have hs0 : S[0]? = some (12, 15, [some (some 1), some (some 3), some (some 5), some (some 7), some (some 12), some (some 15), some (some 21), some (some 25), some (some 28), some (some 32), some (some 33), some (some o), none, none, none]) := hW.1 0 _ rfl
  refine z_meth hl rfl kp_X10 (Nat.le_of_ble_eq_true rfl) (lv := [some (.ref 0), some (.int a0)]) rfl ?_
  unfold F_X10_status
  refine z_iload_n (i := 1) (x := a0) dX10_status_0 rfl rfl ?_
  refine z_ite (fun h_0 => ?_) (fun h_0 => ?_)
  · refine z_lsw 28 dX10_status_1 (by decide) (by rw [h_0]; first | done | rfl) (by decide) ?_
    refine z_aload_n (i := 0) (x := 0) dX10_status_28 rfl rfl ?_
    refine z_getI (j := 13) dX10_status_29 kl_10 hs0 (by decide) rfl rfl kf_X10_356 ?_
    exact z_ireturn dX10_status_32 z_rP rfl (by decide) (by decide)
  · refine z_ite (fun h_1 => ?_) (fun h_1 => ?_)
    · refine z_lsw 33 dX10_status_1 (by decide) (by rw [h_1]; first | done | rfl) (by decide) ?_
      refine z_aload_n (i := 0) (x := 0) dX10_status_33 rfl rfl ?_
      refine z_getI (j := 14) dX10_status_34 kl_10 hs0 (by decide) rfl rfl kf_X10_359 ?_
      exact z_ireturn dX10_status_37 z_rP rfl (by decide) (by decide)
    · refine z_lsw (off := 37) 38 dX10_status_1 (by decide) ((lv_osw h_0 (by decide)).trans ((lv_osw h_1 (by decide)).trans rfl)) (by decide) ?_
      refine z_iconst (v := (-1)) dX10_status_38 rfl ?_
      exact z_ireturn dX10_status_39 z_rP rfl (by decide) (by decide)

def F_X10_count (a0 : Int32) (D : z_Dat) : Int32 :=
  if a0 = 0 then (D 21 4)
  else (if a0 = 1 then (D 1 1)
  else (if a0 = 2 then (D 21 3)
  else ((-1))))
set_option maxRecDepth 100000 in
set_option maxHeartbeats 4000000 in
theorem em_X10_count {l : Launch} {S : List z_Shp} {o : Nat} (hl : l.stackTraces = false) (hW : z_W S o) (a0 : Int32) (D : z_Dat) : ∀ out, z_kt (z_kR S D) (F_X10_count a0 D) out → z_EM l M_X10_count (20, 520, 0, 0) [.ref 0, .int a0] S D out := by
  have hC := hW.2
  have hs0 : S[0]? = some (12, 15, [some (some 1), some (some 3), some (some 5), some (some 7), some (some 12), some (some 15), some (some 21), some (some 25), some (some 28), some (some 32), some (some 33), some (some o), none, none, none]) := hW.1 0 _ rfl
  have hs1 : S[1]? = some (10, 7, [some (some 2), none, none, none, none, none, none]) := hW.1 1 _ rfl
  have hs21 : S[21]? = some (6, 5, [some (some 22), some (some 23), some (some 24), none, none]) := hW.1 21 _ rfl
  refine z_meth hl rfl kp_X10 (Nat.le_of_ble_eq_true rfl) (lv := [some (.ref 0), some (.int a0)]) rfl ?_
  unfold F_X10_count
  refine z_iload_n (i := 1) (x := a0) dX10_count_0 rfl rfl ?_
  refine z_ite (fun h_0 => ?_) (fun h_0 => ?_)
  · refine z_tswC (c := 0) 28 dX10_count_1 h_0 (by decide) (by decide) rfl (by decide) ?_
    refine z_aload_n (i := 0) (x := 0) dX10_count_28 rfl rfl ?_
    refine z_getR (j := 6) dX10_count_29 kl_10 hs0 (by decide) rfl rfl kf_X10_50 ?_
    refine z_getIN (j := 4) dX10_count_32 kl_4 hs21 (by decide) rfl rfl kf_X10_347 ?_
    exact z_ireturn dX10_count_35 z_rP rfl (by decide) (by decide)
  · refine z_ite (fun h_1 => ?_) (fun h_1 => ?_)
    · refine z_tswC (c := 1) 36 dX10_count_1 h_1 (by decide) (by decide) rfl (by decide) ?_
      refine z_aload_n (i := 0) (x := 0) dX10_count_36 rfl rfl ?_
      refine z_getR (j := 0) dX10_count_37 kl_10 hs0 (by decide) rfl rfl kf_X10_12 ?_
      refine z_getIN (j := 1) dX10_count_40 kl_8 hs1 (by decide) rfl rfl kf_X10_94 ?_
      exact z_ireturn dX10_count_43 z_rP rfl (by decide) (by decide)
    · refine z_ite (fun h_2 => ?_) (fun h_2 => ?_)
      · refine z_tswC (c := 2) 44 dX10_count_1 h_2 (by decide) (by decide) rfl (by decide) ?_
        refine z_aload_n (i := 0) (x := 0) dX10_count_44 rfl rfl ?_
        refine z_getR (j := 6) dX10_count_45 kl_10 hs0 (by decide) rfl rfl kf_X10_50 ?_
        refine z_getIN (j := 3) dX10_count_48 kl_4 hs21 (by decide) rfl rfl kf_X10_138 ?_
        exact z_ireturn dX10_count_51 z_rP rfl (by decide) (by decide)
      · refine z_tswD 52 dX10_count_1 (by
          have q0 := z_swn h_0 (k := 0) (by decide)
          have q1 := z_swn h_1 (k := 1) (by decide)
          have q2 := z_swn h_2 (k := 2) (by decide)
          omega) (by decide) ?_
        refine z_iconst (v := (-1)) dX10_count_52 rfl ?_
        exact z_ireturn dX10_count_53 z_rP rfl (by decide) (by decide)
