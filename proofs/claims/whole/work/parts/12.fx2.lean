/-! ===== methods as functions, and their walks (by program) ===== -/
def F_X10_work (N : Nat) (o : Nat) (a0 : Int32) (D : z_Dat) : Option ((Int32 × z_Dat) ⊕ (String × z_Dat)) :=
  z_bt (F_X10_demand (F_X8_has a0 150 D) D) (fun a_3 => if (a_3 21 3) < 16 then (z_bd (F_X8_open N a0 a_3) (fun a_6 => z_bd (F_X7_read N o a_6) (fun a_8 => if (F_X8_failed a_8) = 0 then (z_bd (F_X4_remember N 3 a_8) (fun a_12 => z_bd (F_X7_carryOut N o 3 a_12) (fun a_14 => z_let (z_up a_14 0 12 (a_14 15 8)) (fun D15 => some (.inl (D15 15 7, D15))))))
  else (some (.inl (F_X8_verdict a_8, a_8))))))
  else (z_bd (F_X8_open N 0 a_3) (fun a_18 => some (.inl ((-20), a_18)))))
set_option maxRecDepth 100000 in
set_option maxHeartbeats 4000000 in
theorem em_X10_work {l : Launch} {S : List z_Shp} {o : Nat} (hl : l.stackTraces = false) (hW : z_W S o) (N : Nat) (a0 : Int32) (D : z_Dat) : ∀ out, z_ko (z_kTI S) (F_X10_work N o a0 D) out → z_EM l M_X10_work (90, 940, 1, 6) [.ref 0, .int a0] S D out := by
  have hC := hW.2
  have hs0 : S[0]? = some (12, 15, [some (some 1), some (some 3), some (some 5), some (some 7), some (some 12), some (some 15), some (some 21), some (some 25), some (some 28), some (some 32), some (some 33), some (some o), none, none, none]) := hW.1 0 _ rfl
  have hs1 : S[1]? = some (10, 7, [some (some 2), none, none, none, none, none, none]) := hW.1 1 _ rfl
  have hs3 : S[3]? = some (11, 1, [some (some 4)]) := hW.1 3 _ rfl
  have hs4 : S[4]? = some (0, 44, []) := hW.1 4 _ rfl
  have hs15 : S[15]? = some (9, 9, [some (some 16), some (some 17), some (some 18), some (some 19), some (some 20), none, none, none, none]) := hW.1 15 _ rfl
  have hs21 : S[21]? = some (6, 5, [some (some 22), some (some 23), some (some 24), none, none]) := hW.1 21 _ rfl
  refine z_meth hl rfl kp_X10 (Nat.le_of_ble_eq_true rfl) (lv := [some (.ref 0), some (.int a0)]) rfl ?_
  unfold F_X10_work
  refine z_aload_n (i := 0) (x := 0) dX10_work_0 rfl rfl ?_
  refine z_aload_n (i := 0) (x := 0) dX10_work_1 rfl rfl ?_
  refine z_getR (j := 0) dX10_work_2 kl_10 hs0 (by decide) rfl rfl kf_X10_12 ?_
  refine z_iload_n (i := 1) (x := a0) dX10_work_5 rfl rfl ?_
  refine z_sipush (v := 150) dX10_work_6 (by decide) ?_
  refine z_cP (As := [.ref 1, .int a0, .int 150]) (rest := [.ref 0]) (em_X8_has hl hW a0 150 D) (fun o7 h => z_runV 98 2 h rfl kk_X10_98 hs1 kl_8.1 kq_X8_has rfl (Nat.le_of_ble_eq_true rfl) ⟨Nat.le_of_ble_eq_true rfl, Nat.le_of_ble_eq_true rfl, Nat.le_of_ble_eq_true rfl, Nat.le_of_ble_eq_true rfl⟩ dX10_work_9) z_gXI (fun hz1 => ?_)
  refine z_cXVI rfl (As := [.ref 0, .int (F_X8_has a0 150 D)]) (rest := []) (em_X10_demand hl hW (F_X8_has a0 150 D) D) (fun o7 h => z_runV 102 1 h rfl kk_X10_102 hs0 kl_10.1 kq_X10_demand rfl (Nat.le_of_ble_eq_true rfl) ⟨Nat.le_of_ble_eq_true rfl, Nat.le_of_ble_eq_true rfl, Nat.le_of_ble_eq_true rfl, Nat.le_of_ble_eq_true rfl⟩ dX10_work_12) (by decide) (by decide) (fun a_3 hz2 => ?_)
  refine z_aload_n (i := 0) (x := 0) dX10_work_15 rfl rfl ?_
  refine z_getR (j := 6) dX10_work_16 kl_10 hs0 (by decide) rfl rfl kf_X10_50 ?_
  refine z_getIN (j := 3) dX10_work_19 kl_4 hs21 (by decide) rfl rfl kf_X10_138 ?_
  refine z_bipush (v := 16) dX10_work_22 (by decide) ?_
  refine z_icmp_lt 38 dX10_work_24 (by decide) (fun c4 => ?_) (fun c4 => ?_)
  · refine z_aload_n (i := 0) (x := 0) dX10_work_38 rfl rfl ?_
    refine z_getR (j := 0) dX10_work_39 kl_10 hs0 (by decide) rfl rfl kf_X10_12 ?_
    refine z_iload_n (i := 1) (x := a0) dX10_work_42 rfl rfl ?_
    refine z_cWV (As := [.ref 1, .int a0]) (rest := []) (em_X8_open hl hW N a0 a_3) (fun o7 h => z_runV 106 1 h rfl kk_X10_106 hs1 kl_8.1 kq_X8_open rfl (Nat.le_of_ble_eq_true rfl) ⟨Nat.le_of_ble_eq_true rfl, Nat.le_of_ble_eq_true rfl, Nat.le_of_ble_eq_true rfl, Nat.le_of_ble_eq_true rfl⟩ dX10_work_43) z_gXI (fun a_6 hz5 => ?_)
    refine z_aload_n (i := 0) (x := 0) dX10_work_46 rfl rfl ?_
    refine z_getR (j := 5) dX10_work_47 kl_10 hs0 (by decide) rfl rfl kf_X10_43 ?_
    refine z_aload_n (i := 0) (x := 0) dX10_work_50 rfl rfl ?_
    refine z_getR (j := 0) dX10_work_51 kl_10 hs0 (by decide) rfl rfl kf_X10_12 ?_
    refine z_aload_n (i := 0) (x := 0) dX10_work_54 rfl rfl ?_
    refine z_getR (j := 11) dX10_work_55 kl_10 hs0 (by decide) rfl rfl kf_X10_82 ?_
    refine z_cWV (As := [.ref 15, .ref 1, .ref o]) (rest := []) (em_X7_read hl hW hC N a_6) (fun o7 h => z_runV 141 2 h rfl kk_X10_141 hs15 kl_7.1 kq_X7_read rfl (Nat.le_of_ble_eq_true rfl) ⟨Nat.le_of_ble_eq_true rfl, Nat.le_of_ble_eq_true rfl, Nat.le_of_ble_eq_true rfl, Nat.le_of_ble_eq_true rfl⟩ dX10_work_58) z_gXI (fun a_8 hz7 => ?_)
    refine z_aload_n (i := 0) (x := 0) dX10_work_61 rfl rfl ?_
    refine z_getR (j := 0) dX10_work_62 kl_10 hs0 (by decide) rfl rfl kf_X10_12 ?_
    refine z_cP (As := [.ref 1]) (rest := []) (em_X8_failed hl hW a_8) (fun o7 h => z_runV 113 0 h rfl kk_X10_113 hs1 kl_8.1 kq_X8_failed rfl (Nat.le_of_ble_eq_true rfl) ⟨Nat.le_of_ble_eq_true rfl, Nat.le_of_ble_eq_true rfl, Nat.le_of_ble_eq_true rfl, Nat.le_of_ble_eq_true rfl⟩ dX10_work_65) z_gXI (fun hz9 => ?_)
    refine z_if_eq 79 dX10_work_68 (by decide) (fun c10 => ?_) (fun c10 => ?_)
    · refine z_aload_n (i := 0) (x := 0) dX10_work_79 rfl rfl ?_
      refine z_getR (j := 6) dX10_work_80 kl_10 hs0 (by decide) rfl rfl kf_X10_50 ?_
      refine z_aload_n (i := 0) (x := 0) dX10_work_83 rfl rfl ?_
      refine z_getR (j := 1) dX10_work_84 kl_10 hs0 (by decide) rfl rfl kf_X10_19 ?_
      refine z_cWV (As := [.ref 21, .ref 3]) (rest := []) (em_X4_remember hl hW ⟨hs3, hs4⟩ N a_8) (fun o7 h => z_runV 144 1 h rfl kk_X10_144 hs21 kl_4.1 kq_X4_remember rfl (Nat.le_of_ble_eq_true rfl) ⟨Nat.le_of_ble_eq_true rfl, Nat.le_of_ble_eq_true rfl, Nat.le_of_ble_eq_true rfl, Nat.le_of_ble_eq_true rfl⟩ dX10_work_87) z_gXI (fun a_12 hz11 => ?_)
      refine z_aload_n (i := 0) (x := 0) dX10_work_90 rfl rfl ?_
      refine z_getR (j := 5) dX10_work_91 kl_10 hs0 (by decide) rfl rfl kf_X10_43 ?_
      refine z_aload_n (i := 0) (x := 0) dX10_work_94 rfl rfl ?_
      refine z_getR (j := 11) dX10_work_95 kl_10 hs0 (by decide) rfl rfl kf_X10_82 ?_
      refine z_aload_n (i := 0) (x := 0) dX10_work_98 rfl rfl ?_
      refine z_getR (j := 1) dX10_work_99 kl_10 hs0 (by decide) rfl rfl kf_X10_19 ?_
      refine z_cWV (As := [.ref 15, .ref o, .ref 3]) (rest := []) (em_X7_carryOut hl hW hC ⟨hs3, hs4⟩ N a_12) (fun o7 h => z_runV 148 2 h rfl kk_X10_148 hs15 kl_7.1 kq_X7_carryOut rfl (Nat.le_of_ble_eq_true rfl) ⟨Nat.le_of_ble_eq_true rfl, Nat.le_of_ble_eq_true rfl, Nat.le_of_ble_eq_true rfl, Nat.le_of_ble_eq_true rfl⟩ dX10_work_102) z_gXI (fun a_14 hz13 => ?_)
      refine z_aload_n (i := 0) (x := 0) dX10_work_105 rfl rfl ?_
      refine z_aload_n (i := 0) (x := 0) dX10_work_106 rfl rfl ?_
      refine z_getR (j := 5) dX10_work_107 kl_10 hs0 (by decide) rfl rfl kf_X10_43 ?_
      refine z_getIN (j := 8) dX10_work_110 kl_7 hs15 (by decide) rfl rfl kf_X10_152 ?_
      refine z_putI (j := 12) dX10_work_113 kl_10 tyX10_ok nmX10 hs0 (by decide) rfl rfl rfl rfl rfl rfl kf_X10_131 (fun D15 => ?_)
      refine z_aload_n (i := 0) (x := 0) dX10_work_116 rfl rfl ?_
      refine z_getR (j := 5) dX10_work_117 kl_10 hs0 (by decide) rfl rfl kf_X10_43 ?_
      refine z_getIN (j := 7) dX10_work_120 kl_7 hs15 (by decide) rfl rfl kf_X10_155 ?_
      exact z_ireturn dX10_work_123 z_rXI rfl (by decide) (by decide)
    · refine z_aload_n (i := 0) (x := 0) dX10_work_71 rfl rfl ?_
      refine z_getR (j := 0) dX10_work_72 kl_10 hs0 (by decide) rfl rfl kf_X10_12 ?_
      refine z_cP (As := [.ref 1]) (rest := []) (em_X8_verdict hl hW a_8) (fun o7 h => z_runV 116 0 h rfl kk_X10_116 hs1 kl_8.1 kq_X8_verdict rfl (Nat.le_of_ble_eq_true rfl) ⟨Nat.le_of_ble_eq_true rfl, Nat.le_of_ble_eq_true rfl, Nat.le_of_ble_eq_true rfl, Nat.le_of_ble_eq_true rfl⟩ dX10_work_75) z_gXI (fun hz16 => ?_)
      exact z_ireturn dX10_work_78 z_rXI rfl (by decide) (by decide)
  · refine z_aload_n (i := 0) (x := 0) dX10_work_27 rfl rfl ?_
    refine z_getR (j := 0) dX10_work_28 kl_10 hs0 (by decide) rfl rfl kf_X10_12 ?_
    refine z_iconst (v := 0) dX10_work_31 rfl ?_
    refine z_cWV (As := [.ref 1, .int 0]) (rest := []) (em_X8_open hl hW N 0 a_3) (fun o7 h => z_runV 106 1 h rfl kk_X10_106 hs1 kl_8.1 kq_X8_open rfl (Nat.le_of_ble_eq_true rfl) ⟨Nat.le_of_ble_eq_true rfl, Nat.le_of_ble_eq_true rfl, Nat.le_of_ble_eq_true rfl, Nat.le_of_ble_eq_true rfl⟩ dX10_work_32) z_gXI (fun a_18 hz17 => ?_)
    refine z_bipush (v := (-20)) dX10_work_35 (by decide) ?_
    exact z_ireturn dX10_work_37 z_rXI rfl (by decide) (by decide)

def F_X0_read_J84 (N : Nat) (v7 : Int32) (D8 : z_Dat) : Option z_Dat :=
  if (F_X8_failed D8) = 0 then (z_bd (F_X10_copy N 14 3 13 3 0 0 3 D8) (fun a_12 => z_let (z_up a_12 12 2 v7) (fun D13 => some D13)))
  else (some D8)
def F_X0_read_J58 (N : Nat) (kc5 : ((Int32 × z_Dat) → Option z_Dat)) (v23 : Int32) (v24 : Int32) (D25 : z_Dat) : Option z_Dat :=
  z_bd (F_X8_needNumber N 9 D25) (fun a_27 => z_let (F_X10_put 14 3 v24 a_27.1 a_27.2) (fun a_29 => z_bd (F_X8_needSign N 59 a_29) (fun a_31 => z_let (v23 + 1) (fun v32 => kc5 (v32, a_31)))))
def F_X0_read_L10 (N : Nat) (kc5 : ((Int32 × z_Dat) → Option z_Dat)) (v3 : Int32) (D4 : z_Dat) : Option z_Dat :=
  if 60 ≤ v3 then (F_X0_read_J84 N v3 D4)
  else (if (F_X8_failed D4) = 0 then (z_bd (F_X8_next D4) (fun a_17 => if a_17 = (-1) then (F_X0_read_J84 N v3 D4)
  else (z_bd (F_X8_needNumber N 2 D4) (fun a_20 => if (F_X10_at 14 3 a_20.1 a_20.2) = (-1) then (F_X0_read_J58 N kc5 v3 a_20.1 a_20.2)
  else (z_let (F_X8_fail 2 (a_20.2 1 4) a_20.2) (fun a_34 => F_X0_read_J58 N kc5 v3 a_20.1 a_34))))))
  else (F_X0_read_J84 N v3 D4))
def F_X0_read (N : Nat) (D : z_Dat) : Option z_Dat :=
  z_bd (F_X10_fill N 14 3 (-1) D) (fun a_2 => z_loop (fun kc5 s => F_X0_read_L10 N kc5 s.1 s.2) N (0, a_2))
set_option maxRecDepth 100000 in
set_option maxHeartbeats 4000000 in
theorem em_X0_read {l : Launch} {S : List z_Shp} {oW : Nat} (hl : l.stackTraces = false) (hW : z_W S oW) (N : Nat) (D : z_Dat) : ∀ out, z_ko (z_kV S) (F_X0_read N D) out → z_EM l M_X0_read (40, 640, 0, 0) [.ref 12, .ref 1] S D out := by
  have hs1 : S[1]? = some (10, 7, [some (some 2), none, none, none, none, none, none]) := hW.1 1 _ rfl
  have hs12 : S[12]? = some (2, 3, [some (some 13), some (some 14), none]) := hW.1 12 _ rfl
  have hs13 : S[13]? = some (0, 3, []) := hW.1 13 _ rfl
  have hs14 : S[14]? = some (0, 3, []) := hW.1 14 _ rfl
  refine z_meth hl rfl kp_X0 (Nat.le_of_ble_eq_true rfl) (lv := [some (.ref 12), some (.ref 1), none, none]) rfl ?_
  unfold F_X0_read
  have hJ_F_X0_read_J84 : ∀ (v7 : Int32) (D8 : z_Dat) , z_F l M_X0_read (40, 640, 0, 0) 0 0 84 [some (.ref 12), some (.ref 1), some (.int v7), none] [] S D8 (z_ko (z_kV S)) (F_X0_read_J84 N v7 D8) := by
    intro v7 D8
    unfold F_X0_read_J84
    refine z_aload_n (i := 1) (x := 1) dX0_read_84 rfl rfl ?_
    refine z_cP (As := [.ref 1]) (rest := []) (em_X8_failed hl hW D8) (fun o7 h => z_runV 26 0 h rfl kk_X0_26 hs1 kl_8.1 kq_X8_failed rfl (Nat.le_of_ble_eq_true rfl) ⟨Nat.le_of_ble_eq_true rfl, Nat.le_of_ble_eq_true rfl, Nat.le_of_ble_eq_true rfl, Nat.le_of_ble_eq_true rfl⟩ dX0_read_85) z_gWV (fun hz9 => ?_)
    refine z_if_ne 110 dX0_read_88 (by decide) (fun c10 => ?_) (fun c10 => ?_)
    · refine z_aload_n (i := 0) (x := 12) dX0_read_91 rfl rfl ?_
      refine z_getR (j := 1) dX0_read_92 kl_0 hs12 (by decide) rfl rfl kf_X0_15 ?_
      refine z_iconst (v := 0) dX0_read_95 rfl ?_
      refine z_aload_n (i := 0) (x := 12) dX0_read_96 rfl rfl ?_
      refine z_getR (j := 0) dX0_read_97 kl_0 hs12 (by decide) rfl rfl kf_X0_9 ?_
      refine z_iconst (v := 0) dX0_read_100 rfl ?_
      refine z_iconst (v := 3) dX0_read_101 rfl ?_
      refine z_cWV (As := [.ref 14, .int 0, .ref 13, .int 0, .int 3]) (rest := []) (em_X10_copy (n0 := 3) (n1 := 3) hl hs14 (by decide) hs13 (by decide) N 0 0 3 D8) (fun o7 h => z_runSN 59 5 h rfl kk_X0_59 kn_X0_59 kq_X10_copy rfl (Nat.le_of_ble_eq_true rfl) ⟨Nat.le_of_ble_eq_true rfl, Nat.le_of_ble_eq_true rfl, Nat.le_of_ble_eq_true rfl, Nat.le_of_ble_eq_true rfl⟩ dX0_read_102) z_gWV (fun a_12 hz11 => ?_)
      refine z_aload_n (i := 0) (x := 12) dX0_read_105 rfl rfl ?_
      refine z_iload_n (i := 2) (x := v7) dX0_read_106 rfl rfl ?_
      refine z_putI (j := 2) dX0_read_107 kl_0 tyX0_ok nmX0 hs12 (by decide) rfl rfl rfl rfl rfl rfl kf_X0_22 (fun D13 => ?_)
      exact z_vreturn dX0_read_110 z_rWV trivial (by decide) (by decide)
    · exact z_vreturn dX0_read_110 z_rWV trivial (by decide) (by decide)
  refine z_aload_n (i := 0) (x := 12) dX0_read_0 rfl rfl ?_
  refine z_getR (j := 1) dX0_read_1 kl_0 hs12 (by decide) rfl rfl kf_X0_15 ?_
  refine z_iconst (v := (-1)) dX0_read_4 rfl ?_
  refine z_cWV (As := [.ref 14, .int (-1)]) (rest := []) (em_X10_fill (n0 := 3) hl hs14 (by decide) N (-1) D) (fun o7 h => z_runSN 18 2 h rfl kk_X0_18 kn_X0_18 kq_X10_fill rfl (Nat.le_of_ble_eq_true rfl) ⟨Nat.le_of_ble_eq_true rfl, Nat.le_of_ble_eq_true rfl, Nat.le_of_ble_eq_true rfl, Nat.le_of_ble_eq_true rfl⟩ dX0_read_5) z_gWV (fun a_2 hz1 => ?_)
  refine z_iconst (v := 0) dX0_read_8 rfl ?_
  refine z_istore_n (i := 2) (x := 0) (lv' := [some (.ref 12), some (.ref 1), some (.int 0), none]) dX0_read_9 rfl (by decide) rfl rfl ?_
  refine z_loops (lvOf := fun s : Int32 × z_Dat => [some (.ref 12), some (.ref 1), some (.int s.1), none]) (dOf := fun s : Int32 × z_Dat => s.2) (fun kc5 hkc5 s => ?_) N (0, a_2)
  obtain ⟨v3, D4⟩ := s
  show z_F _ _ _ _ _ 10 [some (.ref 12), some (.ref 1), some (.int v3), none] [] S D4 _ (F_X0_read_L10 N kc5 v3 D4)
  unfold F_X0_read_L10
  have hJ_F_X0_read_J58 : ∀ (v23 : Int32) (v24 : Int32) (D25 : z_Dat) , z_F l M_X0_read (40, 640, 0, 0) 0 0 58 [some (.ref 12), some (.ref 1), some (.int v23), some (.int v24)] [] S D25 (z_ko (z_kV S)) (F_X0_read_J58 N kc5 v23 v24 D25) := by
    intro v23 v24 D25
    unfold F_X0_read_J58
    refine z_aload_n (i := 0) (x := 12) dX0_read_58 rfl rfl ?_
    refine z_getR (j := 1) dX0_read_59 kl_0 hs12 (by decide) rfl rfl kf_X0_15 ?_
    refine z_iload_n (i := 3) (x := v24) dX0_read_62 rfl rfl ?_
    refine z_aload_n (i := 1) (x := 1) dX0_read_63 rfl rfl ?_
    refine z_bipush (v := 9) dX0_read_64 (by decide) ?_
    refine z_cWI (As := [.ref 1, .int 9]) (rest := [.int v24, .ref 14]) (em_X8_needNumber hl hW N 9 D25) (fun o7 h => z_runV 36 1 h rfl kk_X0_36 hs1 kl_8.1 kq_X8_needNumber rfl (Nat.le_of_ble_eq_true rfl) ⟨Nat.le_of_ble_eq_true rfl, Nat.le_of_ble_eq_true rfl, Nat.le_of_ble_eq_true rfl, Nat.le_of_ble_eq_true rfl⟩ dX0_read_66) z_gWV (fun a_27 hz26 => ?_)
    refine z_cTV (As := [.ref 14, .int v24, .int a_27.1]) (rest := []) (em_X10_put (n0 := 3) hl hs14 (by decide) v24 a_27.1 a_27.2) (fun o7 h => z_runSN 51 3 h rfl kk_X0_51 kn_X0_51 kq_X10_put rfl (Nat.le_of_ble_eq_true rfl) ⟨Nat.le_of_ble_eq_true rfl, Nat.le_of_ble_eq_true rfl, Nat.le_of_ble_eq_true rfl, Nat.le_of_ble_eq_true rfl⟩ dX0_read_69) z_gWV (fun a_29 hz28 => ?_)
    refine z_aload_n (i := 1) (x := 1) dX0_read_72 rfl rfl ?_
    refine z_bipush (v := 59) dX0_read_73 (by decide) ?_
    refine z_cWV (As := [.ref 1, .int 59]) (rest := []) (em_X8_needSign hl hW N 59 a_29) (fun o7 h => z_runV 55 1 h rfl kk_X0_55 hs1 kl_8.1 kq_X8_needSign rfl (Nat.le_of_ble_eq_true rfl) ⟨Nat.le_of_ble_eq_true rfl, Nat.le_of_ble_eq_true rfl, Nat.le_of_ble_eq_true rfl, Nat.le_of_ble_eq_true rfl⟩ dX0_read_75) z_gWV (fun a_31 hz30 => ?_)
    refine z_iinc (i := 2) (x := v23) (y := 1) dX0_read_78 rfl (by decide) (by decide) rfl (fun v32 => ?_)
    refine z_goto 10 dX0_read_81 (by decide) ?_
    refine z_weak (lv' := [some (.ref 12), some (.ref 1), some (.int v32), none]) ⟨Or.inr rfl, ⟨Or.inr rfl, ⟨Or.inr rfl, ⟨Or.inl rfl, trivial⟩⟩⟩⟩ ?_
    exact hkc5 (v32, a_31)
  refine z_iload_n (i := 2) (x := v3) dX0_read_10 rfl rfl ?_
  refine z_bipush (v := 60) dX0_read_11 (by decide) ?_
  refine z_icmp_ge 84 dX0_read_13 (by decide) (fun c6 => ?_) (fun c6 => ?_)
  · exact hJ_F_X0_read_J84 v3 D4
  · refine z_aload_n (i := 1) (x := 1) dX0_read_16 rfl rfl ?_
    refine z_cP (As := [.ref 1]) (rest := []) (em_X8_failed hl hW D4) (fun o7 h => z_runV 26 0 h rfl kk_X0_26 hs1 kl_8.1 kq_X8_failed rfl (Nat.le_of_ble_eq_true rfl) ⟨Nat.le_of_ble_eq_true rfl, Nat.le_of_ble_eq_true rfl, Nat.le_of_ble_eq_true rfl, Nat.le_of_ble_eq_true rfl⟩ dX0_read_17) z_gWV (fun hz14 => ?_)
    refine z_if_ne 84 dX0_read_20 (by decide) (fun c15 => ?_) (fun c15 => ?_)
    · refine z_aload_n (i := 1) (x := 1) dX0_read_23 rfl rfl ?_
      refine z_cR (As := [.ref 1]) (rest := []) (em_X8_next hl hW D4) (fun o7 h => z_runV 32 0 h rfl kk_X0_32 hs1 kl_8.1 kq_X8_next rfl (Nat.le_of_ble_eq_true rfl) ⟨Nat.le_of_ble_eq_true rfl, Nat.le_of_ble_eq_true rfl, Nat.le_of_ble_eq_true rfl, Nat.le_of_ble_eq_true rfl⟩ dX0_read_24) z_gWV (fun a_17 hz16 => ?_)
      refine z_iconst (v := (-1)) dX0_read_27 rfl ?_
      refine z_icmp_eq 84 dX0_read_28 (by decide) (fun c18 => ?_) (fun c18 => ?_)
      · exact hJ_F_X0_read_J84 v3 D4
      · refine z_aload_n (i := 1) (x := 1) dX0_read_31 rfl rfl ?_
        refine z_iconst (v := 2) dX0_read_32 rfl ?_
        refine z_cWI (As := [.ref 1, .int 2]) (rest := []) (em_X8_needNumber hl hW N 2 D4) (fun o7 h => z_runV 36 1 h rfl kk_X0_36 hs1 kl_8.1 kq_X8_needNumber rfl (Nat.le_of_ble_eq_true rfl) ⟨Nat.le_of_ble_eq_true rfl, Nat.le_of_ble_eq_true rfl, Nat.le_of_ble_eq_true rfl, Nat.le_of_ble_eq_true rfl⟩ dX0_read_33) z_gWV (fun a_20 hz19 => ?_)
        refine z_istore_n (i := 3) (x := a_20.1) (lv' := [some (.ref 12), some (.ref 1), some (.int v3), some (.int a_20.1)]) dX0_read_36 rfl (by decide) rfl rfl ?_
        refine z_aload_n (i := 0) (x := 12) dX0_read_37 rfl rfl ?_
        refine z_getR (j := 1) dX0_read_38 kl_0 hs12 (by decide) rfl rfl kf_X0_15 ?_
        refine z_iload_n (i := 3) (x := a_20.1) dX0_read_41 rfl rfl ?_
        refine z_cP (As := [.ref 14, .int a_20.1]) (rest := []) (em_X10_at (n0 := 3) hl hs14 (by decide) a_20.1 a_20.2) (fun o7 h => z_runSN 40 2 h rfl kk_X0_40 kn_X0_40 kq_X10_at rfl (Nat.le_of_ble_eq_true rfl) ⟨Nat.le_of_ble_eq_true rfl, Nat.le_of_ble_eq_true rfl, Nat.le_of_ble_eq_true rfl, Nat.le_of_ble_eq_true rfl⟩ dX0_read_42) z_gWV (fun hz21 => ?_)
        refine z_iconst (v := (-1)) dX0_read_45 rfl ?_
        refine z_icmp_eq 58 dX0_read_46 (by decide) (fun c22 => ?_) (fun c22 => ?_)
        · exact hJ_F_X0_read_J58 v3 a_20.1 a_20.2
        · refine z_aload_n (i := 1) (x := 1) dX0_read_49 rfl rfl ?_
          refine z_iconst (v := 2) dX0_read_50 rfl ?_
          refine z_aload_n (i := 1) (x := 1) dX0_read_51 rfl rfl ?_
          refine z_getIN (j := 4) dX0_read_52 kl_8 hs1 (by decide) rfl rfl kf_X0_44 ?_
          refine z_cTV (As := [.ref 1, .int 2, .int (a_20.2 1 4)]) (rest := []) (em_X8_fail hl hW 2 (a_20.2 1 4) a_20.2) (fun o7 h => z_runV 47 2 h rfl kk_X0_47 hs1 kl_8.1 kq_X8_fail rfl (Nat.le_of_ble_eq_true rfl) ⟨Nat.le_of_ble_eq_true rfl, Nat.le_of_ble_eq_true rfl, Nat.le_of_ble_eq_true rfl, Nat.le_of_ble_eq_true rfl⟩ dX0_read_55) z_gWV (fun a_34 hz33 => ?_)
          exact hJ_F_X0_read_J58 v3 a_20.1 a_34
    · exact hJ_F_X0_read_J84 v3 D4

def F_X10_book (N : Nat) (a0 : Int32) (D : z_Dat) : Option ((Int32 × z_Dat) ⊕ (String × z_Dat)) :=
  z_bt (F_X10_demand (F_X8_has a0 60 D) D) (fun a_3 => z_bd (F_X8_open N a0 a_3) (fun a_5 => z_bd (F_X0_read N a_5) (fun a_7 => if (F_X8_failed a_7) = 0 then (some (.inl (a_7 12 2, a_7)))
  else (some (.inl (F_X8_verdict a_7, a_7))))))
set_option maxRecDepth 100000 in
set_option maxHeartbeats 4000000 in
theorem em_X10_book {l : Launch} {S : List z_Shp} {o : Nat} (hl : l.stackTraces = false) (hW : z_W S o) (N : Nat) (a0 : Int32) (D : z_Dat) : ∀ out, z_ko (z_kTI S) (F_X10_book N a0 D) out → z_EM l M_X10_book (60, 700, 1, 6) [.ref 0, .int a0] S D out := by
  have hC := hW.2
  have hs0 : S[0]? = some (12, 15, [some (some 1), some (some 3), some (some 5), some (some 7), some (some 12), some (some 15), some (some 21), some (some 25), some (some 28), some (some 32), some (some 33), some (some o), none, none, none]) := hW.1 0 _ rfl
  have hs1 : S[1]? = some (10, 7, [some (some 2), none, none, none, none, none, none]) := hW.1 1 _ rfl
  have hs12 : S[12]? = some (2, 3, [some (some 13), some (some 14), none]) := hW.1 12 _ rfl
  refine z_meth hl rfl kp_X10 (Nat.le_of_ble_eq_true rfl) (lv := [some (.ref 0), some (.int a0)]) rfl ?_
  unfold F_X10_book
  refine z_aload_n (i := 0) (x := 0) dX10_book_0 rfl rfl ?_
  refine z_aload_n (i := 0) (x := 0) dX10_book_1 rfl rfl ?_
  refine z_getR (j := 0) dX10_book_2 kl_10 hs0 (by decide) rfl rfl kf_X10_12 ?_
  refine z_iload_n (i := 1) (x := a0) dX10_book_5 rfl rfl ?_
  refine z_bipush (v := 60) dX10_book_6 (by decide) ?_
  refine z_cP (As := [.ref 1, .int a0, .int 60]) (rest := [.ref 0]) (em_X8_has hl hW a0 60 D) (fun o7 h => z_runV 98 2 h rfl kk_X10_98 hs1 kl_8.1 kq_X8_has rfl (Nat.le_of_ble_eq_true rfl) ⟨Nat.le_of_ble_eq_true rfl, Nat.le_of_ble_eq_true rfl, Nat.le_of_ble_eq_true rfl, Nat.le_of_ble_eq_true rfl⟩ dX10_book_8) z_gXI (fun hz1 => ?_)
  refine z_cXVI rfl (As := [.ref 0, .int (F_X8_has a0 60 D)]) (rest := []) (em_X10_demand hl hW (F_X8_has a0 60 D) D) (fun o7 h => z_runV 102 1 h rfl kk_X10_102 hs0 kl_10.1 kq_X10_demand rfl (Nat.le_of_ble_eq_true rfl) ⟨Nat.le_of_ble_eq_true rfl, Nat.le_of_ble_eq_true rfl, Nat.le_of_ble_eq_true rfl, Nat.le_of_ble_eq_true rfl⟩ dX10_book_11) (by decide) (by decide) (fun a_3 hz2 => ?_)
  refine z_aload_n (i := 0) (x := 0) dX10_book_14 rfl rfl ?_
  refine z_getR (j := 0) dX10_book_15 kl_10 hs0 (by decide) rfl rfl kf_X10_12 ?_
  refine z_iload_n (i := 1) (x := a0) dX10_book_18 rfl rfl ?_
  refine z_cWV (As := [.ref 1, .int a0]) (rest := []) (em_X8_open hl hW N a0 a_3) (fun o7 h => z_runV 106 1 h rfl kk_X10_106 hs1 kl_8.1 kq_X8_open rfl (Nat.le_of_ble_eq_true rfl) ⟨Nat.le_of_ble_eq_true rfl, Nat.le_of_ble_eq_true rfl, Nat.le_of_ble_eq_true rfl, Nat.le_of_ble_eq_true rfl⟩ dX10_book_19) z_gXI (fun a_5 hz4 => ?_)
  refine z_aload_n (i := 0) (x := 0) dX10_book_22 rfl rfl ?_
  refine z_getR (j := 4) dX10_book_23 kl_10 hs0 (by decide) rfl rfl kf_X10_36 ?_
  refine z_aload_n (i := 0) (x := 0) dX10_book_26 rfl rfl ?_
  refine z_getR (j := 0) dX10_book_27 kl_10 hs0 (by decide) rfl rfl kf_X10_12 ?_
  refine z_cWV (As := [.ref 12, .ref 1]) (rest := []) (em_X0_read hl hW N a_5) (fun o7 h => z_runV 158 1 h rfl kk_X10_158 hs12 kl_0.1 kq_X0_read rfl (Nat.le_of_ble_eq_true rfl) ⟨Nat.le_of_ble_eq_true rfl, Nat.le_of_ble_eq_true rfl, Nat.le_of_ble_eq_true rfl, Nat.le_of_ble_eq_true rfl⟩ dX10_book_30) z_gXI (fun a_7 hz6 => ?_)
  refine z_aload_n (i := 0) (x := 0) dX10_book_33 rfl rfl ?_
  refine z_getR (j := 0) dX10_book_34 kl_10 hs0 (by decide) rfl rfl kf_X10_12 ?_
  refine z_cP (As := [.ref 1]) (rest := []) (em_X8_failed hl hW a_7) (fun o7 h => z_runV 113 0 h rfl kk_X10_113 hs1 kl_8.1 kq_X8_failed rfl (Nat.le_of_ble_eq_true rfl) ⟨Nat.le_of_ble_eq_true rfl, Nat.le_of_ble_eq_true rfl, Nat.le_of_ble_eq_true rfl, Nat.le_of_ble_eq_true rfl⟩ dX10_book_37) z_gXI (fun hz8 => ?_)
  refine z_if_eq 53 dX10_book_40 (by decide) (fun c9 => ?_) (fun c9 => ?_)
  · refine z_aload_n (i := 0) (x := 0) dX10_book_53 rfl rfl ?_
    refine z_getR (j := 4) dX10_book_54 kl_10 hs0 (by decide) rfl rfl kf_X10_36 ?_
    refine z_getIN (j := 2) dX10_book_57 kl_0 hs12 (by decide) rfl rfl kf_X10_159 ?_
    exact z_ireturn dX10_book_60 z_rXI rfl (by decide) (by decide)
  · refine z_aload_n (i := 0) (x := 0) dX10_book_43 rfl rfl ?_
    refine z_getR (j := 0) dX10_book_44 kl_10 hs0 (by decide) rfl rfl kf_X10_12 ?_
    refine z_cP (As := [.ref 1]) (rest := []) (em_X8_verdict hl hW a_7) (fun o7 h => z_runV 116 0 h rfl kk_X10_116 hs1 kl_8.1 kq_X8_verdict rfl (Nat.le_of_ble_eq_true rfl) ⟨Nat.le_of_ble_eq_true rfl, Nat.le_of_ble_eq_true rfl, Nat.le_of_ble_eq_true rfl, Nat.le_of_ble_eq_true rfl⟩ dX10_book_47) z_gXI (fun hz10 => ?_)
    refine z_goto 60 dX10_book_50 (by decide) ?_
    exact z_ireturn dX10_book_60 z_rXI rfl (by decide) (by decide)

def F_X10_fault (D : z_Dat) : Int32 :=
  D 1 6
set_option maxRecDepth 100000 in
set_option maxHeartbeats 4000000 in
theorem em_X10_fault {l : Launch} {S : List z_Shp} {o : Nat} (hl : l.stackTraces = false) (hW : z_W S o) (D : z_Dat) : ∀ out, z_kt (z_kR S D) (F_X10_fault D) out → z_EM l M_X10_fault (20, 520, 0, 0) [.ref 0] S D out := by
  have hC := hW.2
  have hs0 : S[0]? = some (12, 15, [some (some 1), some (some 3), some (some 5), some (some 7), some (some 12), some (some 15), some (some 21), some (some 25), some (some 28), some (some 32), some (some 33), some (some o), none, none, none]) := hW.1 0 _ rfl
  have hs1 : S[1]? = some (10, 7, [some (some 2), none, none, none, none, none, none]) := hW.1 1 _ rfl
  refine z_meth hl rfl kp_X10 (Nat.le_of_ble_eq_true rfl) (lv := [some (.ref 0)]) rfl ?_
  unfold F_X10_fault
  refine z_aload_n (i := 0) (x := 0) dX10_fault_0 rfl rfl ?_
  refine z_getR (j := 0) dX10_fault_1 kl_10 hs0 (by decide) rfl rfl kf_X10_12 ?_
  refine z_getIN (j := 6) dX10_fault_4 kl_8 hs1 (by decide) rfl rfl kf_X10_162 ?_
  exact z_ireturn dX10_fault_7 z_rP rfl (by decide) (by decide)

def F_X9_loadFrom (N : Nat) (t : Nat) (r0 : Nat) (n0 : Nat) (a0 : Int32) (D : z_Dat) : Option z_Dat :=
  z_bd (F_X10_copy N r0 n0 (t + 1) 44 a0 0 44 D) (fun a_2 => some a_2)
set_option maxRecDepth 100000 in
set_option maxHeartbeats 4000000 in
theorem em_X9_loadFrom {l : Launch} {S : List z_Shp} {t : Nat} {r0 : Nat} {n0 : Nat} (hl : l.stackTraces = false) (hT : z_isTown S t) (hr0 : S[r0]? = some (0, n0, [])) (hn0 : n0 < 2147483648) (N : Nat) (a0 : Int32) (D : z_Dat) : ∀ out, z_ko (z_kV S) (F_X9_loadFrom N t r0 n0 a0 D) out → z_EM l M_X9_loadFrom (40, 640, 0, 0) [.ref t, .ref r0, .int a0] S D out := by
  refine z_meth hl rfl kp_X9 (Nat.le_of_ble_eq_true rfl) (lv := [some (.ref t), some (.ref r0), some (.int a0)]) rfl ?_
  unfold F_X9_loadFrom
  refine z_aload_n (i := 1) (x := r0) dX9_loadFrom_0 rfl rfl ?_
  refine z_iload_n (i := 2) (x := a0) dX9_loadFrom_1 rfl rfl ?_
  refine z_aload_n (i := 0) (x := t) dX9_loadFrom_2 rfl rfl ?_
  refine z_getR (j := 0) dX9_loadFrom_3 kl_9 hT.1 (by decide) rfl rfl kf_X9_9 ?_
  refine z_iconst (v := 0) dX9_loadFrom_6 rfl ?_
  refine z_bipush (v := 44) dX9_loadFrom_7 (by decide) ?_
  refine z_cWV (As := [.ref r0, .int a0, .ref (t + 1), .int 0, .int 44]) (rest := []) (em_X10_copy (n0 := n0) (n1 := 44) hl hr0 hn0 hT.2 (by decide) N a0 0 44 D) (fun o7 h => z_runSN 39 5 h rfl kk_X9_39 kn_X9_39 kq_X10_copy rfl (Nat.le_of_ble_eq_true rfl) ⟨Nat.le_of_ble_eq_true rfl, Nat.le_of_ble_eq_true rfl, Nat.le_of_ble_eq_true rfl, Nat.le_of_ble_eq_true rfl⟩ dX9_loadFrom_9) z_gWV (fun a_2 hz1 => ?_)
  exact z_vreturn dX9_loadFrom_12 z_rWV trivial (by decide) (by decide)

def F_X4_takeBack (N : Nat) (t : Nat) (D : z_Dat) : Option z_Dat :=
  z_let (z_up D 21 3 ((D 21 3) - 1)) (fun D1 => z_bd (F_X9_loadFrom N t 22 704 ((D1 21 3) * 44) D1) (fun a_3 => some a_3))
set_option maxRecDepth 100000 in
set_option maxHeartbeats 4000000 in
theorem em_X4_takeBack {l : Launch} {S : List z_Shp} {oW : Nat} {t : Nat} (hl : l.stackTraces = false) (hW : z_W S oW) (hT : z_isTown S t) (N : Nat) (D : z_Dat) : ∀ out, z_ko (z_kV S) (F_X4_takeBack N t D) out → z_EM l M_X4_takeBack (50, 700, 0, 0) [.ref 21, .ref t] S D out := by
  have hs21 : S[21]? = some (6, 5, [some (some 22), some (some 23), some (some 24), none, none]) := hW.1 21 _ rfl
  have hs22 : S[22]? = some (0, 704, []) := hW.1 22 _ rfl
  refine z_meth hl rfl kp_X4 (Nat.le_of_ble_eq_true rfl) (lv := [some (.ref 21), some (.ref t)]) rfl ?_
  unfold F_X4_takeBack
  refine z_aload_n (i := 0) (x := 21) dX4_takeBack_0 rfl rfl ?_
  refine z_dup dX4_takeBack_1 rfl ?_
  refine z_getI (j := 3) dX4_takeBack_2 kl_4 hs21 (by decide) rfl rfl kf_X4_21 ?_
  refine z_iconst (v := 1) dX4_takeBack_5 rfl ?_
  refine z_isub dX4_takeBack_6 ?_
  refine z_putI (j := 3) dX4_takeBack_7 kl_4 tyX4_ok nmX4 hs21 (by decide) rfl rfl rfl rfl rfl rfl kf_X4_21 (fun D1 => ?_)
  refine z_aload_n (i := 1) (x := t) dX4_takeBack_10 rfl rfl ?_
  refine z_aload_n (i := 0) (x := 21) dX4_takeBack_11 rfl rfl ?_
  refine z_getR (j := 0) dX4_takeBack_12 kl_4 hs21 (by decide) rfl rfl kf_X4_9 ?_
  refine z_aload_n (i := 0) (x := 21) dX4_takeBack_15 rfl rfl ?_
  refine z_getI (j := 3) dX4_takeBack_16 kl_4 hs21 (by decide) rfl rfl kf_X4_21 ?_
  refine z_bipush (v := 44) dX4_takeBack_19 (by decide) ?_
  refine z_imul dX4_takeBack_21 ?_
  refine z_cWV (As := [.ref t, .ref 22, .int ((D1 21 3) * 44)]) (rest := []) (em_X9_loadFrom (n0 := 704) hl hT hs22 (by decide) N ((D1 21 3) * 44) D1) (fun o7 h => z_runV 34 2 h rfl kk_X4_34 hT.1 kl_9.1 kq_X9_loadFrom rfl (Nat.le_of_ble_eq_true rfl) ⟨Nat.le_of_ble_eq_true rfl, Nat.le_of_ble_eq_true rfl, Nat.le_of_ble_eq_true rfl, Nat.le_of_ble_eq_true rfl⟩ dX4_takeBack_22) z_gWV (fun a_3 hz2 => ?_)
  exact z_vreturn dX4_takeBack_25 z_rWV trivial (by decide) (by decide)

def F_X10_undo (N : Nat) (D : z_Dat) : Option (Int32 × z_Dat) :=
  if 0 < (D 21 3) then (z_bd (F_X4_takeBack N 3 D) (fun a_3 => z_let (z_up a_3 0 12 0) (fun D4 => some (D4 21 3, D4))))
  else (some ((-1), D))
set_option maxRecDepth 100000 in
set_option maxHeartbeats 4000000 in
theorem em_X10_undo {l : Launch} {S : List z_Shp} {o : Nat} (hl : l.stackTraces = false) (hW : z_W S o) (N : Nat) (D : z_Dat) : ∀ out, z_ko (z_kI S) (F_X10_undo N D) out → z_EM l M_X10_undo (60, 760, 0, 0) [.ref 0] S D out := by
  have hC := hW.2
  have hs0 : S[0]? = some (12, 15, [some (some 1), some (some 3), some (some 5), some (some 7), some (some 12), some (some 15), some (some 21), some (some 25), some (some 28), some (some 32), some (some 33), some (some o), none, none, none]) := hW.1 0 _ rfl
  have hs3 : S[3]? = some (11, 1, [some (some 4)]) := hW.1 3 _ rfl
  have hs4 : S[4]? = some (0, 44, []) := hW.1 4 _ rfl
  have hs21 : S[21]? = some (6, 5, [some (some 22), some (some 23), some (some 24), none, none]) := hW.1 21 _ rfl
  refine z_meth hl rfl kp_X10 (Nat.le_of_ble_eq_true rfl) (lv := [some (.ref 0)]) rfl ?_
  unfold F_X10_undo
  refine z_aload_n (i := 0) (x := 0) dX10_undo_0 rfl rfl ?_
  refine z_getR (j := 6) dX10_undo_1 kl_10 hs0 (by decide) rfl rfl kf_X10_50 ?_
  refine z_getIN (j := 3) dX10_undo_4 kl_4 hs21 (by decide) rfl rfl kf_X10_138 ?_
  refine z_if_gt 12 dX10_undo_7 (by decide) (fun c1 => ?_) (fun c1 => ?_)
  · refine z_aload_n (i := 0) (x := 0) dX10_undo_12 rfl rfl ?_
    refine z_getR (j := 6) dX10_undo_13 kl_10 hs0 (by decide) rfl rfl kf_X10_50 ?_
    refine z_aload_n (i := 0) (x := 0) dX10_undo_16 rfl rfl ?_
    refine z_getR (j := 1) dX10_undo_17 kl_10 hs0 (by decide) rfl rfl kf_X10_19 ?_
    refine z_cWV (As := [.ref 21, .ref 3]) (rest := []) (em_X4_takeBack hl hW ⟨hs3, hs4⟩ N D) (fun o7 h => z_runV 165 1 h rfl kk_X10_165 hs21 kl_4.1 kq_X4_takeBack rfl (Nat.le_of_ble_eq_true rfl) ⟨Nat.le_of_ble_eq_true rfl, Nat.le_of_ble_eq_true rfl, Nat.le_of_ble_eq_true rfl, Nat.le_of_ble_eq_true rfl⟩ dX10_undo_20) z_gWI (fun a_3 hz2 => ?_)
    refine z_aload_n (i := 0) (x := 0) dX10_undo_23 rfl rfl ?_
    refine z_iconst (v := 0) dX10_undo_24 rfl ?_
    refine z_putI (j := 12) dX10_undo_25 kl_10 tyX10_ok nmX10 hs0 (by decide) rfl rfl rfl rfl rfl rfl kf_X10_131 (fun D4 => ?_)
    refine z_aload_n (i := 0) (x := 0) dX10_undo_28 rfl rfl ?_
    refine z_getR (j := 6) dX10_undo_29 kl_10 hs0 (by decide) rfl rfl kf_X10_50 ?_
    refine z_getIN (j := 3) dX10_undo_32 kl_4 hs21 (by decide) rfl rfl kf_X10_138 ?_
    exact z_ireturn dX10_undo_35 z_rWI rfl (by decide) (by decide)
  · refine z_iconst (v := (-1)) dX10_undo_10 rfl ?_
    exact z_ireturn dX10_undo_11 z_rWI rfl (by decide) (by decide)

def F_X1_nearest_L7 (o : Nat) (a0 : Int32) (D : z_Dat) (kc4 : ((Int32 × Int32 × Int32) → Option Int32)) (v1 : Int32) (v2 : Int32) (v3 : Int32) : Option Int32 :=
  if (D o 5) ≤ v3 then (some v1)
  else (z_let (F_X10_apart a0 (F_X1_vatOf o v3 D)) (fun v8 => if v1 = (-1) then (z_let (v3 + 1) (fun v10 => kc4 (v3, v8, v10)))
  else (if v2 ≤ v8 then (z_let (v3 + 1) (fun v12 => kc4 (v1, v2, v12)))
  else (z_let (v3 + 1) (fun v13 => kc4 (v3, v8, v13))))))
def F_X1_nearest (N : Nat) (o : Nat) (a0 : Int32) (D : z_Dat) : Option Int32 :=
  z_loop (fun kc4 s => F_X1_nearest_L7 o a0 D kc4 s.1 s.2.1 s.2.2) N ((-1), 0, 0)
set_option maxRecDepth 100000 in
set_option maxHeartbeats 4000000 in
theorem em_X1_nearest {l : Launch} {S : List z_Shp} {o : Nat} (hl : l.stackTraces = false) (hC : z_isCity S o) (N : Nat) (a0 : Int32) (D : z_Dat) : ∀ out, z_ko (z_kR S D) (F_X1_nearest N o a0 D) out → z_EM l M_X1_nearest (40, 640, 0, 0) [.ref o, .int a0] S D out := by
  refine z_meth hl rfl kp_X1 (Nat.le_of_ble_eq_true rfl) (lv := [some (.ref o), some (.int a0), none, none, none, none]) rfl ?_
  unfold F_X1_nearest
  refine z_iconst (v := (-1)) dX1_nearest_0 rfl ?_
  refine z_istore_n (i := 2) (x := (-1)) (lv' := [some (.ref o), some (.int a0), some (.int (-1)), none, none, none]) dX1_nearest_1 rfl (by decide) rfl rfl ?_
  refine z_iconst (v := 0) dX1_nearest_2 rfl ?_
  refine z_istore_n (i := 3) (x := 0) (lv' := [some (.ref o), some (.int a0), some (.int (-1)), some (.int 0), none, none]) dX1_nearest_3 rfl (by decide) rfl rfl ?_
  refine z_iconst (v := 0) dX1_nearest_4 rfl ?_
  refine z_istore (i := 4) (x := 0) (lv' := [some (.ref o), some (.int a0), some (.int (-1)), some (.int 0), some (.int 0), none]) dX1_nearest_5 (by decide) rfl rfl ?_
  refine z_loops (lvOf := fun s : Int32 × Int32 × Int32 => [some (.ref o), some (.int a0), some (.int s.1), some (.int s.2.1), some (.int s.2.2), none]) (dOf := fun s : Int32 × Int32 × Int32 => D) (fun kc4 hkc4 s => ?_) N ((-1), 0, 0)
  obtain ⟨v1, v2, v3⟩ := s
  show z_F _ _ _ _ _ 7 [some (.ref o), some (.int a0), some (.int v1), some (.int v2), some (.int v3), none] [] S D _ (F_X1_nearest_L7 o a0 D kc4 v1 v2 v3)
  unfold F_X1_nearest_L7
  refine z_iload (i := 4) (x := v3) dX1_nearest_7 rfl ?_
  refine z_aload_n (i := 0) (x := o) dX1_nearest_9 rfl rfl ?_
  refine z_getI (j := 5) dX1_nearest_10 kl_1 hC.1 (by decide) rfl rfl kf_X1_55 ?_
  refine z_icmp_ge 51 dX1_nearest_13 (by decide) (fun c5 => ?_) (fun c5 => ?_)
  · refine z_iload_n (i := 2) (x := v1) dX1_nearest_51 rfl rfl ?_
    exact z_ireturn dX1_nearest_52 z_rR rfl (by decide) (by decide)
  · refine z_iload_n (i := 1) (x := a0) dX1_nearest_16 rfl rfl ?_
    refine z_aload_n (i := 0) (x := o) dX1_nearest_17 rfl rfl ?_
    refine z_iload (i := 4) (x := v3) dX1_nearest_18 rfl ?_
    refine z_cP (As := [.ref o, .int v3]) (rest := [.int a0]) (em_X1_vatOf hl hC v3 D) (fun o7 h => z_runV 92 1 h rfl kk_X1_92 hC.1 kl_1.1 kq_X1_vatOf rfl (Nat.le_of_ble_eq_true rfl) ⟨Nat.le_of_ble_eq_true rfl, Nat.le_of_ble_eq_true rfl, Nat.le_of_ble_eq_true rfl, Nat.le_of_ble_eq_true rfl⟩ dX1_nearest_20) z_gR (fun hz6 => ?_)
    refine z_cP (As := [.int a0, .int (F_X1_vatOf o v3 D)]) (rest := []) (em_X10_apart hl a0 (F_X1_vatOf o v3 D) D) (fun o7 h => z_runSN 95 2 h rfl kk_X1_95 kn_X1_95 kq_X10_apart rfl (Nat.le_of_ble_eq_true rfl) ⟨Nat.le_of_ble_eq_true rfl, Nat.le_of_ble_eq_true rfl, Nat.le_of_ble_eq_true rfl, Nat.le_of_ble_eq_true rfl⟩ dX1_nearest_23) z_gR (fun hz7 => ?_)
    refine z_topi (fun v8 => ?_)
    refine z_istore (i := 5) (x := v8) (lv' := [some (.ref o), some (.int a0), some (.int v1), some (.int v2), some (.int v3), some (.int v8)]) dX1_nearest_26 (by decide) rfl rfl ?_
    refine z_iload_n (i := 2) (x := v1) dX1_nearest_28 rfl rfl ?_
    refine z_iconst (v := (-1)) dX1_nearest_29 rfl ?_
    refine z_icmp_eq 39 dX1_nearest_30 (by decide) (fun c9 => ?_) (fun c9 => ?_)
    · refine z_iload (i := 4) (x := v3) dX1_nearest_39 rfl ?_
      refine z_istore_n (i := 2) (x := v3) (lv' := [some (.ref o), some (.int a0), some (.int v3), some (.int v2), some (.int v3), some (.int v8)]) dX1_nearest_41 rfl (by decide) rfl rfl ?_
      refine z_iload (i := 5) (x := v8) dX1_nearest_42 rfl ?_
      refine z_istore_n (i := 3) (x := v8) (lv' := [some (.ref o), some (.int a0), some (.int v3), some (.int v8), some (.int v3), some (.int v8)]) dX1_nearest_44 rfl (by decide) rfl rfl ?_
      refine z_iinc (i := 4) (x := v3) (y := 1) dX1_nearest_45 rfl (by decide) (by decide) rfl (fun v10 => ?_)
      refine z_goto 7 dX1_nearest_48 (by decide) ?_
      refine z_weak (lv' := [some (.ref o), some (.int a0), some (.int v3), some (.int v8), some (.int v10), none]) ⟨Or.inr rfl, ⟨Or.inr rfl, ⟨Or.inr rfl, ⟨Or.inr rfl, ⟨Or.inr rfl, ⟨Or.inl rfl, trivial⟩⟩⟩⟩⟩⟩ ?_
      exact hkc4 (v3, v8, v10)
    · refine z_iload (i := 5) (x := v8) dX1_nearest_33 rfl ?_
      refine z_iload_n (i := 3) (x := v2) dX1_nearest_35 rfl rfl ?_
      refine z_icmp_ge 45 dX1_nearest_36 (by decide) (fun c11 => ?_) (fun c11 => ?_)
      · refine z_iinc (i := 4) (x := v3) (y := 1) dX1_nearest_45 rfl (by decide) (by decide) rfl (fun v12 => ?_)
        refine z_goto 7 dX1_nearest_48 (by decide) ?_
        refine z_weak (lv' := [some (.ref o), some (.int a0), some (.int v1), some (.int v2), some (.int v12), none]) ⟨Or.inr rfl, ⟨Or.inr rfl, ⟨Or.inr rfl, ⟨Or.inr rfl, ⟨Or.inr rfl, ⟨Or.inl rfl, trivial⟩⟩⟩⟩⟩⟩ ?_
        exact hkc4 (v1, v2, v12)
      · refine z_iload (i := 4) (x := v3) dX1_nearest_39 rfl ?_
        refine z_istore_n (i := 2) (x := v3) (lv' := [some (.ref o), some (.int a0), some (.int v3), some (.int v2), some (.int v3), some (.int v8)]) dX1_nearest_41 rfl (by decide) rfl rfl ?_
        refine z_iload (i := 5) (x := v8) dX1_nearest_42 rfl ?_
        refine z_istore_n (i := 3) (x := v8) (lv' := [some (.ref o), some (.int a0), some (.int v3), some (.int v8), some (.int v3), some (.int v8)]) dX1_nearest_44 rfl (by decide) rfl rfl ?_
        refine z_iinc (i := 4) (x := v3) (y := 1) dX1_nearest_45 rfl (by decide) (by decide) rfl (fun v13 => ?_)
        refine z_goto 7 dX1_nearest_48 (by decide) ?_
        refine z_weak (lv' := [some (.ref o), some (.int a0), some (.int v3), some (.int v8), some (.int v13), none]) ⟨Or.inr rfl, ⟨Or.inr rfl, ⟨Or.inr rfl, ⟨Or.inr rfl, ⟨Or.inr rfl, ⟨Or.inl rfl, trivial⟩⟩⟩⟩⟩⟩ ?_
        exact hkc4 (v3, v8, v13)

def F_X1_homeOf (o : Nat) (a0 : Int32) (D : z_Dat) : Int32 :=
  F_X10_at (o + 3) 8 a0 D
set_option maxRecDepth 100000 in
set_option maxHeartbeats 4000000 in
theorem em_X1_homeOf {l : Launch} {S : List z_Shp} {o : Nat} (hl : l.stackTraces = false) (hC : z_isCity S o) (a0 : Int32) (D : z_Dat) : ∀ out, z_kt (z_kR S D) (F_X1_homeOf o a0 D) out → z_EM l M_X1_homeOf (30, 580, 0, 0) [.ref o, .int a0] S D out := by
  refine z_meth hl rfl kp_X1 (Nat.le_of_ble_eq_true rfl) (lv := [some (.ref o), some (.int a0)]) rfl ?_
  unfold F_X1_homeOf
  refine z_aload_n (i := 0) (x := o) dX1_homeOf_0 rfl rfl ?_
  refine z_getR (j := 2) dX1_homeOf_1 kl_1 hC.1 (by decide) rfl rfl kf_X1_18 ?_
  refine z_iload_n (i := 1) (x := a0) dX1_homeOf_4 rfl rfl ?_
  refine z_cP (As := [.ref (o + 3), .int a0]) (rest := []) (em_X10_at (n0 := 8) hl hC.2.2.2.1 (by decide) a0 D) (fun o7 h => z_runSN 85 2 h rfl kk_X1_85 kn_X1_85 kq_X10_at rfl (Nat.le_of_ble_eq_true rfl) ⟨Nat.le_of_ble_eq_true rfl, Nat.le_of_ble_eq_true rfl, Nat.le_of_ble_eq_true rfl, Nat.le_of_ble_eq_true rfl⟩ dX1_homeOf_5) z_gP (fun hz1 => ?_)
  exact z_ireturn dX1_homeOf_8 z_rP rfl (by decide) (by decide)

def F_X1_rankOf (o : Nat) (a0 : Int32) (D : z_Dat) : Int32 :=
  F_X10_at (o + 2) 6 a0 D
set_option maxRecDepth 100000 in
set_option maxHeartbeats 4000000 in
theorem em_X1_rankOf {l : Launch} {S : List z_Shp} {o : Nat} (hl : l.stackTraces = false) (hC : z_isCity S o) (a0 : Int32) (D : z_Dat) : ∀ out, z_kt (z_kR S D) (F_X1_rankOf o a0 D) out → z_EM l M_X1_rankOf (30, 580, 0, 0) [.ref o, .int a0] S D out := by
  refine z_meth hl rfl kp_X1 (Nat.le_of_ble_eq_true rfl) (lv := [some (.ref o), some (.int a0)]) rfl ?_
  unfold F_X1_rankOf
  refine z_aload_n (i := 0) (x := o) dX1_rankOf_0 rfl rfl ?_
  refine z_getR (j := 1) dX1_rankOf_1 kl_1 hC.1 (by decide) rfl rfl kf_X1_15 ?_
  refine z_iload_n (i := 1) (x := a0) dX1_rankOf_4 rfl rfl ?_
  refine z_cP (As := [.ref (o + 2), .int a0]) (rest := []) (em_X10_at (n0 := 6) hl hC.2.2.1 (by decide) a0 D) (fun o7 h => z_runSN 85 2 h rfl kk_X1_85 kn_X1_85 kq_X10_at rfl (Nat.le_of_ble_eq_true rfl) ⟨Nat.le_of_ble_eq_true rfl, Nat.le_of_ble_eq_true rfl, Nat.le_of_ble_eq_true rfl, Nat.le_of_ble_eq_true rfl⟩ dX1_rankOf_5) z_gP (fun hz1 => ?_)
  exact z_ireturn dX1_rankOf_8 z_rP rfl (by decide) (by decide)

def F_X10_darkness (a0 : Int32) : Int32 :=
  ((F_X10_partOf a0 0) + (F_X10_partOf a0 1)) + (F_X10_partOf a0 2)
set_option maxRecDepth 100000 in
set_option maxHeartbeats 4000000 in
theorem em_X10_darkness {l : Launch} {S : List z_Shp} (hl : l.stackTraces = false) (a0 : Int32) (D : z_Dat) : ∀ out, z_kt (z_kR S D) (F_X10_darkness a0) out → z_EM l M_X10_darkness (30, 580, 0, 0) [.int a0] S D out := by
  refine z_meth hl rfl kp_X10 (Nat.le_of_ble_eq_true rfl) (lv := [some (.int a0)]) rfl ?_
  unfold F_X10_darkness
  refine z_iload_n (i := 0) (x := a0) dX10_darkness_0 rfl rfl ?_
  refine z_iconst (v := 0) dX10_darkness_1 rfl ?_
  refine z_cP (As := [.int a0, .int 0]) (rest := []) (em_X10_partOf hl a0 0 D) (fun o7 h => z_runS 368 2 h rfl kk_X10_368 kq_X10_partOf rfl (Nat.le_of_ble_eq_true rfl) ⟨Nat.le_of_ble_eq_true rfl, Nat.le_of_ble_eq_true rfl, Nat.le_of_ble_eq_true rfl, Nat.le_of_ble_eq_true rfl⟩ dX10_darkness_2) z_gP (fun hz1 => ?_)
  refine z_iload_n (i := 0) (x := a0) dX10_darkness_5 rfl rfl ?_
  refine z_iconst (v := 1) dX10_darkness_6 rfl ?_
  refine z_cP (As := [.int a0, .int 1]) (rest := [.int (F_X10_partOf a0 0)]) (em_X10_partOf hl a0 1 D) (fun o7 h => z_runS 368 2 h rfl kk_X10_368 kq_X10_partOf rfl (Nat.le_of_ble_eq_true rfl) ⟨Nat.le_of_ble_eq_true rfl, Nat.le_of_ble_eq_true rfl, Nat.le_of_ble_eq_true rfl, Nat.le_of_ble_eq_true rfl⟩ dX10_darkness_7) z_gP (fun hz2 => ?_)
  refine z_iadd dX10_darkness_10 ?_
  refine z_iload_n (i := 0) (x := a0) dX10_darkness_11 rfl rfl ?_
  refine z_iconst (v := 2) dX10_darkness_12 rfl ?_
  refine z_cP (As := [.int a0, .int 2]) (rest := [.int ((F_X10_partOf a0 0) + (F_X10_partOf a0 1))]) (em_X10_partOf hl a0 2 D) (fun o7 h => z_runS 368 2 h rfl kk_X10_368 kq_X10_partOf rfl (Nat.le_of_ble_eq_true rfl) ⟨Nat.le_of_ble_eq_true rfl, Nat.le_of_ble_eq_true rfl, Nat.le_of_ble_eq_true rfl, Nat.le_of_ble_eq_true rfl⟩ dX10_darkness_13) z_gP (fun hz3 => ?_)
  refine z_iadd dX10_darkness_16 ?_
  exact z_ireturn dX10_darkness_17 z_rP rfl (by decide) (by decide)

def F_X5_joined (a0 : Int32) (a1 : Int32) (a2 : Int32) : Option Int32 :=
  if a0 = 2000 then (some (z_min a1 a2))
  else (if a0 = 2001 then (some (z_max a1 a2))
  else (if a0 = 2002 then (some (a1 + a2))
  else (if a0 = 2003 then (some (a1 - a2))
  else (if a0 = 2004 then (some (a1 * a2))
  else (if a2 = 0 then (some 0)
  else (if a2 = 0 then none else (some (a1 / a2))))))))
set_option maxRecDepth 100000 in
set_option maxHeartbeats 4000000 in
theorem em_X5_joined {l : Launch} {S : List z_Shp} (hl : l.stackTraces = false) (a0 : Int32) (a1 : Int32) (a2 : Int32) (D : z_Dat) : ∀ out, z_ko (z_kR S D) (F_X5_joined a0 a1 a2) out → z_EM l M_X5_joined (20, 520, 0, 0) [.int a0, .int a1, .int a2] S D out := by
  refine z_meth hl rfl kp_X5 (Nat.le_of_ble_eq_true rfl) (lv := [some (.int a0), some (.int a1), some (.int a2)]) rfl ?_
  unfold F_X5_joined
  refine z_iload_n (i := 0) (x := a0) dX5_joined_0 rfl rfl ?_
  refine z_ite (fun h_0 => ?_) (fun h_0 => ?_)
  · refine z_tswC (c := 2000) 48 dX5_joined_1 h_0 (by decide) (by decide) rfl (by decide) ?_
    refine z_iload_n (i := 1) (x := a1) dX5_joined_48 rfl rfl ?_
    refine z_iload_n (i := 2) (x := a2) dX5_joined_49 rfl rfl ?_
    refine z_mmin dX5_joined_50 km_X5_125 ⟨Nat.le_of_ble_eq_true rfl, Nat.le_of_ble_eq_true rfl, Nat.le_of_ble_eq_true rfl, Nat.le_of_ble_eq_true rfl⟩ ?_
    exact z_ireturn dX5_joined_53 z_rR rfl (by decide) (by decide)
  · refine z_ite (fun h_1 => ?_) (fun h_1 => ?_)
    · refine z_tswC (c := 2001) 54 dX5_joined_1 h_1 (by decide) (by decide) rfl (by decide) ?_
      refine z_iload_n (i := 1) (x := a1) dX5_joined_54 rfl rfl ?_
      refine z_iload_n (i := 2) (x := a2) dX5_joined_55 rfl rfl ?_
      refine z_mmax dX5_joined_56 km_X5_130 ⟨Nat.le_of_ble_eq_true rfl, Nat.le_of_ble_eq_true rfl, Nat.le_of_ble_eq_true rfl, Nat.le_of_ble_eq_true rfl⟩ ?_
      exact z_ireturn dX5_joined_59 z_rR rfl (by decide) (by decide)
    · refine z_ite (fun h_2 => ?_) (fun h_2 => ?_)
      · refine z_tswC (c := 2002) 36 dX5_joined_1 h_2 (by decide) (by decide) rfl (by decide) ?_
        refine z_iload_n (i := 1) (x := a1) dX5_joined_36 rfl rfl ?_
        refine z_iload_n (i := 2) (x := a2) dX5_joined_37 rfl rfl ?_
        refine z_iadd dX5_joined_38 ?_
        exact z_ireturn dX5_joined_39 z_rR rfl (by decide) (by decide)
      · refine z_ite (fun h_3 => ?_) (fun h_3 => ?_)
        · refine z_tswC (c := 2003) 40 dX5_joined_1 h_3 (by decide) (by decide) rfl (by decide) ?_
          refine z_iload_n (i := 1) (x := a1) dX5_joined_40 rfl rfl ?_
          refine z_iload_n (i := 2) (x := a2) dX5_joined_41 rfl rfl ?_
          refine z_isub dX5_joined_42 ?_
          exact z_ireturn dX5_joined_43 z_rR rfl (by decide) (by decide)
        · refine z_ite (fun h_4 => ?_) (fun h_4 => ?_)
          · refine z_tswC (c := 2004) 44 dX5_joined_1 h_4 (by decide) (by decide) rfl (by decide) ?_
            refine z_iload_n (i := 1) (x := a1) dX5_joined_44 rfl rfl ?_
            refine z_iload_n (i := 2) (x := a2) dX5_joined_45 rfl rfl ?_
            refine z_imul dX5_joined_46 ?_
            exact z_ireturn dX5_joined_47 z_rR rfl (by decide) (by decide)
          · refine z_tswD 60 dX5_joined_1 (by
              have q0 := z_swn h_0 (k := 2000) (by decide)
              have q1 := z_swn h_1 (k := 2001) (by decide)
              have q2 := z_swn h_2 (k := 2002) (by decide)
              have q3 := z_swn h_3 (k := 2003) (by decide)
              have q4 := z_swn h_4 (k := 2004) (by decide)
              omega) (by decide) ?_
            refine z_iload_n (i := 2) (x := a2) dX5_joined_60 rfl rfl ?_
            refine z_if_ne 68 dX5_joined_61 (by decide) (fun c1 => ?_) (fun c1 => ?_)
            · refine z_iconst (v := 0) dX5_joined_64 rfl ?_
              refine z_goto 71 dX5_joined_65 (by decide) ?_
              exact z_ireturn dX5_joined_71 z_rR rfl (by decide) (by decide)
            · refine z_iload_n (i := 1) (x := a1) dX5_joined_68 rfl rfl ?_
              refine z_iload_n (i := 2) (x := a2) dX5_joined_69 rfl rfl ?_
              refine z_idiv dX5_joined_70 (fun c2 => ?_)
              exact z_ireturn dX5_joined_71 z_rR rfl (by decide) (by decide)

def F_X5_worth_L4 (kc4 : ((Int32 × Int32 × z_Dat) → Option (Int32 × z_Dat))) (v1 : Int32) (v2 : Int32) (D3 : z_Dat) : Option (Int32 × z_Dat) :=
  if (D3 7 4) ≤ v2 then (some (F_X10_at 10 150 0 D3, D3))
  else (z_let (F_X10_at 8 150 v2 D3) (fun v8 => if v8 < 2000 then (if v8 < 1000 then (z_let (F_X10_put 10 150 v1 v8 D3) (fun a_12 => z_let (v1 + 1) (fun v13 => z_let (v2 + 1) (fun v14 => kc4 (v13, v14, a_12)))))
  else (z_let (F_X10_put 10 150 v1 (F_X10_at 11 9 (v8 - 1000) D3) D3) (fun a_17 => z_let (v1 + 1) (fun v18 => z_let (v2 + 1) (fun v19 => kc4 (v18, v19, a_17))))))
  else (z_let (v1 + (-1)) (fun v20 => z_bd (F_X5_joined v8 (F_X10_at 10 150 (v20 - 1) D3) (F_X10_at 10 150 v20 D3)) (fun a_24 => z_let (F_X10_put 10 150 (v20 - 1) a_24 D3) (fun a_26 => z_let (v2 + 1) (fun v27 => kc4 (v20, v27, a_26))))))))
def F_X5_worth (N : Nat) (D : z_Dat) : Option (Int32 × z_Dat) :=
  z_loop (fun kc4 s => F_X5_worth_L4 kc4 s.1 s.2.1 s.2.2) N (0, 0, D)
set_option maxRecDepth 100000 in
set_option maxHeartbeats 4000000 in
theorem em_X5_worth {l : Launch} {S : List z_Shp} {oW : Nat} (hl : l.stackTraces = false) (hW : z_W S oW) (N : Nat) (D : z_Dat) : ∀ out, z_ko (z_kI S) (F_X5_worth N D) out → z_EM l M_X5_worth (30, 580, 0, 0) [.ref 7] S D out := by
  have hs7 : S[7]? = some (7, 7, [some (some 8), some (some 9), some (some 10), some (some 11), none, none, none]) := hW.1 7 _ rfl
  have hs8 : S[8]? = some (0, 150, []) := hW.1 8 _ rfl
  have hs10 : S[10]? = some (0, 150, []) := hW.1 10 _ rfl
  have hs11 : S[11]? = some (0, 9, []) := hW.1 11 _ rfl
  refine z_meth hl rfl kp_X5 (Nat.le_of_ble_eq_true rfl) (lv := [some (.ref 7), none, none, none]) rfl ?_
  unfold F_X5_worth
  refine z_iconst (v := 0) dX5_worth_0 rfl ?_
  refine z_istore_n (i := 1) (x := 0) (lv' := [some (.ref 7), some (.int 0), none, none]) dX5_worth_1 rfl (by decide) rfl rfl ?_
  refine z_iconst (v := 0) dX5_worth_2 rfl ?_
  refine z_istore_n (i := 2) (x := 0) (lv' := [some (.ref 7), some (.int 0), some (.int 0), none]) dX5_worth_3 rfl (by decide) rfl rfl ?_
  refine z_loops (lvOf := fun s : Int32 × Int32 × z_Dat => [some (.ref 7), some (.int s.1), some (.int s.2.1), none]) (dOf := fun s : Int32 × Int32 × z_Dat => s.2.2) (fun kc4 hkc4 s => ?_) N (0, 0, D)
  obtain ⟨v1, v2, D3⟩ := s
  show z_F _ _ _ _ _ 4 [some (.ref 7), some (.int v1), some (.int v2), none] [] S D3 _ (F_X5_worth_L4 kc4 v1 v2 D3)
  unfold F_X5_worth_L4
  refine z_iload_n (i := 2) (x := v2) dX5_worth_4 rfl rfl ?_
  refine z_aload_n (i := 0) (x := 7) dX5_worth_5 rfl rfl ?_
  refine z_getI (j := 4) dX5_worth_6 kl_5 hs7 (by decide) rfl rfl kf_X5_57 ?_
  refine z_icmp_ge 106 dX5_worth_9 (by decide) (fun c5 => ?_) (fun c5 => ?_)
  · refine z_aload_n (i := 0) (x := 7) dX5_worth_106 rfl rfl ?_
    refine z_getR (j := 2) dX5_worth_107 kl_5 hs7 (by decide) rfl rfl kf_X5_18 ?_
    refine z_iconst (v := 0) dX5_worth_110 rfl ?_
    refine z_cP (As := [.ref 10, .int 0]) (rest := []) (em_X10_at (n0 := 150) hl hs10 (by decide) 0 D3) (fun o7 h => z_runSN 117 2 h rfl kk_X5_117 kn_X5_117 kq_X10_at rfl (Nat.le_of_ble_eq_true rfl) ⟨Nat.le_of_ble_eq_true rfl, Nat.le_of_ble_eq_true rfl, Nat.le_of_ble_eq_true rfl, Nat.le_of_ble_eq_true rfl⟩ dX5_worth_111) z_gWI (fun hz6 => ?_)
    exact z_ireturn dX5_worth_114 z_rWI rfl (by decide) (by decide)
  · refine z_aload_n (i := 0) (x := 7) dX5_worth_12 rfl rfl ?_
    refine z_getR (j := 0) dX5_worth_13 kl_5 hs7 (by decide) rfl rfl kf_X5_9 ?_
    refine z_iload_n (i := 2) (x := v2) dX5_worth_16 rfl rfl ?_
    refine z_cP (As := [.ref 8, .int v2]) (rest := []) (em_X10_at (n0 := 150) hl hs8 (by decide) v2 D3) (fun o7 h => z_runSN 117 2 h rfl kk_X5_117 kn_X5_117 kq_X10_at rfl (Nat.le_of_ble_eq_true rfl) ⟨Nat.le_of_ble_eq_true rfl, Nat.le_of_ble_eq_true rfl, Nat.le_of_ble_eq_true rfl, Nat.le_of_ble_eq_true rfl⟩ dX5_worth_17) z_gWI (fun hz7 => ?_)
    refine z_topi (fun v8 => ?_)
    refine z_istore_n (i := 3) (x := v8) (lv' := [some (.ref 7), some (.int v1), some (.int v2), some (.int v8)]) dX5_worth_20 rfl (by decide) rfl rfl ?_
    refine z_iload_n (i := 3) (x := v8) dX5_worth_21 rfl rfl ?_
    refine z_sipush (v := 2000) dX5_worth_22 (by decide) ?_
    refine z_icmp_lt 66 dX5_worth_25 (by decide) (fun c9 => ?_) (fun c9 => ?_)
    · refine z_aload_n (i := 0) (x := 7) dX5_worth_66 rfl rfl ?_
      refine z_getR (j := 2) dX5_worth_67 kl_5 hs7 (by decide) rfl rfl kf_X5_18 ?_
      refine z_iload_n (i := 1) (x := v1) dX5_worth_70 rfl rfl ?_
      refine z_iload_n (i := 3) (x := v8) dX5_worth_71 rfl rfl ?_
      refine z_sipush (v := 1000) dX5_worth_72 (by decide) ?_
      refine z_icmp_lt 93 dX5_worth_75 (by decide) (fun c10 => ?_) (fun c10 => ?_)
      · refine z_iload_n (i := 3) (x := v8) dX5_worth_93 rfl rfl ?_
        refine z_cTV (As := [.ref 10, .int v1, .int v8]) (rest := []) (em_X10_put (n0 := 150) hl hs10 (by decide) v1 v8 D3) (fun o7 h => z_runSN 103 3 h rfl kk_X5_103 kn_X5_103 kq_X10_put rfl (Nat.le_of_ble_eq_true rfl) ⟨Nat.le_of_ble_eq_true rfl, Nat.le_of_ble_eq_true rfl, Nat.le_of_ble_eq_true rfl, Nat.le_of_ble_eq_true rfl⟩ dX5_worth_94) z_gWI (fun a_12 hz11 => ?_)
        refine z_iinc (i := 1) (x := v1) (y := 1) dX5_worth_97 rfl (by decide) (by decide) rfl (fun v13 => ?_)
        refine z_iinc (i := 2) (x := v2) (y := 1) dX5_worth_100 rfl (by decide) (by decide) rfl (fun v14 => ?_)
        refine z_goto 4 dX5_worth_103 (by decide) ?_
        refine z_weak (lv' := [some (.ref 7), some (.int v13), some (.int v14), none]) ⟨Or.inr rfl, ⟨Or.inr rfl, ⟨Or.inr rfl, ⟨Or.inl rfl, trivial⟩⟩⟩⟩ ?_
        exact hkc4 (v13, v14, a_12)
      · refine z_aload_n (i := 0) (x := 7) dX5_worth_78 rfl rfl ?_
        refine z_getR (j := 3) dX5_worth_79 kl_5 hs7 (by decide) rfl rfl kf_X5_21 ?_
        refine z_iload_n (i := 3) (x := v8) dX5_worth_82 rfl rfl ?_
        refine z_sipush (v := 1000) dX5_worth_83 (by decide) ?_
        refine z_isub dX5_worth_86 ?_
        refine z_cP (As := [.ref 11, .int (v8 - 1000)]) (rest := [.int v1, .ref 10]) (em_X10_at (n0 := 9) hl hs11 (by decide) (v8 - 1000) D3) (fun o7 h => z_runSN 117 2 h rfl kk_X5_117 kn_X5_117 kq_X10_at rfl (Nat.le_of_ble_eq_true rfl) ⟨Nat.le_of_ble_eq_true rfl, Nat.le_of_ble_eq_true rfl, Nat.le_of_ble_eq_true rfl, Nat.le_of_ble_eq_true rfl⟩ dX5_worth_87) z_gWI (fun hz15 => ?_)
        refine z_goto 94 dX5_worth_90 (by decide) ?_
        refine z_cTV (As := [.ref 10, .int v1, .int (F_X10_at 11 9 (v8 - 1000) D3)]) (rest := []) (em_X10_put (n0 := 150) hl hs10 (by decide) v1 (F_X10_at 11 9 (v8 - 1000) D3) D3) (fun o7 h => z_runSN 103 3 h rfl kk_X5_103 kn_X5_103 kq_X10_put rfl (Nat.le_of_ble_eq_true rfl) ⟨Nat.le_of_ble_eq_true rfl, Nat.le_of_ble_eq_true rfl, Nat.le_of_ble_eq_true rfl, Nat.le_of_ble_eq_true rfl⟩ dX5_worth_94) z_gWI (fun a_17 hz16 => ?_)
        refine z_iinc (i := 1) (x := v1) (y := 1) dX5_worth_97 rfl (by decide) (by decide) rfl (fun v18 => ?_)
        refine z_iinc (i := 2) (x := v2) (y := 1) dX5_worth_100 rfl (by decide) (by decide) rfl (fun v19 => ?_)
        refine z_goto 4 dX5_worth_103 (by decide) ?_
        refine z_weak (lv' := [some (.ref 7), some (.int v18), some (.int v19), none]) ⟨Or.inr rfl, ⟨Or.inr rfl, ⟨Or.inr rfl, ⟨Or.inl rfl, trivial⟩⟩⟩⟩ ?_
        exact hkc4 (v18, v19, a_17)
    · refine z_iinc (i := 1) (x := v1) (y := (-1)) dX5_worth_28 rfl (by decide) (by decide) rfl (fun v20 => ?_)
      refine z_aload_n (i := 0) (x := 7) dX5_worth_31 rfl rfl ?_
      refine z_getR (j := 2) dX5_worth_32 kl_5 hs7 (by decide) rfl rfl kf_X5_18 ?_
      refine z_iload_n (i := 1) (x := v20) dX5_worth_35 rfl rfl ?_
      refine z_iconst (v := 1) dX5_worth_36 rfl ?_
      refine z_isub dX5_worth_37 ?_
      refine z_iload_n (i := 3) (x := v8) dX5_worth_38 rfl rfl ?_
      refine z_aload_n (i := 0) (x := 7) dX5_worth_39 rfl rfl ?_
      refine z_getR (j := 2) dX5_worth_40 kl_5 hs7 (by decide) rfl rfl kf_X5_18 ?_
      refine z_iload_n (i := 1) (x := v20) dX5_worth_43 rfl rfl ?_
      refine z_iconst (v := 1) dX5_worth_44 rfl ?_
      refine z_isub dX5_worth_45 ?_
      refine z_cP (As := [.ref 10, .int (v20 - 1)]) (rest := [.int v8, .int (v20 - 1), .ref 10]) (em_X10_at (n0 := 150) hl hs10 (by decide) (v20 - 1) D3) (fun o7 h => z_runSN 117 2 h rfl kk_X5_117 kn_X5_117 kq_X10_at rfl (Nat.le_of_ble_eq_true rfl) ⟨Nat.le_of_ble_eq_true rfl, Nat.le_of_ble_eq_true rfl, Nat.le_of_ble_eq_true rfl, Nat.le_of_ble_eq_true rfl⟩ dX5_worth_46) z_gWI (fun hz21 => ?_)
      refine z_aload_n (i := 0) (x := 7) dX5_worth_49 rfl rfl ?_
      refine z_getR (j := 2) dX5_worth_50 kl_5 hs7 (by decide) rfl rfl kf_X5_18 ?_
      refine z_iload_n (i := 1) (x := v20) dX5_worth_53 rfl rfl ?_
      refine z_cP (As := [.ref 10, .int v20]) (rest := [.int (F_X10_at 10 150 (v20 - 1) D3), .int v8, .int (v20 - 1), .ref 10]) (em_X10_at (n0 := 150) hl hs10 (by decide) v20 D3) (fun o7 h => z_runSN 117 2 h rfl kk_X5_117 kn_X5_117 kq_X10_at rfl (Nat.le_of_ble_eq_true rfl) ⟨Nat.le_of_ble_eq_true rfl, Nat.le_of_ble_eq_true rfl, Nat.le_of_ble_eq_true rfl, Nat.le_of_ble_eq_true rfl⟩ dX5_worth_54) z_gWI (fun hz22 => ?_)
      refine z_cR (As := [.int v8, .int (F_X10_at 10 150 (v20 - 1) D3), .int (F_X10_at 10 150 v20 D3)]) (rest := [.int (v20 - 1), .ref 10]) (em_X5_joined hl v8 (F_X10_at 10 150 (v20 - 1) D3) (F_X10_at 10 150 v20 D3) D3) (fun o7 h => z_runS 121 3 h rfl kk_X5_121 kq_X5_joined rfl (Nat.le_of_ble_eq_true rfl) ⟨Nat.le_of_ble_eq_true rfl, Nat.le_of_ble_eq_true rfl, Nat.le_of_ble_eq_true rfl, Nat.le_of_ble_eq_true rfl⟩ dX5_worth_57) z_gWI (fun a_24 hz23 => ?_)
      refine z_cTV (As := [.ref 10, .int (v20 - 1), .int a_24]) (rest := []) (em_X10_put (n0 := 150) hl hs10 (by decide) (v20 - 1) a_24 D3) (fun o7 h => z_runSN 103 3 h rfl kk_X5_103 kn_X5_103 kq_X10_put rfl (Nat.le_of_ble_eq_true rfl) ⟨Nat.le_of_ble_eq_true rfl, Nat.le_of_ble_eq_true rfl, Nat.le_of_ble_eq_true rfl, Nat.le_of_ble_eq_true rfl⟩ dX5_worth_60) z_gWI (fun a_26 hz25 => ?_)
      refine z_goto 100 dX5_worth_63 (by decide) ?_
      refine z_iinc (i := 2) (x := v2) (y := 1) dX5_worth_100 rfl (by decide) (by decide) rfl (fun v27 => ?_)
      refine z_goto 4 dX5_worth_103 (by decide) ?_
      refine z_weak (lv' := [some (.ref 7), some (.int v20), some (.int v27), none]) ⟨Or.inr rfl, ⟨Or.inr rfl, ⟨Or.inr rfl, ⟨Or.inl rfl, trivial⟩⟩⟩⟩ ?_
      exact hkc4 (v20, v27, a_26)

def F_X5_seats_J26 (N : Nat) (a0 : Int32) (a1 : Int32) (a2 : Int32) (a3 : Int32) (a4 : Int32) (a5 : Int32) (D16 : z_Dat) : Option (Int32 × z_Dat) :=
  z_let (F_X10_put 11 9 3 (F_X10_darkness a0) D16) (fun a_19 => z_let (F_X10_put 11 9 4 a1 a_19) (fun a_21 => z_let (F_X10_put 11 9 5 a2 a_21) (fun a_23 => z_let (F_X10_put 11 9 6 a3 a_23) (fun a_25 => z_let (F_X10_put 11 9 7 a4 a_25) (fun a_27 => z_let (F_X10_put 11 9 8 a5 a_27) (fun a_29 => z_bd (F_X5_worth N a_29) (fun a_31 => if a_31.1 ≤ 0 then (some (0, a_31.2))
  else (some (1, a_31.2)))))))))
def F_X5_seats_J26x (N : Nat) (a0 : Int32) (a1 : Int32) (a2 : Int32) (a3 : Int32) (a4 : Int32) (a5 : Int32) (D12 : z_Dat) : Option (Int32 × z_Dat) :=
  z_let (F_X10_put 11 9 2 (F_X10_partOf a0 2) D12) (fun a_15 => F_X5_seats_J26 N a0 a1 a2 a3 a4 a5 a_15)
def F_X5_seats_J26xx (N : Nat) (a0 : Int32) (a1 : Int32) (a2 : Int32) (a3 : Int32) (a4 : Int32) (a5 : Int32) (D8 : z_Dat) : Option (Int32 × z_Dat) :=
  z_let (F_X10_put 11 9 1 (F_X10_partOf a0 1) D8) (fun a_11 => F_X5_seats_J26x N a0 a1 a2 a3 a4 a5 a_11)
def F_X5_seats_J26xxx (N : Nat) (a0 : Int32) (a1 : Int32) (a2 : Int32) (a3 : Int32) (a4 : Int32) (a5 : Int32) (D4 : z_Dat) : Option (Int32 × z_Dat) :=
  z_let (F_X10_put 11 9 0 (F_X10_partOf a0 0) D4) (fun a_7 => F_X5_seats_J26xx N a0 a1 a2 a3 a4 a5 a_7)
def F_X5_seats (N : Nat) (a0 : Int32) (a1 : Int32) (a2 : Int32) (a3 : Int32) (a4 : Int32) (a5 : Int32) (D : z_Dat) : Option (Int32 × z_Dat) :=
  if (D 7 6) = 0 then (if ((F_X10_darkness a0) - 9) ≤ 0 then (some (0, D))
  else (some (1, D)))
  else (F_X5_seats_J26xxx N a0 a1 a2 a3 a4 a5 D)
set_option maxRecDepth 100000 in
set_option maxHeartbeats 4000000 in
theorem em_X5_seats {l : Launch} {S : List z_Shp} {oW : Nat} (hl : l.stackTraces = false) (hW : z_W S oW) (N : Nat) (a0 : Int32) (a1 : Int32) (a2 : Int32) (a3 : Int32) (a4 : Int32) (a5 : Int32) (D : z_Dat) : ∀ out, z_ko (z_kI S) (F_X5_seats N a0 a1 a2 a3 a4 a5 D) out → z_EM l M_X5_seats (40, 640, 0, 0) [.ref 7, .int a0, .int a1, .int a2, .int a3, .int a4, .int a5] S D out := by
  have hs7 : S[7]? = some (7, 7, [some (some 8), some (some 9), some (some 10), some (some 11), none, none, none]) := hW.1 7 _ rfl
  have hs11 : S[11]? = some (0, 9, []) := hW.1 11 _ rfl
  refine z_meth hl rfl kp_X5 (Nat.le_of_ble_eq_true rfl) (lv := [some (.ref 7), some (.int a0), some (.int a1), some (.int a2), some (.int a3), some (.int a4), some (.int a5), none]) rfl ?_
  unfold F_X5_seats
  have hJ_F_X5_seats_J26 : ∀ (D16 : z_Dat) , z_F l M_X5_seats (40, 640, 0, 0) 0 0 26 [some (.ref 7), some (.int a0), some (.int a1), some (.int a2), some (.int a3), some (.int a4), some (.int a5), some (.int 3)] [] S D16 (z_ko (z_kI S)) (F_X5_seats_J26 N a0 a1 a2 a3 a4 a5 D16) := by
    intro D16
    unfold F_X5_seats_J26
    refine z_iload (i := 7) (x := 3) dX5_seats_26 rfl ?_
    refine z_iconst (v := 3) dX5_seats_28 rfl ?_
    refine z_icmp_geJ 53 dX5_seats_29 (by decide) (by decide) ?_
    refine z_aload_n (i := 0) (x := 7) dX5_seats_53 rfl rfl ?_
    refine z_getR (j := 3) dX5_seats_54 kl_5 hs7 (by decide) rfl rfl kf_X5_21 ?_
    refine z_iconst (v := 3) dX5_seats_57 rfl ?_
    refine z_iload_n (i := 1) (x := a0) dX5_seats_58 rfl rfl ?_
    refine z_cP (As := [.int a0]) (rest := [.int 3, .ref 11]) (em_X10_darkness hl a0 D16) (fun o7 h => z_runSN 107 1 h rfl kk_X5_107 kn_X5_107 kq_X10_darkness rfl (Nat.le_of_ble_eq_true rfl) ⟨Nat.le_of_ble_eq_true rfl, Nat.le_of_ble_eq_true rfl, Nat.le_of_ble_eq_true rfl, Nat.le_of_ble_eq_true rfl⟩ dX5_seats_59) z_gWI (fun hz17 => ?_)
    refine z_cTV (As := [.ref 11, .int 3, .int (F_X10_darkness a0)]) (rest := []) (em_X10_put (n0 := 9) hl hs11 (by decide) 3 (F_X10_darkness a0) D16) (fun o7 h => z_runSN 103 3 h rfl kk_X5_103 kn_X5_103 kq_X10_put rfl (Nat.le_of_ble_eq_true rfl) ⟨Nat.le_of_ble_eq_true rfl, Nat.le_of_ble_eq_true rfl, Nat.le_of_ble_eq_true rfl, Nat.le_of_ble_eq_true rfl⟩ dX5_seats_62) z_gWI (fun a_19 hz18 => ?_)
    refine z_aload_n (i := 0) (x := 7) dX5_seats_65 rfl rfl ?_
    refine z_getR (j := 3) dX5_seats_66 kl_5 hs7 (by decide) rfl rfl kf_X5_21 ?_
    refine z_iconst (v := 4) dX5_seats_69 rfl ?_
    refine z_iload_n (i := 2) (x := a1) dX5_seats_70 rfl rfl ?_
    refine z_cTV (As := [.ref 11, .int 4, .int a1]) (rest := []) (em_X10_put (n0 := 9) hl hs11 (by decide) 4 a1 a_19) (fun o7 h => z_runSN 103 3 h rfl kk_X5_103 kn_X5_103 kq_X10_put rfl (Nat.le_of_ble_eq_true rfl) ⟨Nat.le_of_ble_eq_true rfl, Nat.le_of_ble_eq_true rfl, Nat.le_of_ble_eq_true rfl, Nat.le_of_ble_eq_true rfl⟩ dX5_seats_71) z_gWI (fun a_21 hz20 => ?_)
    refine z_aload_n (i := 0) (x := 7) dX5_seats_74 rfl rfl ?_
    refine z_getR (j := 3) dX5_seats_75 kl_5 hs7 (by decide) rfl rfl kf_X5_21 ?_
    refine z_iconst (v := 5) dX5_seats_78 rfl ?_
    refine z_iload_n (i := 3) (x := a2) dX5_seats_79 rfl rfl ?_
    refine z_cTV (As := [.ref 11, .int 5, .int a2]) (rest := []) (em_X10_put (n0 := 9) hl hs11 (by decide) 5 a2 a_21) (fun o7 h => z_runSN 103 3 h rfl kk_X5_103 kn_X5_103 kq_X10_put rfl (Nat.le_of_ble_eq_true rfl) ⟨Nat.le_of_ble_eq_true rfl, Nat.le_of_ble_eq_true rfl, Nat.le_of_ble_eq_true rfl, Nat.le_of_ble_eq_true rfl⟩ dX5_seats_80) z_gWI (fun a_23 hz22 => ?_)
    refine z_aload_n (i := 0) (x := 7) dX5_seats_83 rfl rfl ?_
    refine z_getR (j := 3) dX5_seats_84 kl_5 hs7 (by decide) rfl rfl kf_X5_21 ?_
    refine z_bipush (v := 6) dX5_seats_87 (by decide) ?_
    refine z_iload (i := 4) (x := a3) dX5_seats_89 rfl ?_
    refine z_cTV (As := [.ref 11, .int 6, .int a3]) (rest := []) (em_X10_put (n0 := 9) hl hs11 (by decide) 6 a3 a_23) (fun o7 h => z_runSN 103 3 h rfl kk_X5_103 kn_X5_103 kq_X10_put rfl (Nat.le_of_ble_eq_true rfl) ⟨Nat.le_of_ble_eq_true rfl, Nat.le_of_ble_eq_true rfl, Nat.le_of_ble_eq_true rfl, Nat.le_of_ble_eq_true rfl⟩ dX5_seats_91) z_gWI (fun a_25 hz24 => ?_)
    refine z_aload_n (i := 0) (x := 7) dX5_seats_94 rfl rfl ?_
    refine z_getR (j := 3) dX5_seats_95 kl_5 hs7 (by decide) rfl rfl kf_X5_21 ?_
    refine z_bipush (v := 7) dX5_seats_98 (by decide) ?_
    refine z_iload (i := 5) (x := a4) dX5_seats_100 rfl ?_
    refine z_cTV (As := [.ref 11, .int 7, .int a4]) (rest := []) (em_X10_put (n0 := 9) hl hs11 (by decide) 7 a4 a_25) (fun o7 h => z_runSN 103 3 h rfl kk_X5_103 kn_X5_103 kq_X10_put rfl (Nat.le_of_ble_eq_true rfl) ⟨Nat.le_of_ble_eq_true rfl, Nat.le_of_ble_eq_true rfl, Nat.le_of_ble_eq_true rfl, Nat.le_of_ble_eq_true rfl⟩ dX5_seats_102) z_gWI (fun a_27 hz26 => ?_)
    refine z_aload_n (i := 0) (x := 7) dX5_seats_105 rfl rfl ?_
    refine z_getR (j := 3) dX5_seats_106 kl_5 hs7 (by decide) rfl rfl kf_X5_21 ?_
    refine z_bipush (v := 8) dX5_seats_109 (by decide) ?_
    refine z_iload (i := 6) (x := a5) dX5_seats_111 rfl ?_
    refine z_cTV (As := [.ref 11, .int 8, .int a5]) (rest := []) (em_X10_put (n0 := 9) hl hs11 (by decide) 8 a5 a_27) (fun o7 h => z_runSN 103 3 h rfl kk_X5_103 kn_X5_103 kq_X10_put rfl (Nat.le_of_ble_eq_true rfl) ⟨Nat.le_of_ble_eq_true rfl, Nat.le_of_ble_eq_true rfl, Nat.le_of_ble_eq_true rfl, Nat.le_of_ble_eq_true rfl⟩ dX5_seats_113) z_gWI (fun a_29 hz28 => ?_)
    refine z_aload_n (i := 0) (x := 7) dX5_seats_116 rfl rfl ?_
    refine z_cWI (As := [.ref 7]) (rest := []) (em_X5_worth hl hW N a_29) (fun o7 h => z_runV 114 0 h rfl kk_X5_114 hs7 kl_5.1 kq_X5_worth rfl (Nat.le_of_ble_eq_true rfl) ⟨Nat.le_of_ble_eq_true rfl, Nat.le_of_ble_eq_true rfl, Nat.le_of_ble_eq_true rfl, Nat.le_of_ble_eq_true rfl⟩ dX5_seats_117) z_gWI (fun a_31 hz30 => ?_)
    refine z_if_le 127 dX5_seats_120 (by decide) (fun c32 => ?_) (fun c32 => ?_)
    · refine z_iconst (v := 0) dX5_seats_127 rfl ?_
      exact z_ireturn dX5_seats_128 z_rWI rfl (by decide) (by decide)
    · refine z_iconst (v := 1) dX5_seats_123 rfl ?_
      refine z_goto 128 dX5_seats_124 (by decide) ?_
      exact z_ireturn dX5_seats_128 z_rWI rfl (by decide) (by decide)
  have hJ_F_X5_seats_J26x : ∀ (D12 : z_Dat) , z_F l M_X5_seats (40, 640, 0, 0) 0 0 26 [some (.ref 7), some (.int a0), some (.int a1), some (.int a2), some (.int a3), some (.int a4), some (.int a5), some (.int 2)] [] S D12 (z_ko (z_kI S)) (F_X5_seats_J26x N a0 a1 a2 a3 a4 a5 D12) := by
    intro D12
    unfold F_X5_seats_J26x
    refine z_iload (i := 7) (x := 2) dX5_seats_26 rfl ?_
    refine z_iconst (v := 3) dX5_seats_28 rfl ?_
    refine z_icmp_geN 53 dX5_seats_29 (by decide) (by decide) ?_
    refine z_aload_n (i := 0) (x := 7) dX5_seats_32 rfl rfl ?_
    refine z_getR (j := 3) dX5_seats_33 kl_5 hs7 (by decide) rfl rfl kf_X5_21 ?_
    refine z_iload (i := 7) (x := 2) dX5_seats_36 rfl ?_
    refine z_iload_n (i := 1) (x := a0) dX5_seats_38 rfl rfl ?_
    refine z_iload (i := 7) (x := 2) dX5_seats_39 rfl ?_
    refine z_cP (As := [.int a0, .int 2]) (rest := [.int 2, .ref 11]) (em_X10_partOf hl a0 2 D12) (fun o7 h => z_runSN 110 2 h rfl kk_X5_110 kn_X5_110 kq_X10_partOf rfl (Nat.le_of_ble_eq_true rfl) ⟨Nat.le_of_ble_eq_true rfl, Nat.le_of_ble_eq_true rfl, Nat.le_of_ble_eq_true rfl, Nat.le_of_ble_eq_true rfl⟩ dX5_seats_41) z_gWI (fun hz13 => ?_)
    refine z_cTV (As := [.ref 11, .int 2, .int (F_X10_partOf a0 2)]) (rest := []) (em_X10_put (n0 := 9) hl hs11 (by decide) 2 (F_X10_partOf a0 2) D12) (fun o7 h => z_runSN 103 3 h rfl kk_X5_103 kn_X5_103 kq_X10_put rfl (Nat.le_of_ble_eq_true rfl) ⟨Nat.le_of_ble_eq_true rfl, Nat.le_of_ble_eq_true rfl, Nat.le_of_ble_eq_true rfl, Nat.le_of_ble_eq_true rfl⟩ dX5_seats_44) z_gWI (fun a_15 hz14 => ?_)
    refine z_iincC (i := 7) (x := 2) (v := 3) (lv' := [some (.ref 7), some (.int a0), some (.int a1), some (.int a2), some (.int a3), some (.int a4), some (.int a5), some (.int 3)]) dX5_seats_47 rfl (by decide) (by decide) rfl rfl ?_
    refine z_goto 26 dX5_seats_50 (by decide) ?_
    exact hJ_F_X5_seats_J26 a_15
  have hJ_F_X5_seats_J26xx : ∀ (D8 : z_Dat) , z_F l M_X5_seats (40, 640, 0, 0) 0 0 26 [some (.ref 7), some (.int a0), some (.int a1), some (.int a2), some (.int a3), some (.int a4), some (.int a5), some (.int 1)] [] S D8 (z_ko (z_kI S)) (F_X5_seats_J26xx N a0 a1 a2 a3 a4 a5 D8) := by
    intro D8
    unfold F_X5_seats_J26xx
    refine z_iload (i := 7) (x := 1) dX5_seats_26 rfl ?_
    refine z_iconst (v := 3) dX5_seats_28 rfl ?_
    refine z_icmp_geN 53 dX5_seats_29 (by decide) (by decide) ?_
    refine z_aload_n (i := 0) (x := 7) dX5_seats_32 rfl rfl ?_
    refine z_getR (j := 3) dX5_seats_33 kl_5 hs7 (by decide) rfl rfl kf_X5_21 ?_
    refine z_iload (i := 7) (x := 1) dX5_seats_36 rfl ?_
    refine z_iload_n (i := 1) (x := a0) dX5_seats_38 rfl rfl ?_
    refine z_iload (i := 7) (x := 1) dX5_seats_39 rfl ?_
    refine z_cP (As := [.int a0, .int 1]) (rest := [.int 1, .ref 11]) (em_X10_partOf hl a0 1 D8) (fun o7 h => z_runSN 110 2 h rfl kk_X5_110 kn_X5_110 kq_X10_partOf rfl (Nat.le_of_ble_eq_true rfl) ⟨Nat.le_of_ble_eq_true rfl, Nat.le_of_ble_eq_true rfl, Nat.le_of_ble_eq_true rfl, Nat.le_of_ble_eq_true rfl⟩ dX5_seats_41) z_gWI (fun hz9 => ?_)
    refine z_cTV (As := [.ref 11, .int 1, .int (F_X10_partOf a0 1)]) (rest := []) (em_X10_put (n0 := 9) hl hs11 (by decide) 1 (F_X10_partOf a0 1) D8) (fun o7 h => z_runSN 103 3 h rfl kk_X5_103 kn_X5_103 kq_X10_put rfl (Nat.le_of_ble_eq_true rfl) ⟨Nat.le_of_ble_eq_true rfl, Nat.le_of_ble_eq_true rfl, Nat.le_of_ble_eq_true rfl, Nat.le_of_ble_eq_true rfl⟩ dX5_seats_44) z_gWI (fun a_11 hz10 => ?_)
    refine z_iincC (i := 7) (x := 1) (v := 2) (lv' := [some (.ref 7), some (.int a0), some (.int a1), some (.int a2), some (.int a3), some (.int a4), some (.int a5), some (.int 2)]) dX5_seats_47 rfl (by decide) (by decide) rfl rfl ?_
    refine z_goto 26 dX5_seats_50 (by decide) ?_
    exact hJ_F_X5_seats_J26x a_11
  have hJ_F_X5_seats_J26xxx : ∀ (D4 : z_Dat) , z_F l M_X5_seats (40, 640, 0, 0) 0 0 26 [some (.ref 7), some (.int a0), some (.int a1), some (.int a2), some (.int a3), some (.int a4), some (.int a5), some (.int 0)] [] S D4 (z_ko (z_kI S)) (F_X5_seats_J26xxx N a0 a1 a2 a3 a4 a5 D4) := by
    intro D4
    unfold F_X5_seats_J26xxx
    refine z_iload (i := 7) (x := 0) dX5_seats_26 rfl ?_
    refine z_iconst (v := 3) dX5_seats_28 rfl ?_
    refine z_icmp_geN 53 dX5_seats_29 (by decide) (by decide) ?_
    refine z_aload_n (i := 0) (x := 7) dX5_seats_32 rfl rfl ?_
    refine z_getR (j := 3) dX5_seats_33 kl_5 hs7 (by decide) rfl rfl kf_X5_21 ?_
    refine z_iload (i := 7) (x := 0) dX5_seats_36 rfl ?_
    refine z_iload_n (i := 1) (x := a0) dX5_seats_38 rfl rfl ?_
    refine z_iload (i := 7) (x := 0) dX5_seats_39 rfl ?_
    refine z_cP (As := [.int a0, .int 0]) (rest := [.int 0, .ref 11]) (em_X10_partOf hl a0 0 D4) (fun o7 h => z_runSN 110 2 h rfl kk_X5_110 kn_X5_110 kq_X10_partOf rfl (Nat.le_of_ble_eq_true rfl) ⟨Nat.le_of_ble_eq_true rfl, Nat.le_of_ble_eq_true rfl, Nat.le_of_ble_eq_true rfl, Nat.le_of_ble_eq_true rfl⟩ dX5_seats_41) z_gWI (fun hz5 => ?_)
    refine z_cTV (As := [.ref 11, .int 0, .int (F_X10_partOf a0 0)]) (rest := []) (em_X10_put (n0 := 9) hl hs11 (by decide) 0 (F_X10_partOf a0 0) D4) (fun o7 h => z_runSN 103 3 h rfl kk_X5_103 kn_X5_103 kq_X10_put rfl (Nat.le_of_ble_eq_true rfl) ⟨Nat.le_of_ble_eq_true rfl, Nat.le_of_ble_eq_true rfl, Nat.le_of_ble_eq_true rfl, Nat.le_of_ble_eq_true rfl⟩ dX5_seats_44) z_gWI (fun a_7 hz6 => ?_)
    refine z_iincC (i := 7) (x := 0) (v := 1) (lv' := [some (.ref 7), some (.int a0), some (.int a1), some (.int a2), some (.int a3), some (.int a4), some (.int a5), some (.int 1)]) dX5_seats_47 rfl (by decide) (by decide) rfl rfl ?_
    refine z_goto 26 dX5_seats_50 (by decide) ?_
    exact hJ_F_X5_seats_J26xx a_7
  refine z_aload_n (i := 0) (x := 7) dX5_seats_0 rfl rfl ?_
  refine z_getI (j := 6) dX5_seats_1 kl_5 hs7 (by decide) rfl rfl kf_X5_24 ?_
  refine z_if_ne 23 dX5_seats_4 (by decide) (fun c1 => ?_) (fun c1 => ?_)
  · refine z_iload_n (i := 1) (x := a0) dX5_seats_7 rfl rfl ?_
    refine z_cP (As := [.int a0]) (rest := []) (em_X10_darkness hl a0 D) (fun o7 h => z_runSN 107 1 h rfl kk_X5_107 kn_X5_107 kq_X10_darkness rfl (Nat.le_of_ble_eq_true rfl) ⟨Nat.le_of_ble_eq_true rfl, Nat.le_of_ble_eq_true rfl, Nat.le_of_ble_eq_true rfl, Nat.le_of_ble_eq_true rfl⟩ dX5_seats_8) z_gWI (fun hz2 => ?_)
    refine z_bipush (v := 9) dX5_seats_11 (by decide) ?_
    refine z_isub dX5_seats_13 ?_
    refine z_if_le 21 dX5_seats_14 (by decide) (fun c3 => ?_) (fun c3 => ?_)
    · refine z_iconst (v := 0) dX5_seats_21 rfl ?_
      exact z_ireturn dX5_seats_22 z_rWI rfl (by decide) (by decide)
    · refine z_iconst (v := 1) dX5_seats_17 rfl ?_
      refine z_goto 22 dX5_seats_18 (by decide) ?_
      exact z_ireturn dX5_seats_22 z_rWI rfl (by decide) (by decide)
  · refine z_iconst (v := 0) dX5_seats_23 rfl ?_
    refine z_istore (i := 7) (x := 0) (lv' := [some (.ref 7), some (.int a0), some (.int a1), some (.int a2), some (.int a3), some (.int a4), some (.int a5), some (.int 0)]) dX5_seats_24 (by decide) rfl rfl ?_
    exact hJ_F_X5_seats_J26xxx D

def F_X10_isSeated_J35 (N : Nat) (t : Nat) (o : Nat) (a0 : Int32) (v7 : Int32) (v8 : Int32) (D9 : z_Dat) : Option (Int32 × z_Dat) :=
  z_bd (F_X5_seats N v7 (F_X9_has t a0 1 D9) (F_X1_rankOf o v8 D9) (F_X9_has t a0 4 D9) (F_X9_year t D9) 1 D9) (fun a_15 => some (a_15.1, a_15.2))
def F_X10_isSeated_J35x (N : Nat) (t : Nat) (o : Nat) (a0 : Int32) (v16 : Int32) (v17 : Int32) (D18 : z_Dat) : Option (Int32 × z_Dat) :=
  z_bd (F_X5_seats N v16 (F_X9_has t a0 1 D18) (F_X1_rankOf o v17 D18) (F_X9_has t a0 4 D18) (F_X9_year t D18) 0 D18) (fun a_24 => some (a_24.1, a_24.2))
def F_X10_isSeated (N : Nat) (o : Nat) (t : Nat) (a0 : Int32) (D : z_Dat) : Option (Int32 × z_Dat) :=
  z_let (F_X9_has t a0 0 D) (fun v2 => z_bd (F_X1_nearest N o v2 D) (fun a_4 => if a_4 = (F_X1_homeOf o a0 D) then (F_X10_isSeated_J35 N t o a0 v2 a_4 D)
  else (F_X10_isSeated_J35x N t o a0 v2 a_4 D)))
set_option maxRecDepth 100000 in
set_option maxHeartbeats 4000000 in
theorem em_X10_isSeated {l : Launch} {S : List z_Shp} {o : Nat} {t : Nat} (hl : l.stackTraces = false) (hW : z_W S o) (hT : z_isTown S t) (N : Nat) (a0 : Int32) (D : z_Dat) : ∀ out, z_ko (z_kI S) (F_X10_isSeated N o t a0 D) out → z_EM l M_X10_isSeated (50, 700, 0, 0) [.ref 0, .ref t, .int a0] S D out := by
  have hC := hW.2
  have hs0 : S[0]? = some (12, 15, [some (some 1), some (some 3), some (some 5), some (some 7), some (some 12), some (some 15), some (some 21), some (some 25), some (some 28), some (some 32), some (some 33), some (some o), none, none, none]) := hW.1 0 _ rfl
  have hs7 : S[7]? = some (7, 7, [some (some 8), some (some 9), some (some 10), some (some 11), none, none, none]) := hW.1 7 _ rfl
  refine z_meth hl rfl kp_X10 (Nat.le_of_ble_eq_true rfl) (lv := [some (.ref 0), some (.ref t), some (.int a0), none, none, none]) rfl ?_
  unfold F_X10_isSeated
  have hJ_F_X10_isSeated_J35 : ∀ (v7 : Int32) (v8 : Int32) (D9 : z_Dat) , z_F l M_X10_isSeated (50, 700, 0, 0) 0 0 35 [some (.ref 0), some (.ref t), some (.int a0), some (.int v7), some (.int v8), none] [.int 1] S D9 (z_ko (z_kI S)) (F_X10_isSeated_J35 N t o a0 v7 v8 D9) := by
    intro v7 v8 D9
    unfold F_X10_isSeated_J35
    refine z_istore (i := 5) (x := 1) (lv' := [some (.ref 0), some (.ref t), some (.int a0), some (.int v7), some (.int v8), some (.int 1)]) dX10_isSeated_35 (by decide) rfl rfl ?_
    refine z_aload_n (i := 0) (x := 0) dX10_isSeated_37 rfl rfl ?_
    refine z_getR (j := 3) dX10_isSeated_38 kl_10 hs0 (by decide) rfl rfl kf_X10_29 ?_
    refine z_iload_n (i := 3) (x := v7) dX10_isSeated_41 rfl rfl ?_
    refine z_aload_n (i := 1) (x := t) dX10_isSeated_42 rfl rfl ?_
    refine z_iload_n (i := 2) (x := a0) dX10_isSeated_43 rfl rfl ?_
    refine z_iconst (v := 1) dX10_isSeated_44 rfl ?_
    refine z_cP (As := [.ref t, .int a0, .int 1]) (rest := [.int v7, .ref 7]) (em_X9_has hl hT a0 1 D9) (fun o7 h => z_runV 216 2 h rfl kk_X10_216 hT.1 kl_9.1 kq_X9_has rfl (Nat.le_of_ble_eq_true rfl) ⟨Nat.le_of_ble_eq_true rfl, Nat.le_of_ble_eq_true rfl, Nat.le_of_ble_eq_true rfl, Nat.le_of_ble_eq_true rfl⟩ dX10_isSeated_45) z_gWI (fun hz10 => ?_)
    refine z_aload_n (i := 0) (x := 0) dX10_isSeated_48 rfl rfl ?_
    refine z_getR (j := 11) dX10_isSeated_49 kl_10 hs0 (by decide) rfl rfl kf_X10_82 ?_
    refine z_iload (i := 4) (x := v8) dX10_isSeated_52 rfl ?_
    refine z_cP (As := [.ref o, .int v8]) (rest := [.int (F_X9_has t a0 1 D9), .int v7, .ref 7]) (em_X1_rankOf hl hC v8 D9) (fun o7 h => z_runV 201 1 h rfl kk_X10_201 hC.1 kl_1.1 kq_X1_rankOf rfl (Nat.le_of_ble_eq_true rfl) ⟨Nat.le_of_ble_eq_true rfl, Nat.le_of_ble_eq_true rfl, Nat.le_of_ble_eq_true rfl, Nat.le_of_ble_eq_true rfl⟩ dX10_isSeated_54) z_gWI (fun hz11 => ?_)
    refine z_aload_n (i := 1) (x := t) dX10_isSeated_57 rfl rfl ?_
    refine z_iload_n (i := 2) (x := a0) dX10_isSeated_58 rfl rfl ?_
    refine z_iconst (v := 4) dX10_isSeated_59 rfl ?_
    refine z_cP (As := [.ref t, .int a0, .int 4]) (rest := [.int (F_X1_rankOf o v8 D9), .int (F_X9_has t a0 1 D9), .int v7, .ref 7]) (em_X9_has hl hT a0 4 D9) (fun o7 h => z_runV 216 2 h rfl kk_X10_216 hT.1 kl_9.1 kq_X9_has rfl (Nat.le_of_ble_eq_true rfl) ⟨Nat.le_of_ble_eq_true rfl, Nat.le_of_ble_eq_true rfl, Nat.le_of_ble_eq_true rfl, Nat.le_of_ble_eq_true rfl⟩ dX10_isSeated_60) z_gWI (fun hz12 => ?_)
    refine z_aload_n (i := 1) (x := t) dX10_isSeated_63 rfl rfl ?_
    refine z_cP (As := [.ref t]) (rest := [.int (F_X9_has t a0 4 D9), .int (F_X1_rankOf o v8 D9), .int (F_X9_has t a0 1 D9), .int v7, .ref 7]) (em_X9_year hl hT D9) (fun o7 h => z_runV 171 0 h rfl kk_X10_171 hT.1 kl_9.1 kq_X9_year rfl (Nat.le_of_ble_eq_true rfl) ⟨Nat.le_of_ble_eq_true rfl, Nat.le_of_ble_eq_true rfl, Nat.le_of_ble_eq_true rfl, Nat.le_of_ble_eq_true rfl⟩ dX10_isSeated_64) z_gWI (fun hz13 => ?_)
    refine z_iload (i := 5) (x := 1) dX10_isSeated_67 rfl ?_
    refine z_cWI (As := [.ref 7, .int v7, .int (F_X9_has t a0 1 D9), .int (F_X1_rankOf o v8 D9), .int (F_X9_has t a0 4 D9), .int (F_X9_year t D9), .int 1]) (rest := []) (em_X5_seats hl hW N v7 (F_X9_has t a0 1 D9) (F_X1_rankOf o v8 D9) (F_X9_has t a0 4 D9) (F_X9_year t D9) 1 D9) (fun o7 h => z_runV 235 6 h rfl kk_X10_235 hs7 kl_5.1 kq_X5_seats rfl (Nat.le_of_ble_eq_true rfl) ⟨Nat.le_of_ble_eq_true rfl, Nat.le_of_ble_eq_true rfl, Nat.le_of_ble_eq_true rfl, Nat.le_of_ble_eq_true rfl⟩ dX10_isSeated_69) z_gWI (fun a_15 hz14 => ?_)
    exact z_ireturn dX10_isSeated_72 z_rWI hz14 (by decide) (by decide)
  have hJ_F_X10_isSeated_J35x : ∀ (v16 : Int32) (v17 : Int32) (D18 : z_Dat) , z_F l M_X10_isSeated (50, 700, 0, 0) 0 0 35 [some (.ref 0), some (.ref t), some (.int a0), some (.int v16), some (.int v17), none] [.int 0] S D18 (z_ko (z_kI S)) (F_X10_isSeated_J35x N t o a0 v16 v17 D18) := by
    intro v16 v17 D18
    unfold F_X10_isSeated_J35x
    refine z_istore (i := 5) (x := 0) (lv' := [some (.ref 0), some (.ref t), some (.int a0), some (.int v16), some (.int v17), some (.int 0)]) dX10_isSeated_35 (by decide) rfl rfl ?_
    refine z_aload_n (i := 0) (x := 0) dX10_isSeated_37 rfl rfl ?_
    refine z_getR (j := 3) dX10_isSeated_38 kl_10 hs0 (by decide) rfl rfl kf_X10_29 ?_
    refine z_iload_n (i := 3) (x := v16) dX10_isSeated_41 rfl rfl ?_
    refine z_aload_n (i := 1) (x := t) dX10_isSeated_42 rfl rfl ?_
    refine z_iload_n (i := 2) (x := a0) dX10_isSeated_43 rfl rfl ?_
    refine z_iconst (v := 1) dX10_isSeated_44 rfl ?_
    refine z_cP (As := [.ref t, .int a0, .int 1]) (rest := [.int v16, .ref 7]) (em_X9_has hl hT a0 1 D18) (fun o7 h => z_runV 216 2 h rfl kk_X10_216 hT.1 kl_9.1 kq_X9_has rfl (Nat.le_of_ble_eq_true rfl) ⟨Nat.le_of_ble_eq_true rfl, Nat.le_of_ble_eq_true rfl, Nat.le_of_ble_eq_true rfl, Nat.le_of_ble_eq_true rfl⟩ dX10_isSeated_45) z_gWI (fun hz19 => ?_)
    refine z_aload_n (i := 0) (x := 0) dX10_isSeated_48 rfl rfl ?_
    refine z_getR (j := 11) dX10_isSeated_49 kl_10 hs0 (by decide) rfl rfl kf_X10_82 ?_
    refine z_iload (i := 4) (x := v17) dX10_isSeated_52 rfl ?_
    refine z_cP (As := [.ref o, .int v17]) (rest := [.int (F_X9_has t a0 1 D18), .int v16, .ref 7]) (em_X1_rankOf hl hC v17 D18) (fun o7 h => z_runV 201 1 h rfl kk_X10_201 hC.1 kl_1.1 kq_X1_rankOf rfl (Nat.le_of_ble_eq_true rfl) ⟨Nat.le_of_ble_eq_true rfl, Nat.le_of_ble_eq_true rfl, Nat.le_of_ble_eq_true rfl, Nat.le_of_ble_eq_true rfl⟩ dX10_isSeated_54) z_gWI (fun hz20 => ?_)
    refine z_aload_n (i := 1) (x := t) dX10_isSeated_57 rfl rfl ?_
    refine z_iload_n (i := 2) (x := a0) dX10_isSeated_58 rfl rfl ?_
    refine z_iconst (v := 4) dX10_isSeated_59 rfl ?_
    refine z_cP (As := [.ref t, .int a0, .int 4]) (rest := [.int (F_X1_rankOf o v17 D18), .int (F_X9_has t a0 1 D18), .int v16, .ref 7]) (em_X9_has hl hT a0 4 D18) (fun o7 h => z_runV 216 2 h rfl kk_X10_216 hT.1 kl_9.1 kq_X9_has rfl (Nat.le_of_ble_eq_true rfl) ⟨Nat.le_of_ble_eq_true rfl, Nat.le_of_ble_eq_true rfl, Nat.le_of_ble_eq_true rfl, Nat.le_of_ble_eq_true rfl⟩ dX10_isSeated_60) z_gWI (fun hz21 => ?_)
    refine z_aload_n (i := 1) (x := t) dX10_isSeated_63 rfl rfl ?_
    refine z_cP (As := [.ref t]) (rest := [.int (F_X9_has t a0 4 D18), .int (F_X1_rankOf o v17 D18), .int (F_X9_has t a0 1 D18), .int v16, .ref 7]) (em_X9_year hl hT D18) (fun o7 h => z_runV 171 0 h rfl kk_X10_171 hT.1 kl_9.1 kq_X9_year rfl (Nat.le_of_ble_eq_true rfl) ⟨Nat.le_of_ble_eq_true rfl, Nat.le_of_ble_eq_true rfl, Nat.le_of_ble_eq_true rfl, Nat.le_of_ble_eq_true rfl⟩ dX10_isSeated_64) z_gWI (fun hz22 => ?_)
    refine z_iload (i := 5) (x := 0) dX10_isSeated_67 rfl ?_
    refine z_cWI (As := [.ref 7, .int v16, .int (F_X9_has t a0 1 D18), .int (F_X1_rankOf o v17 D18), .int (F_X9_has t a0 4 D18), .int (F_X9_year t D18), .int 0]) (rest := []) (em_X5_seats hl hW N v16 (F_X9_has t a0 1 D18) (F_X1_rankOf o v17 D18) (F_X9_has t a0 4 D18) (F_X9_year t D18) 0 D18) (fun o7 h => z_runV 235 6 h rfl kk_X10_235 hs7 kl_5.1 kq_X5_seats rfl (Nat.le_of_ble_eq_true rfl) ⟨Nat.le_of_ble_eq_true rfl, Nat.le_of_ble_eq_true rfl, Nat.le_of_ble_eq_true rfl, Nat.le_of_ble_eq_true rfl⟩ dX10_isSeated_69) z_gWI (fun a_24 hz23 => ?_)
    exact z_ireturn dX10_isSeated_72 z_rWI hz23 (by decide) (by decide)
  refine z_aload_n (i := 1) (x := t) dX10_isSeated_0 rfl rfl ?_
  refine z_iload_n (i := 2) (x := a0) dX10_isSeated_1 rfl rfl ?_
  refine z_iconst (v := 0) dX10_isSeated_2 rfl ?_
  refine z_cP (As := [.ref t, .int a0, .int 0]) (rest := []) (em_X9_has hl hT a0 0 D) (fun o7 h => z_runV 216 2 h rfl kk_X10_216 hT.1 kl_9.1 kq_X9_has rfl (Nat.le_of_ble_eq_true rfl) ⟨Nat.le_of_ble_eq_true rfl, Nat.le_of_ble_eq_true rfl, Nat.le_of_ble_eq_true rfl, Nat.le_of_ble_eq_true rfl⟩ dX10_isSeated_3) z_gWI (fun hz1 => ?_)
  refine z_topi (fun v2 => ?_)
  refine z_istore_n (i := 3) (x := v2) (lv' := [some (.ref 0), some (.ref t), some (.int a0), some (.int v2), none, none]) dX10_isSeated_6 rfl (by decide) rfl rfl ?_
  refine z_aload_n (i := 0) (x := 0) dX10_isSeated_7 rfl rfl ?_
  refine z_getR (j := 11) dX10_isSeated_8 kl_10 hs0 (by decide) rfl rfl kf_X10_82 ?_
  refine z_iload_n (i := 3) (x := v2) dX10_isSeated_11 rfl rfl ?_
  refine z_cR (As := [.ref o, .int v2]) (rest := []) (em_X1_nearest hl hC N v2 D) (fun o7 h => z_runV 219 1 h rfl kk_X10_219 hC.1 kl_1.1 kq_X1_nearest rfl (Nat.le_of_ble_eq_true rfl) ⟨Nat.le_of_ble_eq_true rfl, Nat.le_of_ble_eq_true rfl, Nat.le_of_ble_eq_true rfl, Nat.le_of_ble_eq_true rfl⟩ dX10_isSeated_12) z_gWI (fun a_4 hz3 => ?_)
  refine z_istore (i := 4) (x := a_4) (lv' := [some (.ref 0), some (.ref t), some (.int a0), some (.int v2), some (.int a_4), none]) dX10_isSeated_15 (by decide) rfl rfl ?_
  refine z_iload (i := 4) (x := a_4) dX10_isSeated_17 rfl ?_
  refine z_aload_n (i := 0) (x := 0) dX10_isSeated_19 rfl rfl ?_
  refine z_getR (j := 11) dX10_isSeated_20 kl_10 hs0 (by decide) rfl rfl kf_X10_82 ?_
  refine z_iload_n (i := 2) (x := a0) dX10_isSeated_23 rfl rfl ?_
  refine z_cP (As := [.ref o, .int a0]) (rest := [.int a_4]) (em_X1_homeOf hl hC a0 D) (fun o7 h => z_runV 213 1 h rfl kk_X10_213 hC.1 kl_1.1 kq_X1_homeOf rfl (Nat.le_of_ble_eq_true rfl) ⟨Nat.le_of_ble_eq_true rfl, Nat.le_of_ble_eq_true rfl, Nat.le_of_ble_eq_true rfl, Nat.le_of_ble_eq_true rfl⟩ dX10_isSeated_24) z_gWI (fun hz5 => ?_)
  refine z_icmp_ne 34 dX10_isSeated_27 (by decide) (fun c6 => ?_) (fun c6 => ?_)
  · refine z_iconst (v := 1) dX10_isSeated_30 rfl ?_
    refine z_goto 35 dX10_isSeated_31 (by decide) ?_
    exact hJ_F_X10_isSeated_J35 v2 a_4 D
  · refine z_iconst (v := 0) dX10_isSeated_34 rfl ?_
    exact hJ_F_X10_isSeated_J35x v2 a_4 D

def F_X10_seated_L4 (N : Nat) (t : Nat) (o : Nat) (kc4 : ((Int32 × Int32 × z_Dat) → Option (Int32 × z_Dat))) (v1 : Int32) (v2 : Int32) (D3 : z_Dat) : Option (Int32 × z_Dat) :=
  if (D3 o 6) ≤ v2 then (some (v1, D3))
  else (z_bd (F_X10_isSeated N o t v2 D3) (fun a_7 => if a_7.1 = 0 then (z_let (v2 + 1) (fun v9 => kc4 (v1, v9, a_7.2)))
  else (z_let (v1 + 1) (fun v10 => z_let (v2 + 1) (fun v11 => kc4 (v10, v11, a_7.2))))))
def F_X10_seated (N : Nat) (o : Nat) (t : Nat) (D : z_Dat) : Option (Int32 × z_Dat) :=
  z_loop (fun kc4 s => F_X10_seated_L4 N t o kc4 s.1 s.2.1 s.2.2) N (0, 0, D)
set_option maxRecDepth 100000 in
set_option maxHeartbeats 4000000 in
theorem em_X10_seated {l : Launch} {S : List z_Shp} {o : Nat} {t : Nat} (hl : l.stackTraces = false) (hW : z_W S o) (hT : z_isTown S t) (N : Nat) (D : z_Dat) : ∀ out, z_ko (z_kI S) (F_X10_seated N o t D) out → z_EM l M_X10_seated (60, 760, 0, 0) [.ref 0, .ref t] S D out := by
  have hC := hW.2
  have hs0 : S[0]? = some (12, 15, [some (some 1), some (some 3), some (some 5), some (some 7), some (some 12), some (some 15), some (some 21), some (some 25), some (some 28), some (some 32), some (some 33), some (some o), none, none, none]) := hW.1 0 _ rfl
  refine z_meth hl rfl kp_X10 (Nat.le_of_ble_eq_true rfl) (lv := [some (.ref 0), some (.ref t), none, none]) rfl ?_
  unfold F_X10_seated
  refine z_iconst (v := 0) dX10_seated_0 rfl ?_
  refine z_istore_n (i := 2) (x := 0) (lv' := [some (.ref 0), some (.ref t), some (.int 0), none]) dX10_seated_1 rfl (by decide) rfl rfl ?_
  refine z_iconst (v := 0) dX10_seated_2 rfl ?_
  refine z_istore_n (i := 3) (x := 0) (lv' := [some (.ref 0), some (.ref t), some (.int 0), some (.int 0)]) dX10_seated_3 rfl (by decide) rfl rfl ?_
  refine z_loops (lvOf := fun s : Int32 × Int32 × z_Dat => [some (.ref 0), some (.ref t), some (.int s.1), some (.int s.2.1)]) (dOf := fun s : Int32 × Int32 × z_Dat => s.2.2) (fun kc4 hkc4 s => ?_) N (0, 0, D)
  obtain ⟨v1, v2, D3⟩ := s
  show z_F _ _ _ _ _ 4 [some (.ref 0), some (.ref t), some (.int v1), some (.int v2)] [] S D3 _ (F_X10_seated_L4 N t o kc4 v1 v2 D3)
  unfold F_X10_seated_L4
  refine z_iload_n (i := 3) (x := v2) dX10_seated_4 rfl rfl ?_
  refine z_aload_n (i := 0) (x := 0) dX10_seated_5 rfl rfl ?_
  refine z_getR (j := 11) dX10_seated_6 kl_10 hs0 (by decide) rfl rfl kf_X10_82 ?_
  refine z_getIN (j := 6) dX10_seated_9 kl_1 hC.1 (by decide) rfl rfl kf_X10_134 ?_
  refine z_icmp_ge 33 dX10_seated_12 (by decide) (fun c5 => ?_) (fun c5 => ?_)
  · refine z_iload_n (i := 2) (x := v1) dX10_seated_33 rfl rfl ?_
    exact z_ireturn dX10_seated_34 z_rWI rfl (by decide) (by decide)
  · refine z_aload_n (i := 0) (x := 0) dX10_seated_15 rfl rfl ?_
    refine z_aload_n (i := 1) (x := t) dX10_seated_16 rfl rfl ?_
    refine z_iload_n (i := 3) (x := v2) dX10_seated_17 rfl rfl ?_
    refine z_cWI (As := [.ref 0, .ref t, .int v2]) (rest := []) (em_X10_isSeated hl hW hT N v2 D3) (fun o7 h => z_runV 222 2 h rfl kk_X10_222 hs0 kl_10.1 kq_X10_isSeated rfl (Nat.le_of_ble_eq_true rfl) ⟨Nat.le_of_ble_eq_true rfl, Nat.le_of_ble_eq_true rfl, Nat.le_of_ble_eq_true rfl, Nat.le_of_ble_eq_true rfl⟩ dX10_seated_18) z_gWI (fun a_7 hz6 => ?_)
    refine z_if_eq 27 dX10_seated_21 (by decide) (fun c8 => ?_) (fun c8 => ?_)
    · refine z_iinc (i := 3) (x := v2) (y := 1) dX10_seated_27 rfl (by decide) (by decide) rfl (fun v9 => ?_)
      refine z_goto 4 dX10_seated_30 (by decide) ?_
      exact hkc4 (v1, v9, a_7.2)
    · refine z_iinc (i := 2) (x := v1) (y := 1) dX10_seated_24 rfl (by decide) (by decide) rfl (fun v10 => ?_)
      refine z_iinc (i := 3) (x := v2) (y := 1) dX10_seated_27 rfl (by decide) (by decide) rfl (fun v11 => ?_)
      refine z_goto 4 dX10_seated_30 (by decide) ?_
      exact hkc4 (v10, v11, a_7.2)

def F_X9_married_L4 (t : Nat) (a0 : Int32) (D : z_Dat) (kc3 : ((Int32 × Int32) → Option Int32)) (v1 : Int32) (v2 : Int32) : Option Int32 :=
  if a0 ≤ v2 then (some v1)
  else (if (F_X9_has t v2 3 D) = (-1) then (z_let (v2 + 1) (fun v7 => kc3 (v1, v7)))
  else (z_let (v1 + 1) (fun v8 => z_let (v2 + 1) (fun v9 => kc3 (v8, v9)))))
def F_X9_married (N : Nat) (t : Nat) (a0 : Int32) (D : z_Dat) : Option Int32 :=
  z_loop (fun kc3 s => F_X9_married_L4 t a0 D kc3 s.1 s.2) N (0, 0)
set_option maxRecDepth 100000 in
set_option maxHeartbeats 4000000 in
theorem em_X9_married {l : Launch} {S : List z_Shp} {t : Nat} (hl : l.stackTraces = false) (hT : z_isTown S t) (N : Nat) (a0 : Int32) (D : z_Dat) : ∀ out, z_ko (z_kR S D) (F_X9_married N t a0 D) out → z_EM l M_X9_married (40, 640, 0, 0) [.ref t, .int a0] S D out := by
  refine z_meth hl rfl kp_X9 (Nat.le_of_ble_eq_true rfl) (lv := [some (.ref t), some (.int a0), none, none]) rfl ?_
  unfold F_X9_married
  refine z_iconst (v := 0) dX9_married_0 rfl ?_
  refine z_istore_n (i := 2) (x := 0) (lv' := [some (.ref t), some (.int a0), some (.int 0), none]) dX9_married_1 rfl (by decide) rfl rfl ?_
  refine z_iconst (v := 0) dX9_married_2 rfl ?_
  refine z_istore_n (i := 3) (x := 0) (lv' := [some (.ref t), some (.int a0), some (.int 0), some (.int 0)]) dX9_married_3 rfl (by decide) rfl rfl ?_
  refine z_loops (lvOf := fun s : Int32 × Int32 => [some (.ref t), some (.int a0), some (.int s.1), some (.int s.2)]) (dOf := fun s : Int32 × Int32 => D) (fun kc3 hkc3 s => ?_) N (0, 0)
  obtain ⟨v1, v2⟩ := s
  show z_F _ _ _ _ _ 4 [some (.ref t), some (.int a0), some (.int v1), some (.int v2)] [] S D _ (F_X9_married_L4 t a0 D kc3 v1 v2)
  unfold F_X9_married_L4
  refine z_iload_n (i := 3) (x := v2) dX9_married_4 rfl rfl ?_
  refine z_iload_n (i := 1) (x := a0) dX9_married_5 rfl rfl ?_
  refine z_icmp_ge 28 dX9_married_6 (by decide) (fun c4 => ?_) (fun c4 => ?_)
  · refine z_iload_n (i := 2) (x := v1) dX9_married_28 rfl rfl ?_
    exact z_ireturn dX9_married_29 z_rR rfl (by decide) (by decide)
  · refine z_aload_n (i := 0) (x := t) dX9_married_9 rfl rfl ?_
    refine z_iload_n (i := 3) (x := v2) dX9_married_10 rfl rfl ?_
    refine z_iconst (v := 3) dX9_married_11 rfl ?_
    refine z_cP (As := [.ref t, .int v2, .int 3]) (rest := []) (em_X9_has hl hT v2 3 D) (fun o7 h => z_runV 47 2 h rfl kk_X9_47 hT.1 kl_9.1 kq_X9_has rfl (Nat.le_of_ble_eq_true rfl) ⟨Nat.le_of_ble_eq_true rfl, Nat.le_of_ble_eq_true rfl, Nat.le_of_ble_eq_true rfl, Nat.le_of_ble_eq_true rfl⟩ dX9_married_12) z_gR (fun hz5 => ?_)
    refine z_iconst (v := (-1)) dX9_married_15 rfl ?_
    refine z_icmp_eq 22 dX9_married_16 (by decide) (fun c6 => ?_) (fun c6 => ?_)
    · refine z_iinc (i := 3) (x := v2) (y := 1) dX9_married_22 rfl (by decide) (by decide) rfl (fun v7 => ?_)
      refine z_goto 4 dX9_married_25 (by decide) ?_
      exact hkc3 (v1, v7)
    · refine z_iinc (i := 2) (x := v1) (y := 1) dX9_married_19 rfl (by decide) (by decide) rfl (fun v8 => ?_)
      refine z_iinc (i := 3) (x := v2) (y := 1) dX9_married_22 rfl (by decide) (by decide) rfl (fun v9 => ?_)
      refine z_goto 4 dX9_married_25 (by decide) ?_
      exact hkc3 (v8, v9)

def F_X9_unlikeShades_L15 (t : Nat) (kc3 : ((Int32 × Int32) → Option Int32)) (v1 : Int32) (v2 : Int32) (D : z_Dat) (kc7 : ((Int32 × Int32) → Option Int32)) (v5 : Int32) (v6 : Int32) : Option Int32 :=
  if v2 ≤ v6 then (if v5 = 0 then (z_let (v2 + 1) (fun v10 => kc3 (v1, v10)))
  else (z_let (v1 + 1) (fun v11 => z_let (v2 + 1) (fun v12 => kc3 (v11, v12)))))
  else (if (F_X9_has t v6 0 D) = (F_X9_has t v2 0 D) then (z_let (v6 + 1) (fun v16 => kc7 (0, v16)))
  else (z_let (v6 + 1) (fun v17 => kc7 (v5, v17))))
def F_X9_unlikeShades_L4 (N : Nat) (t : Nat) (a0 : Int32) (D : z_Dat) (kc3 : ((Int32 × Int32) → Option Int32)) (v1 : Int32) (v2 : Int32) : Option Int32 :=
  if a0 ≤ v2 then (some v1)
  else (z_loop (fun kc7 s => F_X9_unlikeShades_L15 t kc3 v1 v2 D kc7 s.1 s.2) N (1, 0))
def F_X9_unlikeShades (N : Nat) (t : Nat) (a0 : Int32) (D : z_Dat) : Option Int32 :=
  z_loop (fun kc3 s => F_X9_unlikeShades_L4 N t a0 D kc3 s.1 s.2) N (0, 0)
set_option maxRecDepth 100000 in
set_option maxHeartbeats 4000000 in
theorem em_X9_unlikeShades {l : Launch} {S : List z_Shp} {t : Nat} (hl : l.stackTraces = false) (hT : z_isTown S t) (N : Nat) (a0 : Int32) (D : z_Dat) : ∀ out, z_ko (z_kR S D) (F_X9_unlikeShades N t a0 D) out → z_EM l M_X9_unlikeShades (40, 640, 0, 0) [.ref t, .int a0] S D out := by
  refine z_meth hl rfl kp_X9 (Nat.le_of_ble_eq_true rfl) (lv := [some (.ref t), some (.int a0), none, none, none, none]) rfl ?_
  unfold F_X9_unlikeShades
  refine z_iconst (v := 0) dX9_unlikeShades_0 rfl ?_
  refine z_istore_n (i := 2) (x := 0) (lv' := [some (.ref t), some (.int a0), some (.int 0), none, none, none]) dX9_unlikeShades_1 rfl (by decide) rfl rfl ?_
  refine z_iconst (v := 0) dX9_unlikeShades_2 rfl ?_
  refine z_istore_n (i := 3) (x := 0) (lv' := [some (.ref t), some (.int a0), some (.int 0), some (.int 0), none, none]) dX9_unlikeShades_3 rfl (by decide) rfl rfl ?_
  refine z_loops (lvOf := fun s : Int32 × Int32 => [some (.ref t), some (.int a0), some (.int s.1), some (.int s.2), none, none]) (dOf := fun s : Int32 × Int32 => D) (fun kc3 hkc3 s => ?_) N (0, 0)
  obtain ⟨v1, v2⟩ := s
  show z_F _ _ _ _ _ 4 [some (.ref t), some (.int a0), some (.int v1), some (.int v2), none, none] [] S D _ (F_X9_unlikeShades_L4 N t a0 D kc3 v1 v2)
  unfold F_X9_unlikeShades_L4
  refine z_iload_n (i := 3) (x := v2) dX9_unlikeShades_4 rfl rfl ?_
  refine z_iload_n (i := 1) (x := a0) dX9_unlikeShades_5 rfl rfl ?_
  refine z_icmp_ge 60 dX9_unlikeShades_6 (by decide) (fun c4 => ?_) (fun c4 => ?_)
  · refine z_iload_n (i := 2) (x := v1) dX9_unlikeShades_60 rfl rfl ?_
    exact z_ireturn dX9_unlikeShades_61 z_rR rfl (by decide) (by decide)
  · refine z_iconst (v := 1) dX9_unlikeShades_9 rfl ?_
    refine z_istore (i := 4) (x := 1) (lv' := [some (.ref t), some (.int a0), some (.int v1), some (.int v2), some (.int 1), none]) dX9_unlikeShades_10 (by decide) rfl rfl ?_
    refine z_iconst (v := 0) dX9_unlikeShades_12 rfl ?_
    refine z_istore (i := 5) (x := 0) (lv' := [some (.ref t), some (.int a0), some (.int v1), some (.int v2), some (.int 1), some (.int 0)]) dX9_unlikeShades_13 (by decide) rfl rfl ?_
    refine z_loops (lvOf := fun s : Int32 × Int32 => [some (.ref t), some (.int a0), some (.int v1), some (.int v2), some (.int s.1), some (.int s.2)]) (dOf := fun s : Int32 × Int32 => D) (fun kc7 hkc7 s => ?_) N (1, 0)
    obtain ⟨v5, v6⟩ := s
    show z_F _ _ _ _ _ 15 [some (.ref t), some (.int a0), some (.int v1), some (.int v2), some (.int v5), some (.int v6)] [] S D _ (F_X9_unlikeShades_L15 t kc3 v1 v2 D kc7 v5 v6)
    unfold F_X9_unlikeShades_L15
    refine z_iload (i := 5) (x := v6) dX9_unlikeShades_15 rfl ?_
    refine z_iload_n (i := 3) (x := v2) dX9_unlikeShades_17 rfl rfl ?_
    refine z_icmp_ge 46 dX9_unlikeShades_18 (by decide) (fun c8 => ?_) (fun c8 => ?_)
    · refine z_iload (i := 4) (x := v5) dX9_unlikeShades_46 rfl ?_
      refine z_if_eq 54 dX9_unlikeShades_48 (by decide) (fun c9 => ?_) (fun c9 => ?_)
      · refine z_iinc (i := 3) (x := v2) (y := 1) dX9_unlikeShades_54 rfl (by decide) (by decide) rfl (fun v10 => ?_)
        refine z_goto 4 dX9_unlikeShades_57 (by decide) ?_
        refine z_weak (lv' := [some (.ref t), some (.int a0), some (.int v1), some (.int v10), none, none]) ⟨Or.inr rfl, ⟨Or.inr rfl, ⟨Or.inr rfl, ⟨Or.inr rfl, ⟨Or.inl rfl, ⟨Or.inl rfl, trivial⟩⟩⟩⟩⟩⟩ ?_
        exact hkc3 (v1, v10)
      · refine z_iinc (i := 2) (x := v1) (y := 1) dX9_unlikeShades_51 rfl (by decide) (by decide) rfl (fun v11 => ?_)
        refine z_iinc (i := 3) (x := v2) (y := 1) dX9_unlikeShades_54 rfl (by decide) (by decide) rfl (fun v12 => ?_)
        refine z_goto 4 dX9_unlikeShades_57 (by decide) ?_
        refine z_weak (lv' := [some (.ref t), some (.int a0), some (.int v11), some (.int v12), none, none]) ⟨Or.inr rfl, ⟨Or.inr rfl, ⟨Or.inr rfl, ⟨Or.inr rfl, ⟨Or.inl rfl, ⟨Or.inl rfl, trivial⟩⟩⟩⟩⟩⟩ ?_
        exact hkc3 (v11, v12)
    · refine z_aload_n (i := 0) (x := t) dX9_unlikeShades_21 rfl rfl ?_
      refine z_iload (i := 5) (x := v6) dX9_unlikeShades_22 rfl ?_
      refine z_iconst (v := 0) dX9_unlikeShades_24 rfl ?_
      refine z_cP (As := [.ref t, .int v6, .int 0]) (rest := []) (em_X9_has hl hT v6 0 D) (fun o7 h => z_runV 47 2 h rfl kk_X9_47 hT.1 kl_9.1 kq_X9_has rfl (Nat.le_of_ble_eq_true rfl) ⟨Nat.le_of_ble_eq_true rfl, Nat.le_of_ble_eq_true rfl, Nat.le_of_ble_eq_true rfl, Nat.le_of_ble_eq_true rfl⟩ dX9_unlikeShades_25) z_gR (fun hz13 => ?_)
      refine z_aload_n (i := 0) (x := t) dX9_unlikeShades_28 rfl rfl ?_
      refine z_iload_n (i := 3) (x := v2) dX9_unlikeShades_29 rfl rfl ?_
      refine z_iconst (v := 0) dX9_unlikeShades_30 rfl ?_
      refine z_cP (As := [.ref t, .int v2, .int 0]) (rest := [.int (F_X9_has t v6 0 D)]) (em_X9_has hl hT v2 0 D) (fun o7 h => z_runV 47 2 h rfl kk_X9_47 hT.1 kl_9.1 kq_X9_has rfl (Nat.le_of_ble_eq_true rfl) ⟨Nat.le_of_ble_eq_true rfl, Nat.le_of_ble_eq_true rfl, Nat.le_of_ble_eq_true rfl, Nat.le_of_ble_eq_true rfl⟩ dX9_unlikeShades_31) z_gR (fun hz14 => ?_)
      refine z_icmp_ne 40 dX9_unlikeShades_34 (by decide) (fun c15 => ?_) (fun c15 => ?_)
      · refine z_iconst (v := 0) dX9_unlikeShades_37 rfl ?_
        refine z_istore (i := 4) (x := 0) (lv' := [some (.ref t), some (.int a0), some (.int v1), some (.int v2), some (.int 0), some (.int v6)]) dX9_unlikeShades_38 (by decide) rfl rfl ?_
        refine z_iinc (i := 5) (x := v6) (y := 1) dX9_unlikeShades_40 rfl (by decide) (by decide) rfl (fun v16 => ?_)
        refine z_goto 15 dX9_unlikeShades_43 (by decide) ?_
        exact hkc7 (0, v16)
      · refine z_iinc (i := 5) (x := v6) (y := 1) dX9_unlikeShades_40 rfl (by decide) (by decide) rfl (fun v17 => ?_)
        refine z_goto 15 dX9_unlikeShades_43 (by decide) ?_
        exact hkc7 (v5, v17)

def F_X10_told_J16 (N : Nat) (o : Nat) (a0 : Int32) (D3 : z_Dat) : Option ((Int32 × z_Dat) ⊕ (String × z_Dat)) :=
  z_bt (F_X10_demand 0 D3) (fun a_5 => if a0 = 0 then (some (.inl (a_5 o 5, a_5)))
  else (if a0 = 1 then (some (.inl (a_5 o 6, a_5)))
  else (if a0 = 2 then (some (.inl (F_X9_year 3 a_5, a_5)))
  else (if a0 = 3 then (z_bd (F_X10_seated N o 3 a_5) (fun a_13 => some (.inl (a_13.1, a_13.2))))
  else (if a0 = 4 then (z_bd (F_X9_married N 3 (a_5 o 6) a_5) (fun a_11 => some (.inl (a_11, a_5))))
  else (if a0 = 5 then (z_bd (F_X9_unsalted N 3 (a_5 o 6) a_5) (fun a_9 => some (.inl ((a_5 o 6) - a_9, a_5))))
  else (if a0 = 6 then (some (.inl (a_5 12 2, a_5)))
  else (if a0 = 7 then (some (.inl (a_5 0 12, a_5)))
  else (if a0 = 8 then (z_bd (F_X9_unlikeShades N 3 (a_5 o 6) a_5) (fun a_7 => some (.inl (a_7, a_5))))
  else (some (.inl (a_5 o 7, a_5))))))))))))
def F_X10_told_J15 (N : Nat) (o : Nat) (a0 : Int32) (D2 : z_Dat) : Option ((Int32 × z_Dat) ⊕ (String × z_Dat)) :=
  F_X10_told_J16 N o a0 D2
def F_X10_told_J16x (N : Nat) (o : Nat) (a0 : Int32) (D16 : z_Dat) : Option ((Int32 × z_Dat) ⊕ (String × z_Dat)) :=
  z_bt (F_X10_demand 1 D16) (fun a_18 => if a0 = 0 then (some (.inl (a_18 o 5, a_18)))
  else (if a0 = 1 then (some (.inl (a_18 o 6, a_18)))
  else (if a0 = 2 then (some (.inl (F_X9_year 3 a_18, a_18)))
  else (if a0 = 3 then (z_bd (F_X10_seated N o 3 a_18) (fun a_26 => some (.inl (a_26.1, a_26.2))))
  else (if a0 = 4 then (z_bd (F_X9_married N 3 (a_18 o 6) a_18) (fun a_24 => some (.inl (a_24, a_18))))
  else (if a0 = 5 then (z_bd (F_X9_unsalted N 3 (a_18 o 6) a_18) (fun a_22 => some (.inl ((a_18 o 6) - a_22, a_18))))
  else (if a0 = 6 then (some (.inl (a_18 12 2, a_18)))
  else (if a0 = 7 then (some (.inl (a_18 0 12, a_18)))
  else (if a0 = 8 then (z_bd (F_X9_unlikeShades N 3 (a_18 o 6) a_18) (fun a_20 => some (.inl (a_20, a_18))))
  else (some (.inl (a_18 o 7, a_18))))))))))))
def F_X10_told (N : Nat) (o : Nat) (a0 : Int32) (D : z_Dat) : Option ((Int32 × z_Dat) ⊕ (String × z_Dat)) :=
  if a0 < 0 then (F_X10_told_J15 N o a0 D)
  else (if 9 < a0 then (F_X10_told_J15 N o a0 D)
  else (F_X10_told_J16x N o a0 D))
set_option maxRecDepth 100000 in
set_option maxHeartbeats 4000000 in
theorem em_X10_told {l : Launch} {S : List z_Shp} {o : Nat} (hl : l.stackTraces = false) (hW : z_W S o) (N : Nat) (a0 : Int32) (D : z_Dat) : ∀ out, z_ko (z_kTI S) (F_X10_told N o a0 D) out → z_EM l M_X10_told (70, 820, 1, 6) [.ref 0, .int a0] S D out := by
  have hC := hW.2
  have hs0 : S[0]? = some (12, 15, [some (some 1), some (some 3), some (some 5), some (some 7), some (some 12), some (some 15), some (some 21), some (some 25), some (some 28), some (some 32), some (some 33), some (some o), none, none, none]) := hW.1 0 _ rfl
  have hs3 : S[3]? = some (11, 1, [some (some 4)]) := hW.1 3 _ rfl
  have hs4 : S[4]? = some (0, 44, []) := hW.1 4 _ rfl
  have hs12 : S[12]? = some (2, 3, [some (some 13), some (some 14), none]) := hW.1 12 _ rfl
  refine z_meth hl rfl kp_X10 (Nat.le_of_ble_eq_true rfl) (lv := [some (.ref 0), some (.int a0)]) rfl ?_
  unfold F_X10_told
  have hJ_F_X10_told_J16 : ∀ (D3 : z_Dat) , z_F l M_X10_told (70, 820, 1, 6) 0 0 16 [some (.ref 0), some (.int a0)] [.int 0, .ref 0] S D3 (z_ko (z_kTI S)) (F_X10_told_J16 N o a0 D3) := by
    intro D3
    unfold F_X10_told_J16
    refine z_cXVI rfl (As := [.ref 0, .int 0]) (rest := []) (em_X10_demand hl hW 0 D3) (fun o7 h => z_runV 102 1 h rfl kk_X10_102 hs0 kl_10.1 kq_X10_demand rfl (Nat.le_of_ble_eq_true rfl) ⟨Nat.le_of_ble_eq_true rfl, Nat.le_of_ble_eq_true rfl, Nat.le_of_ble_eq_true rfl, Nat.le_of_ble_eq_true rfl⟩ dX10_told_16) (by decide) (by decide) (fun a_5 hz4 => ?_)
    refine z_iload_n (i := 1) (x := a0) dX10_told_19 rfl rfl ?_
    refine z_ite (fun h_0 => ?_) (fun h_0 => ?_)
    · refine z_tswC (c := 0) 72 dX10_told_20 h_0 (by decide) (by decide) rfl (by decide) ?_
      refine z_aload_n (i := 0) (x := 0) dX10_told_72 rfl rfl ?_
      refine z_getR (j := 11) dX10_told_73 kl_10 hs0 (by decide) rfl rfl kf_X10_82 ?_
      refine z_getIN (j := 5) dX10_told_76 kl_1 hC.1 (by decide) rfl rfl kf_X10_168 ?_
      exact z_ireturn dX10_told_79 z_rXI rfl (by decide) (by decide)
    · refine z_ite (fun h_1 => ?_) (fun h_1 => ?_)
      · refine z_tswC (c := 1) 80 dX10_told_20 h_1 (by decide) (by decide) rfl (by decide) ?_
        refine z_aload_n (i := 0) (x := 0) dX10_told_80 rfl rfl ?_
        refine z_getR (j := 11) dX10_told_81 kl_10 hs0 (by decide) rfl rfl kf_X10_82 ?_
        refine z_getIN (j := 6) dX10_told_84 kl_1 hC.1 (by decide) rfl rfl kf_X10_134 ?_
        exact z_ireturn dX10_told_87 z_rXI rfl (by decide) (by decide)
      · refine z_ite (fun h_2 => ?_) (fun h_2 => ?_)
        · refine z_tswC (c := 2) 88 dX10_told_20 h_2 (by decide) (by decide) rfl (by decide) ?_
          refine z_aload_n (i := 0) (x := 0) dX10_told_88 rfl rfl ?_
          refine z_getR (j := 1) dX10_told_89 kl_10 hs0 (by decide) rfl rfl kf_X10_19 ?_
          refine z_cP (As := [.ref 3]) (rest := []) (em_X9_year hl ⟨hs3, hs4⟩ a_5) (fun o7 h => z_runV 171 0 h rfl kk_X10_171 hs3 kl_9.1 kq_X9_year rfl (Nat.le_of_ble_eq_true rfl) ⟨Nat.le_of_ble_eq_true rfl, Nat.le_of_ble_eq_true rfl, Nat.le_of_ble_eq_true rfl, Nat.le_of_ble_eq_true rfl⟩ dX10_told_92) z_gXI (fun hz14 => ?_)
          exact z_ireturn dX10_told_95 z_rXI rfl (by decide) (by decide)
        · refine z_ite (fun h_3 => ?_) (fun h_3 => ?_)
          · refine z_tswC (c := 3) 96 dX10_told_20 h_3 (by decide) (by decide) rfl (by decide) ?_
            refine z_aload_n (i := 0) (x := 0) dX10_told_96 rfl rfl ?_
            refine z_aload_n (i := 0) (x := 0) dX10_told_97 rfl rfl ?_
            refine z_getR (j := 1) dX10_told_98 kl_10 hs0 (by decide) rfl rfl kf_X10_19 ?_
            refine z_cWI (As := [.ref 0, .ref 3]) (rest := []) (em_X10_seated hl hW ⟨hs3, hs4⟩ N a_5) (fun o7 h => z_runV 174 1 h rfl kk_X10_174 hs0 kl_10.1 kq_X10_seated rfl (Nat.le_of_ble_eq_true rfl) ⟨Nat.le_of_ble_eq_true rfl, Nat.le_of_ble_eq_true rfl, Nat.le_of_ble_eq_true rfl, Nat.le_of_ble_eq_true rfl⟩ dX10_told_101) z_gXI (fun a_13 hz12 => ?_)
            exact z_ireturn dX10_told_104 z_rXI rfl (by decide) (by decide)
          · refine z_ite (fun h_4 => ?_) (fun h_4 => ?_)
            · refine z_tswC (c := 4) 105 dX10_told_20 h_4 (by decide) (by decide) rfl (by decide) ?_
              refine z_aload_n (i := 0) (x := 0) dX10_told_105 rfl rfl ?_
              refine z_getR (j := 1) dX10_told_106 kl_10 hs0 (by decide) rfl rfl kf_X10_19 ?_
              refine z_aload_n (i := 0) (x := 0) dX10_told_109 rfl rfl ?_
              refine z_getR (j := 11) dX10_told_110 kl_10 hs0 (by decide) rfl rfl kf_X10_82 ?_
              refine z_getIN (j := 6) dX10_told_113 kl_1 hC.1 (by decide) rfl rfl kf_X10_134 ?_
              refine z_cR (As := [.ref 3, .int (a_5 o 6)]) (rest := []) (em_X9_married hl ⟨hs3, hs4⟩ N (a_5 o 6) a_5) (fun o7 h => z_runV 178 1 h rfl kk_X10_178 hs3 kl_9.1 kq_X9_married rfl (Nat.le_of_ble_eq_true rfl) ⟨Nat.le_of_ble_eq_true rfl, Nat.le_of_ble_eq_true rfl, Nat.le_of_ble_eq_true rfl, Nat.le_of_ble_eq_true rfl⟩ dX10_told_116) z_gXI (fun a_11 hz10 => ?_)
              exact z_ireturn dX10_told_119 z_rXI rfl (by decide) (by decide)
            · refine z_ite (fun h_5 => ?_) (fun h_5 => ?_)
              · refine z_tswC (c := 5) 120 dX10_told_20 h_5 (by decide) (by decide) rfl (by decide) ?_
                refine z_aload_n (i := 0) (x := 0) dX10_told_120 rfl rfl ?_
                refine z_getR (j := 11) dX10_told_121 kl_10 hs0 (by decide) rfl rfl kf_X10_82 ?_
                refine z_getIN (j := 6) dX10_told_124 kl_1 hC.1 (by decide) rfl rfl kf_X10_134 ?_
                refine z_aload_n (i := 0) (x := 0) dX10_told_127 rfl rfl ?_
                refine z_getR (j := 1) dX10_told_128 kl_10 hs0 (by decide) rfl rfl kf_X10_19 ?_
                refine z_aload_n (i := 0) (x := 0) dX10_told_131 rfl rfl ?_
                refine z_getR (j := 11) dX10_told_132 kl_10 hs0 (by decide) rfl rfl kf_X10_82 ?_
                refine z_getIN (j := 6) dX10_told_135 kl_1 hC.1 (by decide) rfl rfl kf_X10_134 ?_
                refine z_cR (As := [.ref 3, .int (a_5 o 6)]) (rest := [.int (a_5 o 6)]) (em_X9_unsalted hl ⟨hs3, hs4⟩ N (a_5 o 6) a_5) (fun o7 h => z_runV 182 1 h rfl kk_X10_182 hs3 kl_9.1 kq_X9_unsalted rfl (Nat.le_of_ble_eq_true rfl) ⟨Nat.le_of_ble_eq_true rfl, Nat.le_of_ble_eq_true rfl, Nat.le_of_ble_eq_true rfl, Nat.le_of_ble_eq_true rfl⟩ dX10_told_138) z_gXI (fun a_9 hz8 => ?_)
                refine z_isub dX10_told_141 ?_
                exact z_ireturn dX10_told_142 z_rXI rfl (by decide) (by decide)
              · refine z_ite (fun h_6 => ?_) (fun h_6 => ?_)
                · refine z_tswC (c := 6) 143 dX10_told_20 h_6 (by decide) (by decide) rfl (by decide) ?_
                  refine z_aload_n (i := 0) (x := 0) dX10_told_143 rfl rfl ?_
                  refine z_getR (j := 4) dX10_told_144 kl_10 hs0 (by decide) rfl rfl kf_X10_36 ?_
                  refine z_getIN (j := 2) dX10_told_147 kl_0 hs12 (by decide) rfl rfl kf_X10_159 ?_
                  exact z_ireturn dX10_told_150 z_rXI rfl (by decide) (by decide)
                · refine z_ite (fun h_7 => ?_) (fun h_7 => ?_)
                  · refine z_tswC (c := 7) 151 dX10_told_20 h_7 (by decide) (by decide) rfl (by decide) ?_
                    refine z_aload_n (i := 0) (x := 0) dX10_told_151 rfl rfl ?_
                    refine z_getI (j := 12) dX10_told_152 kl_10 hs0 (by decide) rfl rfl kf_X10_131 ?_
                    exact z_ireturn dX10_told_155 z_rXI rfl (by decide) (by decide)
                  · refine z_ite (fun h_8 => ?_) (fun h_8 => ?_)
                    · refine z_tswC (c := 8) 156 dX10_told_20 h_8 (by decide) (by decide) rfl (by decide) ?_
                      refine z_aload_n (i := 0) (x := 0) dX10_told_156 rfl rfl ?_
                      refine z_getR (j := 1) dX10_told_157 kl_10 hs0 (by decide) rfl rfl kf_X10_19 ?_
                      refine z_aload_n (i := 0) (x := 0) dX10_told_160 rfl rfl ?_
                      refine z_getR (j := 11) dX10_told_161 kl_10 hs0 (by decide) rfl rfl kf_X10_82 ?_
                      refine z_getIN (j := 6) dX10_told_164 kl_1 hC.1 (by decide) rfl rfl kf_X10_134 ?_
                      refine z_cR (As := [.ref 3, .int (a_5 o 6)]) (rest := []) (em_X9_unlikeShades hl ⟨hs3, hs4⟩ N (a_5 o 6) a_5) (fun o7 h => z_runV 185 1 h rfl kk_X10_185 hs3 kl_9.1 kq_X9_unlikeShades rfl (Nat.le_of_ble_eq_true rfl) ⟨Nat.le_of_ble_eq_true rfl, Nat.le_of_ble_eq_true rfl, Nat.le_of_ble_eq_true rfl, Nat.le_of_ble_eq_true rfl⟩ dX10_told_167) z_gXI (fun a_7 hz6 => ?_)
                      exact z_ireturn dX10_told_170 z_rXI rfl (by decide) (by decide)
                    · refine z_tswD 171 dX10_told_20 (by
                        have q0 := z_swn h_0 (k := 0) (by decide)
                        have q1 := z_swn h_1 (k := 1) (by decide)
                        have q2 := z_swn h_2 (k := 2) (by decide)
                        have q3 := z_swn h_3 (k := 3) (by decide)
                        have q4 := z_swn h_4 (k := 4) (by decide)
                        have q5 := z_swn h_5 (k := 5) (by decide)
                        have q6 := z_swn h_6 (k := 6) (by decide)
                        have q7 := z_swn h_7 (k := 7) (by decide)
                        have q8 := z_swn h_8 (k := 8) (by decide)
                        omega) (by decide) ?_
                      refine z_aload_n (i := 0) (x := 0) dX10_told_171 rfl rfl ?_
                      refine z_getR (j := 11) dX10_told_172 kl_10 hs0 (by decide) rfl rfl kf_X10_82 ?_
                      refine z_getIN (j := 7) dX10_told_175 kl_1 hC.1 (by decide) rfl rfl kf_X10_188 ?_
                      exact z_ireturn dX10_told_178 z_rXI rfl (by decide) (by decide)
  have hJ_F_X10_told_J15 : ∀ (D2 : z_Dat) , z_F l M_X10_told (70, 820, 1, 6) 0 0 15 [some (.ref 0), some (.int a0)] [.ref 0] S D2 (z_ko (z_kTI S)) (F_X10_told_J15 N o a0 D2) := by
    intro D2
    unfold F_X10_told_J15
    refine z_iconst (v := 0) dX10_told_15 rfl ?_
    refine z_widen (k := 0) (n := 0) (by decide) (by decide) ?_
    exact hJ_F_X10_told_J16 D2
  have hJ_F_X10_told_J16x : ∀ (D16 : z_Dat) , z_F l M_X10_told (70, 820, 1, 6) 0 0 16 [some (.ref 0), some (.int a0)] [.int 1, .ref 0] S D16 (z_ko (z_kTI S)) (F_X10_told_J16x N o a0 D16) := by
    intro D16
    unfold F_X10_told_J16x
    refine z_cXVI rfl (As := [.ref 0, .int 1]) (rest := []) (em_X10_demand hl hW 1 D16) (fun o7 h => z_runV 102 1 h rfl kk_X10_102 hs0 kl_10.1 kq_X10_demand rfl (Nat.le_of_ble_eq_true rfl) ⟨Nat.le_of_ble_eq_true rfl, Nat.le_of_ble_eq_true rfl, Nat.le_of_ble_eq_true rfl, Nat.le_of_ble_eq_true rfl⟩ dX10_told_16) (by decide) (by decide) (fun a_18 hz17 => ?_)
    refine z_iload_n (i := 1) (x := a0) dX10_told_19 rfl rfl ?_
    refine z_ite (fun h_0 => ?_) (fun h_0 => ?_)
    · refine z_tswC (c := 0) 72 dX10_told_20 h_0 (by decide) (by decide) rfl (by decide) ?_
      refine z_aload_n (i := 0) (x := 0) dX10_told_72 rfl rfl ?_
      refine z_getR (j := 11) dX10_told_73 kl_10 hs0 (by decide) rfl rfl kf_X10_82 ?_
      refine z_getIN (j := 5) dX10_told_76 kl_1 hC.1 (by decide) rfl rfl kf_X10_168 ?_
      exact z_ireturn dX10_told_79 z_rXI rfl (by decide) (by decide)
    · refine z_ite (fun h_1 => ?_) (fun h_1 => ?_)
      · refine z_tswC (c := 1) 80 dX10_told_20 h_1 (by decide) (by decide) rfl (by decide) ?_
        refine z_aload_n (i := 0) (x := 0) dX10_told_80 rfl rfl ?_
        refine z_getR (j := 11) dX10_told_81 kl_10 hs0 (by decide) rfl rfl kf_X10_82 ?_
        refine z_getIN (j := 6) dX10_told_84 kl_1 hC.1 (by decide) rfl rfl kf_X10_134 ?_
        exact z_ireturn dX10_told_87 z_rXI rfl (by decide) (by decide)
      · refine z_ite (fun h_2 => ?_) (fun h_2 => ?_)
        · refine z_tswC (c := 2) 88 dX10_told_20 h_2 (by decide) (by decide) rfl (by decide) ?_
          refine z_aload_n (i := 0) (x := 0) dX10_told_88 rfl rfl ?_
          refine z_getR (j := 1) dX10_told_89 kl_10 hs0 (by decide) rfl rfl kf_X10_19 ?_
          refine z_cP (As := [.ref 3]) (rest := []) (em_X9_year hl ⟨hs3, hs4⟩ a_18) (fun o7 h => z_runV 171 0 h rfl kk_X10_171 hs3 kl_9.1 kq_X9_year rfl (Nat.le_of_ble_eq_true rfl) ⟨Nat.le_of_ble_eq_true rfl, Nat.le_of_ble_eq_true rfl, Nat.le_of_ble_eq_true rfl, Nat.le_of_ble_eq_true rfl⟩ dX10_told_92) z_gXI (fun hz27 => ?_)
          exact z_ireturn dX10_told_95 z_rXI rfl (by decide) (by decide)
        · refine z_ite (fun h_3 => ?_) (fun h_3 => ?_)
          · refine z_tswC (c := 3) 96 dX10_told_20 h_3 (by decide) (by decide) rfl (by decide) ?_
            refine z_aload_n (i := 0) (x := 0) dX10_told_96 rfl rfl ?_
            refine z_aload_n (i := 0) (x := 0) dX10_told_97 rfl rfl ?_
            refine z_getR (j := 1) dX10_told_98 kl_10 hs0 (by decide) rfl rfl kf_X10_19 ?_
            refine z_cWI (As := [.ref 0, .ref 3]) (rest := []) (em_X10_seated hl hW ⟨hs3, hs4⟩ N a_18) (fun o7 h => z_runV 174 1 h rfl kk_X10_174 hs0 kl_10.1 kq_X10_seated rfl (Nat.le_of_ble_eq_true rfl) ⟨Nat.le_of_ble_eq_true rfl, Nat.le_of_ble_eq_true rfl, Nat.le_of_ble_eq_true rfl, Nat.le_of_ble_eq_true rfl⟩ dX10_told_101) z_gXI (fun a_26 hz25 => ?_)
            exact z_ireturn dX10_told_104 z_rXI rfl (by decide) (by decide)
          · refine z_ite (fun h_4 => ?_) (fun h_4 => ?_)
            · refine z_tswC (c := 4) 105 dX10_told_20 h_4 (by decide) (by decide) rfl (by decide) ?_
              refine z_aload_n (i := 0) (x := 0) dX10_told_105 rfl rfl ?_
              refine z_getR (j := 1) dX10_told_106 kl_10 hs0 (by decide) rfl rfl kf_X10_19 ?_
              refine z_aload_n (i := 0) (x := 0) dX10_told_109 rfl rfl ?_
              refine z_getR (j := 11) dX10_told_110 kl_10 hs0 (by decide) rfl rfl kf_X10_82 ?_
              refine z_getIN (j := 6) dX10_told_113 kl_1 hC.1 (by decide) rfl rfl kf_X10_134 ?_
              refine z_cR (As := [.ref 3, .int (a_18 o 6)]) (rest := []) (em_X9_married hl ⟨hs3, hs4⟩ N (a_18 o 6) a_18) (fun o7 h => z_runV 178 1 h rfl kk_X10_178 hs3 kl_9.1 kq_X9_married rfl (Nat.le_of_ble_eq_true rfl) ⟨Nat.le_of_ble_eq_true rfl, Nat.le_of_ble_eq_true rfl, Nat.le_of_ble_eq_true rfl, Nat.le_of_ble_eq_true rfl⟩ dX10_told_116) z_gXI (fun a_24 hz23 => ?_)
              exact z_ireturn dX10_told_119 z_rXI rfl (by decide) (by decide)
            · refine z_ite (fun h_5 => ?_) (fun h_5 => ?_)
              · refine z_tswC (c := 5) 120 dX10_told_20 h_5 (by decide) (by decide) rfl (by decide) ?_
                refine z_aload_n (i := 0) (x := 0) dX10_told_120 rfl rfl ?_
                refine z_getR (j := 11) dX10_told_121 kl_10 hs0 (by decide) rfl rfl kf_X10_82 ?_
                refine z_getIN (j := 6) dX10_told_124 kl_1 hC.1 (by decide) rfl rfl kf_X10_134 ?_
                refine z_aload_n (i := 0) (x := 0) dX10_told_127 rfl rfl ?_
                refine z_getR (j := 1) dX10_told_128 kl_10 hs0 (by decide) rfl rfl kf_X10_19 ?_
                refine z_aload_n (i := 0) (x := 0) dX10_told_131 rfl rfl ?_
                refine z_getR (j := 11) dX10_told_132 kl_10 hs0 (by decide) rfl rfl kf_X10_82 ?_
                refine z_getIN (j := 6) dX10_told_135 kl_1 hC.1 (by decide) rfl rfl kf_X10_134 ?_
                refine z_cR (As := [.ref 3, .int (a_18 o 6)]) (rest := [.int (a_18 o 6)]) (em_X9_unsalted hl ⟨hs3, hs4⟩ N (a_18 o 6) a_18) (fun o7 h => z_runV 182 1 h rfl kk_X10_182 hs3 kl_9.1 kq_X9_unsalted rfl (Nat.le_of_ble_eq_true rfl) ⟨Nat.le_of_ble_eq_true rfl, Nat.le_of_ble_eq_true rfl, Nat.le_of_ble_eq_true rfl, Nat.le_of_ble_eq_true rfl⟩ dX10_told_138) z_gXI (fun a_22 hz21 => ?_)
                refine z_isub dX10_told_141 ?_
                exact z_ireturn dX10_told_142 z_rXI rfl (by decide) (by decide)
              · refine z_ite (fun h_6 => ?_) (fun h_6 => ?_)
                · refine z_tswC (c := 6) 143 dX10_told_20 h_6 (by decide) (by decide) rfl (by decide) ?_
                  refine z_aload_n (i := 0) (x := 0) dX10_told_143 rfl rfl ?_
                  refine z_getR (j := 4) dX10_told_144 kl_10 hs0 (by decide) rfl rfl kf_X10_36 ?_
                  refine z_getIN (j := 2) dX10_told_147 kl_0 hs12 (by decide) rfl rfl kf_X10_159 ?_
                  exact z_ireturn dX10_told_150 z_rXI rfl (by decide) (by decide)
                · refine z_ite (fun h_7 => ?_) (fun h_7 => ?_)
                  · refine z_tswC (c := 7) 151 dX10_told_20 h_7 (by decide) (by decide) rfl (by decide) ?_
                    refine z_aload_n (i := 0) (x := 0) dX10_told_151 rfl rfl ?_
                    refine z_getI (j := 12) dX10_told_152 kl_10 hs0 (by decide) rfl rfl kf_X10_131 ?_
                    exact z_ireturn dX10_told_155 z_rXI rfl (by decide) (by decide)
                  · refine z_ite (fun h_8 => ?_) (fun h_8 => ?_)
                    · refine z_tswC (c := 8) 156 dX10_told_20 h_8 (by decide) (by decide) rfl (by decide) ?_
                      refine z_aload_n (i := 0) (x := 0) dX10_told_156 rfl rfl ?_
                      refine z_getR (j := 1) dX10_told_157 kl_10 hs0 (by decide) rfl rfl kf_X10_19 ?_
                      refine z_aload_n (i := 0) (x := 0) dX10_told_160 rfl rfl ?_
                      refine z_getR (j := 11) dX10_told_161 kl_10 hs0 (by decide) rfl rfl kf_X10_82 ?_
                      refine z_getIN (j := 6) dX10_told_164 kl_1 hC.1 (by decide) rfl rfl kf_X10_134 ?_
                      refine z_cR (As := [.ref 3, .int (a_18 o 6)]) (rest := []) (em_X9_unlikeShades hl ⟨hs3, hs4⟩ N (a_18 o 6) a_18) (fun o7 h => z_runV 185 1 h rfl kk_X10_185 hs3 kl_9.1 kq_X9_unlikeShades rfl (Nat.le_of_ble_eq_true rfl) ⟨Nat.le_of_ble_eq_true rfl, Nat.le_of_ble_eq_true rfl, Nat.le_of_ble_eq_true rfl, Nat.le_of_ble_eq_true rfl⟩ dX10_told_167) z_gXI (fun a_20 hz19 => ?_)
                      exact z_ireturn dX10_told_170 z_rXI rfl (by decide) (by decide)
                    · refine z_tswD 171 dX10_told_20 (by
                        have q0 := z_swn h_0 (k := 0) (by decide)
                        have q1 := z_swn h_1 (k := 1) (by decide)
                        have q2 := z_swn h_2 (k := 2) (by decide)
                        have q3 := z_swn h_3 (k := 3) (by decide)
                        have q4 := z_swn h_4 (k := 4) (by decide)
                        have q5 := z_swn h_5 (k := 5) (by decide)
                        have q6 := z_swn h_6 (k := 6) (by decide)
                        have q7 := z_swn h_7 (k := 7) (by decide)
                        have q8 := z_swn h_8 (k := 8) (by decide)
                        omega) (by decide) ?_
                      refine z_aload_n (i := 0) (x := 0) dX10_told_171 rfl rfl ?_
                      refine z_getR (j := 11) dX10_told_172 kl_10 hs0 (by decide) rfl rfl kf_X10_82 ?_
                      refine z_getIN (j := 7) dX10_told_175 kl_1 hC.1 (by decide) rfl rfl kf_X10_188 ?_
                      exact z_ireturn dX10_told_178 z_rXI rfl (by decide) (by decide)
  refine z_aload_n (i := 0) (x := 0) dX10_told_0 rfl rfl ?_
  refine z_iload_n (i := 1) (x := a0) dX10_told_1 rfl rfl ?_
  refine z_if_lt 15 dX10_told_2 (by decide) (fun c1 => ?_) (fun c1 => ?_)
  · refine z_widen (k := 0) (n := 0) (by decide) (by decide) ?_
    exact hJ_F_X10_told_J15 D
  · refine z_iload_n (i := 1) (x := a0) dX10_told_5 rfl rfl ?_
    refine z_bipush (v := 9) dX10_told_6 (by decide) ?_
    refine z_icmp_gt 15 dX10_told_8 (by decide) (fun c15 => ?_) (fun c15 => ?_)
    · refine z_widen (k := 0) (n := 0) (by decide) (by decide) ?_
      exact hJ_F_X10_told_J15 D
    · refine z_iconst (v := 1) dX10_told_11 rfl ?_
      refine z_goto 16 dX10_told_12 (by decide) ?_
      refine z_widen (k := 0) (n := 0) (by decide) (by decide) ?_
      exact hJ_F_X10_told_J16x D

def F_X1_hasStreet (o : Nat) (a0 : Int32) (D : z_Dat) : Int32 :=
  if a0 < 0 then (0)
  else (if (D o 5) ≤ a0 then (0)
  else (1))
set_option maxRecDepth 100000 in
set_option maxHeartbeats 4000000 in
theorem em_X1_hasStreet {l : Launch} {S : List z_Shp} {o : Nat} (hl : l.stackTraces = false) (hC : z_isCity S o) (a0 : Int32) (D : z_Dat) : ∀ out, z_kt (z_kR S D) (F_X1_hasStreet o a0 D) out → z_EM l M_X1_hasStreet (20, 520, 0, 0) [.ref o, .int a0] S D out := by
  refine z_meth hl rfl kp_X1 (Nat.le_of_ble_eq_true rfl) (lv := [some (.ref o), some (.int a0)]) rfl ?_
  unfold F_X1_hasStreet
  refine z_iload_n (i := 1) (x := a0) dX1_hasStreet_0 rfl rfl ?_
  refine z_if_lt 16 dX1_hasStreet_1 (by decide) (fun c1 => ?_) (fun c1 => ?_)
  · refine z_iconst (v := 0) dX1_hasStreet_16 rfl ?_
    exact z_ireturn dX1_hasStreet_17 z_rP rfl (by decide) (by decide)
  · refine z_iload_n (i := 1) (x := a0) dX1_hasStreet_4 rfl rfl ?_
    refine z_aload_n (i := 0) (x := o) dX1_hasStreet_5 rfl rfl ?_
    refine z_getI (j := 5) dX1_hasStreet_6 kl_1 hC.1 (by decide) rfl rfl kf_X1_55 ?_
    refine z_icmp_ge 16 dX1_hasStreet_9 (by decide) (fun c2 => ?_) (fun c2 => ?_)
    · refine z_iconst (v := 0) dX1_hasStreet_16 rfl ?_
      exact z_ireturn dX1_hasStreet_17 z_rP rfl (by decide) (by decide)
    · refine z_iconst (v := 1) dX1_hasStreet_12 rfl ?_
      refine z_goto 17 dX1_hasStreet_13 (by decide) ?_
      exact z_ireturn dX1_hasStreet_17 z_rP rfl (by decide) (by decide)

def F_X10_demandThere (a0 : Int32) (D : z_Dat) : Option (z_Dat ⊕ (String × z_Dat)) :=
  if a0 = 0 then (z_let (z_up D 0 13 ((D 0 13) + 1)) (fun D2 => some (.inr ("java/util/NoSuchElementException", D2))))
  else (some (.inl D))
set_option maxRecDepth 100000 in
set_option maxHeartbeats 4000000 in
theorem em_X10_demandThere {l : Launch} {S : List z_Shp} {o : Nat} (hl : l.stackTraces = false) (hW : z_W S o) (a0 : Int32) (D : z_Dat) : ∀ out, z_ko (z_kTV S) (F_X10_demandThere a0 D) out → z_EM l M_X10_demandThere (50, 520, 1, 6) [.ref 0, .int a0] S D out := by
  have hC := hW.2
  have hs0 : S[0]? = some (12, 15, [some (some 1), some (some 3), some (some 5), some (some 7), some (some 12), some (some 15), some (some 21), some (some 25), some (some 28), some (some 32), some (some 33), some (some o), none, none, none]) := hW.1 0 _ rfl
  refine z_meth hl rfl kp_X10 (Nat.le_of_ble_eq_true rfl) (lv := [some (.ref 0), some (.int a0)]) rfl ?_
  unfold F_X10_demandThere
  refine z_iload_n (i := 1) (x := a0) dX10_demandThere_0 rfl rfl ?_
  refine z_if_ne 22 dX10_demandThere_1 (by decide) (fun c1 => ?_) (fun c1 => ?_)
  · refine z_aload_n (i := 0) (x := 0) dX10_demandThere_4 rfl rfl ?_
    refine z_dup dX10_demandThere_5 rfl ?_
    refine z_getI (j := 13) dX10_demandThere_6 kl_10 hs0 (by decide) rfl rfl kf_X10_356 ?_
    refine z_iconst (v := 1) dX10_demandThere_9 rfl ?_
    refine z_iadd dX10_demandThere_10 ?_
    refine z_putI (j := 13) dX10_demandThere_11 kl_10 tyX10_ok nmX10 hs0 (by decide) rfl rfl rfl rfl rfl rfl kf_X10_356 (fun D2 => ?_)
    exact z_throwG ["java/lang/RuntimeException", "java/lang/Exception"] rfl (by decide +kernel) (by decide +kernel) (by decide +kernel) (by decide +kernel) (by decide +kernel) ⟨Nat.le_of_ble_eq_true rfl, Nat.le_of_ble_eq_true rfl, Nat.le_of_ble_eq_true rfl, Nat.le_of_ble_eq_true rfl⟩ dX10_demandThere_14 dX10_demandThere_17 dX10_demandThere_18 dX10_demandThere_21
  · exact z_vreturn dX10_demandThere_22 z_rXV trivial (by decide) (by decide)

def F_X10_seeming_L4 (N : Nat) (o : Nat) (a0 : Int32) (D : z_Dat) (kc3 : ((Int32 × Int32) → Option Int32)) (v1 : Int32) (v2 : Int32) : Option Int32 :=
  if (D o 6) ≤ v2 then (some v1)
  else (z_bd (F_X1_nearest N o (F_X9_has 3 v2 0 D) D) (fun a_7 => if a_7 = a0 then (z_let (v1 + 1) (fun v9 => z_let (v2 + 1) (fun v10 => kc3 (v9, v10))))
  else (z_let (v2 + 1) (fun v11 => kc3 (v1, v11)))))
def F_X10_seeming (N : Nat) (o : Nat) (a0 : Int32) (D : z_Dat) : Option Int32 :=
  z_loop (fun kc3 s => F_X10_seeming_L4 N o a0 D kc3 s.1 s.2) N (0, 0)
set_option maxRecDepth 100000 in
set_option maxHeartbeats 4000000 in
theorem em_X10_seeming {l : Launch} {S : List z_Shp} {o : Nat} (hl : l.stackTraces = false) (hW : z_W S o) (N : Nat) (a0 : Int32) (D : z_Dat) : ∀ out, z_ko (z_kR S D) (F_X10_seeming N o a0 D) out → z_EM l M_X10_seeming (50, 700, 0, 0) [.ref 0, .int a0] S D out := by
  have hC := hW.2
  have hs0 : S[0]? = some (12, 15, [some (some 1), some (some 3), some (some 5), some (some 7), some (some 12), some (some 15), some (some 21), some (some 25), some (some 28), some (some 32), some (some 33), some (some o), none, none, none]) := hW.1 0 _ rfl
  have hs3 : S[3]? = some (11, 1, [some (some 4)]) := hW.1 3 _ rfl
  have hs4 : S[4]? = some (0, 44, []) := hW.1 4 _ rfl
  refine z_meth hl rfl kp_X10 (Nat.le_of_ble_eq_true rfl) (lv := [some (.ref 0), some (.int a0), none, none]) rfl ?_
  unfold F_X10_seeming
  refine z_iconst (v := 0) dX10_seeming_0 rfl ?_
  refine z_istore_n (i := 2) (x := 0) (lv' := [some (.ref 0), some (.int a0), some (.int 0), none]) dX10_seeming_1 rfl (by decide) rfl rfl ?_
  refine z_iconst (v := 0) dX10_seeming_2 rfl ?_
  refine z_istore_n (i := 3) (x := 0) (lv' := [some (.ref 0), some (.int a0), some (.int 0), some (.int 0)]) dX10_seeming_3 rfl (by decide) rfl rfl ?_
  refine z_loops (lvOf := fun s : Int32 × Int32 => [some (.ref 0), some (.int a0), some (.int s.1), some (.int s.2)]) (dOf := fun s : Int32 × Int32 => D) (fun kc3 hkc3 s => ?_) N (0, 0)
  obtain ⟨v1, v2⟩ := s
  show z_F _ _ _ _ _ 4 [some (.ref 0), some (.int a0), some (.int v1), some (.int v2)] [] S D _ (F_X10_seeming_L4 N o a0 D kc3 v1 v2)
  unfold F_X10_seeming_L4
  refine z_iload_n (i := 3) (x := v2) dX10_seeming_4 rfl rfl ?_
  refine z_aload_n (i := 0) (x := 0) dX10_seeming_5 rfl rfl ?_
  refine z_getR (j := 11) dX10_seeming_6 kl_10 hs0 (by decide) rfl rfl kf_X10_82 ?_
  refine z_getIN (j := 6) dX10_seeming_9 kl_1 hC.1 (by decide) rfl rfl kf_X10_134 ?_
  refine z_icmp_ge 44 dX10_seeming_12 (by decide) (fun c4 => ?_) (fun c4 => ?_)
  · refine z_iload_n (i := 2) (x := v1) dX10_seeming_44 rfl rfl ?_
    exact z_ireturn dX10_seeming_45 z_rR rfl (by decide) (by decide)
  · refine z_aload_n (i := 0) (x := 0) dX10_seeming_15 rfl rfl ?_
    refine z_getR (j := 11) dX10_seeming_16 kl_10 hs0 (by decide) rfl rfl kf_X10_82 ?_
    refine z_aload_n (i := 0) (x := 0) dX10_seeming_19 rfl rfl ?_
    refine z_getR (j := 1) dX10_seeming_20 kl_10 hs0 (by decide) rfl rfl kf_X10_19 ?_
    refine z_iload_n (i := 3) (x := v2) dX10_seeming_23 rfl rfl ?_
    refine z_iconst (v := 0) dX10_seeming_24 rfl ?_
    refine z_cP (As := [.ref 3, .int v2, .int 0]) (rest := [.ref o]) (em_X9_has hl ⟨hs3, hs4⟩ v2 0 D) (fun o7 h => z_runV 216 2 h rfl kk_X10_216 hs3 kl_9.1 kq_X9_has rfl (Nat.le_of_ble_eq_true rfl) ⟨Nat.le_of_ble_eq_true rfl, Nat.le_of_ble_eq_true rfl, Nat.le_of_ble_eq_true rfl, Nat.le_of_ble_eq_true rfl⟩ dX10_seeming_25) z_gR (fun hz5 => ?_)
    refine z_cR (As := [.ref o, .int (F_X9_has 3 v2 0 D)]) (rest := []) (em_X1_nearest hl hC N (F_X9_has 3 v2 0 D) D) (fun o7 h => z_runV 219 1 h rfl kk_X10_219 hC.1 kl_1.1 kq_X1_nearest rfl (Nat.le_of_ble_eq_true rfl) ⟨Nat.le_of_ble_eq_true rfl, Nat.le_of_ble_eq_true rfl, Nat.le_of_ble_eq_true rfl, Nat.le_of_ble_eq_true rfl⟩ dX10_seeming_28) z_gR (fun a_7 hz6 => ?_)
    refine z_iload_n (i := 1) (x := a0) dX10_seeming_31 rfl rfl ?_
    refine z_icmp_ne 38 dX10_seeming_32 (by decide) (fun c8 => ?_) (fun c8 => ?_)
    · refine z_iinc (i := 2) (x := v1) (y := 1) dX10_seeming_35 rfl (by decide) (by decide) rfl (fun v9 => ?_)
      refine z_iinc (i := 3) (x := v2) (y := 1) dX10_seeming_38 rfl (by decide) (by decide) rfl (fun v10 => ?_)
      refine z_goto 4 dX10_seeming_41 (by decide) ?_
      exact hkc3 (v9, v10)
    · refine z_iinc (i := 3) (x := v2) (y := 1) dX10_seeming_38 rfl (by decide) (by decide) rfl (fun v11 => ?_)
      refine z_goto 4 dX10_seeming_41 (by decide) ?_
      exact hkc3 (v1, v11)

def F_X1_bornIn_L4 (o : Nat) (a0 : Int32) (D : z_Dat) (kc3 : ((Int32 × Int32) → Option Int32)) (v1 : Int32) (v2 : Int32) : Option Int32 :=
  if (D o 6) ≤ v2 then (some v1)
  else (if (F_X1_homeOf o v2 D) = a0 then (z_let (v1 + 1) (fun v7 => z_let (v2 + 1) (fun v8 => kc3 (v7, v8))))
  else (z_let (v2 + 1) (fun v9 => kc3 (v1, v9))))
def F_X1_bornIn (N : Nat) (o : Nat) (a0 : Int32) (D : z_Dat) : Option Int32 :=
  z_loop (fun kc3 s => F_X1_bornIn_L4 o a0 D kc3 s.1 s.2) N (0, 0)
set_option maxRecDepth 100000 in
set_option maxHeartbeats 4000000 in
theorem em_X1_bornIn {l : Launch} {S : List z_Shp} {o : Nat} (hl : l.stackTraces = false) (hC : z_isCity S o) (N : Nat) (a0 : Int32) (D : z_Dat) : ∀ out, z_ko (z_kR S D) (F_X1_bornIn N o a0 D) out → z_EM l M_X1_bornIn (40, 640, 0, 0) [.ref o, .int a0] S D out := by
  refine z_meth hl rfl kp_X1 (Nat.le_of_ble_eq_true rfl) (lv := [some (.ref o), some (.int a0), none, none]) rfl ?_
  unfold F_X1_bornIn
  refine z_iconst (v := 0) dX1_bornIn_0 rfl ?_
  refine z_istore_n (i := 2) (x := 0) (lv' := [some (.ref o), some (.int a0), some (.int 0), none]) dX1_bornIn_1 rfl (by decide) rfl rfl ?_
  refine z_iconst (v := 0) dX1_bornIn_2 rfl ?_
  refine z_istore_n (i := 3) (x := 0) (lv' := [some (.ref o), some (.int a0), some (.int 0), some (.int 0)]) dX1_bornIn_3 rfl (by decide) rfl rfl ?_
  refine z_loops (lvOf := fun s : Int32 × Int32 => [some (.ref o), some (.int a0), some (.int s.1), some (.int s.2)]) (dOf := fun s : Int32 × Int32 => D) (fun kc3 hkc3 s => ?_) N (0, 0)
  obtain ⟨v1, v2⟩ := s
  show z_F _ _ _ _ _ 4 [some (.ref o), some (.int a0), some (.int v1), some (.int v2)] [] S D _ (F_X1_bornIn_L4 o a0 D kc3 v1 v2)
  unfold F_X1_bornIn_L4
  refine z_iload_n (i := 3) (x := v2) dX1_bornIn_4 rfl rfl ?_
  refine z_aload_n (i := 0) (x := o) dX1_bornIn_5 rfl rfl ?_
  refine z_getI (j := 6) dX1_bornIn_6 kl_1 hC.1 (by decide) rfl rfl kf_X1_58 ?_
  refine z_icmp_ge 30 dX1_bornIn_9 (by decide) (fun c4 => ?_) (fun c4 => ?_)
  · refine z_iload_n (i := 2) (x := v1) dX1_bornIn_30 rfl rfl ?_
    exact z_ireturn dX1_bornIn_31 z_rR rfl (by decide) (by decide)
  · refine z_aload_n (i := 0) (x := o) dX1_bornIn_12 rfl rfl ?_
    refine z_iload_n (i := 3) (x := v2) dX1_bornIn_13 rfl rfl ?_
    refine z_cP (As := [.ref o, .int v2]) (rest := []) (em_X1_homeOf hl hC v2 D) (fun o7 h => z_runV 89 1 h rfl kk_X1_89 hC.1 kl_1.1 kq_X1_homeOf rfl (Nat.le_of_ble_eq_true rfl) ⟨Nat.le_of_ble_eq_true rfl, Nat.le_of_ble_eq_true rfl, Nat.le_of_ble_eq_true rfl, Nat.le_of_ble_eq_true rfl⟩ dX1_bornIn_14) z_gR (fun hz5 => ?_)
    refine z_iload_n (i := 1) (x := a0) dX1_bornIn_17 rfl rfl ?_
    refine z_icmp_ne 24 dX1_bornIn_18 (by decide) (fun c6 => ?_) (fun c6 => ?_)
    · refine z_iinc (i := 2) (x := v1) (y := 1) dX1_bornIn_21 rfl (by decide) (by decide) rfl (fun v7 => ?_)
      refine z_iinc (i := 3) (x := v2) (y := 1) dX1_bornIn_24 rfl (by decide) (by decide) rfl (fun v8 => ?_)
      refine z_goto 4 dX1_bornIn_27 (by decide) ?_
      exact hkc3 (v7, v8)
    · refine z_iinc (i := 3) (x := v2) (y := 1) dX1_bornIn_24 rfl (by decide) (by decide) rfl (fun v9 => ?_)
      refine z_goto 4 dX1_bornIn_27 (by decide) ?_
      exact hkc3 (v1, v9)

def F_X10_street_J27 (N : Nat) (o : Nat) (a0 : Int32) (a1 : Int32) (D6 : z_Dat) : Option ((Int32 × z_Dat) ⊕ (String × z_Dat)) :=
  z_bt (F_X10_demand 0 D6) (fun a_8 => if a1 = 0 then (some (.inl (F_X1_vatOf o a0 a_8, a_8)))
  else (if a1 = 1 then (some (.inl (F_X1_rankOf o a0 a_8, a_8)))
  else (if a1 = 2 then (z_bd (F_X10_seeming N o a0 a_8) (fun a_12 => some (.inl (a_12, a_8))))
  else (z_bd (F_X1_bornIn N o a0 a_8) (fun a_10 => some (.inl (a_10, a_8)))))))
def F_X10_street_J26 (N : Nat) (o : Nat) (a0 : Int32) (a1 : Int32) (D5 : z_Dat) : Option ((Int32 × z_Dat) ⊕ (String × z_Dat)) :=
  F_X10_street_J27 N o a0 a1 D5
def F_X10_street_J27x (N : Nat) (o : Nat) (a0 : Int32) (a1 : Int32) (D16 : z_Dat) : Option ((Int32 × z_Dat) ⊕ (String × z_Dat)) :=
  z_bt (F_X10_demand 1 D16) (fun a_18 => if a1 = 0 then (some (.inl (F_X1_vatOf o a0 a_18, a_18)))
  else (if a1 = 1 then (some (.inl (F_X1_rankOf o a0 a_18, a_18)))
  else (if a1 = 2 then (z_bd (F_X10_seeming N o a0 a_18) (fun a_22 => some (.inl (a_22, a_18))))
  else (z_bd (F_X1_bornIn N o a0 a_18) (fun a_20 => some (.inl (a_20, a_18)))))))
def F_X10_street (N : Nat) (o : Nat) (a0 : Int32) (a1 : Int32) (D : z_Dat) : Option ((Int32 × z_Dat) ⊕ (String × z_Dat)) :=
  z_bt (F_X10_demandThere (F_X1_hasStreet o a0 D) D) (fun a_3 => if a1 < 0 then (F_X10_street_J26 N o a0 a1 a_3)
  else (if 3 < a1 then (F_X10_street_J26 N o a0 a1 a_3)
  else (F_X10_street_J27x N o a0 a1 a_3)))
set_option maxRecDepth 100000 in
set_option maxHeartbeats 4000000 in
theorem em_X10_street {l : Launch} {S : List z_Shp} {o : Nat} (hl : l.stackTraces = false) (hW : z_W S o) (N : Nat) (a0 : Int32) (a1 : Int32) (D : z_Dat) : ∀ out, z_ko (z_kTI S) (F_X10_street N o a0 a1 D) out → z_EM l M_X10_street (60, 760, 2, 12) [.ref 0, .int a0, .int a1] S D out := by
  have hC := hW.2
  have hs0 : S[0]? = some (12, 15, [some (some 1), some (some 3), some (some 5), some (some 7), some (some 12), some (some 15), some (some 21), some (some 25), some (some 28), some (some 32), some (some 33), some (some o), none, none, none]) := hW.1 0 _ rfl
  refine z_meth hl rfl kp_X10 (Nat.le_of_ble_eq_true rfl) (lv := [some (.ref 0), some (.int a0), some (.int a1)]) rfl ?_
  unfold F_X10_street
  have hJ_F_X10_street_J27 : ∀ (D6 : z_Dat) , z_F l M_X10_street (60, 760, 2, 12) 1 6 27 [some (.ref 0), some (.int a0), some (.int a1)] [.int 0, .ref 0] S D6 (z_ko (z_kTI S)) (F_X10_street_J27 N o a0 a1 D6) := by
    intro D6
    unfold F_X10_street_J27
    refine z_cXVI rfl (As := [.ref 0, .int 0]) (rest := []) (em_X10_demand hl hW 0 D6) (fun o7 h => z_runV 102 1 h rfl kk_X10_102 hs0 kl_10.1 kq_X10_demand rfl (Nat.le_of_ble_eq_true rfl) ⟨Nat.le_of_ble_eq_true rfl, Nat.le_of_ble_eq_true rfl, Nat.le_of_ble_eq_true rfl, Nat.le_of_ble_eq_true rfl⟩ dX10_street_27) (by decide) (by decide) (fun a_8 hz7 => ?_)
    refine z_iload_n (i := 2) (x := a1) dX10_street_30 rfl rfl ?_
    refine z_ite (fun h_0 => ?_) (fun h_0 => ?_)
    · refine z_tswC (c := 0) 56 dX10_street_31 h_0 (by decide) (by decide) rfl (by decide) ?_
      refine z_aload_n (i := 0) (x := 0) dX10_street_56 rfl rfl ?_
      refine z_getR (j := 11) dX10_street_57 kl_10 hs0 (by decide) rfl rfl kf_X10_82 ?_
      refine z_iload_n (i := 1) (x := a0) dX10_street_60 rfl rfl ?_
      refine z_cP (As := [.ref o, .int a0]) (rest := []) (em_X1_vatOf hl hC a0 a_8) (fun o7 h => z_runV 198 1 h rfl kk_X10_198 hC.1 kl_1.1 kq_X1_vatOf rfl (Nat.le_of_ble_eq_true rfl) ⟨Nat.le_of_ble_eq_true rfl, Nat.le_of_ble_eq_true rfl, Nat.le_of_ble_eq_true rfl, Nat.le_of_ble_eq_true rfl⟩ dX10_street_61) z_gXI (fun hz14 => ?_)
      exact z_ireturn dX10_street_64 z_rXI rfl (by decide) (by decide)
    · refine z_ite (fun h_1 => ?_) (fun h_1 => ?_)
      · refine z_tswC (c := 1) 65 dX10_street_31 h_1 (by decide) (by decide) rfl (by decide) ?_
        refine z_aload_n (i := 0) (x := 0) dX10_street_65 rfl rfl ?_
        refine z_getR (j := 11) dX10_street_66 kl_10 hs0 (by decide) rfl rfl kf_X10_82 ?_
        refine z_iload_n (i := 1) (x := a0) dX10_street_69 rfl rfl ?_
        refine z_cP (As := [.ref o, .int a0]) (rest := []) (em_X1_rankOf hl hC a0 a_8) (fun o7 h => z_runV 201 1 h rfl kk_X10_201 hC.1 kl_1.1 kq_X1_rankOf rfl (Nat.le_of_ble_eq_true rfl) ⟨Nat.le_of_ble_eq_true rfl, Nat.le_of_ble_eq_true rfl, Nat.le_of_ble_eq_true rfl, Nat.le_of_ble_eq_true rfl⟩ dX10_street_70) z_gXI (fun hz13 => ?_)
        exact z_ireturn dX10_street_73 z_rXI rfl (by decide) (by decide)
      · refine z_ite (fun h_2 => ?_) (fun h_2 => ?_)
        · refine z_tswC (c := 2) 74 dX10_street_31 h_2 (by decide) (by decide) rfl (by decide) ?_
          refine z_aload_n (i := 0) (x := 0) dX10_street_74 rfl rfl ?_
          refine z_iload_n (i := 1) (x := a0) dX10_street_75 rfl rfl ?_
          refine z_cR (As := [.ref 0, .int a0]) (rest := []) (em_X10_seeming hl hW N a0 a_8) (fun o7 h => z_runV 204 1 h rfl kk_X10_204 hs0 kl_10.1 kq_X10_seeming rfl (Nat.le_of_ble_eq_true rfl) ⟨Nat.le_of_ble_eq_true rfl, Nat.le_of_ble_eq_true rfl, Nat.le_of_ble_eq_true rfl, Nat.le_of_ble_eq_true rfl⟩ dX10_street_76) z_gXI (fun a_12 hz11 => ?_)
          exact z_ireturn dX10_street_79 z_rXI rfl (by decide) (by decide)
        · refine z_tswD 80 dX10_street_31 (by
            have q0 := z_swn h_0 (k := 0) (by decide)
            have q1 := z_swn h_1 (k := 1) (by decide)
            have q2 := z_swn h_2 (k := 2) (by decide)
            omega) (by decide) ?_
          refine z_aload_n (i := 0) (x := 0) dX10_street_80 rfl rfl ?_
          refine z_getR (j := 11) dX10_street_81 kl_10 hs0 (by decide) rfl rfl kf_X10_82 ?_
          refine z_iload_n (i := 1) (x := a0) dX10_street_84 rfl rfl ?_
          refine z_cR (As := [.ref o, .int a0]) (rest := []) (em_X1_bornIn hl hC N a0 a_8) (fun o7 h => z_runV 207 1 h rfl kk_X10_207 hC.1 kl_1.1 kq_X1_bornIn rfl (Nat.le_of_ble_eq_true rfl) ⟨Nat.le_of_ble_eq_true rfl, Nat.le_of_ble_eq_true rfl, Nat.le_of_ble_eq_true rfl, Nat.le_of_ble_eq_true rfl⟩ dX10_street_85) z_gXI (fun a_10 hz9 => ?_)
          exact z_ireturn dX10_street_88 z_rXI rfl (by decide) (by decide)
  have hJ_F_X10_street_J26 : ∀ (D5 : z_Dat) , z_F l M_X10_street (60, 760, 2, 12) 1 6 26 [some (.ref 0), some (.int a0), some (.int a1)] [.ref 0] S D5 (z_ko (z_kTI S)) (F_X10_street_J26 N o a0 a1 D5) := by
    intro D5
    unfold F_X10_street_J26
    refine z_iconst (v := 0) dX10_street_26 rfl ?_
    refine z_widen (k := 1) (n := 6) (by decide) (by decide) ?_
    exact hJ_F_X10_street_J27 D5
  have hJ_F_X10_street_J27x : ∀ (D16 : z_Dat) , z_F l M_X10_street (60, 760, 2, 12) 1 6 27 [some (.ref 0), some (.int a0), some (.int a1)] [.int 1, .ref 0] S D16 (z_ko (z_kTI S)) (F_X10_street_J27x N o a0 a1 D16) := by
    intro D16
    unfold F_X10_street_J27x
    refine z_cXVI rfl (As := [.ref 0, .int 1]) (rest := []) (em_X10_demand hl hW 1 D16) (fun o7 h => z_runV 102 1 h rfl kk_X10_102 hs0 kl_10.1 kq_X10_demand rfl (Nat.le_of_ble_eq_true rfl) ⟨Nat.le_of_ble_eq_true rfl, Nat.le_of_ble_eq_true rfl, Nat.le_of_ble_eq_true rfl, Nat.le_of_ble_eq_true rfl⟩ dX10_street_27) (by decide) (by decide) (fun a_18 hz17 => ?_)
    refine z_iload_n (i := 2) (x := a1) dX10_street_30 rfl rfl ?_
    refine z_ite (fun h_0 => ?_) (fun h_0 => ?_)
    · refine z_tswC (c := 0) 56 dX10_street_31 h_0 (by decide) (by decide) rfl (by decide) ?_
      refine z_aload_n (i := 0) (x := 0) dX10_street_56 rfl rfl ?_
      refine z_getR (j := 11) dX10_street_57 kl_10 hs0 (by decide) rfl rfl kf_X10_82 ?_
      refine z_iload_n (i := 1) (x := a0) dX10_street_60 rfl rfl ?_
      refine z_cP (As := [.ref o, .int a0]) (rest := []) (em_X1_vatOf hl hC a0 a_18) (fun o7 h => z_runV 198 1 h rfl kk_X10_198 hC.1 kl_1.1 kq_X1_vatOf rfl (Nat.le_of_ble_eq_true rfl) ⟨Nat.le_of_ble_eq_true rfl, Nat.le_of_ble_eq_true rfl, Nat.le_of_ble_eq_true rfl, Nat.le_of_ble_eq_true rfl⟩ dX10_street_61) z_gXI (fun hz24 => ?_)
      exact z_ireturn dX10_street_64 z_rXI rfl (by decide) (by decide)
    · refine z_ite (fun h_1 => ?_) (fun h_1 => ?_)
      · refine z_tswC (c := 1) 65 dX10_street_31 h_1 (by decide) (by decide) rfl (by decide) ?_
        refine z_aload_n (i := 0) (x := 0) dX10_street_65 rfl rfl ?_
        refine z_getR (j := 11) dX10_street_66 kl_10 hs0 (by decide) rfl rfl kf_X10_82 ?_
        refine z_iload_n (i := 1) (x := a0) dX10_street_69 rfl rfl ?_
        refine z_cP (As := [.ref o, .int a0]) (rest := []) (em_X1_rankOf hl hC a0 a_18) (fun o7 h => z_runV 201 1 h rfl kk_X10_201 hC.1 kl_1.1 kq_X1_rankOf rfl (Nat.le_of_ble_eq_true rfl) ⟨Nat.le_of_ble_eq_true rfl, Nat.le_of_ble_eq_true rfl, Nat.le_of_ble_eq_true rfl, Nat.le_of_ble_eq_true rfl⟩ dX10_street_70) z_gXI (fun hz23 => ?_)
        exact z_ireturn dX10_street_73 z_rXI rfl (by decide) (by decide)
      · refine z_ite (fun h_2 => ?_) (fun h_2 => ?_)
        · refine z_tswC (c := 2) 74 dX10_street_31 h_2 (by decide) (by decide) rfl (by decide) ?_
          refine z_aload_n (i := 0) (x := 0) dX10_street_74 rfl rfl ?_
          refine z_iload_n (i := 1) (x := a0) dX10_street_75 rfl rfl ?_
          refine z_cR (As := [.ref 0, .int a0]) (rest := []) (em_X10_seeming hl hW N a0 a_18) (fun o7 h => z_runV 204 1 h rfl kk_X10_204 hs0 kl_10.1 kq_X10_seeming rfl (Nat.le_of_ble_eq_true rfl) ⟨Nat.le_of_ble_eq_true rfl, Nat.le_of_ble_eq_true rfl, Nat.le_of_ble_eq_true rfl, Nat.le_of_ble_eq_true rfl⟩ dX10_street_76) z_gXI (fun a_22 hz21 => ?_)
          exact z_ireturn dX10_street_79 z_rXI rfl (by decide) (by decide)
        · refine z_tswD 80 dX10_street_31 (by
            have q0 := z_swn h_0 (k := 0) (by decide)
            have q1 := z_swn h_1 (k := 1) (by decide)
            have q2 := z_swn h_2 (k := 2) (by decide)
            omega) (by decide) ?_
          refine z_aload_n (i := 0) (x := 0) dX10_street_80 rfl rfl ?_
          refine z_getR (j := 11) dX10_street_81 kl_10 hs0 (by decide) rfl rfl kf_X10_82 ?_
          refine z_iload_n (i := 1) (x := a0) dX10_street_84 rfl rfl ?_
          refine z_cR (As := [.ref o, .int a0]) (rest := []) (em_X1_bornIn hl hC N a0 a_18) (fun o7 h => z_runV 207 1 h rfl kk_X10_207 hC.1 kl_1.1 kq_X1_bornIn rfl (Nat.le_of_ble_eq_true rfl) ⟨Nat.le_of_ble_eq_true rfl, Nat.le_of_ble_eq_true rfl, Nat.le_of_ble_eq_true rfl, Nat.le_of_ble_eq_true rfl⟩ dX10_street_85) z_gXI (fun a_20 hz19 => ?_)
          exact z_ireturn dX10_street_88 z_rXI rfl (by decide) (by decide)
  refine z_aload_n (i := 0) (x := 0) dX10_street_0 rfl rfl ?_
  refine z_aload_n (i := 0) (x := 0) dX10_street_1 rfl rfl ?_
  refine z_getR (j := 11) dX10_street_2 kl_10 hs0 (by decide) rfl rfl kf_X10_82 ?_
  refine z_iload_n (i := 1) (x := a0) dX10_street_5 rfl rfl ?_
  refine z_cP (As := [.ref o, .int a0]) (rest := [.ref 0]) (em_X1_hasStreet hl hC a0 D) (fun o7 h => z_runV 191 1 h rfl kk_X10_191 hC.1 kl_1.1 kq_X1_hasStreet rfl (Nat.le_of_ble_eq_true rfl) ⟨Nat.le_of_ble_eq_true rfl, Nat.le_of_ble_eq_true rfl, Nat.le_of_ble_eq_true rfl, Nat.le_of_ble_eq_true rfl⟩ dX10_street_6) z_gXI (fun hz1 => ?_)
  refine z_cXVI rfl (As := [.ref 0, .int (F_X1_hasStreet o a0 D)]) (rest := []) (em_X10_demandThere hl hW (F_X1_hasStreet o a0 D) D) (fun o7 h => z_runV 195 1 h rfl kk_X10_195 hs0 kl_10.1 kq_X10_demandThere rfl (Nat.le_of_ble_eq_true rfl) ⟨Nat.le_of_ble_eq_true rfl, Nat.le_of_ble_eq_true rfl, Nat.le_of_ble_eq_true rfl, Nat.le_of_ble_eq_true rfl⟩ dX10_street_9) (by decide) (by decide) (fun a_3 hz2 => ?_)
  refine z_aload_n (i := 0) (x := 0) dX10_street_12 rfl rfl ?_
  refine z_iload_n (i := 2) (x := a1) dX10_street_13 rfl rfl ?_
  refine z_if_lt 26 dX10_street_14 (by decide) (fun c4 => ?_) (fun c4 => ?_)
  · refine z_widen (k := 1) (n := 6) (by decide) (by decide) ?_
    exact hJ_F_X10_street_J26 a_3
  · refine z_iload_n (i := 2) (x := a1) dX10_street_17 rfl rfl ?_
    refine z_iconst (v := 3) dX10_street_18 rfl ?_
    refine z_icmp_gt 26 dX10_street_19 (by decide) (fun c15 => ?_) (fun c15 => ?_)
    · refine z_widen (k := 1) (n := 6) (by decide) (by decide) ?_
      exact hJ_F_X10_street_J26 a_3
    · refine z_iconst (v := 1) dX10_street_22 rfl ?_
      refine z_goto 27 dX10_street_23 (by decide) ?_
      refine z_widen (k := 1) (n := 6) (by decide) (by decide) ?_
      exact hJ_F_X10_street_J27x a_3

def F_X1_hasPerson (o : Nat) (a0 : Int32) (D : z_Dat) : Int32 :=
  if a0 < 0 then (0)
  else (if (D o 6) ≤ a0 then (0)
  else (1))
set_option maxRecDepth 100000 in
set_option maxHeartbeats 4000000 in
theorem em_X1_hasPerson {l : Launch} {S : List z_Shp} {o : Nat} (hl : l.stackTraces = false) (hC : z_isCity S o) (a0 : Int32) (D : z_Dat) : ∀ out, z_kt (z_kR S D) (F_X1_hasPerson o a0 D) out → z_EM l M_X1_hasPerson (20, 520, 0, 0) [.ref o, .int a0] S D out := by
  refine z_meth hl rfl kp_X1 (Nat.le_of_ble_eq_true rfl) (lv := [some (.ref o), some (.int a0)]) rfl ?_
  unfold F_X1_hasPerson
  refine z_iload_n (i := 1) (x := a0) dX1_hasPerson_0 rfl rfl ?_
  refine z_if_lt 16 dX1_hasPerson_1 (by decide) (fun c1 => ?_) (fun c1 => ?_)
  · refine z_iconst (v := 0) dX1_hasPerson_16 rfl ?_
    exact z_ireturn dX1_hasPerson_17 z_rP rfl (by decide) (by decide)
  · refine z_iload_n (i := 1) (x := a0) dX1_hasPerson_4 rfl rfl ?_
    refine z_aload_n (i := 0) (x := o) dX1_hasPerson_5 rfl rfl ?_
    refine z_getI (j := 6) dX1_hasPerson_6 kl_1 hC.1 (by decide) rfl rfl kf_X1_58 ?_
    refine z_icmp_ge 16 dX1_hasPerson_9 (by decide) (fun c2 => ?_) (fun c2 => ?_)
    · refine z_iconst (v := 0) dX1_hasPerson_16 rfl ?_
      exact z_ireturn dX1_hasPerson_17 z_rP rfl (by decide) (by decide)
    · refine z_iconst (v := 1) dX1_hasPerson_12 rfl ?_
      refine z_goto 17 dX1_hasPerson_13 (by decide) ?_
      exact z_ireturn dX1_hasPerson_17 z_rP rfl (by decide) (by decide)

def F_X10_person_J28 (N : Nat) (o : Nat) (a0 : Int32) (a1 : Int32) (D6 : z_Dat) : Option ((Int32 × z_Dat) ⊕ (String × z_Dat)) :=
  z_bt (F_X10_demand 0 D6) (fun a_8 => if a1 = 0 then (some (.inl (F_X1_homeOf o a0 a_8, a_8)))
  else (if a1 = 1 then (some (.inl (F_X9_has 3 a0 1 a_8, a_8)))
  else (if a1 = 2 then (some (.inl (F_X9_has 3 a0 0 a_8, a_8)))
  else (if a1 = 3 then (z_bd (F_X1_nearest N o (F_X9_has 3 a0 0 a_8) a_8) (fun a_17 => some (.inl (a_17, a_8))))
  else (if a1 = 4 then (some (.inl (F_X9_has 3 a0 4 a_8, a_8)))
  else (if a1 = 5 then (some (.inl (F_X9_has 3 a0 3 a_8, a_8)))
  else (if a1 = 6 then (some (.inl (F_X9_has 3 a0 2 a_8, a_8)))
  else (z_bd (F_X10_isSeated N o 3 a0 a_8) (fun a_10 => if a_10.1 = 0 then (some (.inl (0, a_10.2)))
  else (some (.inl (1, a_10.2))))))))))))
def F_X10_person_J27 (N : Nat) (o : Nat) (a0 : Int32) (a1 : Int32) (D5 : z_Dat) : Option ((Int32 × z_Dat) ⊕ (String × z_Dat)) :=
  F_X10_person_J28 N o a0 a1 D5
def F_X10_person_J28x (N : Nat) (o : Nat) (a0 : Int32) (a1 : Int32) (D22 : z_Dat) : Option ((Int32 × z_Dat) ⊕ (String × z_Dat)) :=
  z_bt (F_X10_demand 1 D22) (fun a_24 => if a1 = 0 then (some (.inl (F_X1_homeOf o a0 a_24, a_24)))
  else (if a1 = 1 then (some (.inl (F_X9_has 3 a0 1 a_24, a_24)))
  else (if a1 = 2 then (some (.inl (F_X9_has 3 a0 0 a_24, a_24)))
  else (if a1 = 3 then (z_bd (F_X1_nearest N o (F_X9_has 3 a0 0 a_24) a_24) (fun a_33 => some (.inl (a_33, a_24))))
  else (if a1 = 4 then (some (.inl (F_X9_has 3 a0 4 a_24, a_24)))
  else (if a1 = 5 then (some (.inl (F_X9_has 3 a0 3 a_24, a_24)))
  else (if a1 = 6 then (some (.inl (F_X9_has 3 a0 2 a_24, a_24)))
  else (z_bd (F_X10_isSeated N o 3 a0 a_24) (fun a_26 => if a_26.1 = 0 then (some (.inl (0, a_26.2)))
  else (some (.inl (1, a_26.2))))))))))))
def F_X10_person (N : Nat) (o : Nat) (a0 : Int32) (a1 : Int32) (D : z_Dat) : Option ((Int32 × z_Dat) ⊕ (String × z_Dat)) :=
  z_bt (F_X10_demandThere (F_X1_hasPerson o a0 D) D) (fun a_3 => if a1 < 0 then (F_X10_person_J27 N o a0 a1 a_3)
  else (if 7 < a1 then (F_X10_person_J27 N o a0 a1 a_3)
  else (F_X10_person_J28x N o a0 a1 a_3)))
set_option maxRecDepth 100000 in
set_option maxHeartbeats 4000000 in
theorem em_X10_person {l : Launch} {S : List z_Shp} {o : Nat} (hl : l.stackTraces = false) (hW : z_W S o) (N : Nat) (a0 : Int32) (a1 : Int32) (D : z_Dat) : ∀ out, z_ko (z_kTI S) (F_X10_person N o a0 a1 D) out → z_EM l M_X10_person (60, 760, 2, 12) [.ref 0, .int a0, .int a1] S D out := by
  have hC := hW.2
  have hs0 : S[0]? = some (12, 15, [some (some 1), some (some 3), some (some 5), some (some 7), some (some 12), some (some 15), some (some 21), some (some 25), some (some 28), some (some 32), some (some 33), some (some o), none, none, none]) := hW.1 0 _ rfl
  have hs3 : S[3]? = some (11, 1, [some (some 4)]) := hW.1 3 _ rfl
  have hs4 : S[4]? = some (0, 44, []) := hW.1 4 _ rfl
  refine z_meth hl rfl kp_X10 (Nat.le_of_ble_eq_true rfl) (lv := [some (.ref 0), some (.int a0), some (.int a1)]) rfl ?_
  unfold F_X10_person
  have hJ_F_X10_person_J28 : ∀ (D6 : z_Dat) , z_F l M_X10_person (60, 760, 2, 12) 1 6 28 [some (.ref 0), some (.int a0), some (.int a1)] [.int 0, .ref 0] S D6 (z_ko (z_kTI S)) (F_X10_person_J28 N o a0 a1 D6) := by
    intro D6
    unfold F_X10_person_J28
    refine z_cXVI rfl (As := [.ref 0, .int 0]) (rest := []) (em_X10_demand hl hW 0 D6) (fun o7 h => z_runV 102 1 h rfl kk_X10_102 hs0 kl_10.1 kq_X10_demand rfl (Nat.le_of_ble_eq_true rfl) ⟨Nat.le_of_ble_eq_true rfl, Nat.le_of_ble_eq_true rfl, Nat.le_of_ble_eq_true rfl, Nat.le_of_ble_eq_true rfl⟩ dX10_person_28) (by decide) (by decide) (fun a_8 hz7 => ?_)
    refine z_iload_n (i := 2) (x := a1) dX10_person_31 rfl rfl ?_
    refine z_ite (fun h_0 => ?_) (fun h_0 => ?_)
    · refine z_tswC (c := 0) 76 dX10_person_32 h_0 (by decide) (by decide) rfl (by decide) ?_
      refine z_aload_n (i := 0) (x := 0) dX10_person_76 rfl rfl ?_
      refine z_getR (j := 11) dX10_person_77 kl_10 hs0 (by decide) rfl rfl kf_X10_82 ?_
      refine z_iload_n (i := 1) (x := a0) dX10_person_80 rfl rfl ?_
      refine z_cP (As := [.ref o, .int a0]) (rest := []) (em_X1_homeOf hl hC a0 a_8) (fun o7 h => z_runV 213 1 h rfl kk_X10_213 hC.1 kl_1.1 kq_X1_homeOf rfl (Nat.le_of_ble_eq_true rfl) ⟨Nat.le_of_ble_eq_true rfl, Nat.le_of_ble_eq_true rfl, Nat.le_of_ble_eq_true rfl, Nat.le_of_ble_eq_true rfl⟩ dX10_person_81) z_gXI (fun hz20 => ?_)
      exact z_ireturn dX10_person_84 z_rXI rfl (by decide) (by decide)
    · refine z_ite (fun h_1 => ?_) (fun h_1 => ?_)
      · refine z_tswC (c := 1) 85 dX10_person_32 h_1 (by decide) (by decide) rfl (by decide) ?_
        refine z_aload_n (i := 0) (x := 0) dX10_person_85 rfl rfl ?_
        refine z_getR (j := 1) dX10_person_86 kl_10 hs0 (by decide) rfl rfl kf_X10_19 ?_
        refine z_iload_n (i := 1) (x := a0) dX10_person_89 rfl rfl ?_
        refine z_iconst (v := 1) dX10_person_90 rfl ?_
        refine z_cP (As := [.ref 3, .int a0, .int 1]) (rest := []) (em_X9_has hl ⟨hs3, hs4⟩ a0 1 a_8) (fun o7 h => z_runV 216 2 h rfl kk_X10_216 hs3 kl_9.1 kq_X9_has rfl (Nat.le_of_ble_eq_true rfl) ⟨Nat.le_of_ble_eq_true rfl, Nat.le_of_ble_eq_true rfl, Nat.le_of_ble_eq_true rfl, Nat.le_of_ble_eq_true rfl⟩ dX10_person_91) z_gXI (fun hz19 => ?_)
        exact z_ireturn dX10_person_94 z_rXI rfl (by decide) (by decide)
      · refine z_ite (fun h_2 => ?_) (fun h_2 => ?_)
        · refine z_tswC (c := 2) 95 dX10_person_32 h_2 (by decide) (by decide) rfl (by decide) ?_
          refine z_aload_n (i := 0) (x := 0) dX10_person_95 rfl rfl ?_
          refine z_getR (j := 1) dX10_person_96 kl_10 hs0 (by decide) rfl rfl kf_X10_19 ?_
          refine z_iload_n (i := 1) (x := a0) dX10_person_99 rfl rfl ?_
          refine z_iconst (v := 0) dX10_person_100 rfl ?_
          refine z_cP (As := [.ref 3, .int a0, .int 0]) (rest := []) (em_X9_has hl ⟨hs3, hs4⟩ a0 0 a_8) (fun o7 h => z_runV 216 2 h rfl kk_X10_216 hs3 kl_9.1 kq_X9_has rfl (Nat.le_of_ble_eq_true rfl) ⟨Nat.le_of_ble_eq_true rfl, Nat.le_of_ble_eq_true rfl, Nat.le_of_ble_eq_true rfl, Nat.le_of_ble_eq_true rfl⟩ dX10_person_101) z_gXI (fun hz18 => ?_)
          exact z_ireturn dX10_person_104 z_rXI rfl (by decide) (by decide)
        · refine z_ite (fun h_3 => ?_) (fun h_3 => ?_)
          · refine z_tswC (c := 3) 105 dX10_person_32 h_3 (by decide) (by decide) rfl (by decide) ?_
            refine z_aload_n (i := 0) (x := 0) dX10_person_105 rfl rfl ?_
            refine z_getR (j := 11) dX10_person_106 kl_10 hs0 (by decide) rfl rfl kf_X10_82 ?_
            refine z_aload_n (i := 0) (x := 0) dX10_person_109 rfl rfl ?_
            refine z_getR (j := 1) dX10_person_110 kl_10 hs0 (by decide) rfl rfl kf_X10_19 ?_
            refine z_iload_n (i := 1) (x := a0) dX10_person_113 rfl rfl ?_
            refine z_iconst (v := 0) dX10_person_114 rfl ?_
            refine z_cP (As := [.ref 3, .int a0, .int 0]) (rest := [.ref o]) (em_X9_has hl ⟨hs3, hs4⟩ a0 0 a_8) (fun o7 h => z_runV 216 2 h rfl kk_X10_216 hs3 kl_9.1 kq_X9_has rfl (Nat.le_of_ble_eq_true rfl) ⟨Nat.le_of_ble_eq_true rfl, Nat.le_of_ble_eq_true rfl, Nat.le_of_ble_eq_true rfl, Nat.le_of_ble_eq_true rfl⟩ dX10_person_115) z_gXI (fun hz15 => ?_)
            refine z_cR (As := [.ref o, .int (F_X9_has 3 a0 0 a_8)]) (rest := []) (em_X1_nearest hl hC N (F_X9_has 3 a0 0 a_8) a_8) (fun o7 h => z_runV 219 1 h rfl kk_X10_219 hC.1 kl_1.1 kq_X1_nearest rfl (Nat.le_of_ble_eq_true rfl) ⟨Nat.le_of_ble_eq_true rfl, Nat.le_of_ble_eq_true rfl, Nat.le_of_ble_eq_true rfl, Nat.le_of_ble_eq_true rfl⟩ dX10_person_118) z_gXI (fun a_17 hz16 => ?_)
            exact z_ireturn dX10_person_121 z_rXI rfl (by decide) (by decide)
          · refine z_ite (fun h_4 => ?_) (fun h_4 => ?_)
            · refine z_tswC (c := 4) 122 dX10_person_32 h_4 (by decide) (by decide) rfl (by decide) ?_
              refine z_aload_n (i := 0) (x := 0) dX10_person_122 rfl rfl ?_
              refine z_getR (j := 1) dX10_person_123 kl_10 hs0 (by decide) rfl rfl kf_X10_19 ?_
              refine z_iload_n (i := 1) (x := a0) dX10_person_126 rfl rfl ?_
              refine z_iconst (v := 4) dX10_person_127 rfl ?_
              refine z_cP (As := [.ref 3, .int a0, .int 4]) (rest := []) (em_X9_has hl ⟨hs3, hs4⟩ a0 4 a_8) (fun o7 h => z_runV 216 2 h rfl kk_X10_216 hs3 kl_9.1 kq_X9_has rfl (Nat.le_of_ble_eq_true rfl) ⟨Nat.le_of_ble_eq_true rfl, Nat.le_of_ble_eq_true rfl, Nat.le_of_ble_eq_true rfl, Nat.le_of_ble_eq_true rfl⟩ dX10_person_128) z_gXI (fun hz14 => ?_)
              exact z_ireturn dX10_person_131 z_rXI rfl (by decide) (by decide)
            · refine z_ite (fun h_5 => ?_) (fun h_5 => ?_)
              · refine z_tswC (c := 5) 132 dX10_person_32 h_5 (by decide) (by decide) rfl (by decide) ?_
                refine z_aload_n (i := 0) (x := 0) dX10_person_132 rfl rfl ?_
                refine z_getR (j := 1) dX10_person_133 kl_10 hs0 (by decide) rfl rfl kf_X10_19 ?_
                refine z_iload_n (i := 1) (x := a0) dX10_person_136 rfl rfl ?_
                refine z_iconst (v := 3) dX10_person_137 rfl ?_
                refine z_cP (As := [.ref 3, .int a0, .int 3]) (rest := []) (em_X9_has hl ⟨hs3, hs4⟩ a0 3 a_8) (fun o7 h => z_runV 216 2 h rfl kk_X10_216 hs3 kl_9.1 kq_X9_has rfl (Nat.le_of_ble_eq_true rfl) ⟨Nat.le_of_ble_eq_true rfl, Nat.le_of_ble_eq_true rfl, Nat.le_of_ble_eq_true rfl, Nat.le_of_ble_eq_true rfl⟩ dX10_person_138) z_gXI (fun hz13 => ?_)
                exact z_ireturn dX10_person_141 z_rXI rfl (by decide) (by decide)
              · refine z_ite (fun h_6 => ?_) (fun h_6 => ?_)
                · refine z_tswC (c := 6) 142 dX10_person_32 h_6 (by decide) (by decide) rfl (by decide) ?_
                  refine z_aload_n (i := 0) (x := 0) dX10_person_142 rfl rfl ?_
                  refine z_getR (j := 1) dX10_person_143 kl_10 hs0 (by decide) rfl rfl kf_X10_19 ?_
                  refine z_iload_n (i := 1) (x := a0) dX10_person_146 rfl rfl ?_
                  refine z_iconst (v := 2) dX10_person_147 rfl ?_
                  refine z_cP (As := [.ref 3, .int a0, .int 2]) (rest := []) (em_X9_has hl ⟨hs3, hs4⟩ a0 2 a_8) (fun o7 h => z_runV 216 2 h rfl kk_X10_216 hs3 kl_9.1 kq_X9_has rfl (Nat.le_of_ble_eq_true rfl) ⟨Nat.le_of_ble_eq_true rfl, Nat.le_of_ble_eq_true rfl, Nat.le_of_ble_eq_true rfl, Nat.le_of_ble_eq_true rfl⟩ dX10_person_148) z_gXI (fun hz12 => ?_)
                  exact z_ireturn dX10_person_151 z_rXI rfl (by decide) (by decide)
                · refine z_tswD 152 dX10_person_32 (by
                    have q0 := z_swn h_0 (k := 0) (by decide)
                    have q1 := z_swn h_1 (k := 1) (by decide)
                    have q2 := z_swn h_2 (k := 2) (by decide)
                    have q3 := z_swn h_3 (k := 3) (by decide)
                    have q4 := z_swn h_4 (k := 4) (by decide)
                    have q5 := z_swn h_5 (k := 5) (by decide)
                    have q6 := z_swn h_6 (k := 6) (by decide)
                    omega) (by decide) ?_
                  refine z_aload_n (i := 0) (x := 0) dX10_person_152 rfl rfl ?_
                  refine z_aload_n (i := 0) (x := 0) dX10_person_153 rfl rfl ?_
                  refine z_getR (j := 1) dX10_person_154 kl_10 hs0 (by decide) rfl rfl kf_X10_19 ?_
                  refine z_iload_n (i := 1) (x := a0) dX10_person_157 rfl rfl ?_
                  refine z_cWI (As := [.ref 0, .ref 3, .int a0]) (rest := []) (em_X10_isSeated hl hW ⟨hs3, hs4⟩ N a0 a_8) (fun o7 h => z_runV 222 2 h rfl kk_X10_222 hs0 kl_10.1 kq_X10_isSeated rfl (Nat.le_of_ble_eq_true rfl) ⟨Nat.le_of_ble_eq_true rfl, Nat.le_of_ble_eq_true rfl, Nat.le_of_ble_eq_true rfl, Nat.le_of_ble_eq_true rfl⟩ dX10_person_158) z_gXI (fun a_10 hz9 => ?_)
                  refine z_if_eq 168 dX10_person_161 (by decide) (fun c11 => ?_) (fun c11 => ?_)
                  · refine z_iconst (v := 0) dX10_person_168 rfl ?_
                    exact z_ireturn dX10_person_169 z_rXI rfl (by decide) (by decide)
                  · refine z_iconst (v := 1) dX10_person_164 rfl ?_
                    refine z_goto 169 dX10_person_165 (by decide) ?_
                    exact z_ireturn dX10_person_169 z_rXI rfl (by decide) (by decide)
  have hJ_F_X10_person_J27 : ∀ (D5 : z_Dat) , z_F l M_X10_person (60, 760, 2, 12) 1 6 27 [some (.ref 0), some (.int a0), some (.int a1)] [.ref 0] S D5 (z_ko (z_kTI S)) (F_X10_person_J27 N o a0 a1 D5) := by
    intro D5
    unfold F_X10_person_J27
    refine z_iconst (v := 0) dX10_person_27 rfl ?_
    refine z_widen (k := 1) (n := 6) (by decide) (by decide) ?_
    exact hJ_F_X10_person_J28 D5
  have hJ_F_X10_person_J28x : ∀ (D22 : z_Dat) , z_F l M_X10_person (60, 760, 2, 12) 1 6 28 [some (.ref 0), some (.int a0), some (.int a1)] [.int 1, .ref 0] S D22 (z_ko (z_kTI S)) (F_X10_person_J28x N o a0 a1 D22) := by
    intro D22
    unfold F_X10_person_J28x
    refine z_cXVI rfl (As := [.ref 0, .int 1]) (rest := []) (em_X10_demand hl hW 1 D22) (fun o7 h => z_runV 102 1 h rfl kk_X10_102 hs0 kl_10.1 kq_X10_demand rfl (Nat.le_of_ble_eq_true rfl) ⟨Nat.le_of_ble_eq_true rfl, Nat.le_of_ble_eq_true rfl, Nat.le_of_ble_eq_true rfl, Nat.le_of_ble_eq_true rfl⟩ dX10_person_28) (by decide) (by decide) (fun a_24 hz23 => ?_)
    refine z_iload_n (i := 2) (x := a1) dX10_person_31 rfl rfl ?_
    refine z_ite (fun h_0 => ?_) (fun h_0 => ?_)
    · refine z_tswC (c := 0) 76 dX10_person_32 h_0 (by decide) (by decide) rfl (by decide) ?_
      refine z_aload_n (i := 0) (x := 0) dX10_person_76 rfl rfl ?_
      refine z_getR (j := 11) dX10_person_77 kl_10 hs0 (by decide) rfl rfl kf_X10_82 ?_
      refine z_iload_n (i := 1) (x := a0) dX10_person_80 rfl rfl ?_
      refine z_cP (As := [.ref o, .int a0]) (rest := []) (em_X1_homeOf hl hC a0 a_24) (fun o7 h => z_runV 213 1 h rfl kk_X10_213 hC.1 kl_1.1 kq_X1_homeOf rfl (Nat.le_of_ble_eq_true rfl) ⟨Nat.le_of_ble_eq_true rfl, Nat.le_of_ble_eq_true rfl, Nat.le_of_ble_eq_true rfl, Nat.le_of_ble_eq_true rfl⟩ dX10_person_81) z_gXI (fun hz36 => ?_)
      exact z_ireturn dX10_person_84 z_rXI rfl (by decide) (by decide)
    · refine z_ite (fun h_1 => ?_) (fun h_1 => ?_)
      · refine z_tswC (c := 1) 85 dX10_person_32 h_1 (by decide) (by decide) rfl (by decide) ?_
        refine z_aload_n (i := 0) (x := 0) dX10_person_85 rfl rfl ?_
        refine z_getR (j := 1) dX10_person_86 kl_10 hs0 (by decide) rfl rfl kf_X10_19 ?_
        refine z_iload_n (i := 1) (x := a0) dX10_person_89 rfl rfl ?_
        refine z_iconst (v := 1) dX10_person_90 rfl ?_
        refine z_cP (As := [.ref 3, .int a0, .int 1]) (rest := []) (em_X9_has hl ⟨hs3, hs4⟩ a0 1 a_24) (fun o7 h => z_runV 216 2 h rfl kk_X10_216 hs3 kl_9.1 kq_X9_has rfl (Nat.le_of_ble_eq_true rfl) ⟨Nat.le_of_ble_eq_true rfl, Nat.le_of_ble_eq_true rfl, Nat.le_of_ble_eq_true rfl, Nat.le_of_ble_eq_true rfl⟩ dX10_person_91) z_gXI (fun hz35 => ?_)
        exact z_ireturn dX10_person_94 z_rXI rfl (by decide) (by decide)
      · refine z_ite (fun h_2 => ?_) (fun h_2 => ?_)
        · refine z_tswC (c := 2) 95 dX10_person_32 h_2 (by decide) (by decide) rfl (by decide) ?_
          refine z_aload_n (i := 0) (x := 0) dX10_person_95 rfl rfl ?_
          refine z_getR (j := 1) dX10_person_96 kl_10 hs0 (by decide) rfl rfl kf_X10_19 ?_
          refine z_iload_n (i := 1) (x := a0) dX10_person_99 rfl rfl ?_
          refine z_iconst (v := 0) dX10_person_100 rfl ?_
          refine z_cP (As := [.ref 3, .int a0, .int 0]) (rest := []) (em_X9_has hl ⟨hs3, hs4⟩ a0 0 a_24) (fun o7 h => z_runV 216 2 h rfl kk_X10_216 hs3 kl_9.1 kq_X9_has rfl (Nat.le_of_ble_eq_true rfl) ⟨Nat.le_of_ble_eq_true rfl, Nat.le_of_ble_eq_true rfl, Nat.le_of_ble_eq_true rfl, Nat.le_of_ble_eq_true rfl⟩ dX10_person_101) z_gXI (fun hz34 => ?_)
          exact z_ireturn dX10_person_104 z_rXI rfl (by decide) (by decide)
        · refine z_ite (fun h_3 => ?_) (fun h_3 => ?_)
          · refine z_tswC (c := 3) 105 dX10_person_32 h_3 (by decide) (by decide) rfl (by decide) ?_
            refine z_aload_n (i := 0) (x := 0) dX10_person_105 rfl rfl ?_
            refine z_getR (j := 11) dX10_person_106 kl_10 hs0 (by decide) rfl rfl kf_X10_82 ?_
            refine z_aload_n (i := 0) (x := 0) dX10_person_109 rfl rfl ?_
            refine z_getR (j := 1) dX10_person_110 kl_10 hs0 (by decide) rfl rfl kf_X10_19 ?_
            refine z_iload_n (i := 1) (x := a0) dX10_person_113 rfl rfl ?_
            refine z_iconst (v := 0) dX10_person_114 rfl ?_
            refine z_cP (As := [.ref 3, .int a0, .int 0]) (rest := [.ref o]) (em_X9_has hl ⟨hs3, hs4⟩ a0 0 a_24) (fun o7 h => z_runV 216 2 h rfl kk_X10_216 hs3 kl_9.1 kq_X9_has rfl (Nat.le_of_ble_eq_true rfl) ⟨Nat.le_of_ble_eq_true rfl, Nat.le_of_ble_eq_true rfl, Nat.le_of_ble_eq_true rfl, Nat.le_of_ble_eq_true rfl⟩ dX10_person_115) z_gXI (fun hz31 => ?_)
            refine z_cR (As := [.ref o, .int (F_X9_has 3 a0 0 a_24)]) (rest := []) (em_X1_nearest hl hC N (F_X9_has 3 a0 0 a_24) a_24) (fun o7 h => z_runV 219 1 h rfl kk_X10_219 hC.1 kl_1.1 kq_X1_nearest rfl (Nat.le_of_ble_eq_true rfl) ⟨Nat.le_of_ble_eq_true rfl, Nat.le_of_ble_eq_true rfl, Nat.le_of_ble_eq_true rfl, Nat.le_of_ble_eq_true rfl⟩ dX10_person_118) z_gXI (fun a_33 hz32 => ?_)
            exact z_ireturn dX10_person_121 z_rXI rfl (by decide) (by decide)
          · refine z_ite (fun h_4 => ?_) (fun h_4 => ?_)
            · refine z_tswC (c := 4) 122 dX10_person_32 h_4 (by decide) (by decide) rfl (by decide) ?_
              refine z_aload_n (i := 0) (x := 0) dX10_person_122 rfl rfl ?_
              refine z_getR (j := 1) dX10_person_123 kl_10 hs0 (by decide) rfl rfl kf_X10_19 ?_
              refine z_iload_n (i := 1) (x := a0) dX10_person_126 rfl rfl ?_
              refine z_iconst (v := 4) dX10_person_127 rfl ?_
              refine z_cP (As := [.ref 3, .int a0, .int 4]) (rest := []) (em_X9_has hl ⟨hs3, hs4⟩ a0 4 a_24) (fun o7 h => z_runV 216 2 h rfl kk_X10_216 hs3 kl_9.1 kq_X9_has rfl (Nat.le_of_ble_eq_true rfl) ⟨Nat.le_of_ble_eq_true rfl, Nat.le_of_ble_eq_true rfl, Nat.le_of_ble_eq_true rfl, Nat.le_of_ble_eq_true rfl⟩ dX10_person_128) z_gXI (fun hz30 => ?_)
              exact z_ireturn dX10_person_131 z_rXI rfl (by decide) (by decide)
            · refine z_ite (fun h_5 => ?_) (fun h_5 => ?_)
              · refine z_tswC (c := 5) 132 dX10_person_32 h_5 (by decide) (by decide) rfl (by decide) ?_
                refine z_aload_n (i := 0) (x := 0) dX10_person_132 rfl rfl ?_
                refine z_getR (j := 1) dX10_person_133 kl_10 hs0 (by decide) rfl rfl kf_X10_19 ?_
                refine z_iload_n (i := 1) (x := a0) dX10_person_136 rfl rfl ?_
                refine z_iconst (v := 3) dX10_person_137 rfl ?_
                refine z_cP (As := [.ref 3, .int a0, .int 3]) (rest := []) (em_X9_has hl ⟨hs3, hs4⟩ a0 3 a_24) (fun o7 h => z_runV 216 2 h rfl kk_X10_216 hs3 kl_9.1 kq_X9_has rfl (Nat.le_of_ble_eq_true rfl) ⟨Nat.le_of_ble_eq_true rfl, Nat.le_of_ble_eq_true rfl, Nat.le_of_ble_eq_true rfl, Nat.le_of_ble_eq_true rfl⟩ dX10_person_138) z_gXI (fun hz29 => ?_)
                exact z_ireturn dX10_person_141 z_rXI rfl (by decide) (by decide)
              · refine z_ite (fun h_6 => ?_) (fun h_6 => ?_)
                · refine z_tswC (c := 6) 142 dX10_person_32 h_6 (by decide) (by decide) rfl (by decide) ?_
                  refine z_aload_n (i := 0) (x := 0) dX10_person_142 rfl rfl ?_
                  refine z_getR (j := 1) dX10_person_143 kl_10 hs0 (by decide) rfl rfl kf_X10_19 ?_
                  refine z_iload_n (i := 1) (x := a0) dX10_person_146 rfl rfl ?_
                  refine z_iconst (v := 2) dX10_person_147 rfl ?_
                  refine z_cP (As := [.ref 3, .int a0, .int 2]) (rest := []) (em_X9_has hl ⟨hs3, hs4⟩ a0 2 a_24) (fun o7 h => z_runV 216 2 h rfl kk_X10_216 hs3 kl_9.1 kq_X9_has rfl (Nat.le_of_ble_eq_true rfl) ⟨Nat.le_of_ble_eq_true rfl, Nat.le_of_ble_eq_true rfl, Nat.le_of_ble_eq_true rfl, Nat.le_of_ble_eq_true rfl⟩ dX10_person_148) z_gXI (fun hz28 => ?_)
                  exact z_ireturn dX10_person_151 z_rXI rfl (by decide) (by decide)
                · refine z_tswD 152 dX10_person_32 (by
                    have q0 := z_swn h_0 (k := 0) (by decide)
                    have q1 := z_swn h_1 (k := 1) (by decide)
                    have q2 := z_swn h_2 (k := 2) (by decide)
                    have q3 := z_swn h_3 (k := 3) (by decide)
                    have q4 := z_swn h_4 (k := 4) (by decide)
                    have q5 := z_swn h_5 (k := 5) (by decide)
                    have q6 := z_swn h_6 (k := 6) (by decide)
                    omega) (by decide) ?_
                  refine z_aload_n (i := 0) (x := 0) dX10_person_152 rfl rfl ?_
                  refine z_aload_n (i := 0) (x := 0) dX10_person_153 rfl rfl ?_
                  refine z_getR (j := 1) dX10_person_154 kl_10 hs0 (by decide) rfl rfl kf_X10_19 ?_
                  refine z_iload_n (i := 1) (x := a0) dX10_person_157 rfl rfl ?_
                  refine z_cWI (As := [.ref 0, .ref 3, .int a0]) (rest := []) (em_X10_isSeated hl hW ⟨hs3, hs4⟩ N a0 a_24) (fun o7 h => z_runV 222 2 h rfl kk_X10_222 hs0 kl_10.1 kq_X10_isSeated rfl (Nat.le_of_ble_eq_true rfl) ⟨Nat.le_of_ble_eq_true rfl, Nat.le_of_ble_eq_true rfl, Nat.le_of_ble_eq_true rfl, Nat.le_of_ble_eq_true rfl⟩ dX10_person_158) z_gXI (fun a_26 hz25 => ?_)
                  refine z_if_eq 168 dX10_person_161 (by decide) (fun c27 => ?_) (fun c27 => ?_)
                  · refine z_iconst (v := 0) dX10_person_168 rfl ?_
                    exact z_ireturn dX10_person_169 z_rXI rfl (by decide) (by decide)
                  · refine z_iconst (v := 1) dX10_person_164 rfl ?_
                    refine z_goto 169 dX10_person_165 (by decide) ?_
                    exact z_ireturn dX10_person_169 z_rXI rfl (by decide) (by decide)
  refine z_aload_n (i := 0) (x := 0) dX10_person_0 rfl rfl ?_
  refine z_aload_n (i := 0) (x := 0) dX10_person_1 rfl rfl ?_
  refine z_getR (j := 11) dX10_person_2 kl_10 hs0 (by decide) rfl rfl kf_X10_82 ?_
  refine z_iload_n (i := 1) (x := a0) dX10_person_5 rfl rfl ?_
  refine z_cP (As := [.ref o, .int a0]) (rest := [.ref 0]) (em_X1_hasPerson hl hC a0 D) (fun o7 h => z_runV 210 1 h rfl kk_X10_210 hC.1 kl_1.1 kq_X1_hasPerson rfl (Nat.le_of_ble_eq_true rfl) ⟨Nat.le_of_ble_eq_true rfl, Nat.le_of_ble_eq_true rfl, Nat.le_of_ble_eq_true rfl, Nat.le_of_ble_eq_true rfl⟩ dX10_person_6) z_gXI (fun hz1 => ?_)
  refine z_cXVI rfl (As := [.ref 0, .int (F_X1_hasPerson o a0 D)]) (rest := []) (em_X10_demandThere hl hW (F_X1_hasPerson o a0 D) D) (fun o7 h => z_runV 195 1 h rfl kk_X10_195 hs0 kl_10.1 kq_X10_demandThere rfl (Nat.le_of_ble_eq_true rfl) ⟨Nat.le_of_ble_eq_true rfl, Nat.le_of_ble_eq_true rfl, Nat.le_of_ble_eq_true rfl, Nat.le_of_ble_eq_true rfl⟩ dX10_person_9) (by decide) (by decide) (fun a_3 hz2 => ?_)
  refine z_aload_n (i := 0) (x := 0) dX10_person_12 rfl rfl ?_
  refine z_iload_n (i := 2) (x := a1) dX10_person_13 rfl rfl ?_
  refine z_if_lt 27 dX10_person_14 (by decide) (fun c4 => ?_) (fun c4 => ?_)
  · refine z_widen (k := 1) (n := 6) (by decide) (by decide) ?_
    exact hJ_F_X10_person_J27 a_3
  · refine z_iload_n (i := 2) (x := a1) dX10_person_17 rfl rfl ?_
    refine z_bipush (v := 7) dX10_person_18 (by decide) ?_
    refine z_icmp_gt 27 dX10_person_20 (by decide) (fun c21 => ?_) (fun c21 => ?_)
    · refine z_widen (k := 1) (n := 6) (by decide) (by decide) ?_
      exact hJ_F_X10_person_J27 a_3
    · refine z_iconst (v := 1) dX10_person_23 rfl ?_
      refine z_goto 28 dX10_person_24 (by decide) ?_
      refine z_widen (k := 1) (n := 6) (by decide) (by decide) ?_
      exact hJ_F_X10_person_J28x a_3

def F_X10_isDye (a0 : Int32) : Int32 :=
  if a0 < 0 then (0)
  else (if 3 ≤ a0 then (0)
  else (1))
set_option maxRecDepth 100000 in
set_option maxHeartbeats 4000000 in
theorem em_X10_isDye {l : Launch} {S : List z_Shp} (hl : l.stackTraces = false) (a0 : Int32) (D : z_Dat) : ∀ out, z_kt (z_kR S D) (F_X10_isDye a0) out → z_EM l M_X10_isDye (20, 520, 0, 0) [.int a0] S D out := by
  refine z_meth hl rfl kp_X10 (Nat.le_of_ble_eq_true rfl) (lv := [some (.int a0)]) rfl ?_
  unfold F_X10_isDye
  refine z_iload_n (i := 0) (x := a0) dX10_isDye_0 rfl rfl ?_
  refine z_if_lt 13 dX10_isDye_1 (by decide) (fun c1 => ?_) (fun c1 => ?_)
  · refine z_iconst (v := 0) dX10_isDye_13 rfl ?_
    exact z_ireturn dX10_isDye_14 z_rP rfl (by decide) (by decide)
  · refine z_iload_n (i := 0) (x := a0) dX10_isDye_4 rfl rfl ?_
    refine z_iconst (v := 3) dX10_isDye_5 rfl ?_
    refine z_icmp_ge 13 dX10_isDye_6 (by decide) (fun c2 => ?_) (fun c2 => ?_)
    · refine z_iconst (v := 0) dX10_isDye_13 rfl ?_
      exact z_ireturn dX10_isDye_14 z_rP rfl (by decide) (by decide)
    · refine z_iconst (v := 1) dX10_isDye_9 rfl ?_
      refine z_goto 14 dX10_isDye_10 (by decide) ?_
      exact z_ireturn dX10_isDye_14 z_rP rfl (by decide) (by decide)

def F_X10_stock (a0 : Int32) (D : z_Dat) : Option ((Int32 × z_Dat) ⊕ (String × z_Dat)) :=
  z_bt (F_X10_demandThere (F_X10_isDye a0) D) (fun a_3 => some (.inl (F_X9_stored 3 a0 a_3, a_3)))
set_option maxRecDepth 100000 in
set_option maxHeartbeats 4000000 in
theorem em_X10_stock {l : Launch} {S : List z_Shp} {o : Nat} (hl : l.stackTraces = false) (hW : z_W S o) (a0 : Int32) (D : z_Dat) : ∀ out, z_ko (z_kTI S) (F_X10_stock a0 D) out → z_EM l M_X10_stock (60, 640, 1, 6) [.ref 0, .int a0] S D out := by
  have hC := hW.2
  have hs0 : S[0]? = some (12, 15, [some (some 1), some (some 3), some (some 5), some (some 7), some (some 12), some (some 15), some (some 21), some (some 25), some (some 28), some (some 32), some (some 33), some (some o), none, none, none]) := hW.1 0 _ rfl
  have hs3 : S[3]? = some (11, 1, [some (some 4)]) := hW.1 3 _ rfl
  have hs4 : S[4]? = some (0, 44, []) := hW.1 4 _ rfl
  refine z_meth hl rfl kp_X10 (Nat.le_of_ble_eq_true rfl) (lv := [some (.ref 0), some (.int a0)]) rfl ?_
  unfold F_X10_stock
  refine z_aload_n (i := 0) (x := 0) dX10_stock_0 rfl rfl ?_
  refine z_iload_n (i := 1) (x := a0) dX10_stock_1 rfl rfl ?_
  refine z_cP (As := [.int a0]) (rest := [.ref 0]) (em_X10_isDye hl a0 D) (fun o7 h => z_runS 226 1 h rfl kk_X10_226 kq_X10_isDye rfl (Nat.le_of_ble_eq_true rfl) ⟨Nat.le_of_ble_eq_true rfl, Nat.le_of_ble_eq_true rfl, Nat.le_of_ble_eq_true rfl, Nat.le_of_ble_eq_true rfl⟩ dX10_stock_2) z_gXI (fun hz1 => ?_)
  refine z_cXVI rfl (As := [.ref 0, .int (F_X10_isDye a0)]) (rest := []) (em_X10_demandThere hl hW (F_X10_isDye a0) D) (fun o7 h => z_runV 195 1 h rfl kk_X10_195 hs0 kl_10.1 kq_X10_demandThere rfl (Nat.le_of_ble_eq_true rfl) ⟨Nat.le_of_ble_eq_true rfl, Nat.le_of_ble_eq_true rfl, Nat.le_of_ble_eq_true rfl, Nat.le_of_ble_eq_true rfl⟩ dX10_stock_5) (by decide) (by decide) (fun a_3 hz2 => ?_)
  refine z_aload_n (i := 0) (x := 0) dX10_stock_8 rfl rfl ?_
  refine z_getR (j := 1) dX10_stock_9 kl_10 hs0 (by decide) rfl rfl kf_X10_19 ?_
  refine z_iload_n (i := 1) (x := a0) dX10_stock_12 rfl rfl ?_
  refine z_cP (As := [.ref 3, .int a0]) (rest := []) (em_X9_stored hl ⟨hs3, hs4⟩ a0 a_3) (fun o7 h => z_runV 229 1 h rfl kk_X10_229 hs3 kl_9.1 kq_X9_stored rfl (Nat.le_of_ble_eq_true rfl) ⟨Nat.le_of_ble_eq_true rfl, Nat.le_of_ble_eq_true rfl, Nat.le_of_ble_eq_true rfl, Nat.le_of_ble_eq_true rfl⟩ dX10_stock_13) z_gXI (fun hz4 => ?_)
  exact z_ireturn dX10_stock_16 z_rXI rfl (by decide) (by decide)

def F_X10_isShade (a0 : Int32) : Int32 :=
  if a0 < 0 then (0)
  else (if 1000 ≤ a0 then (0)
  else (1))
set_option maxRecDepth 100000 in
set_option maxHeartbeats 4000000 in
theorem em_X10_isShade {l : Launch} {S : List z_Shp} (hl : l.stackTraces = false) (a0 : Int32) (D : z_Dat) : ∀ out, z_kt (z_kR S D) (F_X10_isShade a0) out → z_EM l M_X10_isShade (20, 520, 0, 0) [.int a0] S D out := by
  refine z_meth hl rfl kp_X10 (Nat.le_of_ble_eq_true rfl) (lv := [some (.int a0)]) rfl ?_
  unfold F_X10_isShade
  refine z_iload_n (i := 0) (x := a0) dX10_isShade_0 rfl rfl ?_
  refine z_if_lt 15 dX10_isShade_1 (by decide) (fun c1 => ?_) (fun c1 => ?_)
  · refine z_iconst (v := 0) dX10_isShade_15 rfl ?_
    exact z_ireturn dX10_isShade_16 z_rP rfl (by decide) (by decide)
  · refine z_iload_n (i := 0) (x := a0) dX10_isShade_4 rfl rfl ?_
    refine z_sipush (v := 1000) dX10_isShade_5 (by decide) ?_
    refine z_icmp_ge 15 dX10_isShade_8 (by decide) (fun c2 => ?_) (fun c2 => ?_)
    · refine z_iconst (v := 0) dX10_isShade_15 rfl ?_
      exact z_ireturn dX10_isShade_16 z_rP rfl (by decide) (by decide)
    · refine z_iconst (v := 1) dX10_isShade_11 rfl ?_
      refine z_goto 16 dX10_isShade_12 (by decide) ?_
      exact z_ireturn dX10_isShade_16 z_rP rfl (by decide) (by decide)

def F_X10_would_J79 (N : Nat) (a0 : Int32) (a1 : Int32) (a2 : Int32) (a3 : Int32) (a4 : Int32) (a5 : Int32) (D9 : z_Dat) : Option ((Int32 × z_Dat) ⊕ (String × z_Dat)) :=
  z_bt (F_X10_demand 0 D9) (fun a_11 => z_bd (F_X5_seats N a0 a1 a2 a3 a4 a5 a_11) (fun a_13 => some (.inl (a_13.1, a_13.2))))
def F_X10_would_J78 (N : Nat) (a0 : Int32) (a1 : Int32) (a2 : Int32) (a3 : Int32) (a4 : Int32) (a5 : Int32) (D8 : z_Dat) : Option ((Int32 × z_Dat) ⊕ (String × z_Dat)) :=
  F_X10_would_J79 N a0 a1 a2 a3 a4 a5 D8
def F_X10_would_J79x (N : Nat) (a0 : Int32) (a1 : Int32) (a2 : Int32) (a3 : Int32) (a4 : Int32) (a5 : Int32) (D19 : z_Dat) : Option ((Int32 × z_Dat) ⊕ (String × z_Dat)) :=
  z_bt (F_X10_demand 1 D19) (fun a_21 => z_bd (F_X5_seats N a0 a1 a2 a3 a4 a5 a_21) (fun a_23 => some (.inl (a_23.1, a_23.2))))
def F_X10_would_J34 (N : Nat) (a0 : Int32) (a1 : Int32) (a2 : Int32) (a3 : Int32) (a4 : Int32) (a5 : Int32) (D4 : z_Dat) : Option ((Int32 × z_Dat) ⊕ (String × z_Dat)) :=
  z_bt (F_X10_demand 0 D4) (fun a_6 => if a3 < 0 then (F_X10_would_J78 N a0 a1 a2 a3 a4 a5 a_6)
  else (if 99 < a3 then (F_X10_would_J78 N a0 a1 a2 a3 a4 a5 a_6)
  else (if a4 < 0 then (F_X10_would_J78 N a0 a1 a2 a3 a4 a5 a_6)
  else (if 300 < a4 then (F_X10_would_J78 N a0 a1 a2 a3 a4 a5 a_6)
  else (if a5 < 0 then (F_X10_would_J78 N a0 a1 a2 a3 a4 a5 a_6)
  else (if 1 < a5 then (F_X10_would_J78 N a0 a1 a2 a3 a4 a5 a_6)
  else (F_X10_would_J79x N a0 a1 a2 a3 a4 a5 a_6)))))))
def F_X10_would_J33 (N : Nat) (a0 : Int32) (a1 : Int32) (a2 : Int32) (a3 : Int32) (a4 : Int32) (a5 : Int32) (D3 : z_Dat) : Option ((Int32 × z_Dat) ⊕ (String × z_Dat)) :=
  F_X10_would_J34 N a0 a1 a2 a3 a4 a5 D3
def F_X10_would_J34x (N : Nat) (a0 : Int32) (a1 : Int32) (a2 : Int32) (a3 : Int32) (a4 : Int32) (a5 : Int32) (D28 : z_Dat) : Option ((Int32 × z_Dat) ⊕ (String × z_Dat)) :=
  z_bt (F_X10_demand 1 D28) (fun a_30 => if a3 < 0 then (F_X10_would_J78 N a0 a1 a2 a3 a4 a5 a_30)
  else (if 99 < a3 then (F_X10_would_J78 N a0 a1 a2 a3 a4 a5 a_30)
  else (if a4 < 0 then (F_X10_would_J78 N a0 a1 a2 a3 a4 a5 a_30)
  else (if 300 < a4 then (F_X10_would_J78 N a0 a1 a2 a3 a4 a5 a_30)
  else (if a5 < 0 then (F_X10_would_J78 N a0 a1 a2 a3 a4 a5 a_30)
  else (if 1 < a5 then (F_X10_would_J78 N a0 a1 a2 a3 a4 a5 a_30)
  else (F_X10_would_J79x N a0 a1 a2 a3 a4 a5 a_30)))))))
def F_X10_would (N : Nat) (a0 : Int32) (a1 : Int32) (a2 : Int32) (a3 : Int32) (a4 : Int32) (a5 : Int32) (D : z_Dat) : Option ((Int32 × z_Dat) ⊕ (String × z_Dat)) :=
  if (F_X10_isShade a0) = 0 then (F_X10_would_J33 N a0 a1 a2 a3 a4 a5 D)
  else (if a1 < 0 then (F_X10_would_J33 N a0 a1 a2 a3 a4 a5 D)
  else (if 400 < a1 then (F_X10_would_J33 N a0 a1 a2 a3 a4 a5 D)
  else (if a2 < 0 then (F_X10_would_J33 N a0 a1 a2 a3 a4 a5 D)
  else (if 9 < a2 then (F_X10_would_J33 N a0 a1 a2 a3 a4 a5 D)
  else (F_X10_would_J34x N a0 a1 a2 a3 a4 a5 D)))))
set_option maxRecDepth 100000 in
set_option maxHeartbeats 4000000 in
theorem em_X10_would {l : Launch} {S : List z_Shp} {o : Nat} (hl : l.stackTraces = false) (hW : z_W S o) (N : Nat) (a0 : Int32) (a1 : Int32) (a2 : Int32) (a3 : Int32) (a4 : Int32) (a5 : Int32) (D : z_Dat) : ∀ out, z_ko (z_kTI S) (F_X10_would N a0 a1 a2 a3 a4 a5 D) out → z_EM l M_X10_would (60, 700, 2, 12) [.ref 0, .int a0, .int a1, .int a2, .int a3, .int a4, .int a5] S D out := by
  have hC := hW.2
  have hs0 : S[0]? = some (12, 15, [some (some 1), some (some 3), some (some 5), some (some 7), some (some 12), some (some 15), some (some 21), some (some 25), some (some 28), some (some 32), some (some 33), some (some o), none, none, none]) := hW.1 0 _ rfl
  have hs7 : S[7]? = some (7, 7, [some (some 8), some (some 9), some (some 10), some (some 11), none, none, none]) := hW.1 7 _ rfl
  refine z_meth hl rfl kp_X10 (Nat.le_of_ble_eq_true rfl) (lv := [some (.ref 0), some (.int a0), some (.int a1), some (.int a2), some (.int a3), some (.int a4), some (.int a5)]) rfl ?_
  unfold F_X10_would
  have hJ_F_X10_would_J79 : ∀ (D9 : z_Dat) , z_F l M_X10_would (60, 700, 2, 12) 1 6 79 [some (.ref 0), some (.int a0), some (.int a1), some (.int a2), some (.int a3), some (.int a4), some (.int a5)] [.int 0, .ref 0] S D9 (z_ko (z_kTI S)) (F_X10_would_J79 N a0 a1 a2 a3 a4 a5 D9) := by
    intro D9
    unfold F_X10_would_J79
    refine z_cXVI rfl (As := [.ref 0, .int 0]) (rest := []) (em_X10_demand hl hW 0 D9) (fun o7 h => z_runV 102 1 h rfl kk_X10_102 hs0 kl_10.1 kq_X10_demand rfl (Nat.le_of_ble_eq_true rfl) ⟨Nat.le_of_ble_eq_true rfl, Nat.le_of_ble_eq_true rfl, Nat.le_of_ble_eq_true rfl, Nat.le_of_ble_eq_true rfl⟩ dX10_would_79) (by decide) (by decide) (fun a_11 hz10 => ?_)
    refine z_aload_n (i := 0) (x := 0) dX10_would_82 rfl rfl ?_
    refine z_getR (j := 3) dX10_would_83 kl_10 hs0 (by decide) rfl rfl kf_X10_29 ?_
    refine z_iload_n (i := 1) (x := a0) dX10_would_86 rfl rfl ?_
    refine z_iload_n (i := 2) (x := a1) dX10_would_87 rfl rfl ?_
    refine z_iload_n (i := 3) (x := a2) dX10_would_88 rfl rfl ?_
    refine z_iload (i := 4) (x := a3) dX10_would_89 rfl ?_
    refine z_iload (i := 5) (x := a4) dX10_would_91 rfl ?_
    refine z_iload (i := 6) (x := a5) dX10_would_93 rfl ?_
    refine z_cWI (As := [.ref 7, .int a0, .int a1, .int a2, .int a3, .int a4, .int a5]) (rest := []) (em_X5_seats hl hW N a0 a1 a2 a3 a4 a5 a_11) (fun o7 h => z_runV 235 6 h rfl kk_X10_235 hs7 kl_5.1 kq_X5_seats rfl (Nat.le_of_ble_eq_true rfl) ⟨Nat.le_of_ble_eq_true rfl, Nat.le_of_ble_eq_true rfl, Nat.le_of_ble_eq_true rfl, Nat.le_of_ble_eq_true rfl⟩ dX10_would_95) z_gXI (fun a_13 hz12 => ?_)
    exact z_ireturn dX10_would_98 z_rXI hz12 (by decide) (by decide)
  have hJ_F_X10_would_J78 : ∀ (D8 : z_Dat) , z_F l M_X10_would (60, 700, 2, 12) 1 6 78 [some (.ref 0), some (.int a0), some (.int a1), some (.int a2), some (.int a3), some (.int a4), some (.int a5)] [.ref 0] S D8 (z_ko (z_kTI S)) (F_X10_would_J78 N a0 a1 a2 a3 a4 a5 D8) := by
    intro D8
    unfold F_X10_would_J78
    refine z_iconst (v := 0) dX10_would_78 rfl ?_
    refine z_widen (k := 1) (n := 6) (by decide) (by decide) ?_
    exact hJ_F_X10_would_J79 D8
  have hJ_F_X10_would_J79x : ∀ (D19 : z_Dat) , z_F l M_X10_would (60, 700, 2, 12) 1 6 79 [some (.ref 0), some (.int a0), some (.int a1), some (.int a2), some (.int a3), some (.int a4), some (.int a5)] [.int 1, .ref 0] S D19 (z_ko (z_kTI S)) (F_X10_would_J79x N a0 a1 a2 a3 a4 a5 D19) := by
    intro D19
    unfold F_X10_would_J79x
    refine z_cXVI rfl (As := [.ref 0, .int 1]) (rest := []) (em_X10_demand hl hW 1 D19) (fun o7 h => z_runV 102 1 h rfl kk_X10_102 hs0 kl_10.1 kq_X10_demand rfl (Nat.le_of_ble_eq_true rfl) ⟨Nat.le_of_ble_eq_true rfl, Nat.le_of_ble_eq_true rfl, Nat.le_of_ble_eq_true rfl, Nat.le_of_ble_eq_true rfl⟩ dX10_would_79) (by decide) (by decide) (fun a_21 hz20 => ?_)
    refine z_aload_n (i := 0) (x := 0) dX10_would_82 rfl rfl ?_
    refine z_getR (j := 3) dX10_would_83 kl_10 hs0 (by decide) rfl rfl kf_X10_29 ?_
    refine z_iload_n (i := 1) (x := a0) dX10_would_86 rfl rfl ?_
    refine z_iload_n (i := 2) (x := a1) dX10_would_87 rfl rfl ?_
    refine z_iload_n (i := 3) (x := a2) dX10_would_88 rfl rfl ?_
    refine z_iload (i := 4) (x := a3) dX10_would_89 rfl ?_
    refine z_iload (i := 5) (x := a4) dX10_would_91 rfl ?_
    refine z_iload (i := 6) (x := a5) dX10_would_93 rfl ?_
    refine z_cWI (As := [.ref 7, .int a0, .int a1, .int a2, .int a3, .int a4, .int a5]) (rest := []) (em_X5_seats hl hW N a0 a1 a2 a3 a4 a5 a_21) (fun o7 h => z_runV 235 6 h rfl kk_X10_235 hs7 kl_5.1 kq_X5_seats rfl (Nat.le_of_ble_eq_true rfl) ⟨Nat.le_of_ble_eq_true rfl, Nat.le_of_ble_eq_true rfl, Nat.le_of_ble_eq_true rfl, Nat.le_of_ble_eq_true rfl⟩ dX10_would_95) z_gXI (fun a_23 hz22 => ?_)
    exact z_ireturn dX10_would_98 z_rXI hz22 (by decide) (by decide)
  have hJ_F_X10_would_J34 : ∀ (D4 : z_Dat) , z_F l M_X10_would (60, 700, 2, 12) 0 0 34 [some (.ref 0), some (.int a0), some (.int a1), some (.int a2), some (.int a3), some (.int a4), some (.int a5)] [.int 0, .ref 0] S D4 (z_ko (z_kTI S)) (F_X10_would_J34 N a0 a1 a2 a3 a4 a5 D4) := by
    intro D4
    unfold F_X10_would_J34
    refine z_cXVI rfl (As := [.ref 0, .int 0]) (rest := []) (em_X10_demand hl hW 0 D4) (fun o7 h => z_runV 102 1 h rfl kk_X10_102 hs0 kl_10.1 kq_X10_demand rfl (Nat.le_of_ble_eq_true rfl) ⟨Nat.le_of_ble_eq_true rfl, Nat.le_of_ble_eq_true rfl, Nat.le_of_ble_eq_true rfl, Nat.le_of_ble_eq_true rfl⟩ dX10_would_34) (by decide) (by decide) (fun a_6 hz5 => ?_)
    refine z_aload_n (i := 0) (x := 0) dX10_would_37 rfl rfl ?_
    refine z_iload (i := 4) (x := a3) dX10_would_38 rfl ?_
    refine z_if_lt 78 dX10_would_40 (by decide) (fun c7 => ?_) (fun c7 => ?_)
    · refine z_widen (k := 1) (n := 6) (by decide) (by decide) ?_
      exact hJ_F_X10_would_J78 a_6
    · refine z_iload (i := 4) (x := a3) dX10_would_43 rfl ?_
      refine z_bipush (v := 99) dX10_would_45 (by decide) ?_
      refine z_icmp_gt 78 dX10_would_47 (by decide) (fun c14 => ?_) (fun c14 => ?_)
      · refine z_widen (k := 1) (n := 6) (by decide) (by decide) ?_
        exact hJ_F_X10_would_J78 a_6
      · refine z_iload (i := 5) (x := a4) dX10_would_50 rfl ?_
        refine z_if_lt 78 dX10_would_52 (by decide) (fun c15 => ?_) (fun c15 => ?_)
        · refine z_widen (k := 1) (n := 6) (by decide) (by decide) ?_
          exact hJ_F_X10_would_J78 a_6
        · refine z_iload (i := 5) (x := a4) dX10_would_55 rfl ?_
          refine z_sipush (v := 300) dX10_would_57 (by decide) ?_
          refine z_icmp_gt 78 dX10_would_60 (by decide) (fun c16 => ?_) (fun c16 => ?_)
          · refine z_widen (k := 1) (n := 6) (by decide) (by decide) ?_
            exact hJ_F_X10_would_J78 a_6
          · refine z_iload (i := 6) (x := a5) dX10_would_63 rfl ?_
            refine z_if_lt 78 dX10_would_65 (by decide) (fun c17 => ?_) (fun c17 => ?_)
            · refine z_widen (k := 1) (n := 6) (by decide) (by decide) ?_
              exact hJ_F_X10_would_J78 a_6
            · refine z_iload (i := 6) (x := a5) dX10_would_68 rfl ?_
              refine z_iconst (v := 1) dX10_would_70 rfl ?_
              refine z_icmp_gt 78 dX10_would_71 (by decide) (fun c18 => ?_) (fun c18 => ?_)
              · refine z_widen (k := 1) (n := 6) (by decide) (by decide) ?_
                exact hJ_F_X10_would_J78 a_6
              · refine z_iconst (v := 1) dX10_would_74 rfl ?_
                refine z_goto 79 dX10_would_75 (by decide) ?_
                refine z_widen (k := 1) (n := 6) (by decide) (by decide) ?_
                exact hJ_F_X10_would_J79x a_6
  have hJ_F_X10_would_J33 : ∀ (D3 : z_Dat) , z_F l M_X10_would (60, 700, 2, 12) 0 0 33 [some (.ref 0), some (.int a0), some (.int a1), some (.int a2), some (.int a3), some (.int a4), some (.int a5)] [.ref 0] S D3 (z_ko (z_kTI S)) (F_X10_would_J33 N a0 a1 a2 a3 a4 a5 D3) := by
    intro D3
    unfold F_X10_would_J33
    refine z_iconst (v := 0) dX10_would_33 rfl ?_
    refine z_widen (k := 0) (n := 0) (by decide) (by decide) ?_
    exact hJ_F_X10_would_J34 D3
  have hJ_F_X10_would_J34x : ∀ (D28 : z_Dat) , z_F l M_X10_would (60, 700, 2, 12) 0 0 34 [some (.ref 0), some (.int a0), some (.int a1), some (.int a2), some (.int a3), some (.int a4), some (.int a5)] [.int 1, .ref 0] S D28 (z_ko (z_kTI S)) (F_X10_would_J34x N a0 a1 a2 a3 a4 a5 D28) := by
    intro D28
    unfold F_X10_would_J34x
    refine z_cXVI rfl (As := [.ref 0, .int 1]) (rest := []) (em_X10_demand hl hW 1 D28) (fun o7 h => z_runV 102 1 h rfl kk_X10_102 hs0 kl_10.1 kq_X10_demand rfl (Nat.le_of_ble_eq_true rfl) ⟨Nat.le_of_ble_eq_true rfl, Nat.le_of_ble_eq_true rfl, Nat.le_of_ble_eq_true rfl, Nat.le_of_ble_eq_true rfl⟩ dX10_would_34) (by decide) (by decide) (fun a_30 hz29 => ?_)
    refine z_aload_n (i := 0) (x := 0) dX10_would_37 rfl rfl ?_
    refine z_iload (i := 4) (x := a3) dX10_would_38 rfl ?_
    refine z_if_lt 78 dX10_would_40 (by decide) (fun c31 => ?_) (fun c31 => ?_)
    · refine z_widen (k := 1) (n := 6) (by decide) (by decide) ?_
      exact hJ_F_X10_would_J78 a_30
    · refine z_iload (i := 4) (x := a3) dX10_would_43 rfl ?_
      refine z_bipush (v := 99) dX10_would_45 (by decide) ?_
      refine z_icmp_gt 78 dX10_would_47 (by decide) (fun c32 => ?_) (fun c32 => ?_)
      · refine z_widen (k := 1) (n := 6) (by decide) (by decide) ?_
        exact hJ_F_X10_would_J78 a_30
      · refine z_iload (i := 5) (x := a4) dX10_would_50 rfl ?_
        refine z_if_lt 78 dX10_would_52 (by decide) (fun c33 => ?_) (fun c33 => ?_)
        · refine z_widen (k := 1) (n := 6) (by decide) (by decide) ?_
          exact hJ_F_X10_would_J78 a_30
        · refine z_iload (i := 5) (x := a4) dX10_would_55 rfl ?_
          refine z_sipush (v := 300) dX10_would_57 (by decide) ?_
          refine z_icmp_gt 78 dX10_would_60 (by decide) (fun c34 => ?_) (fun c34 => ?_)
          · refine z_widen (k := 1) (n := 6) (by decide) (by decide) ?_
            exact hJ_F_X10_would_J78 a_30
          · refine z_iload (i := 6) (x := a5) dX10_would_63 rfl ?_
            refine z_if_lt 78 dX10_would_65 (by decide) (fun c35 => ?_) (fun c35 => ?_)
            · refine z_widen (k := 1) (n := 6) (by decide) (by decide) ?_
              exact hJ_F_X10_would_J78 a_30
            · refine z_iload (i := 6) (x := a5) dX10_would_68 rfl ?_
              refine z_iconst (v := 1) dX10_would_70 rfl ?_
              refine z_icmp_gt 78 dX10_would_71 (by decide) (fun c36 => ?_) (fun c36 => ?_)
              · refine z_widen (k := 1) (n := 6) (by decide) (by decide) ?_
                exact hJ_F_X10_would_J78 a_30
              · refine z_iconst (v := 1) dX10_would_74 rfl ?_
                refine z_goto 79 dX10_would_75 (by decide) ?_
                refine z_widen (k := 1) (n := 6) (by decide) (by decide) ?_
                exact hJ_F_X10_would_J79x a_30
  refine z_aload_n (i := 0) (x := 0) dX10_would_0 rfl rfl ?_
  refine z_iload_n (i := 1) (x := a0) dX10_would_1 rfl rfl ?_
  refine z_cP (As := [.int a0]) (rest := [.ref 0]) (em_X10_isShade hl a0 D) (fun o7 h => z_runS 232 1 h rfl kk_X10_232 kq_X10_isShade rfl (Nat.le_of_ble_eq_true rfl) ⟨Nat.le_of_ble_eq_true rfl, Nat.le_of_ble_eq_true rfl, Nat.le_of_ble_eq_true rfl, Nat.le_of_ble_eq_true rfl⟩ dX10_would_2) z_gXI (fun hz1 => ?_)
  refine z_if_eq 33 dX10_would_5 (by decide) (fun c2 => ?_) (fun c2 => ?_)
  · refine z_widen (k := 0) (n := 0) (by decide) (by decide) ?_
    exact hJ_F_X10_would_J33 D
  · refine z_iload_n (i := 2) (x := a1) dX10_would_8 rfl rfl ?_
    refine z_if_lt 33 dX10_would_9 (by decide) (fun c24 => ?_) (fun c24 => ?_)
    · refine z_widen (k := 0) (n := 0) (by decide) (by decide) ?_
      exact hJ_F_X10_would_J33 D
    · refine z_iload_n (i := 2) (x := a1) dX10_would_12 rfl rfl ?_
      refine z_sipush (v := 400) dX10_would_13 (by decide) ?_
      refine z_icmp_gt 33 dX10_would_16 (by decide) (fun c25 => ?_) (fun c25 => ?_)
      · refine z_widen (k := 0) (n := 0) (by decide) (by decide) ?_
        exact hJ_F_X10_would_J33 D
      · refine z_iload_n (i := 3) (x := a2) dX10_would_19 rfl rfl ?_
        refine z_if_lt 33 dX10_would_20 (by decide) (fun c26 => ?_) (fun c26 => ?_)
        · refine z_widen (k := 0) (n := 0) (by decide) (by decide) ?_
          exact hJ_F_X10_would_J33 D
        · refine z_iload_n (i := 3) (x := a2) dX10_would_23 rfl rfl ?_
          refine z_bipush (v := 9) dX10_would_24 (by decide) ?_
          refine z_icmp_gt 33 dX10_would_26 (by decide) (fun c27 => ?_) (fun c27 => ?_)
          · refine z_widen (k := 0) (n := 0) (by decide) (by decide) ?_
            exact hJ_F_X10_would_J33 D
          · refine z_iconst (v := 1) dX10_would_29 rfl ?_
            refine z_goto 34 dX10_would_30 (by decide) ?_
            refine z_widen (k := 0) (n := 0) (by decide) (by decide) ?_
            exact hJ_F_X10_would_J34x D

def F_X10_distance (a0 : Int32) (a1 : Int32) (D : z_Dat) : Option ((Int32 × z_Dat) ⊕ (String × z_Dat)) :=
  if (F_X10_isShade a0) = 0 then (z_bt (F_X10_demand 0 D) (fun a_4 => some (.inl (F_X10_apart a0 a1, a_4))))
  else (if (F_X10_isShade a1) = 0 then (z_bt (F_X10_demand 0 D) (fun a_9 => some (.inl (F_X10_apart a0 a1, a_9))))
  else (z_bt (F_X10_demand 1 D) (fun a_12 => some (.inl (F_X10_apart a0 a1, a_12)))))
set_option maxRecDepth 100000 in
set_option maxHeartbeats 4000000 in
theorem em_X10_distance {l : Launch} {S : List z_Shp} {o : Nat} (hl : l.stackTraces = false) (hW : z_W S o) (a0 : Int32) (a1 : Int32) (D : z_Dat) : ∀ out, z_ko (z_kTI S) (F_X10_distance a0 a1 D) out → z_EM l M_X10_distance (60, 640, 1, 6) [.ref 0, .int a0, .int a1] S D out := by
  have hC := hW.2
  have hs0 : S[0]? = some (12, 15, [some (some 1), some (some 3), some (some 5), some (some 7), some (some 12), some (some 15), some (some 21), some (some 25), some (some 28), some (some 32), some (some 33), some (some o), none, none, none]) := hW.1 0 _ rfl
  refine z_meth hl rfl kp_X10 (Nat.le_of_ble_eq_true rfl) (lv := [some (.ref 0), some (.int a0), some (.int a1)]) rfl ?_
  unfold F_X10_distance
  refine z_aload_n (i := 0) (x := 0) dX10_distance_0 rfl rfl ?_
  refine z_iload_n (i := 1) (x := a0) dX10_distance_1 rfl rfl ?_
  refine z_cP (As := [.int a0]) (rest := [.ref 0]) (em_X10_isShade hl a0 D) (fun o7 h => z_runS 232 1 h rfl kk_X10_232 kq_X10_isShade rfl (Nat.le_of_ble_eq_true rfl) ⟨Nat.le_of_ble_eq_true rfl, Nat.le_of_ble_eq_true rfl, Nat.le_of_ble_eq_true rfl, Nat.le_of_ble_eq_true rfl⟩ dX10_distance_2) z_gXI (fun hz1 => ?_)
  refine z_if_eq 19 dX10_distance_5 (by decide) (fun c2 => ?_) (fun c2 => ?_)
  · refine z_iconst (v := 0) dX10_distance_19 rfl ?_
    refine z_cXVI rfl (As := [.ref 0, .int 0]) (rest := []) (em_X10_demand hl hW 0 D) (fun o7 h => z_runV 102 1 h rfl kk_X10_102 hs0 kl_10.1 kq_X10_demand rfl (Nat.le_of_ble_eq_true rfl) ⟨Nat.le_of_ble_eq_true rfl, Nat.le_of_ble_eq_true rfl, Nat.le_of_ble_eq_true rfl, Nat.le_of_ble_eq_true rfl⟩ dX10_distance_20) (by decide) (by decide) (fun a_4 hz3 => ?_)
    refine z_iload_n (i := 1) (x := a0) dX10_distance_23 rfl rfl ?_
    refine z_iload_n (i := 2) (x := a1) dX10_distance_24 rfl rfl ?_
    refine z_cP (As := [.int a0, .int a1]) (rest := []) (em_X10_apart hl a0 a1 a_4) (fun o7 h => z_runS 239 2 h rfl kk_X10_239 kq_X10_apart rfl (Nat.le_of_ble_eq_true rfl) ⟨Nat.le_of_ble_eq_true rfl, Nat.le_of_ble_eq_true rfl, Nat.le_of_ble_eq_true rfl, Nat.le_of_ble_eq_true rfl⟩ dX10_distance_25) z_gXI (fun hz5 => ?_)
    exact z_ireturn dX10_distance_28 z_rXI rfl (by decide) (by decide)
  · refine z_iload_n (i := 2) (x := a1) dX10_distance_8 rfl rfl ?_
    refine z_cP (As := [.int a1]) (rest := [.ref 0]) (em_X10_isShade hl a1 D) (fun o7 h => z_runS 232 1 h rfl kk_X10_232 kq_X10_isShade rfl (Nat.le_of_ble_eq_true rfl) ⟨Nat.le_of_ble_eq_true rfl, Nat.le_of_ble_eq_true rfl, Nat.le_of_ble_eq_true rfl, Nat.le_of_ble_eq_true rfl⟩ dX10_distance_9) z_gXI (fun hz6 => ?_)
    refine z_if_eq 19 dX10_distance_12 (by decide) (fun c7 => ?_) (fun c7 => ?_)
    · refine z_iconst (v := 0) dX10_distance_19 rfl ?_
      refine z_cXVI rfl (As := [.ref 0, .int 0]) (rest := []) (em_X10_demand hl hW 0 D) (fun o7 h => z_runV 102 1 h rfl kk_X10_102 hs0 kl_10.1 kq_X10_demand rfl (Nat.le_of_ble_eq_true rfl) ⟨Nat.le_of_ble_eq_true rfl, Nat.le_of_ble_eq_true rfl, Nat.le_of_ble_eq_true rfl, Nat.le_of_ble_eq_true rfl⟩ dX10_distance_20) (by decide) (by decide) (fun a_9 hz8 => ?_)
      refine z_iload_n (i := 1) (x := a0) dX10_distance_23 rfl rfl ?_
      refine z_iload_n (i := 2) (x := a1) dX10_distance_24 rfl rfl ?_
      refine z_cP (As := [.int a0, .int a1]) (rest := []) (em_X10_apart hl a0 a1 a_9) (fun o7 h => z_runS 239 2 h rfl kk_X10_239 kq_X10_apart rfl (Nat.le_of_ble_eq_true rfl) ⟨Nat.le_of_ble_eq_true rfl, Nat.le_of_ble_eq_true rfl, Nat.le_of_ble_eq_true rfl, Nat.le_of_ble_eq_true rfl⟩ dX10_distance_25) z_gXI (fun hz10 => ?_)
      exact z_ireturn dX10_distance_28 z_rXI rfl (by decide) (by decide)
    · refine z_iconst (v := 1) dX10_distance_15 rfl ?_
      refine z_goto 20 dX10_distance_16 (by decide) ?_
      refine z_cXVI rfl (As := [.ref 0, .int 1]) (rest := []) (em_X10_demand hl hW 1 D) (fun o7 h => z_runV 102 1 h rfl kk_X10_102 hs0 kl_10.1 kq_X10_demand rfl (Nat.le_of_ble_eq_true rfl) ⟨Nat.le_of_ble_eq_true rfl, Nat.le_of_ble_eq_true rfl, Nat.le_of_ble_eq_true rfl, Nat.le_of_ble_eq_true rfl⟩ dX10_distance_20) (by decide) (by decide) (fun a_12 hz11 => ?_)
      refine z_iload_n (i := 1) (x := a0) dX10_distance_23 rfl rfl ?_
      refine z_iload_n (i := 2) (x := a1) dX10_distance_24 rfl rfl ?_
      refine z_cP (As := [.int a0, .int a1]) (rest := []) (em_X10_apart hl a0 a1 a_12) (fun o7 h => z_runS 239 2 h rfl kk_X10_239 kq_X10_apart rfl (Nat.le_of_ble_eq_true rfl) ⟨Nat.le_of_ble_eq_true rfl, Nat.le_of_ble_eq_true rfl, Nat.le_of_ble_eq_true rfl, Nat.le_of_ble_eq_true rfl⟩ dX10_distance_25) z_gXI (fun hz13 => ?_)
      exact z_ireturn dX10_distance_28 z_rXI rfl (by decide) (by decide)

def F_X10_seems (N : Nat) (o : Nat) (a0 : Int32) (D : z_Dat) : Option ((Int32 × z_Dat) ⊕ (String × z_Dat)) :=
  z_bt (F_X10_demand (F_X10_isShade a0) D) (fun a_3 => z_bd (F_X1_nearest N o a0 a_3) (fun a_5 => some (.inl (a_5, a_3))))
set_option maxRecDepth 100000 in
set_option maxHeartbeats 4000000 in
theorem em_X10_seems {l : Launch} {S : List z_Shp} {o : Nat} (hl : l.stackTraces = false) (hW : z_W S o) (N : Nat) (a0 : Int32) (D : z_Dat) : ∀ out, z_ko (z_kTI S) (F_X10_seems N o a0 D) out → z_EM l M_X10_seems (60, 700, 1, 6) [.ref 0, .int a0] S D out := by
  have hC := hW.2
  have hs0 : S[0]? = some (12, 15, [some (some 1), some (some 3), some (some 5), some (some 7), some (some 12), some (some 15), some (some 21), some (some 25), some (some 28), some (some 32), some (some 33), some (some o), none, none, none]) := hW.1 0 _ rfl
  refine z_meth hl rfl kp_X10 (Nat.le_of_ble_eq_true rfl) (lv := [some (.ref 0), some (.int a0)]) rfl ?_
  unfold F_X10_seems
  refine z_aload_n (i := 0) (x := 0) dX10_seems_0 rfl rfl ?_
  refine z_iload_n (i := 1) (x := a0) dX10_seems_1 rfl rfl ?_
  refine z_cP (As := [.int a0]) (rest := [.ref 0]) (em_X10_isShade hl a0 D) (fun o7 h => z_runS 232 1 h rfl kk_X10_232 kq_X10_isShade rfl (Nat.le_of_ble_eq_true rfl) ⟨Nat.le_of_ble_eq_true rfl, Nat.le_of_ble_eq_true rfl, Nat.le_of_ble_eq_true rfl, Nat.le_of_ble_eq_true rfl⟩ dX10_seems_2) z_gXI (fun hz1 => ?_)
  refine z_cXVI rfl (As := [.ref 0, .int (F_X10_isShade a0)]) (rest := []) (em_X10_demand hl hW (F_X10_isShade a0) D) (fun o7 h => z_runV 102 1 h rfl kk_X10_102 hs0 kl_10.1 kq_X10_demand rfl (Nat.le_of_ble_eq_true rfl) ⟨Nat.le_of_ble_eq_true rfl, Nat.le_of_ble_eq_true rfl, Nat.le_of_ble_eq_true rfl, Nat.le_of_ble_eq_true rfl⟩ dX10_seems_5) (by decide) (by decide) (fun a_3 hz2 => ?_)
  refine z_aload_n (i := 0) (x := 0) dX10_seems_8 rfl rfl ?_
  refine z_getR (j := 11) dX10_seems_9 kl_10 hs0 (by decide) rfl rfl kf_X10_82 ?_
  refine z_iload_n (i := 1) (x := a0) dX10_seems_12 rfl rfl ?_
  refine z_cR (As := [.ref o, .int a0]) (rest := []) (em_X1_nearest hl hC N a0 a_3) (fun o7 h => z_runV 219 1 h rfl kk_X10_219 hC.1 kl_1.1 kq_X1_nearest rfl (Nat.le_of_ble_eq_true rfl) ⟨Nat.le_of_ble_eq_true rfl, Nat.le_of_ble_eq_true rfl, Nat.le_of_ble_eq_true rfl, Nat.le_of_ble_eq_true rfl⟩ dX10_seems_13) z_gXI (fun a_5 hz4 => ?_)
  exact z_ireturn dX10_seems_16 z_rXI rfl (by decide) (by decide)

def F_X10_dipped (o : Nat) (a0 : Int32) (a1 : Int32) (D : z_Dat) : Option ((Int32 × z_Dat) ⊕ (String × z_Dat)) :=
  z_bt (F_X10_demandThere (F_X1_hasStreet o a1 D) D) (fun a_3 => z_bt (F_X10_demand (F_X10_isShade a0) a_3) (fun a_6 => some (.inl (F_X10_deeper a0 (F_X1_vatOf o a1 a_6), a_6))))
set_option maxRecDepth 100000 in
set_option maxHeartbeats 4000000 in
theorem em_X10_dipped {l : Launch} {S : List z_Shp} {o : Nat} (hl : l.stackTraces = false) (hW : z_W S o) (a0 : Int32) (a1 : Int32) (D : z_Dat) : ∀ out, z_ko (z_kTI S) (F_X10_dipped o a0 a1 D) out → z_EM l M_X10_dipped (60, 640, 2, 12) [.ref 0, .int a0, .int a1] S D out := by
  have hC := hW.2
  have hs0 : S[0]? = some (12, 15, [some (some 1), some (some 3), some (some 5), some (some 7), some (some 12), some (some 15), some (some 21), some (some 25), some (some 28), some (some 32), some (some 33), some (some o), none, none, none]) := hW.1 0 _ rfl
  refine z_meth hl rfl kp_X10 (Nat.le_of_ble_eq_true rfl) (lv := [some (.ref 0), some (.int a0), some (.int a1)]) rfl ?_
  unfold F_X10_dipped
  refine z_aload_n (i := 0) (x := 0) dX10_dipped_0 rfl rfl ?_
  refine z_aload_n (i := 0) (x := 0) dX10_dipped_1 rfl rfl ?_
  refine z_getR (j := 11) dX10_dipped_2 kl_10 hs0 (by decide) rfl rfl kf_X10_82 ?_
  refine z_iload_n (i := 2) (x := a1) dX10_dipped_5 rfl rfl ?_
  refine z_cP (As := [.ref o, .int a1]) (rest := [.ref 0]) (em_X1_hasStreet hl hC a1 D) (fun o7 h => z_runV 191 1 h rfl kk_X10_191 hC.1 kl_1.1 kq_X1_hasStreet rfl (Nat.le_of_ble_eq_true rfl) ⟨Nat.le_of_ble_eq_true rfl, Nat.le_of_ble_eq_true rfl, Nat.le_of_ble_eq_true rfl, Nat.le_of_ble_eq_true rfl⟩ dX10_dipped_6) z_gXI (fun hz1 => ?_)
  refine z_cXVI rfl (As := [.ref 0, .int (F_X1_hasStreet o a1 D)]) (rest := []) (em_X10_demandThere hl hW (F_X1_hasStreet o a1 D) D) (fun o7 h => z_runV 195 1 h rfl kk_X10_195 hs0 kl_10.1 kq_X10_demandThere rfl (Nat.le_of_ble_eq_true rfl) ⟨Nat.le_of_ble_eq_true rfl, Nat.le_of_ble_eq_true rfl, Nat.le_of_ble_eq_true rfl, Nat.le_of_ble_eq_true rfl⟩ dX10_dipped_9) (by decide) (by decide) (fun a_3 hz2 => ?_)
  refine z_aload_n (i := 0) (x := 0) dX10_dipped_12 rfl rfl ?_
  refine z_iload_n (i := 1) (x := a0) dX10_dipped_13 rfl rfl ?_
  refine z_cP (As := [.int a0]) (rest := [.ref 0]) (em_X10_isShade hl a0 a_3) (fun o7 h => z_runS 232 1 h rfl kk_X10_232 kq_X10_isShade rfl (Nat.le_of_ble_eq_true rfl) ⟨Nat.le_of_ble_eq_true rfl, Nat.le_of_ble_eq_true rfl, Nat.le_of_ble_eq_true rfl, Nat.le_of_ble_eq_true rfl⟩ dX10_dipped_14) z_gXI (fun hz4 => ?_)
  refine z_cXVI rfl (As := [.ref 0, .int (F_X10_isShade a0)]) (rest := []) (em_X10_demand hl hW (F_X10_isShade a0) a_3) (fun o7 h => z_runV 102 1 h rfl kk_X10_102 hs0 kl_10.1 kq_X10_demand rfl (Nat.le_of_ble_eq_true rfl) ⟨Nat.le_of_ble_eq_true rfl, Nat.le_of_ble_eq_true rfl, Nat.le_of_ble_eq_true rfl, Nat.le_of_ble_eq_true rfl⟩ dX10_dipped_17) (by decide) (by decide) (fun a_6 hz5 => ?_)
  refine z_iload_n (i := 1) (x := a0) dX10_dipped_20 rfl rfl ?_
  refine z_aload_n (i := 0) (x := 0) dX10_dipped_21 rfl rfl ?_
  refine z_getR (j := 11) dX10_dipped_22 kl_10 hs0 (by decide) rfl rfl kf_X10_82 ?_
  refine z_iload_n (i := 2) (x := a1) dX10_dipped_25 rfl rfl ?_
  refine z_cP (As := [.ref o, .int a1]) (rest := [.int a0]) (em_X1_vatOf hl hC a1 a_6) (fun o7 h => z_runV 198 1 h rfl kk_X10_198 hC.1 kl_1.1 kq_X1_vatOf rfl (Nat.le_of_ble_eq_true rfl) ⟨Nat.le_of_ble_eq_true rfl, Nat.le_of_ble_eq_true rfl, Nat.le_of_ble_eq_true rfl, Nat.le_of_ble_eq_true rfl⟩ dX10_dipped_26) z_gXI (fun hz7 => ?_)
  refine z_cP (As := [.int a0, .int (F_X1_vatOf o a1 a_6)]) (rest := []) (em_X10_deeper hl a0 (F_X1_vatOf o a1 a_6) a_6) (fun o7 h => z_runS 242 2 h rfl kk_X10_242 kq_X10_deeper rfl (Nat.le_of_ble_eq_true rfl) ⟨Nat.le_of_ble_eq_true rfl, Nat.le_of_ble_eq_true rfl, Nat.le_of_ble_eq_true rfl, Nat.le_of_ble_eq_true rfl⟩ dX10_dipped_29) z_gXI (fun hz8 => ?_)
  exact z_ireturn dX10_dipped_32 z_rXI rfl (by decide) (by decide)

def F_X10_cousins (N : Nat) (o : Nat) (D : z_Dat) : Option Int32 :=
  z_bd (F_X9_rainShade N 3 (D o 6) D) (fun a_2 => some a_2)
set_option maxRecDepth 100000 in
set_option maxHeartbeats 4000000 in
theorem em_X10_cousins {l : Launch} {S : List z_Shp} {o : Nat} (hl : l.stackTraces = false) (hW : z_W S o) (N : Nat) (D : z_Dat) : ∀ out, z_ko (z_kR S D) (F_X10_cousins N o D) out → z_EM l M_X10_cousins (60, 760, 0, 0) [.ref 0] S D out := by
  have hC := hW.2
  have hs0 : S[0]? = some (12, 15, [some (some 1), some (some 3), some (some 5), some (some 7), some (some 12), some (some 15), some (some 21), some (some 25), some (some 28), some (some 32), some (some 33), some (some o), none, none, none]) := hW.1 0 _ rfl
  have hs3 : S[3]? = some (11, 1, [some (some 4)]) := hW.1 3 _ rfl
  have hs4 : S[4]? = some (0, 44, []) := hW.1 4 _ rfl
  refine z_meth hl rfl kp_X10 (Nat.le_of_ble_eq_true rfl) (lv := [some (.ref 0)]) rfl ?_
  unfold F_X10_cousins
  refine z_aload_n (i := 0) (x := 0) dX10_cousins_0 rfl rfl ?_
  refine z_getR (j := 1) dX10_cousins_1 kl_10 hs0 (by decide) rfl rfl kf_X10_19 ?_
  refine z_aload_n (i := 0) (x := 0) dX10_cousins_4 rfl rfl ?_
  refine z_getR (j := 11) dX10_cousins_5 kl_10 hs0 (by decide) rfl rfl kf_X10_82 ?_
  refine z_getIN (j := 6) dX10_cousins_8 kl_1 hC.1 (by decide) rfl rfl kf_X10_134 ?_
  refine z_cR (As := [.ref 3, .int (D o 6)]) (rest := []) (em_X9_rainShade hl ⟨hs3, hs4⟩ N (D o 6) D) (fun o7 h => z_runV 245 1 h rfl kk_X10_245 hs3 kl_9.1 kq_X9_rainShade rfl (Nat.le_of_ble_eq_true rfl) ⟨Nat.le_of_ble_eq_true rfl, Nat.le_of_ble_eq_true rfl, Nat.le_of_ble_eq_true rfl, Nat.le_of_ble_eq_true rfl⟩ dX10_cousins_11) z_gR (fun a_2 hz1 => ?_)
  exact z_ireturn dX10_cousins_14 z_rR rfl (by decide) (by decide)

def F_X9_copyFrom (N : Nat) (t : Nat) (t1 : Nat) (D : z_Dat) : Option z_Dat :=
  z_bd (F_X10_copy N (t1 + 1) 44 (t + 1) 44 0 0 44 D) (fun a_2 => some a_2)
set_option maxRecDepth 100000 in
set_option maxHeartbeats 4000000 in
theorem em_X9_copyFrom {l : Launch} {S : List z_Shp} {t : Nat} {t1 : Nat} (hl : l.stackTraces = false) (hT : z_isTown S t) (hT1 : z_isTown S t1) (N : Nat) (D : z_Dat) : ∀ out, z_ko (z_kV S) (F_X9_copyFrom N t t1 D) out → z_EM l M_X9_copyFrom (40, 640, 0, 0) [.ref t, .ref t1] S D out := by
  refine z_meth hl rfl kp_X9 (Nat.le_of_ble_eq_true rfl) (lv := [some (.ref t), some (.ref t1)]) rfl ?_
  unfold F_X9_copyFrom
  refine z_aload_n (i := 1) (x := t1) dX9_copyFrom_0 rfl rfl ?_
  refine z_getR (j := 0) dX9_copyFrom_1 kl_9 hT1.1 (by decide) rfl rfl kf_X9_9 ?_
  refine z_iconst (v := 0) dX9_copyFrom_4 rfl ?_
  refine z_aload_n (i := 0) (x := t) dX9_copyFrom_5 rfl rfl ?_
  refine z_getR (j := 0) dX9_copyFrom_6 kl_9 hT.1 (by decide) rfl rfl kf_X9_9 ?_
  refine z_iconst (v := 0) dX9_copyFrom_9 rfl ?_
  refine z_bipush (v := 44) dX9_copyFrom_10 (by decide) ?_
  refine z_cWV (As := [.ref (t1 + 1), .int 0, .ref (t + 1), .int 0, .int 44]) (rest := []) (em_X10_copy (n0 := 44) (n1 := 44) hl hT1.2 (by decide) hT.2 (by decide) N 0 0 44 D) (fun o7 h => z_runSN 39 5 h rfl kk_X9_39 kn_X9_39 kq_X10_copy rfl (Nat.le_of_ble_eq_true rfl) ⟨Nat.le_of_ble_eq_true rfl, Nat.le_of_ble_eq_true rfl, Nat.le_of_ble_eq_true rfl, Nat.le_of_ble_eq_true rfl⟩ dX9_copyFrom_12) z_gWV (fun a_2 hz1 => ?_)
  exact z_vreturn dX9_copyFrom_15 z_rWV trivial (by decide) (by decide)

def F_X10_when_J68 (N : Nat) (o : Nat) (kc13 : ((Int32 × z_Dat) → Option ((Int32 × z_Dat) ⊕ (String × z_Dat)))) (v18 : Int32) (v19 : Int32) (D20 : z_Dat) : Option ((Int32 × z_Dat) ⊕ (String × z_Dat)) :=
  if v19 = 1 then (some (.inl (v18, D20)))
  else (z_bd (F_X9_passYear N 5 (D20 o 6) (D20 o 7) D20) (fun a_23 => z_let (v18 + 1) (fun v24 => kc13 (v24, a_23))))
def F_X10_when_J68x (N : Nat) (o : Nat) (kc13 : ((Int32 × z_Dat) → Option ((Int32 × z_Dat) ⊕ (String × z_Dat)))) (v25 : Int32) (v26 : Int32) (D27 : z_Dat) : Option ((Int32 × z_Dat) ⊕ (String × z_Dat)) :=
  if v26 = 0 then (some (.inl (v25, D27)))
  else (z_bd (F_X9_passYear N 5 (D27 o 6) (D27 o 7) D27) (fun a_30 => z_let (v25 + 1) (fun v31 => kc13 (v31, a_30))))
def F_X10_when_L43 (N : Nat) (o : Nat) (a0 : Int32) (a1 : Int32) (kc13 : ((Int32 × z_Dat) → Option ((Int32 × z_Dat) ⊕ (String × z_Dat)))) (v11 : Int32) (D12 : z_Dat) : Option ((Int32 × z_Dat) ⊕ (String × z_Dat)) :=
  if 60 < v11 then (some (.inl ((-1), D12)))
  else (z_bd (F_X10_isSeated N o 5 a0 D12) (fun a_16 => if a1 = 1 then (F_X10_when_J68 N o kc13 v11 a_16.1 a_16.2)
  else (F_X10_when_J68x N o kc13 v11 a_16.1 a_16.2)))
def F_X10_when_J27 (N : Nat) (o : Nat) (a0 : Int32) (a1 : Int32) (D6 : z_Dat) : Option ((Int32 × z_Dat) ⊕ (String × z_Dat)) :=
  z_bt (F_X10_demand 1 D6) (fun a_8 => z_bd (F_X9_copyFrom N 5 3 a_8) (fun a_10 => z_loop (fun kc13 s => F_X10_when_L43 N o a0 a1 kc13 s.1 s.2) N (0, a_10)))
def F_X10_when_J22 (N : Nat) (o : Nat) (a0 : Int32) (a1 : Int32) (D5 : z_Dat) : Option ((Int32 × z_Dat) ⊕ (String × z_Dat)) :=
  F_X10_when_J27 N o a0 a1 D5
def F_X10_when_J68xx (N : Nat) (o : Nat) (kc41 : ((Int32 × z_Dat) → Option ((Int32 × z_Dat) ⊕ (String × z_Dat)))) (v46 : Int32) (v47 : Int32) (D48 : z_Dat) : Option ((Int32 × z_Dat) ⊕ (String × z_Dat)) :=
  if v47 = 1 then (some (.inl (v46, D48)))
  else (z_bd (F_X9_passYear N 5 (D48 o 6) (D48 o 7) D48) (fun a_51 => z_let (v46 + 1) (fun v52 => kc41 (v52, a_51))))
def F_X10_when_J68xxx (N : Nat) (o : Nat) (kc41 : ((Int32 × z_Dat) → Option ((Int32 × z_Dat) ⊕ (String × z_Dat)))) (v53 : Int32) (v54 : Int32) (D55 : z_Dat) : Option ((Int32 × z_Dat) ⊕ (String × z_Dat)) :=
  if v54 = 0 then (some (.inl (v53, D55)))
  else (z_bd (F_X9_passYear N 5 (D55 o 6) (D55 o 7) D55) (fun a_58 => z_let (v53 + 1) (fun v59 => kc41 (v59, a_58))))
def F_X10_when_L43x (N : Nat) (o : Nat) (a0 : Int32) (a1 : Int32) (kc41 : ((Int32 × z_Dat) → Option ((Int32 × z_Dat) ⊕ (String × z_Dat)))) (v39 : Int32) (D40 : z_Dat) : Option ((Int32 × z_Dat) ⊕ (String × z_Dat)) :=
  if 60 < v39 then (some (.inl ((-1), D40)))
  else (z_bd (F_X10_isSeated N o 5 a0 D40) (fun a_44 => if a1 = 1 then (F_X10_when_J68xx N o kc41 v39 a_44.1 a_44.2)
  else (F_X10_when_J68xxx N o kc41 v39 a_44.1 a_44.2)))
def F_X10_when_J27x (N : Nat) (o : Nat) (a0 : Int32) (a1 : Int32) (D34 : z_Dat) : Option ((Int32 × z_Dat) ⊕ (String × z_Dat)) :=
  z_bt (F_X10_demand 0 D34) (fun a_36 => z_bd (F_X9_copyFrom N 5 3 a_36) (fun a_38 => z_loop (fun kc41 s => F_X10_when_L43x N o a0 a1 kc41 s.1 s.2) N (0, a_38)))
def F_X10_when (N : Nat) (o : Nat) (a0 : Int32) (a1 : Int32) (D : z_Dat) : Option ((Int32 × z_Dat) ⊕ (String × z_Dat)) :=
  z_bt (F_X10_demandThere (F_X1_hasPerson o a0 D) D) (fun a_3 => if a1 = 0 then (F_X10_when_J22 N o a0 a1 a_3)
  else (if a1 = 1 then (F_X10_when_J22 N o a0 a1 a_3)
  else (F_X10_when_J27x N o a0 a1 a_3)))
set_option maxRecDepth 100000 in
set_option maxHeartbeats 4000000 in
theorem em_X10_when {l : Launch} {S : List z_Shp} {o : Nat} (hl : l.stackTraces = false) (hW : z_W S o) (N : Nat) (a0 : Int32) (a1 : Int32) (D : z_Dat) : ∀ out, z_ko (z_kTI S) (F_X10_when N o a0 a1 D) out → z_EM l M_X10_when (60, 760, 2, 12) [.ref 0, .int a0, .int a1] S D out := by
  have hC := hW.2
  have hs0 : S[0]? = some (12, 15, [some (some 1), some (some 3), some (some 5), some (some 7), some (some 12), some (some 15), some (some 21), some (some 25), some (some 28), some (some 32), some (some 33), some (some o), none, none, none]) := hW.1 0 _ rfl
  have hs3 : S[3]? = some (11, 1, [some (some 4)]) := hW.1 3 _ rfl
  have hs4 : S[4]? = some (0, 44, []) := hW.1 4 _ rfl
  have hs5 : S[5]? = some (11, 1, [some (some 6)]) := hW.1 5 _ rfl
  have hs6 : S[6]? = some (0, 44, []) := hW.1 6 _ rfl
  refine z_meth hl rfl kp_X10 (Nat.le_of_ble_eq_true rfl) (lv := [some (.ref 0), some (.int a0), some (.int a1), none]) rfl ?_
  unfold F_X10_when
  have hJ_F_X10_when_J27 : ∀ (D6 : z_Dat) , z_F l M_X10_when (60, 760, 2, 12) 1 6 27 [some (.ref 0), some (.int a0), some (.int a1), none] [.int 1, .ref 0] S D6 (z_ko (z_kTI S)) (F_X10_when_J27 N o a0 a1 D6) := by
    intro D6
    unfold F_X10_when_J27
    refine z_cXVI rfl (As := [.ref 0, .int 1]) (rest := []) (em_X10_demand hl hW 1 D6) (fun o7 h => z_runV 102 1 h rfl kk_X10_102 hs0 kl_10.1 kq_X10_demand rfl (Nat.le_of_ble_eq_true rfl) ⟨Nat.le_of_ble_eq_true rfl, Nat.le_of_ble_eq_true rfl, Nat.le_of_ble_eq_true rfl, Nat.le_of_ble_eq_true rfl⟩ dX10_when_27) (by decide) (by decide) (fun a_8 hz7 => ?_)
    refine z_aload_n (i := 0) (x := 0) dX10_when_30 rfl rfl ?_
    refine z_getR (j := 2) dX10_when_31 kl_10 hs0 (by decide) rfl rfl kf_X10_23 ?_
    refine z_aload_n (i := 0) (x := 0) dX10_when_34 rfl rfl ?_
    refine z_getR (j := 1) dX10_when_35 kl_10 hs0 (by decide) rfl rfl kf_X10_19 ?_
    refine z_cWV (As := [.ref 5, .ref 3]) (rest := []) (em_X9_copyFrom hl ⟨hs5, hs6⟩ ⟨hs3, hs4⟩ N a_8) (fun o7 h => z_runV 248 1 h rfl kk_X10_248 hs5 kl_9.1 kq_X9_copyFrom rfl (Nat.le_of_ble_eq_true rfl) ⟨Nat.le_of_ble_eq_true rfl, Nat.le_of_ble_eq_true rfl, Nat.le_of_ble_eq_true rfl, Nat.le_of_ble_eq_true rfl⟩ dX10_when_38) z_gXI (fun a_10 hz9 => ?_)
    refine z_iconst (v := 0) dX10_when_41 rfl ?_
    refine z_istore_n (i := 3) (x := 0) (lv' := [some (.ref 0), some (.int a0), some (.int a1), some (.int 0)]) dX10_when_42 rfl (by decide) rfl rfl ?_
    refine z_widen (k := 2) (n := 12) (by decide) (by decide) ?_
    refine z_loops (lvOf := fun s : Int32 × z_Dat => [some (.ref 0), some (.int a0), some (.int a1), some (.int s.1)]) (dOf := fun s : Int32 × z_Dat => s.2) (fun kc13 hkc13 s => ?_) N (0, a_10)
    obtain ⟨v11, D12⟩ := s
    show z_F _ _ _ _ _ 43 [some (.ref 0), some (.int a0), some (.int a1), some (.int v11)] [] S D12 _ (F_X10_when_L43 N o a0 a1 kc13 v11 D12)
    unfold F_X10_when_L43
    have hJ_F_X10_when_J68 : ∀ (v18 : Int32) (v19 : Int32) (D20 : z_Dat) , z_F l M_X10_when (60, 760, 2, 12) 2 12 68 [some (.ref 0), some (.int a0), some (.int a1), some (.int v18)] [.int 1, .int v19] S D20 (z_ko (z_kTI S)) (F_X10_when_J68 N o kc13 v18 v19 D20) := by
      intro v18 v19 D20
      unfold F_X10_when_J68
      refine z_icmp_ne 73 dX10_when_68 (by decide) (fun c21 => ?_) (fun c21 => ?_)
      · refine z_iload_n (i := 3) (x := v18) dX10_when_71 rfl rfl ?_
        exact z_ireturn dX10_when_72 z_rXI rfl (by decide) (by decide)
      · refine z_aload_n (i := 0) (x := 0) dX10_when_73 rfl rfl ?_
        refine z_getR (j := 2) dX10_when_74 kl_10 hs0 (by decide) rfl rfl kf_X10_23 ?_
        refine z_aload_n (i := 0) (x := 0) dX10_when_77 rfl rfl ?_
        refine z_getR (j := 11) dX10_when_78 kl_10 hs0 (by decide) rfl rfl kf_X10_82 ?_
        refine z_getIN (j := 6) dX10_when_81 kl_1 hC.1 (by decide) rfl rfl kf_X10_134 ?_
        refine z_aload_n (i := 0) (x := 0) dX10_when_84 rfl rfl ?_
        refine z_getR (j := 11) dX10_when_85 kl_10 hs0 (by decide) rfl rfl kf_X10_82 ?_
        refine z_getIN (j := 7) dX10_when_88 kl_1 hC.1 (by decide) rfl rfl kf_X10_188 ?_
        refine z_cWV (As := [.ref 5, .int (D20 o 6), .int (D20 o 7)]) (rest := []) (em_X9_passYear hl ⟨hs5, hs6⟩ N (D20 o 6) (D20 o 7) D20) (fun o7 h => z_runV 251 2 h rfl kk_X10_251 hs5 kl_9.1 kq_X9_passYear rfl (Nat.le_of_ble_eq_true rfl) ⟨Nat.le_of_ble_eq_true rfl, Nat.le_of_ble_eq_true rfl, Nat.le_of_ble_eq_true rfl, Nat.le_of_ble_eq_true rfl⟩ dX10_when_91) z_gXI (fun a_23 hz22 => ?_)
        refine z_iinc (i := 3) (x := v18) (y := 1) dX10_when_94 rfl (by decide) (by decide) rfl (fun v24 => ?_)
        refine z_goto 43 dX10_when_97 (by decide) ?_
        exact hkc13 (v24, a_23)
    have hJ_F_X10_when_J68x : ∀ (v25 : Int32) (v26 : Int32) (D27 : z_Dat) , z_F l M_X10_when (60, 760, 2, 12) 2 12 68 [some (.ref 0), some (.int a0), some (.int a1), some (.int v25)] [.int 0, .int v26] S D27 (z_ko (z_kTI S)) (F_X10_when_J68x N o kc13 v25 v26 D27) := by
      intro v25 v26 D27
      unfold F_X10_when_J68x
      refine z_icmp_ne 73 dX10_when_68 (by decide) (fun c28 => ?_) (fun c28 => ?_)
      · refine z_iload_n (i := 3) (x := v25) dX10_when_71 rfl rfl ?_
        exact z_ireturn dX10_when_72 z_rXI rfl (by decide) (by decide)
      · refine z_aload_n (i := 0) (x := 0) dX10_when_73 rfl rfl ?_
        refine z_getR (j := 2) dX10_when_74 kl_10 hs0 (by decide) rfl rfl kf_X10_23 ?_
        refine z_aload_n (i := 0) (x := 0) dX10_when_77 rfl rfl ?_
        refine z_getR (j := 11) dX10_when_78 kl_10 hs0 (by decide) rfl rfl kf_X10_82 ?_
        refine z_getIN (j := 6) dX10_when_81 kl_1 hC.1 (by decide) rfl rfl kf_X10_134 ?_
        refine z_aload_n (i := 0) (x := 0) dX10_when_84 rfl rfl ?_
        refine z_getR (j := 11) dX10_when_85 kl_10 hs0 (by decide) rfl rfl kf_X10_82 ?_
        refine z_getIN (j := 7) dX10_when_88 kl_1 hC.1 (by decide) rfl rfl kf_X10_188 ?_
        refine z_cWV (As := [.ref 5, .int (D27 o 6), .int (D27 o 7)]) (rest := []) (em_X9_passYear hl ⟨hs5, hs6⟩ N (D27 o 6) (D27 o 7) D27) (fun o7 h => z_runV 251 2 h rfl kk_X10_251 hs5 kl_9.1 kq_X9_passYear rfl (Nat.le_of_ble_eq_true rfl) ⟨Nat.le_of_ble_eq_true rfl, Nat.le_of_ble_eq_true rfl, Nat.le_of_ble_eq_true rfl, Nat.le_of_ble_eq_true rfl⟩ dX10_when_91) z_gXI (fun a_30 hz29 => ?_)
        refine z_iinc (i := 3) (x := v25) (y := 1) dX10_when_94 rfl (by decide) (by decide) rfl (fun v31 => ?_)
        refine z_goto 43 dX10_when_97 (by decide) ?_
        exact hkc13 (v31, a_30)
    refine z_iload_n (i := 3) (x := v11) dX10_when_43 rfl rfl ?_
    refine z_bipush (v := 60) dX10_when_44 (by decide) ?_
    refine z_icmp_gt 100 dX10_when_46 (by decide) (fun c14 => ?_) (fun c14 => ?_)
    · refine z_iconst (v := (-1)) dX10_when_100 rfl ?_
      exact z_ireturn dX10_when_101 z_rXI rfl (by decide) (by decide)
    · refine z_aload_n (i := 0) (x := 0) dX10_when_49 rfl rfl ?_
      refine z_aload_n (i := 0) (x := 0) dX10_when_50 rfl rfl ?_
      refine z_getR (j := 2) dX10_when_51 kl_10 hs0 (by decide) rfl rfl kf_X10_23 ?_
      refine z_iload_n (i := 1) (x := a0) dX10_when_54 rfl rfl ?_
      refine z_cWI (As := [.ref 0, .ref 5, .int a0]) (rest := []) (em_X10_isSeated hl hW ⟨hs5, hs6⟩ N a0 D12) (fun o7 h => z_runV 222 2 h rfl kk_X10_222 hs0 kl_10.1 kq_X10_isSeated rfl (Nat.le_of_ble_eq_true rfl) ⟨Nat.le_of_ble_eq_true rfl, Nat.le_of_ble_eq_true rfl, Nat.le_of_ble_eq_true rfl, Nat.le_of_ble_eq_true rfl⟩ dX10_when_55) z_gXI (fun a_16 hz15 => ?_)
      refine z_iload_n (i := 2) (x := a1) dX10_when_58 rfl rfl ?_
      refine z_iconst (v := 1) dX10_when_59 rfl ?_
      refine z_icmp_ne 67 dX10_when_60 (by decide) (fun c17 => ?_) (fun c17 => ?_)
      · refine z_iconst (v := 1) dX10_when_63 rfl ?_
        refine z_goto 68 dX10_when_64 (by decide) ?_
        refine z_widen (k := 2) (n := 12) (by decide) (by decide) ?_
        exact hJ_F_X10_when_J68 v11 a_16.1 a_16.2
      · refine z_iconst (v := 0) dX10_when_67 rfl ?_
        refine z_widen (k := 2) (n := 12) (by decide) (by decide) ?_
        exact hJ_F_X10_when_J68x v11 a_16.1 a_16.2
  have hJ_F_X10_when_J22 : ∀ (D5 : z_Dat) , z_F l M_X10_when (60, 760, 2, 12) 1 6 22 [some (.ref 0), some (.int a0), some (.int a1), none] [.ref 0] S D5 (z_ko (z_kTI S)) (F_X10_when_J22 N o a0 a1 D5) := by
    intro D5
    unfold F_X10_when_J22
    refine z_iconst (v := 1) dX10_when_22 rfl ?_
    refine z_goto 27 dX10_when_23 (by decide) ?_
    refine z_widen (k := 1) (n := 6) (by decide) (by decide) ?_
    exact hJ_F_X10_when_J27 D5
  have hJ_F_X10_when_J27x : ∀ (D34 : z_Dat) , z_F l M_X10_when (60, 760, 2, 12) 1 6 27 [some (.ref 0), some (.int a0), some (.int a1), none] [.int 0, .ref 0] S D34 (z_ko (z_kTI S)) (F_X10_when_J27x N o a0 a1 D34) := by
    intro D34
    unfold F_X10_when_J27x
    refine z_cXVI rfl (As := [.ref 0, .int 0]) (rest := []) (em_X10_demand hl hW 0 D34) (fun o7 h => z_runV 102 1 h rfl kk_X10_102 hs0 kl_10.1 kq_X10_demand rfl (Nat.le_of_ble_eq_true rfl) ⟨Nat.le_of_ble_eq_true rfl, Nat.le_of_ble_eq_true rfl, Nat.le_of_ble_eq_true rfl, Nat.le_of_ble_eq_true rfl⟩ dX10_when_27) (by decide) (by decide) (fun a_36 hz35 => ?_)
    refine z_aload_n (i := 0) (x := 0) dX10_when_30 rfl rfl ?_
    refine z_getR (j := 2) dX10_when_31 kl_10 hs0 (by decide) rfl rfl kf_X10_23 ?_
    refine z_aload_n (i := 0) (x := 0) dX10_when_34 rfl rfl ?_
    refine z_getR (j := 1) dX10_when_35 kl_10 hs0 (by decide) rfl rfl kf_X10_19 ?_
    refine z_cWV (As := [.ref 5, .ref 3]) (rest := []) (em_X9_copyFrom hl ⟨hs5, hs6⟩ ⟨hs3, hs4⟩ N a_36) (fun o7 h => z_runV 248 1 h rfl kk_X10_248 hs5 kl_9.1 kq_X9_copyFrom rfl (Nat.le_of_ble_eq_true rfl) ⟨Nat.le_of_ble_eq_true rfl, Nat.le_of_ble_eq_true rfl, Nat.le_of_ble_eq_true rfl, Nat.le_of_ble_eq_true rfl⟩ dX10_when_38) z_gXI (fun a_38 hz37 => ?_)
    refine z_iconst (v := 0) dX10_when_41 rfl ?_
    refine z_istore_n (i := 3) (x := 0) (lv' := [some (.ref 0), some (.int a0), some (.int a1), some (.int 0)]) dX10_when_42 rfl (by decide) rfl rfl ?_
    refine z_widen (k := 2) (n := 12) (by decide) (by decide) ?_
    refine z_loops (lvOf := fun s : Int32 × z_Dat => [some (.ref 0), some (.int a0), some (.int a1), some (.int s.1)]) (dOf := fun s : Int32 × z_Dat => s.2) (fun kc41 hkc41 s => ?_) N (0, a_38)
    obtain ⟨v39, D40⟩ := s
    show z_F _ _ _ _ _ 43 [some (.ref 0), some (.int a0), some (.int a1), some (.int v39)] [] S D40 _ (F_X10_when_L43x N o a0 a1 kc41 v39 D40)
    unfold F_X10_when_L43x
    have hJ_F_X10_when_J68xx : ∀ (v46 : Int32) (v47 : Int32) (D48 : z_Dat) , z_F l M_X10_when (60, 760, 2, 12) 2 12 68 [some (.ref 0), some (.int a0), some (.int a1), some (.int v46)] [.int 1, .int v47] S D48 (z_ko (z_kTI S)) (F_X10_when_J68xx N o kc41 v46 v47 D48) := by
      intro v46 v47 D48
      unfold F_X10_when_J68xx
      refine z_icmp_ne 73 dX10_when_68 (by decide) (fun c49 => ?_) (fun c49 => ?_)
      · refine z_iload_n (i := 3) (x := v46) dX10_when_71 rfl rfl ?_
        exact z_ireturn dX10_when_72 z_rXI rfl (by decide) (by decide)
      · refine z_aload_n (i := 0) (x := 0) dX10_when_73 rfl rfl ?_
        refine z_getR (j := 2) dX10_when_74 kl_10 hs0 (by decide) rfl rfl kf_X10_23 ?_
        refine z_aload_n (i := 0) (x := 0) dX10_when_77 rfl rfl ?_
        refine z_getR (j := 11) dX10_when_78 kl_10 hs0 (by decide) rfl rfl kf_X10_82 ?_
        refine z_getIN (j := 6) dX10_when_81 kl_1 hC.1 (by decide) rfl rfl kf_X10_134 ?_
        refine z_aload_n (i := 0) (x := 0) dX10_when_84 rfl rfl ?_
        refine z_getR (j := 11) dX10_when_85 kl_10 hs0 (by decide) rfl rfl kf_X10_82 ?_
        refine z_getIN (j := 7) dX10_when_88 kl_1 hC.1 (by decide) rfl rfl kf_X10_188 ?_
        refine z_cWV (As := [.ref 5, .int (D48 o 6), .int (D48 o 7)]) (rest := []) (em_X9_passYear hl ⟨hs5, hs6⟩ N (D48 o 6) (D48 o 7) D48) (fun o7 h => z_runV 251 2 h rfl kk_X10_251 hs5 kl_9.1 kq_X9_passYear rfl (Nat.le_of_ble_eq_true rfl) ⟨Nat.le_of_ble_eq_true rfl, Nat.le_of_ble_eq_true rfl, Nat.le_of_ble_eq_true rfl, Nat.le_of_ble_eq_true rfl⟩ dX10_when_91) z_gXI (fun a_51 hz50 => ?_)
        refine z_iinc (i := 3) (x := v46) (y := 1) dX10_when_94 rfl (by decide) (by decide) rfl (fun v52 => ?_)
        refine z_goto 43 dX10_when_97 (by decide) ?_
        exact hkc41 (v52, a_51)
    have hJ_F_X10_when_J68xxx : ∀ (v53 : Int32) (v54 : Int32) (D55 : z_Dat) , z_F l M_X10_when (60, 760, 2, 12) 2 12 68 [some (.ref 0), some (.int a0), some (.int a1), some (.int v53)] [.int 0, .int v54] S D55 (z_ko (z_kTI S)) (F_X10_when_J68xxx N o kc41 v53 v54 D55) := by
      intro v53 v54 D55
      unfold F_X10_when_J68xxx
      refine z_icmp_ne 73 dX10_when_68 (by decide) (fun c56 => ?_) (fun c56 => ?_)
      · refine z_iload_n (i := 3) (x := v53) dX10_when_71 rfl rfl ?_
        exact z_ireturn dX10_when_72 z_rXI rfl (by decide) (by decide)
      · refine z_aload_n (i := 0) (x := 0) dX10_when_73 rfl rfl ?_
        refine z_getR (j := 2) dX10_when_74 kl_10 hs0 (by decide) rfl rfl kf_X10_23 ?_
        refine z_aload_n (i := 0) (x := 0) dX10_when_77 rfl rfl ?_
        refine z_getR (j := 11) dX10_when_78 kl_10 hs0 (by decide) rfl rfl kf_X10_82 ?_
        refine z_getIN (j := 6) dX10_when_81 kl_1 hC.1 (by decide) rfl rfl kf_X10_134 ?_
        refine z_aload_n (i := 0) (x := 0) dX10_when_84 rfl rfl ?_
        refine z_getR (j := 11) dX10_when_85 kl_10 hs0 (by decide) rfl rfl kf_X10_82 ?_
        refine z_getIN (j := 7) dX10_when_88 kl_1 hC.1 (by decide) rfl rfl kf_X10_188 ?_
        refine z_cWV (As := [.ref 5, .int (D55 o 6), .int (D55 o 7)]) (rest := []) (em_X9_passYear hl ⟨hs5, hs6⟩ N (D55 o 6) (D55 o 7) D55) (fun o7 h => z_runV 251 2 h rfl kk_X10_251 hs5 kl_9.1 kq_X9_passYear rfl (Nat.le_of_ble_eq_true rfl) ⟨Nat.le_of_ble_eq_true rfl, Nat.le_of_ble_eq_true rfl, Nat.le_of_ble_eq_true rfl, Nat.le_of_ble_eq_true rfl⟩ dX10_when_91) z_gXI (fun a_58 hz57 => ?_)
        refine z_iinc (i := 3) (x := v53) (y := 1) dX10_when_94 rfl (by decide) (by decide) rfl (fun v59 => ?_)
        refine z_goto 43 dX10_when_97 (by decide) ?_
        exact hkc41 (v59, a_58)
    refine z_iload_n (i := 3) (x := v39) dX10_when_43 rfl rfl ?_
    refine z_bipush (v := 60) dX10_when_44 (by decide) ?_
    refine z_icmp_gt 100 dX10_when_46 (by decide) (fun c42 => ?_) (fun c42 => ?_)
    · refine z_iconst (v := (-1)) dX10_when_100 rfl ?_
      exact z_ireturn dX10_when_101 z_rXI rfl (by decide) (by decide)
    · refine z_aload_n (i := 0) (x := 0) dX10_when_49 rfl rfl ?_
      refine z_aload_n (i := 0) (x := 0) dX10_when_50 rfl rfl ?_
      refine z_getR (j := 2) dX10_when_51 kl_10 hs0 (by decide) rfl rfl kf_X10_23 ?_
      refine z_iload_n (i := 1) (x := a0) dX10_when_54 rfl rfl ?_
      refine z_cWI (As := [.ref 0, .ref 5, .int a0]) (rest := []) (em_X10_isSeated hl hW ⟨hs5, hs6⟩ N a0 D40) (fun o7 h => z_runV 222 2 h rfl kk_X10_222 hs0 kl_10.1 kq_X10_isSeated rfl (Nat.le_of_ble_eq_true rfl) ⟨Nat.le_of_ble_eq_true rfl, Nat.le_of_ble_eq_true rfl, Nat.le_of_ble_eq_true rfl, Nat.le_of_ble_eq_true rfl⟩ dX10_when_55) z_gXI (fun a_44 hz43 => ?_)
      refine z_iload_n (i := 2) (x := a1) dX10_when_58 rfl rfl ?_
      refine z_iconst (v := 1) dX10_when_59 rfl ?_
      refine z_icmp_ne 67 dX10_when_60 (by decide) (fun c45 => ?_) (fun c45 => ?_)
      · refine z_iconst (v := 1) dX10_when_63 rfl ?_
        refine z_goto 68 dX10_when_64 (by decide) ?_
        refine z_widen (k := 2) (n := 12) (by decide) (by decide) ?_
        exact hJ_F_X10_when_J68xx v39 a_44.1 a_44.2
      · refine z_iconst (v := 0) dX10_when_67 rfl ?_
        refine z_widen (k := 2) (n := 12) (by decide) (by decide) ?_
        exact hJ_F_X10_when_J68xxx v39 a_44.1 a_44.2
  refine z_aload_n (i := 0) (x := 0) dX10_when_0 rfl rfl ?_
  refine z_aload_n (i := 0) (x := 0) dX10_when_1 rfl rfl ?_
  refine z_getR (j := 11) dX10_when_2 kl_10 hs0 (by decide) rfl rfl kf_X10_82 ?_
  refine z_iload_n (i := 1) (x := a0) dX10_when_5 rfl rfl ?_
  refine z_cP (As := [.ref o, .int a0]) (rest := [.ref 0]) (em_X1_hasPerson hl hC a0 D) (fun o7 h => z_runV 210 1 h rfl kk_X10_210 hC.1 kl_1.1 kq_X1_hasPerson rfl (Nat.le_of_ble_eq_true rfl) ⟨Nat.le_of_ble_eq_true rfl, Nat.le_of_ble_eq_true rfl, Nat.le_of_ble_eq_true rfl, Nat.le_of_ble_eq_true rfl⟩ dX10_when_6) z_gXI (fun hz1 => ?_)
  refine z_cXVI rfl (As := [.ref 0, .int (F_X1_hasPerson o a0 D)]) (rest := []) (em_X10_demandThere hl hW (F_X1_hasPerson o a0 D) D) (fun o7 h => z_runV 195 1 h rfl kk_X10_195 hs0 kl_10.1 kq_X10_demandThere rfl (Nat.le_of_ble_eq_true rfl) ⟨Nat.le_of_ble_eq_true rfl, Nat.le_of_ble_eq_true rfl, Nat.le_of_ble_eq_true rfl, Nat.le_of_ble_eq_true rfl⟩ dX10_when_9) (by decide) (by decide) (fun a_3 hz2 => ?_)
  refine z_aload_n (i := 0) (x := 0) dX10_when_12 rfl rfl ?_
  refine z_iload_n (i := 2) (x := a1) dX10_when_13 rfl rfl ?_
  refine z_if_eq 22 dX10_when_14 (by decide) (fun c4 => ?_) (fun c4 => ?_)
  · refine z_widen (k := 1) (n := 6) (by decide) (by decide) ?_
    exact hJ_F_X10_when_J22 a_3
  · refine z_iload_n (i := 2) (x := a1) dX10_when_17 rfl rfl ?_
    refine z_iconst (v := 1) dX10_when_18 rfl ?_
    refine z_icmp_ne 26 dX10_when_19 (by decide) (fun c33 => ?_) (fun c33 => ?_)
    · refine z_widen (k := 1) (n := 6) (by decide) (by decide) ?_
      exact hJ_F_X10_when_J22 a_3
    · refine z_iconst (v := 0) dX10_when_26 rfl ?_
      refine z_widen (k := 1) (n := 6) (by decide) (by decide) ?_
      exact hJ_F_X10_when_J27x a_3

def F_X10_sits_J72 (N : Nat) (o : Nat) (kc14 : ((Int32 × Int32 × z_Dat) → Option ((Int32 × z_Dat) ⊕ (String × z_Dat)))) (v19 : Int32) (v20 : Int32) (D21 : z_Dat) : Option ((Int32 × z_Dat) ⊕ (String × z_Dat)) :=
  z_bd (F_X9_passYear N 5 (D21 o 6) (D21 o 7) D21) (fun a_23 => z_let (v20 + 1) (fun v24 => kc14 (v19, v24, a_23)))
def F_X10_sits_L47 (N : Nat) (o : Nat) (a0 : Int32) (a1 : Int32) (kc14 : ((Int32 × Int32 × z_Dat) → Option ((Int32 × z_Dat) ⊕ (String × z_Dat)))) (v11 : Int32) (v12 : Int32) (D13 : z_Dat) : Option ((Int32 × z_Dat) ⊕ (String × z_Dat)) :=
  if a1 ≤ v12 then (some (.inl (v11, D13)))
  else (z_bd (F_X10_isSeated N o 5 a0 D13) (fun a_17 => if a_17.1 = 0 then (F_X10_sits_J72 N o kc14 v11 v12 a_17.2)
  else (z_let (v11 ||| (z_shl 1 v12)) (fun v25 => F_X10_sits_J72 N o kc14 v25 v12 a_17.2))))
def F_X10_sits_J28 (N : Nat) (o : Nat) (a0 : Int32) (a1 : Int32) (D6 : z_Dat) : Option ((Int32 × z_Dat) ⊕ (String × z_Dat)) :=
  z_bt (F_X10_demand 0 D6) (fun a_8 => z_bd (F_X9_copyFrom N 5 3 a_8) (fun a_10 => z_loop (fun kc14 s => F_X10_sits_L47 N o a0 a1 kc14 s.1 s.2.1 s.2.2) N (0, 0, a_10)))
def F_X10_sits_J27 (N : Nat) (o : Nat) (a0 : Int32) (a1 : Int32) (D5 : z_Dat) : Option ((Int32 × z_Dat) ⊕ (String × z_Dat)) :=
  F_X10_sits_J28 N o a0 a1 D5
def F_X10_sits_J72x (N : Nat) (o : Nat) (kc36 : ((Int32 × Int32 × z_Dat) → Option ((Int32 × z_Dat) ⊕ (String × z_Dat)))) (v41 : Int32) (v42 : Int32) (D43 : z_Dat) : Option ((Int32 × z_Dat) ⊕ (String × z_Dat)) :=
  z_bd (F_X9_passYear N 5 (D43 o 6) (D43 o 7) D43) (fun a_45 => z_let (v42 + 1) (fun v46 => kc36 (v41, v46, a_45)))
def F_X10_sits_L47x (N : Nat) (o : Nat) (a0 : Int32) (a1 : Int32) (kc36 : ((Int32 × Int32 × z_Dat) → Option ((Int32 × z_Dat) ⊕ (String × z_Dat)))) (v33 : Int32) (v34 : Int32) (D35 : z_Dat) : Option ((Int32 × z_Dat) ⊕ (String × z_Dat)) :=
  if a1 ≤ v34 then (some (.inl (v33, D35)))
  else (z_bd (F_X10_isSeated N o 5 a0 D35) (fun a_39 => if a_39.1 = 0 then (F_X10_sits_J72x N o kc36 v33 v34 a_39.2)
  else (z_let (v33 ||| (z_shl 1 v34)) (fun v47 => F_X10_sits_J72x N o kc36 v47 v34 a_39.2))))
def F_X10_sits_J28x (N : Nat) (o : Nat) (a0 : Int32) (a1 : Int32) (D28 : z_Dat) : Option ((Int32 × z_Dat) ⊕ (String × z_Dat)) :=
  z_bt (F_X10_demand 1 D28) (fun a_30 => z_bd (F_X9_copyFrom N 5 3 a_30) (fun a_32 => z_loop (fun kc36 s => F_X10_sits_L47x N o a0 a1 kc36 s.1 s.2.1 s.2.2) N (0, 0, a_32)))
def F_X10_sits (N : Nat) (o : Nat) (a0 : Int32) (a1 : Int32) (D : z_Dat) : Option ((Int32 × z_Dat) ⊕ (String × z_Dat)) :=
  z_bt (F_X10_demandThere (F_X1_hasPerson o a0 D) D) (fun a_3 => if a1 < 0 then (F_X10_sits_J27 N o a0 a1 a_3)
  else (if 30 < a1 then (F_X10_sits_J27 N o a0 a1 a_3)
  else (F_X10_sits_J28x N o a0 a1 a_3)))
set_option maxRecDepth 100000 in
set_option maxHeartbeats 4000000 in
theorem em_X10_sits {l : Launch} {S : List z_Shp} {o : Nat} (hl : l.stackTraces = false) (hW : z_W S o) (N : Nat) (a0 : Int32) (a1 : Int32) (D : z_Dat) : ∀ out, z_ko (z_kTI S) (F_X10_sits N o a0 a1 D) out → z_EM l M_X10_sits (60, 760, 2, 12) [.ref 0, .int a0, .int a1] S D out := by
  have hC := hW.2
  have hs0 : S[0]? = some (12, 15, [some (some 1), some (some 3), some (some 5), some (some 7), some (some 12), some (some 15), some (some 21), some (some 25), some (some 28), some (some 32), some (some 33), some (some o), none, none, none]) := hW.1 0 _ rfl
  have hs3 : S[3]? = some (11, 1, [some (some 4)]) := hW.1 3 _ rfl
  have hs4 : S[4]? = some (0, 44, []) := hW.1 4 _ rfl
  have hs5 : S[5]? = some (11, 1, [some (some 6)]) := hW.1 5 _ rfl
  have hs6 : S[6]? = some (0, 44, []) := hW.1 6 _ rfl
  refine z_meth hl rfl kp_X10 (Nat.le_of_ble_eq_true rfl) (lv := [some (.ref 0), some (.int a0), some (.int a1), none, none]) rfl ?_
  unfold F_X10_sits
  have hJ_F_X10_sits_J28 : ∀ (D6 : z_Dat) , z_F l M_X10_sits (60, 760, 2, 12) 1 6 28 [some (.ref 0), some (.int a0), some (.int a1), none, none] [.int 0, .ref 0] S D6 (z_ko (z_kTI S)) (F_X10_sits_J28 N o a0 a1 D6) := by
    intro D6
    unfold F_X10_sits_J28
    refine z_cXVI rfl (As := [.ref 0, .int 0]) (rest := []) (em_X10_demand hl hW 0 D6) (fun o7 h => z_runV 102 1 h rfl kk_X10_102 hs0 kl_10.1 kq_X10_demand rfl (Nat.le_of_ble_eq_true rfl) ⟨Nat.le_of_ble_eq_true rfl, Nat.le_of_ble_eq_true rfl, Nat.le_of_ble_eq_true rfl, Nat.le_of_ble_eq_true rfl⟩ dX10_sits_28) (by decide) (by decide) (fun a_8 hz7 => ?_)
    refine z_aload_n (i := 0) (x := 0) dX10_sits_31 rfl rfl ?_
    refine z_getR (j := 2) dX10_sits_32 kl_10 hs0 (by decide) rfl rfl kf_X10_23 ?_
    refine z_aload_n (i := 0) (x := 0) dX10_sits_35 rfl rfl ?_
    refine z_getR (j := 1) dX10_sits_36 kl_10 hs0 (by decide) rfl rfl kf_X10_19 ?_
    refine z_cWV (As := [.ref 5, .ref 3]) (rest := []) (em_X9_copyFrom hl ⟨hs5, hs6⟩ ⟨hs3, hs4⟩ N a_8) (fun o7 h => z_runV 248 1 h rfl kk_X10_248 hs5 kl_9.1 kq_X9_copyFrom rfl (Nat.le_of_ble_eq_true rfl) ⟨Nat.le_of_ble_eq_true rfl, Nat.le_of_ble_eq_true rfl, Nat.le_of_ble_eq_true rfl, Nat.le_of_ble_eq_true rfl⟩ dX10_sits_39) z_gXI (fun a_10 hz9 => ?_)
    refine z_iconst (v := 0) dX10_sits_42 rfl ?_
    refine z_istore_n (i := 3) (x := 0) (lv' := [some (.ref 0), some (.int a0), some (.int a1), some (.int 0), none]) dX10_sits_43 rfl (by decide) rfl rfl ?_
    refine z_iconst (v := 0) dX10_sits_44 rfl ?_
    refine z_istore (i := 4) (x := 0) (lv' := [some (.ref 0), some (.int a0), some (.int a1), some (.int 0), some (.int 0)]) dX10_sits_45 (by decide) rfl rfl ?_
    refine z_widen (k := 2) (n := 12) (by decide) (by decide) ?_
    refine z_loops (lvOf := fun s : Int32 × Int32 × z_Dat => [some (.ref 0), some (.int a0), some (.int a1), some (.int s.1), some (.int s.2.1)]) (dOf := fun s : Int32 × Int32 × z_Dat => s.2.2) (fun kc14 hkc14 s => ?_) N (0, 0, a_10)
    obtain ⟨v11, v12, D13⟩ := s
    show z_F _ _ _ _ _ 47 [some (.ref 0), some (.int a0), some (.int a1), some (.int v11), some (.int v12)] [] S D13 _ (F_X10_sits_L47 N o a0 a1 kc14 v11 v12 D13)
    unfold F_X10_sits_L47
    have hJ_F_X10_sits_J72 : ∀ (v19 : Int32) (v20 : Int32) (D21 : z_Dat) , z_F l M_X10_sits (60, 760, 2, 12) 2 12 72 [some (.ref 0), some (.int a0), some (.int a1), some (.int v19), some (.int v20)] [] S D21 (z_ko (z_kTI S)) (F_X10_sits_J72 N o kc14 v19 v20 D21) := by
      intro v19 v20 D21
      unfold F_X10_sits_J72
      refine z_aload_n (i := 0) (x := 0) dX10_sits_72 rfl rfl ?_
      refine z_getR (j := 2) dX10_sits_73 kl_10 hs0 (by decide) rfl rfl kf_X10_23 ?_
      refine z_aload_n (i := 0) (x := 0) dX10_sits_76 rfl rfl ?_
      refine z_getR (j := 11) dX10_sits_77 kl_10 hs0 (by decide) rfl rfl kf_X10_82 ?_
      refine z_getIN (j := 6) dX10_sits_80 kl_1 hC.1 (by decide) rfl rfl kf_X10_134 ?_
      refine z_aload_n (i := 0) (x := 0) dX10_sits_83 rfl rfl ?_
      refine z_getR (j := 11) dX10_sits_84 kl_10 hs0 (by decide) rfl rfl kf_X10_82 ?_
      refine z_getIN (j := 7) dX10_sits_87 kl_1 hC.1 (by decide) rfl rfl kf_X10_188 ?_
      refine z_cWV (As := [.ref 5, .int (D21 o 6), .int (D21 o 7)]) (rest := []) (em_X9_passYear hl ⟨hs5, hs6⟩ N (D21 o 6) (D21 o 7) D21) (fun o7 h => z_runV 251 2 h rfl kk_X10_251 hs5 kl_9.1 kq_X9_passYear rfl (Nat.le_of_ble_eq_true rfl) ⟨Nat.le_of_ble_eq_true rfl, Nat.le_of_ble_eq_true rfl, Nat.le_of_ble_eq_true rfl, Nat.le_of_ble_eq_true rfl⟩ dX10_sits_90) z_gXI (fun a_23 hz22 => ?_)
      refine z_iinc (i := 4) (x := v20) (y := 1) dX10_sits_93 rfl (by decide) (by decide) rfl (fun v24 => ?_)
      refine z_goto 47 dX10_sits_96 (by decide) ?_
      exact hkc14 (v19, v24, a_23)
    refine z_iload (i := 4) (x := v12) dX10_sits_47 rfl ?_
    refine z_iload_n (i := 2) (x := a1) dX10_sits_49 rfl rfl ?_
    refine z_icmp_ge 99 dX10_sits_50 (by decide) (fun c15 => ?_) (fun c15 => ?_)
    · refine z_iload_n (i := 3) (x := v11) dX10_sits_99 rfl rfl ?_
      exact z_ireturn dX10_sits_100 z_rXI rfl (by decide) (by decide)
    · refine z_aload_n (i := 0) (x := 0) dX10_sits_53 rfl rfl ?_
      refine z_aload_n (i := 0) (x := 0) dX10_sits_54 rfl rfl ?_
      refine z_getR (j := 2) dX10_sits_55 kl_10 hs0 (by decide) rfl rfl kf_X10_23 ?_
      refine z_iload_n (i := 1) (x := a0) dX10_sits_58 rfl rfl ?_
      refine z_cWI (As := [.ref 0, .ref 5, .int a0]) (rest := []) (em_X10_isSeated hl hW ⟨hs5, hs6⟩ N a0 D13) (fun o7 h => z_runV 222 2 h rfl kk_X10_222 hs0 kl_10.1 kq_X10_isSeated rfl (Nat.le_of_ble_eq_true rfl) ⟨Nat.le_of_ble_eq_true rfl, Nat.le_of_ble_eq_true rfl, Nat.le_of_ble_eq_true rfl, Nat.le_of_ble_eq_true rfl⟩ dX10_sits_59) z_gXI (fun a_17 hz16 => ?_)
      refine z_if_eq 72 dX10_sits_62 (by decide) (fun c18 => ?_) (fun c18 => ?_)
      · refine z_widen (k := 2) (n := 12) (by decide) (by decide) ?_
        exact hJ_F_X10_sits_J72 v11 v12 a_17.2
      · refine z_iload_n (i := 3) (x := v11) dX10_sits_65 rfl rfl ?_
        refine z_iconst (v := 1) dX10_sits_66 rfl ?_
        refine z_iload (i := 4) (x := v12) dX10_sits_67 rfl ?_
        refine z_ishl dX10_sits_69 ?_
        refine z_ior dX10_sits_70 ?_
        refine z_topi (fun v25 => ?_)
        refine z_istore_n (i := 3) (x := v25) (lv' := [some (.ref 0), some (.int a0), some (.int a1), some (.int v25), some (.int v12)]) dX10_sits_71 rfl (by decide) rfl rfl ?_
        refine z_widen (k := 2) (n := 12) (by decide) (by decide) ?_
        exact hJ_F_X10_sits_J72 v25 v12 a_17.2
  have hJ_F_X10_sits_J27 : ∀ (D5 : z_Dat) , z_F l M_X10_sits (60, 760, 2, 12) 1 6 27 [some (.ref 0), some (.int a0), some (.int a1), none, none] [.ref 0] S D5 (z_ko (z_kTI S)) (F_X10_sits_J27 N o a0 a1 D5) := by
    intro D5
    unfold F_X10_sits_J27
    refine z_iconst (v := 0) dX10_sits_27 rfl ?_
    refine z_widen (k := 1) (n := 6) (by decide) (by decide) ?_
    exact hJ_F_X10_sits_J28 D5
  have hJ_F_X10_sits_J28x : ∀ (D28 : z_Dat) , z_F l M_X10_sits (60, 760, 2, 12) 1 6 28 [some (.ref 0), some (.int a0), some (.int a1), none, none] [.int 1, .ref 0] S D28 (z_ko (z_kTI S)) (F_X10_sits_J28x N o a0 a1 D28) := by
    intro D28
    unfold F_X10_sits_J28x
    refine z_cXVI rfl (As := [.ref 0, .int 1]) (rest := []) (em_X10_demand hl hW 1 D28) (fun o7 h => z_runV 102 1 h rfl kk_X10_102 hs0 kl_10.1 kq_X10_demand rfl (Nat.le_of_ble_eq_true rfl) ⟨Nat.le_of_ble_eq_true rfl, Nat.le_of_ble_eq_true rfl, Nat.le_of_ble_eq_true rfl, Nat.le_of_ble_eq_true rfl⟩ dX10_sits_28) (by decide) (by decide) (fun a_30 hz29 => ?_)
    refine z_aload_n (i := 0) (x := 0) dX10_sits_31 rfl rfl ?_
    refine z_getR (j := 2) dX10_sits_32 kl_10 hs0 (by decide) rfl rfl kf_X10_23 ?_
    refine z_aload_n (i := 0) (x := 0) dX10_sits_35 rfl rfl ?_
    refine z_getR (j := 1) dX10_sits_36 kl_10 hs0 (by decide) rfl rfl kf_X10_19 ?_
    refine z_cWV (As := [.ref 5, .ref 3]) (rest := []) (em_X9_copyFrom hl ⟨hs5, hs6⟩ ⟨hs3, hs4⟩ N a_30) (fun o7 h => z_runV 248 1 h rfl kk_X10_248 hs5 kl_9.1 kq_X9_copyFrom rfl (Nat.le_of_ble_eq_true rfl) ⟨Nat.le_of_ble_eq_true rfl, Nat.le_of_ble_eq_true rfl, Nat.le_of_ble_eq_true rfl, Nat.le_of_ble_eq_true rfl⟩ dX10_sits_39) z_gXI (fun a_32 hz31 => ?_)
    refine z_iconst (v := 0) dX10_sits_42 rfl ?_
    refine z_istore_n (i := 3) (x := 0) (lv' := [some (.ref 0), some (.int a0), some (.int a1), some (.int 0), none]) dX10_sits_43 rfl (by decide) rfl rfl ?_
    refine z_iconst (v := 0) dX10_sits_44 rfl ?_
    refine z_istore (i := 4) (x := 0) (lv' := [some (.ref 0), some (.int a0), some (.int a1), some (.int 0), some (.int 0)]) dX10_sits_45 (by decide) rfl rfl ?_
    refine z_widen (k := 2) (n := 12) (by decide) (by decide) ?_
    refine z_loops (lvOf := fun s : Int32 × Int32 × z_Dat => [some (.ref 0), some (.int a0), some (.int a1), some (.int s.1), some (.int s.2.1)]) (dOf := fun s : Int32 × Int32 × z_Dat => s.2.2) (fun kc36 hkc36 s => ?_) N (0, 0, a_32)
    obtain ⟨v33, v34, D35⟩ := s
    show z_F _ _ _ _ _ 47 [some (.ref 0), some (.int a0), some (.int a1), some (.int v33), some (.int v34)] [] S D35 _ (F_X10_sits_L47x N o a0 a1 kc36 v33 v34 D35)
    unfold F_X10_sits_L47x
    have hJ_F_X10_sits_J72x : ∀ (v41 : Int32) (v42 : Int32) (D43 : z_Dat) , z_F l M_X10_sits (60, 760, 2, 12) 2 12 72 [some (.ref 0), some (.int a0), some (.int a1), some (.int v41), some (.int v42)] [] S D43 (z_ko (z_kTI S)) (F_X10_sits_J72x N o kc36 v41 v42 D43) := by
      intro v41 v42 D43
      unfold F_X10_sits_J72x
      refine z_aload_n (i := 0) (x := 0) dX10_sits_72 rfl rfl ?_
      refine z_getR (j := 2) dX10_sits_73 kl_10 hs0 (by decide) rfl rfl kf_X10_23 ?_
      refine z_aload_n (i := 0) (x := 0) dX10_sits_76 rfl rfl ?_
      refine z_getR (j := 11) dX10_sits_77 kl_10 hs0 (by decide) rfl rfl kf_X10_82 ?_
      refine z_getIN (j := 6) dX10_sits_80 kl_1 hC.1 (by decide) rfl rfl kf_X10_134 ?_
      refine z_aload_n (i := 0) (x := 0) dX10_sits_83 rfl rfl ?_
      refine z_getR (j := 11) dX10_sits_84 kl_10 hs0 (by decide) rfl rfl kf_X10_82 ?_
      refine z_getIN (j := 7) dX10_sits_87 kl_1 hC.1 (by decide) rfl rfl kf_X10_188 ?_
      refine z_cWV (As := [.ref 5, .int (D43 o 6), .int (D43 o 7)]) (rest := []) (em_X9_passYear hl ⟨hs5, hs6⟩ N (D43 o 6) (D43 o 7) D43) (fun o7 h => z_runV 251 2 h rfl kk_X10_251 hs5 kl_9.1 kq_X9_passYear rfl (Nat.le_of_ble_eq_true rfl) ⟨Nat.le_of_ble_eq_true rfl, Nat.le_of_ble_eq_true rfl, Nat.le_of_ble_eq_true rfl, Nat.le_of_ble_eq_true rfl⟩ dX10_sits_90) z_gXI (fun a_45 hz44 => ?_)
      refine z_iinc (i := 4) (x := v42) (y := 1) dX10_sits_93 rfl (by decide) (by decide) rfl (fun v46 => ?_)
      refine z_goto 47 dX10_sits_96 (by decide) ?_
      exact hkc36 (v41, v46, a_45)
    refine z_iload (i := 4) (x := v34) dX10_sits_47 rfl ?_
    refine z_iload_n (i := 2) (x := a1) dX10_sits_49 rfl rfl ?_
    refine z_icmp_ge 99 dX10_sits_50 (by decide) (fun c37 => ?_) (fun c37 => ?_)
    · refine z_iload_n (i := 3) (x := v33) dX10_sits_99 rfl rfl ?_
      exact z_ireturn dX10_sits_100 z_rXI rfl (by decide) (by decide)
    · refine z_aload_n (i := 0) (x := 0) dX10_sits_53 rfl rfl ?_
      refine z_aload_n (i := 0) (x := 0) dX10_sits_54 rfl rfl ?_
      refine z_getR (j := 2) dX10_sits_55 kl_10 hs0 (by decide) rfl rfl kf_X10_23 ?_
      refine z_iload_n (i := 1) (x := a0) dX10_sits_58 rfl rfl ?_
      refine z_cWI (As := [.ref 0, .ref 5, .int a0]) (rest := []) (em_X10_isSeated hl hW ⟨hs5, hs6⟩ N a0 D35) (fun o7 h => z_runV 222 2 h rfl kk_X10_222 hs0 kl_10.1 kq_X10_isSeated rfl (Nat.le_of_ble_eq_true rfl) ⟨Nat.le_of_ble_eq_true rfl, Nat.le_of_ble_eq_true rfl, Nat.le_of_ble_eq_true rfl, Nat.le_of_ble_eq_true rfl⟩ dX10_sits_59) z_gXI (fun a_39 hz38 => ?_)
      refine z_if_eq 72 dX10_sits_62 (by decide) (fun c40 => ?_) (fun c40 => ?_)
      · refine z_widen (k := 2) (n := 12) (by decide) (by decide) ?_
        exact hJ_F_X10_sits_J72x v33 v34 a_39.2
      · refine z_iload_n (i := 3) (x := v33) dX10_sits_65 rfl rfl ?_
        refine z_iconst (v := 1) dX10_sits_66 rfl ?_
        refine z_iload (i := 4) (x := v34) dX10_sits_67 rfl ?_
        refine z_ishl dX10_sits_69 ?_
        refine z_ior dX10_sits_70 ?_
        refine z_topi (fun v47 => ?_)
        refine z_istore_n (i := 3) (x := v47) (lv' := [some (.ref 0), some (.int a0), some (.int a1), some (.int v47), some (.int v34)]) dX10_sits_71 rfl (by decide) rfl rfl ?_
        refine z_widen (k := 2) (n := 12) (by decide) (by decide) ?_
        exact hJ_F_X10_sits_J72x v47 v34 a_39.2
  refine z_aload_n (i := 0) (x := 0) dX10_sits_0 rfl rfl ?_
  refine z_aload_n (i := 0) (x := 0) dX10_sits_1 rfl rfl ?_
  refine z_getR (j := 11) dX10_sits_2 kl_10 hs0 (by decide) rfl rfl kf_X10_82 ?_
  refine z_iload_n (i := 1) (x := a0) dX10_sits_5 rfl rfl ?_
  refine z_cP (As := [.ref o, .int a0]) (rest := [.ref 0]) (em_X1_hasPerson hl hC a0 D) (fun o7 h => z_runV 210 1 h rfl kk_X10_210 hC.1 kl_1.1 kq_X1_hasPerson rfl (Nat.le_of_ble_eq_true rfl) ⟨Nat.le_of_ble_eq_true rfl, Nat.le_of_ble_eq_true rfl, Nat.le_of_ble_eq_true rfl, Nat.le_of_ble_eq_true rfl⟩ dX10_sits_6) z_gXI (fun hz1 => ?_)
  refine z_cXVI rfl (As := [.ref 0, .int (F_X1_hasPerson o a0 D)]) (rest := []) (em_X10_demandThere hl hW (F_X1_hasPerson o a0 D) D) (fun o7 h => z_runV 195 1 h rfl kk_X10_195 hs0 kl_10.1 kq_X10_demandThere rfl (Nat.le_of_ble_eq_true rfl) ⟨Nat.le_of_ble_eq_true rfl, Nat.le_of_ble_eq_true rfl, Nat.le_of_ble_eq_true rfl, Nat.le_of_ble_eq_true rfl⟩ dX10_sits_9) (by decide) (by decide) (fun a_3 hz2 => ?_)
  refine z_aload_n (i := 0) (x := 0) dX10_sits_12 rfl rfl ?_
  refine z_iload_n (i := 2) (x := a1) dX10_sits_13 rfl rfl ?_
  refine z_if_lt 27 dX10_sits_14 (by decide) (fun c4 => ?_) (fun c4 => ?_)
  · refine z_widen (k := 1) (n := 6) (by decide) (by decide) ?_
    exact hJ_F_X10_sits_J27 a_3
  · refine z_iload_n (i := 2) (x := a1) dX10_sits_17 rfl rfl ?_
    refine z_bipush (v := 30) dX10_sits_18 (by decide) ?_
    refine z_icmp_gt 27 dX10_sits_20 (by decide) (fun c27 => ?_) (fun c27 => ?_)
    · refine z_widen (k := 1) (n := 6) (by decide) (by decide) ?_
      exact hJ_F_X10_sits_J27 a_3
    · refine z_iconst (v := 1) dX10_sits_23 rfl ?_
      refine z_goto 28 dX10_sits_24 (by decide) ?_
      refine z_widen (k := 1) (n := 6) (by decide) (by decide) ?_
      exact hJ_F_X10_sits_J28x a_3

def F_X6_dipsVia_L6 (o : Nat) (a0 : Int32) (a1 : Int32) (D : z_Dat) (kc3 : ((Int32 × Int32) → Option Int32)) (v1 : Int32) (v2 : Int32) : Option Int32 :=
  if (D o 5) ≤ v2 then (some v1)
  else (z_let (F_X10_deeper a0 (F_X1_vatOf o v2 D)) (fun v7 => if v7 ≤ a0 then (z_let (v2 + 1) (fun v9 => kc3 (v1, v9)))
  else (if a1 < v7 then (z_let (v2 + 1) (fun v11 => kc3 (v1, v11)))
  else (z_let (F_X10_at 26 1000 v7 D) (fun v13 => if v13 = (-1) then (z_let (v2 + 1) (fun v15 => kc3 (v1, v15)))
  else (if v1 = (-1) then (z_let (v13 + 1) (fun v17 => z_let (v2 + 1) (fun v18 => kc3 (v17, v18))))
  else (if v1 ≤ (v13 + 1) then (z_let (v2 + 1) (fun v20 => kc3 (v1, v20)))
  else (z_let (v13 + 1) (fun v21 => z_let (v2 + 1) (fun v22 => kc3 (v21, v22)))))))))))
def F_X6_dipsVia (N : Nat) (o : Nat) (a0 : Int32) (a1 : Int32) (D : z_Dat) : Option Int32 :=
  z_loop (fun kc3 s => F_X6_dipsVia_L6 o a0 a1 D kc3 s.1 s.2) N ((-1), 0)
set_option maxRecDepth 100000 in
set_option maxHeartbeats 4000000 in
theorem em_X6_dipsVia {l : Launch} {S : List z_Shp} {oW : Nat} {o : Nat} (hl : l.stackTraces = false) (hW : z_W S oW) (hC : z_isCity S o) (N : Nat) (a0 : Int32) (a1 : Int32) (D : z_Dat) : ∀ out, z_ko (z_kR S D) (F_X6_dipsVia N o a0 a1 D) out → z_EM l M_X6_dipsVia (40, 640, 0, 0) [.ref 25, .ref o, .int a0, .int a1] S D out := by
  have hs25 : S[25]? = some (8, 2, [some (some 26), some (some 27)]) := hW.1 25 _ rfl
  have hs26 : S[26]? = some (0, 1000, []) := hW.1 26 _ rfl
  refine z_meth hl rfl kp_X6 (Nat.le_of_ble_eq_true rfl) (lv := [some (.ref 25), some (.ref o), some (.int a0), some (.int a1), none, none, none, none]) rfl ?_
  unfold F_X6_dipsVia
  refine z_iconst (v := (-1)) dX6_dipsVia_0 rfl ?_
  refine z_istore (i := 4) (x := (-1)) (lv' := [some (.ref 25), some (.ref o), some (.int a0), some (.int a1), some (.int (-1)), none, none, none]) dX6_dipsVia_1 (by decide) rfl rfl ?_
  refine z_iconst (v := 0) dX6_dipsVia_3 rfl ?_
  refine z_istore (i := 5) (x := 0) (lv' := [some (.ref 25), some (.ref o), some (.int a0), some (.int a1), some (.int (-1)), some (.int 0), none, none]) dX6_dipsVia_4 (by decide) rfl rfl ?_
  refine z_loops (lvOf := fun s : Int32 × Int32 => [some (.ref 25), some (.ref o), some (.int a0), some (.int a1), some (.int s.1), some (.int s.2), none, none]) (dOf := fun s : Int32 × Int32 => D) (fun kc3 hkc3 s => ?_) N ((-1), 0)
  obtain ⟨v1, v2⟩ := s
  show z_F _ _ _ _ _ 6 [some (.ref 25), some (.ref o), some (.int a0), some (.int a1), some (.int v1), some (.int v2), none, none] [] S D _ (F_X6_dipsVia_L6 o a0 a1 D kc3 v1 v2)
  unfold F_X6_dipsVia_L6
  refine z_iload (i := 5) (x := v2) dX6_dipsVia_6 rfl ?_
  refine z_aload_n (i := 1) (x := o) dX6_dipsVia_8 rfl rfl ?_
  refine z_getIN (j := 5) dX6_dipsVia_9 kl_1 hC.1 (by decide) rfl rfl kf_X6_30 ?_
  refine z_icmp_ge 83 dX6_dipsVia_12 (by decide) (fun c4 => ?_) (fun c4 => ?_)
  · refine z_iload (i := 4) (x := v1) dX6_dipsVia_83 rfl ?_
    exact z_ireturn dX6_dipsVia_85 z_rR rfl (by decide) (by decide)
  · refine z_iload_n (i := 2) (x := a0) dX6_dipsVia_15 rfl rfl ?_
    refine z_aload_n (i := 1) (x := o) dX6_dipsVia_16 rfl rfl ?_
    refine z_iload (i := 5) (x := v2) dX6_dipsVia_17 rfl ?_
    refine z_cP (As := [.ref o, .int v2]) (rest := [.int a0]) (em_X1_vatOf hl hC v2 D) (fun o7 h => z_runV 36 1 h rfl kk_X6_36 hC.1 kl_1.1 kq_X1_vatOf rfl (Nat.le_of_ble_eq_true rfl) ⟨Nat.le_of_ble_eq_true rfl, Nat.le_of_ble_eq_true rfl, Nat.le_of_ble_eq_true rfl, Nat.le_of_ble_eq_true rfl⟩ dX6_dipsVia_19) z_gR (fun hz5 => ?_)
    refine z_cP (As := [.int a0, .int (F_X1_vatOf o v2 D)]) (rest := []) (em_X10_deeper hl a0 (F_X1_vatOf o v2 D) D) (fun o7 h => z_runSN 40 2 h rfl kk_X6_40 kn_X6_40 kq_X10_deeper rfl (Nat.le_of_ble_eq_true rfl) ⟨Nat.le_of_ble_eq_true rfl, Nat.le_of_ble_eq_true rfl, Nat.le_of_ble_eq_true rfl, Nat.le_of_ble_eq_true rfl⟩ dX6_dipsVia_22) z_gR (fun hz6 => ?_)
    refine z_topi (fun v7 => ?_)
    refine z_istore (i := 6) (x := v7) (lv' := [some (.ref 25), some (.ref o), some (.int a0), some (.int a1), some (.int v1), some (.int v2), some (.int v7), none]) dX6_dipsVia_25 (by decide) rfl rfl ?_
    refine z_iload (i := 6) (x := v7) dX6_dipsVia_27 rfl ?_
    refine z_iload_n (i := 2) (x := a0) dX6_dipsVia_29 rfl rfl ?_
    refine z_icmp_le 77 dX6_dipsVia_30 (by decide) (fun c8 => ?_) (fun c8 => ?_)
    · refine z_iinc (i := 5) (x := v2) (y := 1) dX6_dipsVia_77 rfl (by decide) (by decide) rfl (fun v9 => ?_)
      refine z_goto 6 dX6_dipsVia_80 (by decide) ?_
      refine z_weak (lv' := [some (.ref 25), some (.ref o), some (.int a0), some (.int a1), some (.int v1), some (.int v9), none, none]) ⟨Or.inr rfl, ⟨Or.inr rfl, ⟨Or.inr rfl, ⟨Or.inr rfl, ⟨Or.inr rfl, ⟨Or.inr rfl, ⟨Or.inl rfl, ⟨Or.inl rfl, trivial⟩⟩⟩⟩⟩⟩⟩⟩ ?_
      exact hkc3 (v1, v9)
    · refine z_iload (i := 6) (x := v7) dX6_dipsVia_33 rfl ?_
      refine z_iload_n (i := 3) (x := a1) dX6_dipsVia_35 rfl rfl ?_
      refine z_icmp_gt 77 dX6_dipsVia_36 (by decide) (fun c10 => ?_) (fun c10 => ?_)
      · refine z_iinc (i := 5) (x := v2) (y := 1) dX6_dipsVia_77 rfl (by decide) (by decide) rfl (fun v11 => ?_)
        refine z_goto 6 dX6_dipsVia_80 (by decide) ?_
        refine z_weak (lv' := [some (.ref 25), some (.ref o), some (.int a0), some (.int a1), some (.int v1), some (.int v11), none, none]) ⟨Or.inr rfl, ⟨Or.inr rfl, ⟨Or.inr rfl, ⟨Or.inr rfl, ⟨Or.inr rfl, ⟨Or.inr rfl, ⟨Or.inl rfl, ⟨Or.inl rfl, trivial⟩⟩⟩⟩⟩⟩⟩⟩ ?_
        exact hkc3 (v1, v11)
      · refine z_aload_n (i := 0) (x := 25) dX6_dipsVia_39 rfl rfl ?_
        refine z_getR (j := 0) dX6_dipsVia_40 kl_6 hs25 (by decide) rfl rfl kf_X6_9 ?_
        refine z_iload (i := 6) (x := v7) dX6_dipsVia_43 rfl ?_
        refine z_cP (As := [.ref 26, .int v7]) (rest := []) (em_X10_at (n0 := 1000) hl hs26 (by decide) v7 D) (fun o7 h => z_runSN 26 2 h rfl kk_X6_26 kn_X6_26 kq_X10_at rfl (Nat.le_of_ble_eq_true rfl) ⟨Nat.le_of_ble_eq_true rfl, Nat.le_of_ble_eq_true rfl, Nat.le_of_ble_eq_true rfl, Nat.le_of_ble_eq_true rfl⟩ dX6_dipsVia_45) z_gR (fun hz12 => ?_)
        refine z_topi (fun v13 => ?_)
        refine z_istore (i := 7) (x := v13) (lv' := [some (.ref 25), some (.ref o), some (.int a0), some (.int a1), some (.int v1), some (.int v2), some (.int v7), some (.int v13)]) dX6_dipsVia_48 (by decide) rfl rfl ?_
        refine z_iload (i := 7) (x := v13) dX6_dipsVia_50 rfl ?_
        refine z_iconst (v := (-1)) dX6_dipsVia_52 rfl ?_
        refine z_icmp_eq 77 dX6_dipsVia_53 (by decide) (fun c14 => ?_) (fun c14 => ?_)
        · refine z_iinc (i := 5) (x := v2) (y := 1) dX6_dipsVia_77 rfl (by decide) (by decide) rfl (fun v15 => ?_)
          refine z_goto 6 dX6_dipsVia_80 (by decide) ?_
          refine z_weak (lv' := [some (.ref 25), some (.ref o), some (.int a0), some (.int a1), some (.int v1), some (.int v15), none, none]) ⟨Or.inr rfl, ⟨Or.inr rfl, ⟨Or.inr rfl, ⟨Or.inr rfl, ⟨Or.inr rfl, ⟨Or.inr rfl, ⟨Or.inl rfl, ⟨Or.inl rfl, trivial⟩⟩⟩⟩⟩⟩⟩⟩ ?_
          exact hkc3 (v1, v15)
        · refine z_iload (i := 4) (x := v1) dX6_dipsVia_56 rfl ?_
          refine z_iconst (v := (-1)) dX6_dipsVia_58 rfl ?_
          refine z_icmp_eq 71 dX6_dipsVia_59 (by decide) (fun c16 => ?_) (fun c16 => ?_)
          · refine z_iload (i := 7) (x := v13) dX6_dipsVia_71 rfl ?_
            refine z_iconst (v := 1) dX6_dipsVia_73 rfl ?_
            refine z_iadd dX6_dipsVia_74 ?_
            refine z_topi (fun v17 => ?_)
            refine z_istore (i := 4) (x := v17) (lv' := [some (.ref 25), some (.ref o), some (.int a0), some (.int a1), some (.int v17), some (.int v2), some (.int v7), some (.int v13)]) dX6_dipsVia_75 (by decide) rfl rfl ?_
            refine z_iinc (i := 5) (x := v2) (y := 1) dX6_dipsVia_77 rfl (by decide) (by decide) rfl (fun v18 => ?_)
            refine z_goto 6 dX6_dipsVia_80 (by decide) ?_
            refine z_weak (lv' := [some (.ref 25), some (.ref o), some (.int a0), some (.int a1), some (.int v17), some (.int v18), none, none]) ⟨Or.inr rfl, ⟨Or.inr rfl, ⟨Or.inr rfl, ⟨Or.inr rfl, ⟨Or.inr rfl, ⟨Or.inr rfl, ⟨Or.inl rfl, ⟨Or.inl rfl, trivial⟩⟩⟩⟩⟩⟩⟩⟩ ?_
            exact hkc3 (v17, v18)
          · refine z_iload (i := 7) (x := v13) dX6_dipsVia_62 rfl ?_
            refine z_iconst (v := 1) dX6_dipsVia_64 rfl ?_
            refine z_iadd dX6_dipsVia_65 ?_
            refine z_iload (i := 4) (x := v1) dX6_dipsVia_66 rfl ?_
            refine z_icmp_ge 77 dX6_dipsVia_68 (by decide) (fun c19 => ?_) (fun c19 => ?_)
            · refine z_iinc (i := 5) (x := v2) (y := 1) dX6_dipsVia_77 rfl (by decide) (by decide) rfl (fun v20 => ?_)
              refine z_goto 6 dX6_dipsVia_80 (by decide) ?_
              refine z_weak (lv' := [some (.ref 25), some (.ref o), some (.int a0), some (.int a1), some (.int v1), some (.int v20), none, none]) ⟨Or.inr rfl, ⟨Or.inr rfl, ⟨Or.inr rfl, ⟨Or.inr rfl, ⟨Or.inr rfl, ⟨Or.inr rfl, ⟨Or.inl rfl, ⟨Or.inl rfl, trivial⟩⟩⟩⟩⟩⟩⟩⟩ ?_
              exact hkc3 (v1, v20)
            · refine z_iload (i := 7) (x := v13) dX6_dipsVia_71 rfl ?_
              refine z_iconst (v := 1) dX6_dipsVia_73 rfl ?_
              refine z_iadd dX6_dipsVia_74 ?_
              refine z_topi (fun v21 => ?_)
              refine z_istore (i := 4) (x := v21) (lv' := [some (.ref 25), some (.ref o), some (.int a0), some (.int a1), some (.int v21), some (.int v2), some (.int v7), some (.int v13)]) dX6_dipsVia_75 (by decide) rfl rfl ?_
              refine z_iinc (i := 5) (x := v2) (y := 1) dX6_dipsVia_77 rfl (by decide) (by decide) rfl (fun v22 => ?_)
              refine z_goto 6 dX6_dipsVia_80 (by decide) ?_
              refine z_weak (lv' := [some (.ref 25), some (.ref o), some (.int a0), some (.int a1), some (.int v21), some (.int v22), none, none]) ⟨Or.inr rfl, ⟨Or.inr rfl, ⟨Or.inr rfl, ⟨Or.inr rfl, ⟨Or.inr rfl, ⟨Or.inr rfl, ⟨Or.inl rfl, ⟨Or.inl rfl, trivial⟩⟩⟩⟩⟩⟩⟩⟩ ?_
              exact hkc3 (v21, v22)

def F_X6_fewestDips_L3 (N : Nat) (o : Nat) (a0 : Int32) (a1 : Int32) (kc3 : ((Int32 × z_Dat) → Option (Int32 × z_Dat))) (v1 : Int32) (D2 : z_Dat) : Option (Int32 × z_Dat) :=
  if v1 < a0 then (if a0 ≤ a1 then (some (F_X10_at 26 1000 a0 D2, D2))
  else (some ((-1), D2)))
  else (if v1 = a1 then (z_let (F_X10_put 26 1000 v1 0 D2) (fun a_9 => z_let (v1 + (-1)) (fun v10 => kc3 (v10, a_9))))
  else (z_bd (F_X6_dipsVia N o v1 a1 D2) (fun a_12 => z_let (F_X10_put 26 1000 v1 a_12 D2) (fun a_14 => z_let (v1 + (-1)) (fun v15 => kc3 (v15, a_14))))))
def F_X6_fewestDips (N : Nat) (o : Nat) (a0 : Int32) (a1 : Int32) (D : z_Dat) : Option (Int32 × z_Dat) :=
  z_loop (fun kc3 s => F_X6_fewestDips_L3 N o a0 a1 kc3 s.1 s.2) N (a1, D)
set_option maxRecDepth 100000 in
set_option maxHeartbeats 4000000 in
theorem em_X6_fewestDips {l : Launch} {S : List z_Shp} {oW : Nat} {o : Nat} (hl : l.stackTraces = false) (hW : z_W S oW) (hC : z_isCity S o) (N : Nat) (a0 : Int32) (a1 : Int32) (D : z_Dat) : ∀ out, z_ko (z_kI S) (F_X6_fewestDips N o a0 a1 D) out → z_EM l M_X6_fewestDips (50, 700, 0, 0) [.ref 25, .ref o, .int a0, .int a1] S D out := by
  have hs25 : S[25]? = some (8, 2, [some (some 26), some (some 27)]) := hW.1 25 _ rfl
  have hs26 : S[26]? = some (0, 1000, []) := hW.1 26 _ rfl
  refine z_meth hl rfl kp_X6 (Nat.le_of_ble_eq_true rfl) (lv := [some (.ref 25), some (.ref o), some (.int a0), some (.int a1), none]) rfl ?_
  unfold F_X6_fewestDips
  refine z_iload_n (i := 3) (x := a1) dX6_fewestDips_0 rfl rfl ?_
  refine z_istore (i := 4) (x := a1) (lv' := [some (.ref 25), some (.ref o), some (.int a0), some (.int a1), some (.int a1)]) dX6_fewestDips_1 (by decide) rfl rfl ?_
  refine z_loops (lvOf := fun s : Int32 × z_Dat => [some (.ref 25), some (.ref o), some (.int a0), some (.int a1), some (.int s.1)]) (dOf := fun s : Int32 × z_Dat => s.2) (fun kc3 hkc3 s => ?_) N (a1, D)
  obtain ⟨v1, D2⟩ := s
  show z_F _ _ _ _ _ 3 [some (.ref 25), some (.ref o), some (.int a0), some (.int a1), some (.int v1)] [] S D2 _ (F_X6_fewestDips_L3 N o a0 a1 kc3 v1 D2)
  unfold F_X6_fewestDips_L3
  refine z_iload (i := 4) (x := v1) dX6_fewestDips_3 rfl ?_
  refine z_iload_n (i := 2) (x := a0) dX6_fewestDips_5 rfl rfl ?_
  refine z_icmp_lt 42 dX6_fewestDips_6 (by decide) (fun c4 => ?_) (fun c4 => ?_)
  · refine z_iload_n (i := 2) (x := a0) dX6_fewestDips_42 rfl rfl ?_
    refine z_iload_n (i := 3) (x := a1) dX6_fewestDips_43 rfl rfl ?_
    refine z_icmp_le 51 dX6_fewestDips_44 (by decide) (fun c5 => ?_) (fun c5 => ?_)
    · refine z_aload_n (i := 0) (x := 25) dX6_fewestDips_51 rfl rfl ?_
      refine z_getR (j := 0) dX6_fewestDips_52 kl_6 hs25 (by decide) rfl rfl kf_X6_9 ?_
      refine z_iload_n (i := 2) (x := a0) dX6_fewestDips_55 rfl rfl ?_
      refine z_cP (As := [.ref 26, .int a0]) (rest := []) (em_X10_at (n0 := 1000) hl hs26 (by decide) a0 D2) (fun o7 h => z_runSN 26 2 h rfl kk_X6_26 kn_X6_26 kq_X10_at rfl (Nat.le_of_ble_eq_true rfl) ⟨Nat.le_of_ble_eq_true rfl, Nat.le_of_ble_eq_true rfl, Nat.le_of_ble_eq_true rfl, Nat.le_of_ble_eq_true rfl⟩ dX6_fewestDips_56) z_gWI (fun hz6 => ?_)
      exact z_ireturn dX6_fewestDips_59 z_rWI rfl (by decide) (by decide)
    · refine z_iconst (v := (-1)) dX6_fewestDips_47 rfl ?_
      refine z_goto 59 dX6_fewestDips_48 (by decide) ?_
      exact z_ireturn dX6_fewestDips_59 z_rWI rfl (by decide) (by decide)
  · refine z_aload_n (i := 0) (x := 25) dX6_fewestDips_9 rfl rfl ?_
    refine z_getR (j := 0) dX6_fewestDips_10 kl_6 hs25 (by decide) rfl rfl kf_X6_9 ?_
    refine z_iload (i := 4) (x := v1) dX6_fewestDips_13 rfl ?_
    refine z_iload (i := 4) (x := v1) dX6_fewestDips_15 rfl ?_
    refine z_iload_n (i := 3) (x := a1) dX6_fewestDips_17 rfl rfl ?_
    refine z_icmp_ne 25 dX6_fewestDips_18 (by decide) (fun c7 => ?_) (fun c7 => ?_)
    · refine z_iconst (v := 0) dX6_fewestDips_21 rfl ?_
      refine z_goto 33 dX6_fewestDips_22 (by decide) ?_
      refine z_cTV (As := [.ref 26, .int v1, .int 0]) (rest := []) (em_X10_put (n0 := 1000) hl hs26 (by decide) v1 0 D2) (fun o7 h => z_runSN 22 3 h rfl kk_X6_22 kn_X6_22 kq_X10_put rfl (Nat.le_of_ble_eq_true rfl) ⟨Nat.le_of_ble_eq_true rfl, Nat.le_of_ble_eq_true rfl, Nat.le_of_ble_eq_true rfl, Nat.le_of_ble_eq_true rfl⟩ dX6_fewestDips_33) z_gWI (fun a_9 hz8 => ?_)
      refine z_iinc (i := 4) (x := v1) (y := (-1)) dX6_fewestDips_36 rfl (by decide) (by decide) rfl (fun v10 => ?_)
      refine z_goto 3 dX6_fewestDips_39 (by decide) ?_
      exact hkc3 (v10, a_9)
    · refine z_aload_n (i := 0) (x := 25) dX6_fewestDips_25 rfl rfl ?_
      refine z_aload_n (i := 1) (x := o) dX6_fewestDips_26 rfl rfl ?_
      refine z_iload (i := 4) (x := v1) dX6_fewestDips_27 rfl ?_
      refine z_iload_n (i := 3) (x := a1) dX6_fewestDips_29 rfl rfl ?_
      refine z_cR (As := [.ref 25, .ref o, .int v1, .int a1]) (rest := [.int v1, .ref 26]) (em_X6_dipsVia hl hW hC N v1 a1 D2) (fun o7 h => z_runV 18 3 h rfl kk_X6_18 hs25 kl_6.1 kq_X6_dipsVia rfl (Nat.le_of_ble_eq_true rfl) ⟨Nat.le_of_ble_eq_true rfl, Nat.le_of_ble_eq_true rfl, Nat.le_of_ble_eq_true rfl, Nat.le_of_ble_eq_true rfl⟩ dX6_fewestDips_30) z_gWI (fun a_12 hz11 => ?_)
      refine z_cTV (As := [.ref 26, .int v1, .int a_12]) (rest := []) (em_X10_put (n0 := 1000) hl hs26 (by decide) v1 a_12 D2) (fun o7 h => z_runSN 22 3 h rfl kk_X6_22 kn_X6_22 kq_X10_put rfl (Nat.le_of_ble_eq_true rfl) ⟨Nat.le_of_ble_eq_true rfl, Nat.le_of_ble_eq_true rfl, Nat.le_of_ble_eq_true rfl, Nat.le_of_ble_eq_true rfl⟩ dX6_fewestDips_33) z_gWI (fun a_14 hz13 => ?_)
      refine z_iinc (i := 4) (x := v1) (y := (-1)) dX6_fewestDips_36 rfl (by decide) (by decide) rfl (fun v15 => ?_)
      refine z_goto 3 dX6_fewestDips_39 (by decide) ?_
      exact hkc3 (v15, a_14)

def F_X10_way_J20 (N : Nat) (o : Nat) (a0 : Int32) (a1 : Int32) (D4 : z_Dat) : Option ((Int32 × z_Dat) ⊕ (String × z_Dat)) :=
  z_bt (F_X10_demand 0 D4) (fun a_6 => z_bd (F_X6_fewestDips N o a0 a1 a_6) (fun a_8 => some (.inl (a_8.1, a_8.2))))
def F_X10_way_J19 (N : Nat) (o : Nat) (a0 : Int32) (a1 : Int32) (D3 : z_Dat) : Option ((Int32 × z_Dat) ⊕ (String × z_Dat)) :=
  F_X10_way_J20 N o a0 a1 D3
def F_X10_way_J20x (N : Nat) (o : Nat) (a0 : Int32) (a1 : Int32) (D11 : z_Dat) : Option ((Int32 × z_Dat) ⊕ (String × z_Dat)) :=
  z_bt (F_X10_demand 1 D11) (fun a_13 => z_bd (F_X6_fewestDips N o a0 a1 a_13) (fun a_15 => some (.inl (a_15.1, a_15.2))))
def F_X10_way (N : Nat) (o : Nat) (a0 : Int32) (a1 : Int32) (D : z_Dat) : Option ((Int32 × z_Dat) ⊕ (String × z_Dat)) :=
  if (F_X10_isShade a0) = 0 then (F_X10_way_J19 N o a0 a1 D)
  else (if (F_X10_isShade a1) = 0 then (F_X10_way_J19 N o a0 a1 D)
  else (F_X10_way_J20x N o a0 a1 D))
set_option maxRecDepth 100000 in
set_option maxHeartbeats 4000000 in
theorem em_X10_way {l : Launch} {S : List z_Shp} {o : Nat} (hl : l.stackTraces = false) (hW : z_W S o) (N : Nat) (a0 : Int32) (a1 : Int32) (D : z_Dat) : ∀ out, z_ko (z_kTI S) (F_X10_way N o a0 a1 D) out → z_EM l M_X10_way (60, 760, 1, 6) [.ref 0, .int a0, .int a1] S D out := by
  have hC := hW.2
  have hs0 : S[0]? = some (12, 15, [some (some 1), some (some 3), some (some 5), some (some 7), some (some 12), some (some 15), some (some 21), some (some 25), some (some 28), some (some 32), some (some 33), some (some o), none, none, none]) := hW.1 0 _ rfl
  have hs25 : S[25]? = some (8, 2, [some (some 26), some (some 27)]) := hW.1 25 _ rfl
  refine z_meth hl rfl kp_X10 (Nat.le_of_ble_eq_true rfl) (lv := [some (.ref 0), some (.int a0), some (.int a1)]) rfl ?_
  unfold F_X10_way
  have hJ_F_X10_way_J20 : ∀ (D4 : z_Dat) , z_F l M_X10_way (60, 760, 1, 6) 0 0 20 [some (.ref 0), some (.int a0), some (.int a1)] [.int 0, .ref 0] S D4 (z_ko (z_kTI S)) (F_X10_way_J20 N o a0 a1 D4) := by
    intro D4
    unfold F_X10_way_J20
    refine z_cXVI rfl (As := [.ref 0, .int 0]) (rest := []) (em_X10_demand hl hW 0 D4) (fun o7 h => z_runV 102 1 h rfl kk_X10_102 hs0 kl_10.1 kq_X10_demand rfl (Nat.le_of_ble_eq_true rfl) ⟨Nat.le_of_ble_eq_true rfl, Nat.le_of_ble_eq_true rfl, Nat.le_of_ble_eq_true rfl, Nat.le_of_ble_eq_true rfl⟩ dX10_way_20) (by decide) (by decide) (fun a_6 hz5 => ?_)
    refine z_aload_n (i := 0) (x := 0) dX10_way_23 rfl rfl ?_
    refine z_getR (j := 7) dX10_way_24 kl_10 hs0 (by decide) rfl rfl kf_X10_57 ?_
    refine z_aload_n (i := 0) (x := 0) dX10_way_27 rfl rfl ?_
    refine z_getR (j := 11) dX10_way_28 kl_10 hs0 (by decide) rfl rfl kf_X10_82 ?_
    refine z_iload_n (i := 1) (x := a0) dX10_way_31 rfl rfl ?_
    refine z_iload_n (i := 2) (x := a1) dX10_way_32 rfl rfl ?_
    refine z_cWI (As := [.ref 25, .ref o, .int a0, .int a1]) (rest := []) (em_X6_fewestDips hl hW hC N a0 a1 a_6) (fun o7 h => z_runV 255 3 h rfl kk_X10_255 hs25 kl_6.1 kq_X6_fewestDips rfl (Nat.le_of_ble_eq_true rfl) ⟨Nat.le_of_ble_eq_true rfl, Nat.le_of_ble_eq_true rfl, Nat.le_of_ble_eq_true rfl, Nat.le_of_ble_eq_true rfl⟩ dX10_way_33) z_gXI (fun a_8 hz7 => ?_)
    exact z_ireturn dX10_way_36 z_rXI rfl (by decide) (by decide)
  have hJ_F_X10_way_J19 : ∀ (D3 : z_Dat) , z_F l M_X10_way (60, 760, 1, 6) 0 0 19 [some (.ref 0), some (.int a0), some (.int a1)] [.ref 0] S D3 (z_ko (z_kTI S)) (F_X10_way_J19 N o a0 a1 D3) := by
    intro D3
    unfold F_X10_way_J19
    refine z_iconst (v := 0) dX10_way_19 rfl ?_
    refine z_widen (k := 0) (n := 0) (by decide) (by decide) ?_
    exact hJ_F_X10_way_J20 D3
  have hJ_F_X10_way_J20x : ∀ (D11 : z_Dat) , z_F l M_X10_way (60, 760, 1, 6) 0 0 20 [some (.ref 0), some (.int a0), some (.int a1)] [.int 1, .ref 0] S D11 (z_ko (z_kTI S)) (F_X10_way_J20x N o a0 a1 D11) := by
    intro D11
    unfold F_X10_way_J20x
    refine z_cXVI rfl (As := [.ref 0, .int 1]) (rest := []) (em_X10_demand hl hW 1 D11) (fun o7 h => z_runV 102 1 h rfl kk_X10_102 hs0 kl_10.1 kq_X10_demand rfl (Nat.le_of_ble_eq_true rfl) ⟨Nat.le_of_ble_eq_true rfl, Nat.le_of_ble_eq_true rfl, Nat.le_of_ble_eq_true rfl, Nat.le_of_ble_eq_true rfl⟩ dX10_way_20) (by decide) (by decide) (fun a_13 hz12 => ?_)
    refine z_aload_n (i := 0) (x := 0) dX10_way_23 rfl rfl ?_
    refine z_getR (j := 7) dX10_way_24 kl_10 hs0 (by decide) rfl rfl kf_X10_57 ?_
    refine z_aload_n (i := 0) (x := 0) dX10_way_27 rfl rfl ?_
    refine z_getR (j := 11) dX10_way_28 kl_10 hs0 (by decide) rfl rfl kf_X10_82 ?_
    refine z_iload_n (i := 1) (x := a0) dX10_way_31 rfl rfl ?_
    refine z_iload_n (i := 2) (x := a1) dX10_way_32 rfl rfl ?_
    refine z_cWI (As := [.ref 25, .ref o, .int a0, .int a1]) (rest := []) (em_X6_fewestDips hl hW hC N a0 a1 a_13) (fun o7 h => z_runV 255 3 h rfl kk_X10_255 hs25 kl_6.1 kq_X6_fewestDips rfl (Nat.le_of_ble_eq_true rfl) ⟨Nat.le_of_ble_eq_true rfl, Nat.le_of_ble_eq_true rfl, Nat.le_of_ble_eq_true rfl, Nat.le_of_ble_eq_true rfl⟩ dX10_way_33) z_gXI (fun a_15 hz14 => ?_)
    exact z_ireturn dX10_way_36 z_rXI rfl (by decide) (by decide)
  refine z_aload_n (i := 0) (x := 0) dX10_way_0 rfl rfl ?_
  refine z_iload_n (i := 1) (x := a0) dX10_way_1 rfl rfl ?_
  refine z_cP (As := [.int a0]) (rest := [.ref 0]) (em_X10_isShade hl a0 D) (fun o7 h => z_runS 232 1 h rfl kk_X10_232 kq_X10_isShade rfl (Nat.le_of_ble_eq_true rfl) ⟨Nat.le_of_ble_eq_true rfl, Nat.le_of_ble_eq_true rfl, Nat.le_of_ble_eq_true rfl, Nat.le_of_ble_eq_true rfl⟩ dX10_way_2) z_gXI (fun hz1 => ?_)
  refine z_if_eq 19 dX10_way_5 (by decide) (fun c2 => ?_) (fun c2 => ?_)
  · refine z_widen (k := 0) (n := 0) (by decide) (by decide) ?_
    exact hJ_F_X10_way_J19 D
  · refine z_iload_n (i := 2) (x := a1) dX10_way_8 rfl rfl ?_
    refine z_cP (As := [.int a1]) (rest := [.ref 0]) (em_X10_isShade hl a1 D) (fun o7 h => z_runS 232 1 h rfl kk_X10_232 kq_X10_isShade rfl (Nat.le_of_ble_eq_true rfl) ⟨Nat.le_of_ble_eq_true rfl, Nat.le_of_ble_eq_true rfl, Nat.le_of_ble_eq_true rfl, Nat.le_of_ble_eq_true rfl⟩ dX10_way_9) z_gXI (fun hz9 => ?_)
    refine z_if_eq 19 dX10_way_12 (by decide) (fun c10 => ?_) (fun c10 => ?_)
    · refine z_widen (k := 0) (n := 0) (by decide) (by decide) ?_
      exact hJ_F_X10_way_J19 D
    · refine z_iconst (v := 1) dX10_way_15 rfl ?_
      refine z_goto 20 dX10_way_16 (by decide) ?_
      refine z_widen (k := 0) (n := 0) (by decide) (by decide) ?_
      exact hJ_F_X10_way_J20x D

def F_X6_firstDip_L3 (o : Nat) (a0 : Int32) (a1 : Int32) (D : z_Dat) (kc2 : (Int32 → Option Int32)) (v1 : Int32) : Option Int32 :=
  if (D o 5) ≤ v1 then (some (-1))
  else (z_let (F_X10_deeper a0 (F_X1_vatOf o v1 D)) (fun v6 => if v6 ≤ a0 then (z_let (v1 + 1) (fun v8 => kc2 v8))
  else (if a1 < v6 then (z_let (v1 + 1) (fun v10 => kc2 v10))
  else (if (F_X10_at 26 1000 v6 D) = ((F_X10_at 26 1000 a0 D) - 1) then (some v1)
  else (z_let (v1 + 1) (fun v14 => kc2 v14))))))
def F_X6_firstDip (N : Nat) (o : Nat) (a0 : Int32) (a1 : Int32) (D : z_Dat) : Option Int32 :=
  z_loop (fun kc2 s => F_X6_firstDip_L3 o a0 a1 D kc2 s) N 0
set_option maxRecDepth 100000 in
set_option maxHeartbeats 4000000 in
theorem em_X6_firstDip {l : Launch} {S : List z_Shp} {oW : Nat} {o : Nat} (hl : l.stackTraces = false) (hW : z_W S oW) (hC : z_isCity S o) (N : Nat) (a0 : Int32) (a1 : Int32) (D : z_Dat) : ∀ out, z_ko (z_kR S D) (F_X6_firstDip N o a0 a1 D) out → z_EM l M_X6_firstDip (40, 640, 0, 0) [.ref 25, .ref o, .int a0, .int a1] S D out := by
  have hs25 : S[25]? = some (8, 2, [some (some 26), some (some 27)]) := hW.1 25 _ rfl
  have hs26 : S[26]? = some (0, 1000, []) := hW.1 26 _ rfl
  refine z_meth hl rfl kp_X6 (Nat.le_of_ble_eq_true rfl) (lv := [some (.ref 25), some (.ref o), some (.int a0), some (.int a1), none, none]) rfl ?_
  unfold F_X6_firstDip
  refine z_iconst (v := 0) dX6_firstDip_0 rfl ?_
  refine z_istore (i := 4) (x := 0) (lv' := [some (.ref 25), some (.ref o), some (.int a0), some (.int a1), some (.int 0), none]) dX6_firstDip_1 (by decide) rfl rfl ?_
  refine z_loops (lvOf := fun s : Int32 => [some (.ref 25), some (.ref o), some (.int a0), some (.int a1), some (.int s), none]) (dOf := fun s : Int32 => D) (fun kc2 hkc2 s => ?_) N 0
  obtain ⟨v1, hq⟩ : ∃ z, z = s := ⟨_, rfl⟩
  subst hq
  show z_F _ _ _ _ _ 3 [some (.ref 25), some (.ref o), some (.int a0), some (.int a1), some (.int v1), none] [] S D _ (F_X6_firstDip_L3 o a0 a1 D kc2 v1)
  unfold F_X6_firstDip_L3
  refine z_iload (i := 4) (x := v1) dX6_firstDip_3 rfl ?_
  refine z_aload_n (i := 1) (x := o) dX6_firstDip_5 rfl rfl ?_
  refine z_getIN (j := 5) dX6_firstDip_6 kl_1 hC.1 (by decide) rfl rfl kf_X6_30 ?_
  refine z_icmp_ge 67 dX6_firstDip_9 (by decide) (fun c3 => ?_) (fun c3 => ?_)
  · refine z_iconst (v := (-1)) dX6_firstDip_67 rfl ?_
    exact z_ireturn dX6_firstDip_68 z_rR rfl (by decide) (by decide)
  · refine z_iload_n (i := 2) (x := a0) dX6_firstDip_12 rfl rfl ?_
    refine z_aload_n (i := 1) (x := o) dX6_firstDip_13 rfl rfl ?_
    refine z_iload (i := 4) (x := v1) dX6_firstDip_14 rfl ?_
    refine z_cP (As := [.ref o, .int v1]) (rest := [.int a0]) (em_X1_vatOf hl hC v1 D) (fun o7 h => z_runV 36 1 h rfl kk_X6_36 hC.1 kl_1.1 kq_X1_vatOf rfl (Nat.le_of_ble_eq_true rfl) ⟨Nat.le_of_ble_eq_true rfl, Nat.le_of_ble_eq_true rfl, Nat.le_of_ble_eq_true rfl, Nat.le_of_ble_eq_true rfl⟩ dX6_firstDip_16) z_gR (fun hz4 => ?_)
    refine z_cP (As := [.int a0, .int (F_X1_vatOf o v1 D)]) (rest := []) (em_X10_deeper hl a0 (F_X1_vatOf o v1 D) D) (fun o7 h => z_runSN 40 2 h rfl kk_X6_40 kn_X6_40 kq_X10_deeper rfl (Nat.le_of_ble_eq_true rfl) ⟨Nat.le_of_ble_eq_true rfl, Nat.le_of_ble_eq_true rfl, Nat.le_of_ble_eq_true rfl, Nat.le_of_ble_eq_true rfl⟩ dX6_firstDip_19) z_gR (fun hz5 => ?_)
    refine z_topi (fun v6 => ?_)
    refine z_istore (i := 5) (x := v6) (lv' := [some (.ref 25), some (.ref o), some (.int a0), some (.int a1), some (.int v1), some (.int v6)]) dX6_firstDip_22 (by decide) rfl rfl ?_
    refine z_iload (i := 5) (x := v6) dX6_firstDip_24 rfl ?_
    refine z_iload_n (i := 2) (x := a0) dX6_firstDip_26 rfl rfl ?_
    refine z_icmp_le 61 dX6_firstDip_27 (by decide) (fun c7 => ?_) (fun c7 => ?_)
    · refine z_iinc (i := 4) (x := v1) (y := 1) dX6_firstDip_61 rfl (by decide) (by decide) rfl (fun v8 => ?_)
      refine z_goto 3 dX6_firstDip_64 (by decide) ?_
      refine z_weak (lv' := [some (.ref 25), some (.ref o), some (.int a0), some (.int a1), some (.int v8), none]) ⟨Or.inr rfl, ⟨Or.inr rfl, ⟨Or.inr rfl, ⟨Or.inr rfl, ⟨Or.inr rfl, ⟨Or.inl rfl, trivial⟩⟩⟩⟩⟩⟩ ?_
      exact hkc2 v8
    · refine z_iload (i := 5) (x := v6) dX6_firstDip_30 rfl ?_
      refine z_iload_n (i := 3) (x := a1) dX6_firstDip_32 rfl rfl ?_
      refine z_icmp_gt 61 dX6_firstDip_33 (by decide) (fun c9 => ?_) (fun c9 => ?_)
      · refine z_iinc (i := 4) (x := v1) (y := 1) dX6_firstDip_61 rfl (by decide) (by decide) rfl (fun v10 => ?_)
        refine z_goto 3 dX6_firstDip_64 (by decide) ?_
        refine z_weak (lv' := [some (.ref 25), some (.ref o), some (.int a0), some (.int a1), some (.int v10), none]) ⟨Or.inr rfl, ⟨Or.inr rfl, ⟨Or.inr rfl, ⟨Or.inr rfl, ⟨Or.inr rfl, ⟨Or.inl rfl, trivial⟩⟩⟩⟩⟩⟩ ?_
        exact hkc2 v10
      · refine z_aload_n (i := 0) (x := 25) dX6_firstDip_36 rfl rfl ?_
        refine z_getR (j := 0) dX6_firstDip_37 kl_6 hs25 (by decide) rfl rfl kf_X6_9 ?_
        refine z_iload (i := 5) (x := v6) dX6_firstDip_40 rfl ?_
        refine z_cP (As := [.ref 26, .int v6]) (rest := []) (em_X10_at (n0 := 1000) hl hs26 (by decide) v6 D) (fun o7 h => z_runSN 26 2 h rfl kk_X6_26 kn_X6_26 kq_X10_at rfl (Nat.le_of_ble_eq_true rfl) ⟨Nat.le_of_ble_eq_true rfl, Nat.le_of_ble_eq_true rfl, Nat.le_of_ble_eq_true rfl, Nat.le_of_ble_eq_true rfl⟩ dX6_firstDip_42) z_gR (fun hz11 => ?_)
        refine z_aload_n (i := 0) (x := 25) dX6_firstDip_45 rfl rfl ?_
        refine z_getR (j := 0) dX6_firstDip_46 kl_6 hs25 (by decide) rfl rfl kf_X6_9 ?_
        refine z_iload_n (i := 2) (x := a0) dX6_firstDip_49 rfl rfl ?_
        refine z_cP (As := [.ref 26, .int a0]) (rest := [.int (F_X10_at 26 1000 v6 D)]) (em_X10_at (n0 := 1000) hl hs26 (by decide) a0 D) (fun o7 h => z_runSN 26 2 h rfl kk_X6_26 kn_X6_26 kq_X10_at rfl (Nat.le_of_ble_eq_true rfl) ⟨Nat.le_of_ble_eq_true rfl, Nat.le_of_ble_eq_true rfl, Nat.le_of_ble_eq_true rfl, Nat.le_of_ble_eq_true rfl⟩ dX6_firstDip_50) z_gR (fun hz12 => ?_)
        refine z_iconst (v := 1) dX6_firstDip_53 rfl ?_
        refine z_isub dX6_firstDip_54 ?_
        refine z_icmp_ne 61 dX6_firstDip_55 (by decide) (fun c13 => ?_) (fun c13 => ?_)
        · refine z_iload (i := 4) (x := v1) dX6_firstDip_58 rfl ?_
          exact z_ireturn dX6_firstDip_60 z_rR rfl (by decide) (by decide)
        · refine z_iinc (i := 4) (x := v1) (y := 1) dX6_firstDip_61 rfl (by decide) (by decide) rfl (fun v14 => ?_)
          refine z_goto 3 dX6_firstDip_64 (by decide) ?_
          refine z_weak (lv' := [some (.ref 25), some (.ref o), some (.int a0), some (.int a1), some (.int v14), none]) ⟨Or.inr rfl, ⟨Or.inr rfl, ⟨Or.inr rfl, ⟨Or.inr rfl, ⟨Or.inr rfl, ⟨Or.inl rfl, trivial⟩⟩⟩⟩⟩⟩ ?_
          exact hkc2 v14

def F_X6_dipOnTheWay_L24 (N : Nat) (o : Nat) (a1 : Int32) (a2 : Int32) (a_2 : (Int32 × z_Dat)) (kc6 : ((Int32 × Int32) → Option (Int32 × z_Dat))) (v4 : Int32) (v5 : Int32) : Option (Int32 × z_Dat) :=
  if a2 ≤ v5 then (z_bd (F_X6_firstDip N o v4 a1 a_2.2) (fun a_9 => some (a_9, a_2.2)))
  else (z_bd (F_X6_firstDip N o v4 a1 a_2.2) (fun a_11 => z_let (F_X10_deeper v4 (F_X1_vatOf o a_11 a_2.2)) (fun v14 => z_let (v5 + 1) (fun v15 => kc6 (v14, v15)))))
def F_X6_dipOnTheWay (N : Nat) (o : Nat) (a0 : Int32) (a1 : Int32) (a2 : Int32) (D : z_Dat) : Option (Int32 × z_Dat) :=
  z_bd (F_X6_fewestDips N o a0 a1 D) (fun a_2 => if a2 < a_2.1 then (z_loop (fun kc6 s => F_X6_dipOnTheWay_L24 N o a1 a2 a_2 kc6 s.1 s.2) N (a0, 0))
  else (some ((-1), a_2.2)))
set_option maxRecDepth 100000 in
set_option maxHeartbeats 4000000 in
theorem em_X6_dipOnTheWay {l : Launch} {S : List z_Shp} {oW : Nat} {o : Nat} (hl : l.stackTraces = false) (hW : z_W S oW) (hC : z_isCity S o) (N : Nat) (a0 : Int32) (a1 : Int32) (a2 : Int32) (D : z_Dat) : ∀ out, z_ko (z_kI S) (F_X6_dipOnTheWay N o a0 a1 a2 D) out → z_EM l M_X6_dipOnTheWay (60, 760, 0, 0) [.ref 25, .ref o, .int a0, .int a1, .int a2] S D out := by
  have hs25 : S[25]? = some (8, 2, [some (some 26), some (some 27)]) := hW.1 25 _ rfl
  refine z_meth hl rfl kp_X6 (Nat.le_of_ble_eq_true rfl) (lv := [some (.ref 25), some (.ref o), some (.int a0), some (.int a1), some (.int a2), none, none, none]) rfl ?_
  unfold F_X6_dipOnTheWay
  refine z_aload_n (i := 0) (x := 25) dX6_dipOnTheWay_0 rfl rfl ?_
  refine z_aload_n (i := 1) (x := o) dX6_dipOnTheWay_1 rfl rfl ?_
  refine z_iload_n (i := 2) (x := a0) dX6_dipOnTheWay_2 rfl rfl ?_
  refine z_iload_n (i := 3) (x := a1) dX6_dipOnTheWay_3 rfl rfl ?_
  refine z_cWI (As := [.ref 25, .ref o, .int a0, .int a1]) (rest := []) (em_X6_fewestDips hl hW hC N a0 a1 D) (fun o7 h => z_runV 44 3 h rfl kk_X6_44 hs25 kl_6.1 kq_X6_fewestDips rfl (Nat.le_of_ble_eq_true rfl) ⟨Nat.le_of_ble_eq_true rfl, Nat.le_of_ble_eq_true rfl, Nat.le_of_ble_eq_true rfl, Nat.le_of_ble_eq_true rfl⟩ dX6_dipOnTheWay_4) z_gWI (fun a_2 hz1 => ?_)
  refine z_istore (i := 5) (x := a_2.1) (lv' := [some (.ref 25), some (.ref o), some (.int a0), some (.int a1), some (.int a2), some (.int a_2.1), none, none]) dX6_dipOnTheWay_7 (by decide) rfl rfl ?_
  refine z_iload (i := 4) (x := a2) dX6_dipOnTheWay_9 rfl ?_
  refine z_iload (i := 5) (x := a_2.1) dX6_dipOnTheWay_11 rfl ?_
  refine z_icmp_lt 18 dX6_dipOnTheWay_13 (by decide) (fun c3 => ?_) (fun c3 => ?_)
  · refine z_iload_n (i := 2) (x := a0) dX6_dipOnTheWay_18 rfl rfl ?_
    refine z_istore (i := 6) (x := a0) (lv' := [some (.ref 25), some (.ref o), some (.int a0), some (.int a1), some (.int a2), some (.int a_2.1), some (.int a0), none]) dX6_dipOnTheWay_19 (by decide) rfl rfl ?_
    refine z_iconst (v := 0) dX6_dipOnTheWay_21 rfl ?_
    refine z_istore (i := 7) (x := 0) (lv' := [some (.ref 25), some (.ref o), some (.int a0), some (.int a1), some (.int a2), some (.int a_2.1), some (.int a0), some (.int 0)]) dX6_dipOnTheWay_22 (by decide) rfl rfl ?_
    refine z_weak (lv' := [some (.ref 25), some (.ref o), none, some (.int a1), some (.int a2), none, some (.int a0), some (.int 0)]) ⟨Or.inr rfl, ⟨Or.inr rfl, ⟨Or.inl rfl, ⟨Or.inr rfl, ⟨Or.inr rfl, ⟨Or.inl rfl, ⟨Or.inr rfl, ⟨Or.inr rfl, trivial⟩⟩⟩⟩⟩⟩⟩⟩ ?_
    refine z_loops (lvOf := fun s : Int32 × Int32 => [some (.ref 25), some (.ref o), none, some (.int a1), some (.int a2), none, some (.int s.1), some (.int s.2)]) (dOf := fun s : Int32 × Int32 => a_2.2) (fun kc6 hkc6 s => ?_) N (a0, 0)
    obtain ⟨v4, v5⟩ := s
    show z_F _ _ _ _ _ 24 [some (.ref 25), some (.ref o), none, some (.int a1), some (.int a2), none, some (.int v4), some (.int v5)] [] S a_2.2 _ (F_X6_dipOnTheWay_L24 N o a1 a2 a_2 kc6 v4 v5)
    unfold F_X6_dipOnTheWay_L24
    refine z_iload (i := 7) (x := v5) dX6_dipOnTheWay_24 rfl ?_
    refine z_iload (i := 4) (x := a2) dX6_dipOnTheWay_26 rfl ?_
    refine z_icmp_ge 56 dX6_dipOnTheWay_28 (by decide) (fun c7 => ?_) (fun c7 => ?_)
    · refine z_aload_n (i := 0) (x := 25) dX6_dipOnTheWay_56 rfl rfl ?_
      refine z_aload_n (i := 1) (x := o) dX6_dipOnTheWay_57 rfl rfl ?_
      refine z_iload (i := 6) (x := v4) dX6_dipOnTheWay_58 rfl ?_
      refine z_iload_n (i := 3) (x := a1) dX6_dipOnTheWay_60 rfl rfl ?_
      refine z_cR (As := [.ref 25, .ref o, .int v4, .int a1]) (rest := []) (em_X6_firstDip hl hW hC N v4 a1 a_2.2) (fun o7 h => z_runV 47 3 h rfl kk_X6_47 hs25 kl_6.1 kq_X6_firstDip rfl (Nat.le_of_ble_eq_true rfl) ⟨Nat.le_of_ble_eq_true rfl, Nat.le_of_ble_eq_true rfl, Nat.le_of_ble_eq_true rfl, Nat.le_of_ble_eq_true rfl⟩ dX6_dipOnTheWay_61) z_gWI (fun a_9 hz8 => ?_)
      exact z_ireturn dX6_dipOnTheWay_64 z_rWI rfl (by decide) (by decide)
    · refine z_iload (i := 6) (x := v4) dX6_dipOnTheWay_31 rfl ?_
      refine z_aload_n (i := 1) (x := o) dX6_dipOnTheWay_33 rfl rfl ?_
      refine z_aload_n (i := 0) (x := 25) dX6_dipOnTheWay_34 rfl rfl ?_
      refine z_aload_n (i := 1) (x := o) dX6_dipOnTheWay_35 rfl rfl ?_
      refine z_iload (i := 6) (x := v4) dX6_dipOnTheWay_36 rfl ?_
      refine z_iload_n (i := 3) (x := a1) dX6_dipOnTheWay_38 rfl rfl ?_
      refine z_cR (As := [.ref 25, .ref o, .int v4, .int a1]) (rest := [.ref o, .int v4]) (em_X6_firstDip hl hW hC N v4 a1 a_2.2) (fun o7 h => z_runV 47 3 h rfl kk_X6_47 hs25 kl_6.1 kq_X6_firstDip rfl (Nat.le_of_ble_eq_true rfl) ⟨Nat.le_of_ble_eq_true rfl, Nat.le_of_ble_eq_true rfl, Nat.le_of_ble_eq_true rfl, Nat.le_of_ble_eq_true rfl⟩ dX6_dipOnTheWay_39) z_gWI (fun a_11 hz10 => ?_)
      refine z_cP (As := [.ref o, .int a_11]) (rest := [.int v4]) (em_X1_vatOf hl hC a_11 a_2.2) (fun o7 h => z_runV 36 1 h rfl kk_X6_36 hC.1 kl_1.1 kq_X1_vatOf rfl (Nat.le_of_ble_eq_true rfl) ⟨Nat.le_of_ble_eq_true rfl, Nat.le_of_ble_eq_true rfl, Nat.le_of_ble_eq_true rfl, Nat.le_of_ble_eq_true rfl⟩ dX6_dipOnTheWay_42) z_gWI (fun hz12 => ?_)
      refine z_cP (As := [.int v4, .int (F_X1_vatOf o a_11 a_2.2)]) (rest := []) (em_X10_deeper hl v4 (F_X1_vatOf o a_11 a_2.2) a_2.2) (fun o7 h => z_runSN 40 2 h rfl kk_X6_40 kn_X6_40 kq_X10_deeper rfl (Nat.le_of_ble_eq_true rfl) ⟨Nat.le_of_ble_eq_true rfl, Nat.le_of_ble_eq_true rfl, Nat.le_of_ble_eq_true rfl, Nat.le_of_ble_eq_true rfl⟩ dX6_dipOnTheWay_45) z_gWI (fun hz13 => ?_)
      refine z_topi (fun v14 => ?_)
      refine z_istore (i := 6) (x := v14) (lv' := [some (.ref 25), some (.ref o), none, some (.int a1), some (.int a2), none, some (.int v14), some (.int v5)]) dX6_dipOnTheWay_48 (by decide) rfl rfl ?_
      refine z_iinc (i := 7) (x := v5) (y := 1) dX6_dipOnTheWay_50 rfl (by decide) (by decide) rfl (fun v15 => ?_)
      refine z_goto 24 dX6_dipOnTheWay_53 (by decide) ?_
      exact hkc6 (v14, v15)
  · refine z_iconst (v := (-1)) dX6_dipOnTheWay_16 rfl ?_
    exact z_ireturn dX6_dipOnTheWay_17 z_rWI rfl (by decide) (by decide)

def F_X10_step_J24 (N : Nat) (o : Nat) (a0 : Int32) (a1 : Int32) (a2 : Int32) (D4 : z_Dat) : Option ((Int32 × z_Dat) ⊕ (String × z_Dat)) :=
  z_bt (F_X10_demand 0 D4) (fun a_6 => z_bd (F_X6_dipOnTheWay N o a0 a1 a2 a_6) (fun a_8 => some (.inl (a_8.1, a_8.2))))
def F_X10_step_J23 (N : Nat) (o : Nat) (a0 : Int32) (a1 : Int32) (a2 : Int32) (D3 : z_Dat) : Option ((Int32 × z_Dat) ⊕ (String × z_Dat)) :=
  F_X10_step_J24 N o a0 a1 a2 D3
def F_X10_step_J24x (N : Nat) (o : Nat) (a0 : Int32) (a1 : Int32) (a2 : Int32) (D12 : z_Dat) : Option ((Int32 × z_Dat) ⊕ (String × z_Dat)) :=
  z_bt (F_X10_demand 1 D12) (fun a_14 => z_bd (F_X6_dipOnTheWay N o a0 a1 a2 a_14) (fun a_16 => some (.inl (a_16.1, a_16.2))))
def F_X10_step (N : Nat) (o : Nat) (a0 : Int32) (a1 : Int32) (a2 : Int32) (D : z_Dat) : Option ((Int32 × z_Dat) ⊕ (String × z_Dat)) :=
  if (F_X10_isShade a0) = 0 then (F_X10_step_J23 N o a0 a1 a2 D)
  else (if (F_X10_isShade a1) = 0 then (F_X10_step_J23 N o a0 a1 a2 D)
  else (if a2 < 0 then (F_X10_step_J23 N o a0 a1 a2 D)
  else (F_X10_step_J24x N o a0 a1 a2 D)))
set_option maxRecDepth 100000 in
set_option maxHeartbeats 4000000 in
theorem em_X10_step {l : Launch} {S : List z_Shp} {o : Nat} (hl : l.stackTraces = false) (hW : z_W S o) (N : Nat) (a0 : Int32) (a1 : Int32) (a2 : Int32) (D : z_Dat) : ∀ out, z_ko (z_kTI S) (F_X10_step N o a0 a1 a2 D) out → z_EM l M_X10_step (70, 820, 1, 6) [.ref 0, .int a0, .int a1, .int a2] S D out := by
  have hC := hW.2
  have hs0 : S[0]? = some (12, 15, [some (some 1), some (some 3), some (some 5), some (some 7), some (some 12), some (some 15), some (some 21), some (some 25), some (some 28), some (some 32), some (some 33), some (some o), none, none, none]) := hW.1 0 _ rfl
  have hs25 : S[25]? = some (8, 2, [some (some 26), some (some 27)]) := hW.1 25 _ rfl
  refine z_meth hl rfl kp_X10 (Nat.le_of_ble_eq_true rfl) (lv := [some (.ref 0), some (.int a0), some (.int a1), some (.int a2)]) rfl ?_
  unfold F_X10_step
  have hJ_F_X10_step_J24 : ∀ (D4 : z_Dat) , z_F l M_X10_step (70, 820, 1, 6) 0 0 24 [some (.ref 0), some (.int a0), some (.int a1), some (.int a2)] [.int 0, .ref 0] S D4 (z_ko (z_kTI S)) (F_X10_step_J24 N o a0 a1 a2 D4) := by
    intro D4
    unfold F_X10_step_J24
    refine z_cXVI rfl (As := [.ref 0, .int 0]) (rest := []) (em_X10_demand hl hW 0 D4) (fun o7 h => z_runV 102 1 h rfl kk_X10_102 hs0 kl_10.1 kq_X10_demand rfl (Nat.le_of_ble_eq_true rfl) ⟨Nat.le_of_ble_eq_true rfl, Nat.le_of_ble_eq_true rfl, Nat.le_of_ble_eq_true rfl, Nat.le_of_ble_eq_true rfl⟩ dX10_step_24) (by decide) (by decide) (fun a_6 hz5 => ?_)
    refine z_aload_n (i := 0) (x := 0) dX10_step_27 rfl rfl ?_
    refine z_getR (j := 7) dX10_step_28 kl_10 hs0 (by decide) rfl rfl kf_X10_57 ?_
    refine z_aload_n (i := 0) (x := 0) dX10_step_31 rfl rfl ?_
    refine z_getR (j := 11) dX10_step_32 kl_10 hs0 (by decide) rfl rfl kf_X10_82 ?_
    refine z_iload_n (i := 1) (x := a0) dX10_step_35 rfl rfl ?_
    refine z_iload_n (i := 2) (x := a1) dX10_step_36 rfl rfl ?_
    refine z_iload_n (i := 3) (x := a2) dX10_step_37 rfl rfl ?_
    refine z_cWI (As := [.ref 25, .ref o, .int a0, .int a1, .int a2]) (rest := []) (em_X6_dipOnTheWay hl hW hC N a0 a1 a2 a_6) (fun o7 h => z_runV 259 4 h rfl kk_X10_259 hs25 kl_6.1 kq_X6_dipOnTheWay rfl (Nat.le_of_ble_eq_true rfl) ⟨Nat.le_of_ble_eq_true rfl, Nat.le_of_ble_eq_true rfl, Nat.le_of_ble_eq_true rfl, Nat.le_of_ble_eq_true rfl⟩ dX10_step_38) z_gXI (fun a_8 hz7 => ?_)
    exact z_ireturn dX10_step_41 z_rXI rfl (by decide) (by decide)
  have hJ_F_X10_step_J23 : ∀ (D3 : z_Dat) , z_F l M_X10_step (70, 820, 1, 6) 0 0 23 [some (.ref 0), some (.int a0), some (.int a1), some (.int a2)] [.ref 0] S D3 (z_ko (z_kTI S)) (F_X10_step_J23 N o a0 a1 a2 D3) := by
    intro D3
    unfold F_X10_step_J23
    refine z_iconst (v := 0) dX10_step_23 rfl ?_
    refine z_widen (k := 0) (n := 0) (by decide) (by decide) ?_
    exact hJ_F_X10_step_J24 D3
  have hJ_F_X10_step_J24x : ∀ (D12 : z_Dat) , z_F l M_X10_step (70, 820, 1, 6) 0 0 24 [some (.ref 0), some (.int a0), some (.int a1), some (.int a2)] [.int 1, .ref 0] S D12 (z_ko (z_kTI S)) (F_X10_step_J24x N o a0 a1 a2 D12) := by
    intro D12
    unfold F_X10_step_J24x
    refine z_cXVI rfl (As := [.ref 0, .int 1]) (rest := []) (em_X10_demand hl hW 1 D12) (fun o7 h => z_runV 102 1 h rfl kk_X10_102 hs0 kl_10.1 kq_X10_demand rfl (Nat.le_of_ble_eq_true rfl) ⟨Nat.le_of_ble_eq_true rfl, Nat.le_of_ble_eq_true rfl, Nat.le_of_ble_eq_true rfl, Nat.le_of_ble_eq_true rfl⟩ dX10_step_24) (by decide) (by decide) (fun a_14 hz13 => ?_)
    refine z_aload_n (i := 0) (x := 0) dX10_step_27 rfl rfl ?_
    refine z_getR (j := 7) dX10_step_28 kl_10 hs0 (by decide) rfl rfl kf_X10_57 ?_
    refine z_aload_n (i := 0) (x := 0) dX10_step_31 rfl rfl ?_
    refine z_getR (j := 11) dX10_step_32 kl_10 hs0 (by decide) rfl rfl kf_X10_82 ?_
    refine z_iload_n (i := 1) (x := a0) dX10_step_35 rfl rfl ?_
    refine z_iload_n (i := 2) (x := a1) dX10_step_36 rfl rfl ?_
    refine z_iload_n (i := 3) (x := a2) dX10_step_37 rfl rfl ?_
    refine z_cWI (As := [.ref 25, .ref o, .int a0, .int a1, .int a2]) (rest := []) (em_X6_dipOnTheWay hl hW hC N a0 a1 a2 a_14) (fun o7 h => z_runV 259 4 h rfl kk_X10_259 hs25 kl_6.1 kq_X6_dipOnTheWay rfl (Nat.le_of_ble_eq_true rfl) ⟨Nat.le_of_ble_eq_true rfl, Nat.le_of_ble_eq_true rfl, Nat.le_of_ble_eq_true rfl, Nat.le_of_ble_eq_true rfl⟩ dX10_step_38) z_gXI (fun a_16 hz15 => ?_)
    exact z_ireturn dX10_step_41 z_rXI rfl (by decide) (by decide)
  refine z_aload_n (i := 0) (x := 0) dX10_step_0 rfl rfl ?_
  refine z_iload_n (i := 1) (x := a0) dX10_step_1 rfl rfl ?_
  refine z_cP (As := [.int a0]) (rest := [.ref 0]) (em_X10_isShade hl a0 D) (fun o7 h => z_runS 232 1 h rfl kk_X10_232 kq_X10_isShade rfl (Nat.le_of_ble_eq_true rfl) ⟨Nat.le_of_ble_eq_true rfl, Nat.le_of_ble_eq_true rfl, Nat.le_of_ble_eq_true rfl, Nat.le_of_ble_eq_true rfl⟩ dX10_step_2) z_gXI (fun hz1 => ?_)
  refine z_if_eq 23 dX10_step_5 (by decide) (fun c2 => ?_) (fun c2 => ?_)
  · refine z_widen (k := 0) (n := 0) (by decide) (by decide) ?_
    exact hJ_F_X10_step_J23 D
  · refine z_iload_n (i := 2) (x := a1) dX10_step_8 rfl rfl ?_
    refine z_cP (As := [.int a1]) (rest := [.ref 0]) (em_X10_isShade hl a1 D) (fun o7 h => z_runS 232 1 h rfl kk_X10_232 kq_X10_isShade rfl (Nat.le_of_ble_eq_true rfl) ⟨Nat.le_of_ble_eq_true rfl, Nat.le_of_ble_eq_true rfl, Nat.le_of_ble_eq_true rfl, Nat.le_of_ble_eq_true rfl⟩ dX10_step_9) z_gXI (fun hz9 => ?_)
    refine z_if_eq 23 dX10_step_12 (by decide) (fun c10 => ?_) (fun c10 => ?_)
    · refine z_widen (k := 0) (n := 0) (by decide) (by decide) ?_
      exact hJ_F_X10_step_J23 D
    · refine z_iload_n (i := 3) (x := a2) dX10_step_15 rfl rfl ?_
      refine z_if_lt 23 dX10_step_16 (by decide) (fun c11 => ?_) (fun c11 => ?_)
      · refine z_widen (k := 0) (n := 0) (by decide) (by decide) ?_
        exact hJ_F_X10_step_J23 D
      · refine z_iconst (v := 1) dX10_step_19 rfl ?_
        refine z_goto 24 dX10_step_20 (by decide) ?_
        refine z_widen (k := 0) (n := 0) (by decide) (by decide) ?_
        exact hJ_F_X10_step_J24x D

def F_X10_holds (a0 : Int32) (a1 : Int32) : Int32 :=
  if (F_X10_partOf a0 0) < (F_X10_partOf a1 0) then (0)
  else (if (F_X10_partOf a0 1) < (F_X10_partOf a1 1) then (0)
  else (if (F_X10_partOf a0 2) < (F_X10_partOf a1 2) then (0)
  else (1)))
set_option maxRecDepth 100000 in
set_option maxHeartbeats 4000000 in
theorem em_X10_holds {l : Launch} {S : List z_Shp} (hl : l.stackTraces = false) (a0 : Int32) (a1 : Int32) (D : z_Dat) : ∀ out, z_kt (z_kR S D) (F_X10_holds a0 a1) out → z_EM l M_X10_holds (30, 580, 0, 0) [.int a0, .int a1] S D out := by
  refine z_meth hl rfl kp_X10 (Nat.le_of_ble_eq_true rfl) (lv := [some (.int a0), some (.int a1)]) rfl ?_
  unfold F_X10_holds
  refine z_iload_n (i := 0) (x := a0) dX10_holds_0 rfl rfl ?_
  refine z_iconst (v := 0) dX10_holds_1 rfl ?_
  refine z_cP (As := [.int a0, .int 0]) (rest := []) (em_X10_partOf hl a0 0 D) (fun o7 h => z_runS 368 2 h rfl kk_X10_368 kq_X10_partOf rfl (Nat.le_of_ble_eq_true rfl) ⟨Nat.le_of_ble_eq_true rfl, Nat.le_of_ble_eq_true rfl, Nat.le_of_ble_eq_true rfl, Nat.le_of_ble_eq_true rfl⟩ dX10_holds_2) z_gP (fun hz1 => ?_)
  refine z_iload_n (i := 1) (x := a1) dX10_holds_5 rfl rfl ?_
  refine z_iconst (v := 0) dX10_holds_6 rfl ?_
  refine z_cP (As := [.int a1, .int 0]) (rest := [.int (F_X10_partOf a0 0)]) (em_X10_partOf hl a1 0 D) (fun o7 h => z_runS 368 2 h rfl kk_X10_368 kq_X10_partOf rfl (Nat.le_of_ble_eq_true rfl) ⟨Nat.le_of_ble_eq_true rfl, Nat.le_of_ble_eq_true rfl, Nat.le_of_ble_eq_true rfl, Nat.le_of_ble_eq_true rfl⟩ dX10_holds_7) z_gP (fun hz2 => ?_)
  refine z_icmp_lt 43 dX10_holds_10 (by decide) (fun c3 => ?_) (fun c3 => ?_)
  · refine z_iconst (v := 0) dX10_holds_43 rfl ?_
    exact z_ireturn dX10_holds_44 z_rP rfl (by decide) (by decide)
  · refine z_iload_n (i := 0) (x := a0) dX10_holds_13 rfl rfl ?_
    refine z_iconst (v := 1) dX10_holds_14 rfl ?_
    refine z_cP (As := [.int a0, .int 1]) (rest := []) (em_X10_partOf hl a0 1 D) (fun o7 h => z_runS 368 2 h rfl kk_X10_368 kq_X10_partOf rfl (Nat.le_of_ble_eq_true rfl) ⟨Nat.le_of_ble_eq_true rfl, Nat.le_of_ble_eq_true rfl, Nat.le_of_ble_eq_true rfl, Nat.le_of_ble_eq_true rfl⟩ dX10_holds_15) z_gP (fun hz4 => ?_)
    refine z_iload_n (i := 1) (x := a1) dX10_holds_18 rfl rfl ?_
    refine z_iconst (v := 1) dX10_holds_19 rfl ?_
    refine z_cP (As := [.int a1, .int 1]) (rest := [.int (F_X10_partOf a0 1)]) (em_X10_partOf hl a1 1 D) (fun o7 h => z_runS 368 2 h rfl kk_X10_368 kq_X10_partOf rfl (Nat.le_of_ble_eq_true rfl) ⟨Nat.le_of_ble_eq_true rfl, Nat.le_of_ble_eq_true rfl, Nat.le_of_ble_eq_true rfl, Nat.le_of_ble_eq_true rfl⟩ dX10_holds_20) z_gP (fun hz5 => ?_)
    refine z_icmp_lt 43 dX10_holds_23 (by decide) (fun c6 => ?_) (fun c6 => ?_)
    · refine z_iconst (v := 0) dX10_holds_43 rfl ?_
      exact z_ireturn dX10_holds_44 z_rP rfl (by decide) (by decide)
    · refine z_iload_n (i := 0) (x := a0) dX10_holds_26 rfl rfl ?_
      refine z_iconst (v := 2) dX10_holds_27 rfl ?_
      refine z_cP (As := [.int a0, .int 2]) (rest := []) (em_X10_partOf hl a0 2 D) (fun o7 h => z_runS 368 2 h rfl kk_X10_368 kq_X10_partOf rfl (Nat.le_of_ble_eq_true rfl) ⟨Nat.le_of_ble_eq_true rfl, Nat.le_of_ble_eq_true rfl, Nat.le_of_ble_eq_true rfl, Nat.le_of_ble_eq_true rfl⟩ dX10_holds_28) z_gP (fun hz7 => ?_)
      refine z_iload_n (i := 1) (x := a1) dX10_holds_31 rfl rfl ?_
      refine z_iconst (v := 2) dX10_holds_32 rfl ?_
      refine z_cP (As := [.int a1, .int 2]) (rest := [.int (F_X10_partOf a0 2)]) (em_X10_partOf hl a1 2 D) (fun o7 h => z_runS 368 2 h rfl kk_X10_368 kq_X10_partOf rfl (Nat.le_of_ble_eq_true rfl) ⟨Nat.le_of_ble_eq_true rfl, Nat.le_of_ble_eq_true rfl, Nat.le_of_ble_eq_true rfl, Nat.le_of_ble_eq_true rfl⟩ dX10_holds_33) z_gP (fun hz8 => ?_)
      refine z_icmp_lt 43 dX10_holds_36 (by decide) (fun c9 => ?_) (fun c9 => ?_)
      · refine z_iconst (v := 0) dX10_holds_43 rfl ?_
        exact z_ireturn dX10_holds_44 z_rP rfl (by decide) (by decide)
      · refine z_iconst (v := 1) dX10_holds_39 rfl ?_
        refine z_goto 44 dX10_holds_40 (by decide) ?_
        exact z_ireturn dX10_holds_44 z_rP rfl (by decide) (by decide)

def F_X6_mixOnce (a0 : Int32) (a1 : Int32) (D : z_Dat) : z_Dat :=
  z_let (F_X10_put 27 1000 a0 ((F_X10_at 27 1000 a0 D) + (F_X10_at 27 1000 a1 D)) D) (fun a_4 => z_let (F_X10_at 26 1000 a1 a_4) (fun v6 => if v6 = (-1) then (a_4)
  else (if (F_X10_at 26 1000 a0 a_4) = (-1) then (z_let (F_X10_put 26 1000 a0 (v6 + 1) a_4) (fun a_11 => a_11))
  else (if (F_X10_at 26 1000 a0 a_4) ≤ (v6 + 1) then (a_4)
  else (z_let (F_X10_put 26 1000 a0 (v6 + 1) a_4) (fun a_15 => a_15))))))
set_option maxRecDepth 100000 in
set_option maxHeartbeats 4000000 in
theorem em_X6_mixOnce {l : Launch} {S : List z_Shp} {oW : Nat} (hl : l.stackTraces = false) (hW : z_W S oW) (a0 : Int32) (a1 : Int32) (D : z_Dat) : ∀ out, z_kt (z_kV S) (F_X6_mixOnce a0 a1 D) out → z_EM l M_X6_mixOnce (30, 580, 0, 0) [.ref 25, .int a0, .int a1] S D out := by
  have hs25 : S[25]? = some (8, 2, [some (some 26), some (some 27)]) := hW.1 25 _ rfl
  have hs26 : S[26]? = some (0, 1000, []) := hW.1 26 _ rfl
  have hs27 : S[27]? = some (0, 1000, []) := hW.1 27 _ rfl
  refine z_meth hl rfl kp_X6 (Nat.le_of_ble_eq_true rfl) (lv := [some (.ref 25), some (.int a0), some (.int a1), none]) rfl ?_
  unfold F_X6_mixOnce
  refine z_aload_n (i := 0) (x := 25) dX6_mixOnce_0 rfl rfl ?_
  refine z_getR (j := 1) dX6_mixOnce_1 kl_6 hs25 (by decide) rfl rfl kf_X6_15 ?_
  refine z_iload_n (i := 1) (x := a0) dX6_mixOnce_4 rfl rfl ?_
  refine z_aload_n (i := 0) (x := 25) dX6_mixOnce_5 rfl rfl ?_
  refine z_getR (j := 1) dX6_mixOnce_6 kl_6 hs25 (by decide) rfl rfl kf_X6_15 ?_
  refine z_iload_n (i := 1) (x := a0) dX6_mixOnce_9 rfl rfl ?_
  refine z_cP (As := [.ref 27, .int a0]) (rest := [.int a0, .ref 27]) (em_X10_at (n0 := 1000) hl hs27 (by decide) a0 D) (fun o7 h => z_runSN 26 2 h rfl kk_X6_26 kn_X6_26 kq_X10_at rfl (Nat.le_of_ble_eq_true rfl) ⟨Nat.le_of_ble_eq_true rfl, Nat.le_of_ble_eq_true rfl, Nat.le_of_ble_eq_true rfl, Nat.le_of_ble_eq_true rfl⟩ dX6_mixOnce_10) z_gTV (fun hz1 => ?_)
  refine z_aload_n (i := 0) (x := 25) dX6_mixOnce_13 rfl rfl ?_
  refine z_getR (j := 1) dX6_mixOnce_14 kl_6 hs25 (by decide) rfl rfl kf_X6_15 ?_
  refine z_iload_n (i := 2) (x := a1) dX6_mixOnce_17 rfl rfl ?_
  refine z_cP (As := [.ref 27, .int a1]) (rest := [.int (F_X10_at 27 1000 a0 D), .int a0, .ref 27]) (em_X10_at (n0 := 1000) hl hs27 (by decide) a1 D) (fun o7 h => z_runSN 26 2 h rfl kk_X6_26 kn_X6_26 kq_X10_at rfl (Nat.le_of_ble_eq_true rfl) ⟨Nat.le_of_ble_eq_true rfl, Nat.le_of_ble_eq_true rfl, Nat.le_of_ble_eq_true rfl, Nat.le_of_ble_eq_true rfl⟩ dX6_mixOnce_18) z_gTV (fun hz2 => ?_)
  refine z_iadd dX6_mixOnce_21 ?_
  refine z_cTV (As := [.ref 27, .int a0, .int ((F_X10_at 27 1000 a0 D) + (F_X10_at 27 1000 a1 D))]) (rest := []) (em_X10_put (n0 := 1000) hl hs27 (by decide) a0 ((F_X10_at 27 1000 a0 D) + (F_X10_at 27 1000 a1 D)) D) (fun o7 h => z_runSN 22 3 h rfl kk_X6_22 kn_X6_22 kq_X10_put rfl (Nat.le_of_ble_eq_true rfl) ⟨Nat.le_of_ble_eq_true rfl, Nat.le_of_ble_eq_true rfl, Nat.le_of_ble_eq_true rfl, Nat.le_of_ble_eq_true rfl⟩ dX6_mixOnce_22) z_gTV (fun a_4 hz3 => ?_)
  refine z_aload_n (i := 0) (x := 25) dX6_mixOnce_25 rfl rfl ?_
  refine z_getR (j := 0) dX6_mixOnce_26 kl_6 hs25 (by decide) rfl rfl kf_X6_9 ?_
  refine z_iload_n (i := 2) (x := a1) dX6_mixOnce_29 rfl rfl ?_
  refine z_cP (As := [.ref 26, .int a1]) (rest := []) (em_X10_at (n0 := 1000) hl hs26 (by decide) a1 a_4) (fun o7 h => z_runSN 26 2 h rfl kk_X6_26 kn_X6_26 kq_X10_at rfl (Nat.le_of_ble_eq_true rfl) ⟨Nat.le_of_ble_eq_true rfl, Nat.le_of_ble_eq_true rfl, Nat.le_of_ble_eq_true rfl, Nat.le_of_ble_eq_true rfl⟩ dX6_mixOnce_30) z_gTV (fun hz5 => ?_)
  refine z_topi (fun v6 => ?_)
  refine z_istore_n (i := 3) (x := v6) (lv' := [some (.ref 25), some (.int a0), some (.int a1), some (.int v6)]) dX6_mixOnce_33 rfl (by decide) rfl rfl ?_
  refine z_iload_n (i := 3) (x := v6) dX6_mixOnce_34 rfl rfl ?_
  refine z_iconst (v := (-1)) dX6_mixOnce_35 rfl ?_
  refine z_icmp_eq 76 dX6_mixOnce_36 (by decide) (fun c7 => ?_) (fun c7 => ?_)
  · exact z_vreturn dX6_mixOnce_76 z_rTV trivial (by decide) (by decide)
  · refine z_aload_n (i := 0) (x := 25) dX6_mixOnce_39 rfl rfl ?_
    refine z_getR (j := 0) dX6_mixOnce_40 kl_6 hs25 (by decide) rfl rfl kf_X6_9 ?_
    refine z_iload_n (i := 1) (x := a0) dX6_mixOnce_43 rfl rfl ?_
    refine z_cP (As := [.ref 26, .int a0]) (rest := []) (em_X10_at (n0 := 1000) hl hs26 (by decide) a0 a_4) (fun o7 h => z_runSN 26 2 h rfl kk_X6_26 kn_X6_26 kq_X10_at rfl (Nat.le_of_ble_eq_true rfl) ⟨Nat.le_of_ble_eq_true rfl, Nat.le_of_ble_eq_true rfl, Nat.le_of_ble_eq_true rfl, Nat.le_of_ble_eq_true rfl⟩ dX6_mixOnce_44) z_gTV (fun hz8 => ?_)
    refine z_iconst (v := (-1)) dX6_mixOnce_47 rfl ?_
    refine z_icmp_eq 65 dX6_mixOnce_48 (by decide) (fun c9 => ?_) (fun c9 => ?_)
    · refine z_aload_n (i := 0) (x := 25) dX6_mixOnce_65 rfl rfl ?_
      refine z_getR (j := 0) dX6_mixOnce_66 kl_6 hs25 (by decide) rfl rfl kf_X6_9 ?_
      refine z_iload_n (i := 1) (x := a0) dX6_mixOnce_69 rfl rfl ?_
      refine z_iload_n (i := 3) (x := v6) dX6_mixOnce_70 rfl rfl ?_
      refine z_iconst (v := 1) dX6_mixOnce_71 rfl ?_
      refine z_iadd dX6_mixOnce_72 ?_
      refine z_cTV (As := [.ref 26, .int a0, .int (v6 + 1)]) (rest := []) (em_X10_put (n0 := 1000) hl hs26 (by decide) a0 (v6 + 1) a_4) (fun o7 h => z_runSN 22 3 h rfl kk_X6_22 kn_X6_22 kq_X10_put rfl (Nat.le_of_ble_eq_true rfl) ⟨Nat.le_of_ble_eq_true rfl, Nat.le_of_ble_eq_true rfl, Nat.le_of_ble_eq_true rfl, Nat.le_of_ble_eq_true rfl⟩ dX6_mixOnce_73) z_gTV (fun a_11 hz10 => ?_)
      exact z_vreturn dX6_mixOnce_76 z_rTV trivial (by decide) (by decide)
    · refine z_iload_n (i := 3) (x := v6) dX6_mixOnce_51 rfl rfl ?_
      refine z_iconst (v := 1) dX6_mixOnce_52 rfl ?_
      refine z_iadd dX6_mixOnce_53 ?_
      refine z_aload_n (i := 0) (x := 25) dX6_mixOnce_54 rfl rfl ?_
      refine z_getR (j := 0) dX6_mixOnce_55 kl_6 hs25 (by decide) rfl rfl kf_X6_9 ?_
      refine z_iload_n (i := 1) (x := a0) dX6_mixOnce_58 rfl rfl ?_
      refine z_cP (As := [.ref 26, .int a0]) (rest := [.int (v6 + 1)]) (em_X10_at (n0 := 1000) hl hs26 (by decide) a0 a_4) (fun o7 h => z_runSN 26 2 h rfl kk_X6_26 kn_X6_26 kq_X10_at rfl (Nat.le_of_ble_eq_true rfl) ⟨Nat.le_of_ble_eq_true rfl, Nat.le_of_ble_eq_true rfl, Nat.le_of_ble_eq_true rfl, Nat.le_of_ble_eq_true rfl⟩ dX6_mixOnce_59) z_gTV (fun hz12 => ?_)
      refine z_icmp_ge 76 dX6_mixOnce_62 (by decide) (fun c13 => ?_) (fun c13 => ?_)
      · exact z_vreturn dX6_mixOnce_76 z_rTV trivial (by decide) (by decide)
      · refine z_aload_n (i := 0) (x := 25) dX6_mixOnce_65 rfl rfl ?_
        refine z_getR (j := 0) dX6_mixOnce_66 kl_6 hs25 (by decide) rfl rfl kf_X6_9 ?_
        refine z_iload_n (i := 1) (x := a0) dX6_mixOnce_69 rfl rfl ?_
        refine z_iload_n (i := 3) (x := v6) dX6_mixOnce_70 rfl rfl ?_
        refine z_iconst (v := 1) dX6_mixOnce_71 rfl ?_
        refine z_iadd dX6_mixOnce_72 ?_
        refine z_cTV (As := [.ref 26, .int a0, .int (v6 + 1)]) (rest := []) (em_X10_put (n0 := 1000) hl hs26 (by decide) a0 (v6 + 1) a_4) (fun o7 h => z_runSN 22 3 h rfl kk_X6_22 kn_X6_22 kq_X10_put rfl (Nat.le_of_ble_eq_true rfl) ⟨Nat.le_of_ble_eq_true rfl, Nat.le_of_ble_eq_true rfl, Nat.le_of_ble_eq_true rfl, Nat.le_of_ble_eq_true rfl⟩ dX6_mixOnce_73) z_gTV (fun a_15 hz14 => ?_)
        exact z_vreturn dX6_mixOnce_76 z_rTV trivial (by decide) (by decide)

def F_X6_mixAll_L53 (kc11 : ((Int32 × z_Dat) → Option z_Dat)) (v9 : Int32) (v14 : Int32) (kc17 : ((Int32 × z_Dat) → Option z_Dat)) (v15 : Int32) (D16 : z_Dat) : Option z_Dat :=
  if 1000 ≤ v15 then (z_let (v9 + 1) (fun v19 => kc11 (v19, D16)))
  else (if v14 ≤ 0 then (z_let (v9 + 1) (fun v21 => kc11 (v21, D16)))
  else (if (F_X10_holds v15 v14) = 0 then (z_let (v15 + 1) (fun v24 => kc17 (v24, D16)))
  else (z_let (F_X6_mixOnce v15 (v15 - v14) D16) (fun a_26 => z_let (v15 + 1) (fun v27 => kc17 (v27, a_26))))))
def F_X6_mixAll_L36 (N : Nat) (o : Nat) (kc11 : ((Int32 × z_Dat) → Option z_Dat)) (v9 : Int32) (D10 : z_Dat) : Option z_Dat :=
  if (D10 o 5) ≤ v9 then (some D10)
  else (z_let (F_X1_vatOf o v9 D10) (fun v14 => z_loop (fun kc17 s => F_X6_mixAll_L53 kc11 v9 v14 kc17 s.1 s.2) N (v14, D10)))
def F_X6_mixAll (N : Nat) (o : Nat) (D : z_Dat) : Option z_Dat :=
  z_bd (F_X10_fill N 27 1000 0 D) (fun a_2 => z_bd (F_X10_fill N 26 1000 (-1) a_2) (fun a_4 => z_let (F_X10_put 27 1000 0 1 a_4) (fun a_6 => z_let (F_X10_put 26 1000 0 0 a_6) (fun a_8 => z_loop (fun kc11 s => F_X6_mixAll_L36 N o kc11 s.1 s.2) N (0, a_8)))))
set_option maxRecDepth 100000 in
set_option maxHeartbeats 4000000 in
theorem em_X6_mixAll {l : Launch} {S : List z_Shp} {oW : Nat} {o : Nat} (hl : l.stackTraces = false) (hW : z_W S oW) (hC : z_isCity S o) (N : Nat) (D : z_Dat) : ∀ out, z_ko (z_kV S) (F_X6_mixAll N o D) out → z_EM l M_X6_mixAll (40, 640, 0, 0) [.ref 25, .ref o] S D out := by
  have hs25 : S[25]? = some (8, 2, [some (some 26), some (some 27)]) := hW.1 25 _ rfl
  have hs26 : S[26]? = some (0, 1000, []) := hW.1 26 _ rfl
  have hs27 : S[27]? = some (0, 1000, []) := hW.1 27 _ rfl
  refine z_meth hl rfl kp_X6 (Nat.le_of_ble_eq_true rfl) (lv := [some (.ref 25), some (.ref o), none, none, none]) rfl ?_
  unfold F_X6_mixAll
  refine z_aload_n (i := 0) (x := 25) dX6_mixAll_0 rfl rfl ?_
  refine z_getR (j := 1) dX6_mixAll_1 kl_6 hs25 (by decide) rfl rfl kf_X6_15 ?_
  refine z_iconst (v := 0) dX6_mixAll_4 rfl ?_
  refine z_cWV (As := [.ref 27, .int 0]) (rest := []) (em_X10_fill (n0 := 1000) hl hs27 (by decide) N 0 D) (fun o7 h => z_runSN 50 2 h rfl kk_X6_50 kn_X6_50 kq_X10_fill rfl (Nat.le_of_ble_eq_true rfl) ⟨Nat.le_of_ble_eq_true rfl, Nat.le_of_ble_eq_true rfl, Nat.le_of_ble_eq_true rfl, Nat.le_of_ble_eq_true rfl⟩ dX6_mixAll_5) z_gWV (fun a_2 hz1 => ?_)
  refine z_aload_n (i := 0) (x := 25) dX6_mixAll_8 rfl rfl ?_
  refine z_getR (j := 0) dX6_mixAll_9 kl_6 hs25 (by decide) rfl rfl kf_X6_9 ?_
  refine z_iconst (v := (-1)) dX6_mixAll_12 rfl ?_
  refine z_cWV (As := [.ref 26, .int (-1)]) (rest := []) (em_X10_fill (n0 := 1000) hl hs26 (by decide) N (-1) a_2) (fun o7 h => z_runSN 50 2 h rfl kk_X6_50 kn_X6_50 kq_X10_fill rfl (Nat.le_of_ble_eq_true rfl) ⟨Nat.le_of_ble_eq_true rfl, Nat.le_of_ble_eq_true rfl, Nat.le_of_ble_eq_true rfl, Nat.le_of_ble_eq_true rfl⟩ dX6_mixAll_13) z_gWV (fun a_4 hz3 => ?_)
  refine z_aload_n (i := 0) (x := 25) dX6_mixAll_16 rfl rfl ?_
  refine z_getR (j := 1) dX6_mixAll_17 kl_6 hs25 (by decide) rfl rfl kf_X6_15 ?_
  refine z_iconst (v := 0) dX6_mixAll_20 rfl ?_
  refine z_iconst (v := 1) dX6_mixAll_21 rfl ?_
  refine z_cTV (As := [.ref 27, .int 0, .int 1]) (rest := []) (em_X10_put (n0 := 1000) hl hs27 (by decide) 0 1 a_4) (fun o7 h => z_runSN 22 3 h rfl kk_X6_22 kn_X6_22 kq_X10_put rfl (Nat.le_of_ble_eq_true rfl) ⟨Nat.le_of_ble_eq_true rfl, Nat.le_of_ble_eq_true rfl, Nat.le_of_ble_eq_true rfl, Nat.le_of_ble_eq_true rfl⟩ dX6_mixAll_22) z_gWV (fun a_6 hz5 => ?_)
  refine z_aload_n (i := 0) (x := 25) dX6_mixAll_25 rfl rfl ?_
  refine z_getR (j := 0) dX6_mixAll_26 kl_6 hs25 (by decide) rfl rfl kf_X6_9 ?_
  refine z_iconst (v := 0) dX6_mixAll_29 rfl ?_
  refine z_iconst (v := 0) dX6_mixAll_30 rfl ?_
  refine z_cTV (As := [.ref 26, .int 0, .int 0]) (rest := []) (em_X10_put (n0 := 1000) hl hs26 (by decide) 0 0 a_6) (fun o7 h => z_runSN 22 3 h rfl kk_X6_22 kn_X6_22 kq_X10_put rfl (Nat.le_of_ble_eq_true rfl) ⟨Nat.le_of_ble_eq_true rfl, Nat.le_of_ble_eq_true rfl, Nat.le_of_ble_eq_true rfl, Nat.le_of_ble_eq_true rfl⟩ dX6_mixAll_31) z_gWV (fun a_8 hz7 => ?_)
  refine z_iconst (v := 0) dX6_mixAll_34 rfl ?_
  refine z_istore_n (i := 2) (x := 0) (lv' := [some (.ref 25), some (.ref o), some (.int 0), none, none]) dX6_mixAll_35 rfl (by decide) rfl rfl ?_
  refine z_loops (lvOf := fun s : Int32 × z_Dat => [some (.ref 25), some (.ref o), some (.int s.1), none, none]) (dOf := fun s : Int32 × z_Dat => s.2) (fun kc11 hkc11 s => ?_) N (0, a_8)
  obtain ⟨v9, D10⟩ := s
  show z_F _ _ _ _ _ 36 [some (.ref 25), some (.ref o), some (.int v9), none, none] [] S D10 _ (F_X6_mixAll_L36 N o kc11 v9 D10)
  unfold F_X6_mixAll_L36
  refine z_iload_n (i := 2) (x := v9) dX6_mixAll_36 rfl rfl ?_
  refine z_aload_n (i := 1) (x := o) dX6_mixAll_37 rfl rfl ?_
  refine z_getIN (j := 5) dX6_mixAll_38 kl_1 hC.1 (by decide) rfl rfl kf_X6_30 ?_
  refine z_icmp_ge 96 dX6_mixAll_41 (by decide) (fun c12 => ?_) (fun c12 => ?_)
  · exact z_vreturn dX6_mixAll_96 z_rWV trivial (by decide) (by decide)
  · refine z_aload_n (i := 1) (x := o) dX6_mixAll_44 rfl rfl ?_
    refine z_iload_n (i := 2) (x := v9) dX6_mixAll_45 rfl rfl ?_
    refine z_cP (As := [.ref o, .int v9]) (rest := []) (em_X1_vatOf hl hC v9 D10) (fun o7 h => z_runV 36 1 h rfl kk_X6_36 hC.1 kl_1.1 kq_X1_vatOf rfl (Nat.le_of_ble_eq_true rfl) ⟨Nat.le_of_ble_eq_true rfl, Nat.le_of_ble_eq_true rfl, Nat.le_of_ble_eq_true rfl, Nat.le_of_ble_eq_true rfl⟩ dX6_mixAll_46) z_gWV (fun hz13 => ?_)
    refine z_topi (fun v14 => ?_)
    refine z_istore_n (i := 3) (x := v14) (lv' := [some (.ref 25), some (.ref o), some (.int v9), some (.int v14), none]) dX6_mixAll_49 rfl (by decide) rfl rfl ?_
    refine z_iload_n (i := 3) (x := v14) dX6_mixAll_50 rfl rfl ?_
    refine z_istore (i := 4) (x := v14) (lv' := [some (.ref 25), some (.ref o), some (.int v9), some (.int v14), some (.int v14)]) dX6_mixAll_51 (by decide) rfl rfl ?_
    refine z_loops (lvOf := fun s : Int32 × z_Dat => [some (.ref 25), some (.ref o), some (.int v9), some (.int v14), some (.int s.1)]) (dOf := fun s : Int32 × z_Dat => s.2) (fun kc17 hkc17 s => ?_) N (v14, D10)
    obtain ⟨v15, D16⟩ := s
    show z_F _ _ _ _ _ 53 [some (.ref 25), some (.ref o), some (.int v9), some (.int v14), some (.int v15)] [] S D16 _ (F_X6_mixAll_L53 kc11 v9 v14 kc17 v15 D16)
    unfold F_X6_mixAll_L53
    refine z_iload (i := 4) (x := v15) dX6_mixAll_53 rfl ?_
    refine z_sipush (v := 1000) dX6_mixAll_55 (by decide) ?_
    refine z_icmp_ge 90 dX6_mixAll_58 (by decide) (fun c18 => ?_) (fun c18 => ?_)
    · refine z_iinc (i := 2) (x := v9) (y := 1) dX6_mixAll_90 rfl (by decide) (by decide) rfl (fun v19 => ?_)
      refine z_goto 36 dX6_mixAll_93 (by decide) ?_
      refine z_weak (lv' := [some (.ref 25), some (.ref o), some (.int v19), none, none]) ⟨Or.inr rfl, ⟨Or.inr rfl, ⟨Or.inr rfl, ⟨Or.inl rfl, ⟨Or.inl rfl, trivial⟩⟩⟩⟩⟩ ?_
      exact hkc11 (v19, D16)
    · refine z_iload_n (i := 3) (x := v14) dX6_mixAll_61 rfl rfl ?_
      refine z_if_le 90 dX6_mixAll_62 (by decide) (fun c20 => ?_) (fun c20 => ?_)
      · refine z_iinc (i := 2) (x := v9) (y := 1) dX6_mixAll_90 rfl (by decide) (by decide) rfl (fun v21 => ?_)
        refine z_goto 36 dX6_mixAll_93 (by decide) ?_
        refine z_weak (lv' := [some (.ref 25), some (.ref o), some (.int v21), none, none]) ⟨Or.inr rfl, ⟨Or.inr rfl, ⟨Or.inr rfl, ⟨Or.inl rfl, ⟨Or.inl rfl, trivial⟩⟩⟩⟩⟩ ?_
        exact hkc11 (v21, D16)
      · refine z_iload (i := 4) (x := v15) dX6_mixAll_65 rfl ?_
        refine z_iload_n (i := 3) (x := v14) dX6_mixAll_67 rfl rfl ?_
        refine z_cP (As := [.int v15, .int v14]) (rest := []) (em_X10_holds hl v15 v14 D16) (fun o7 h => z_runSN 54 2 h rfl kk_X6_54 kn_X6_54 kq_X10_holds rfl (Nat.le_of_ble_eq_true rfl) ⟨Nat.le_of_ble_eq_true rfl, Nat.le_of_ble_eq_true rfl, Nat.le_of_ble_eq_true rfl, Nat.le_of_ble_eq_true rfl⟩ dX6_mixAll_68) z_gWV (fun hz22 => ?_)
        refine z_if_eq 84 dX6_mixAll_71 (by decide) (fun c23 => ?_) (fun c23 => ?_)
        · refine z_iinc (i := 4) (x := v15) (y := 1) dX6_mixAll_84 rfl (by decide) (by decide) rfl (fun v24 => ?_)
          refine z_goto 53 dX6_mixAll_87 (by decide) ?_
          exact hkc17 (v24, D16)
        · refine z_aload_n (i := 0) (x := 25) dX6_mixAll_74 rfl rfl ?_
          refine z_iload (i := 4) (x := v15) dX6_mixAll_75 rfl ?_
          refine z_iload (i := 4) (x := v15) dX6_mixAll_77 rfl ?_
          refine z_iload_n (i := 3) (x := v14) dX6_mixAll_79 rfl rfl ?_
          refine z_isub dX6_mixAll_80 ?_
          refine z_cTV (As := [.ref 25, .int v15, .int (v15 - v14)]) (rest := []) (em_X6_mixOnce hl hW v15 (v15 - v14) D16) (fun o7 h => z_runV 58 2 h rfl kk_X6_58 hs25 kl_6.1 kq_X6_mixOnce rfl (Nat.le_of_ble_eq_true rfl) ⟨Nat.le_of_ble_eq_true rfl, Nat.le_of_ble_eq_true rfl, Nat.le_of_ble_eq_true rfl, Nat.le_of_ble_eq_true rfl⟩ dX6_mixAll_81) z_gWV (fun a_26 hz25 => ?_)
          refine z_iinc (i := 4) (x := v15) (y := 1) dX6_mixAll_84 rfl (by decide) (by decide) rfl (fun v27 => ?_)
          refine z_goto 53 dX6_mixAll_87 (by decide) ?_
          exact hkc17 (v27, a_26)

def F_X6_mixesOf (a0 : Int32) (D : z_Dat) : Int32 :=
  F_X10_at 27 1000 a0 D
set_option maxRecDepth 100000 in
set_option maxHeartbeats 4000000 in
theorem em_X6_mixesOf {l : Launch} {S : List z_Shp} {oW : Nat} (hl : l.stackTraces = false) (hW : z_W S oW) (a0 : Int32) (D : z_Dat) : ∀ out, z_kt (z_kR S D) (F_X6_mixesOf a0 D) out → z_EM l M_X6_mixesOf (30, 580, 0, 0) [.ref 25, .int a0] S D out := by
  have hs25 : S[25]? = some (8, 2, [some (some 26), some (some 27)]) := hW.1 25 _ rfl
  have hs27 : S[27]? = some (0, 1000, []) := hW.1 27 _ rfl
  refine z_meth hl rfl kp_X6 (Nat.le_of_ble_eq_true rfl) (lv := [some (.ref 25), some (.int a0)]) rfl ?_
  unfold F_X6_mixesOf
  refine z_aload_n (i := 0) (x := 25) dX6_mixesOf_0 rfl rfl ?_
  refine z_getR (j := 1) dX6_mixesOf_1 kl_6 hs25 (by decide) rfl rfl kf_X6_15 ?_
  refine z_iload_n (i := 1) (x := a0) dX6_mixesOf_4 rfl rfl ?_
  refine z_cP (As := [.ref 27, .int a0]) (rest := []) (em_X10_at (n0 := 1000) hl hs27 (by decide) a0 D) (fun o7 h => z_runSN 26 2 h rfl kk_X6_26 kn_X6_26 kq_X10_at rfl (Nat.le_of_ble_eq_true rfl) ⟨Nat.le_of_ble_eq_true rfl, Nat.le_of_ble_eq_true rfl, Nat.le_of_ble_eq_true rfl, Nat.le_of_ble_eq_true rfl⟩ dX6_mixesOf_5) z_gP (fun hz1 => ?_)
  exact z_ireturn dX6_mixesOf_8 z_rP rfl (by decide) (by decide)

def F_X6_dipsOf (a0 : Int32) (D : z_Dat) : Int32 :=
  F_X10_at 26 1000 a0 D
set_option maxRecDepth 100000 in
set_option maxHeartbeats 4000000 in
theorem em_X6_dipsOf {l : Launch} {S : List z_Shp} {oW : Nat} (hl : l.stackTraces = false) (hW : z_W S oW) (a0 : Int32) (D : z_Dat) : ∀ out, z_kt (z_kR S D) (F_X6_dipsOf a0 D) out → z_EM l M_X6_dipsOf (30, 580, 0, 0) [.ref 25, .int a0] S D out := by
  have hs25 : S[25]? = some (8, 2, [some (some 26), some (some 27)]) := hW.1 25 _ rfl
  have hs26 : S[26]? = some (0, 1000, []) := hW.1 26 _ rfl
  refine z_meth hl rfl kp_X6 (Nat.le_of_ble_eq_true rfl) (lv := [some (.ref 25), some (.int a0)]) rfl ?_
  unfold F_X6_dipsOf
  refine z_aload_n (i := 0) (x := 25) dX6_dipsOf_0 rfl rfl ?_
  refine z_getR (j := 0) dX6_dipsOf_1 kl_6 hs25 (by decide) rfl rfl kf_X6_9 ?_
  refine z_iload_n (i := 1) (x := a0) dX6_dipsOf_4 rfl rfl ?_
  refine z_cP (As := [.ref 26, .int a0]) (rest := []) (em_X10_at (n0 := 1000) hl hs26 (by decide) a0 D) (fun o7 h => z_runSN 26 2 h rfl kk_X6_26 kn_X6_26 kq_X10_at rfl (Nat.le_of_ble_eq_true rfl) ⟨Nat.le_of_ble_eq_true rfl, Nat.le_of_ble_eq_true rfl, Nat.le_of_ble_eq_true rfl, Nat.le_of_ble_eq_true rfl⟩ dX6_dipsOf_5) z_gP (fun hz1 => ?_)
  exact z_ireturn dX6_dipsOf_8 z_rP rfl (by decide) (by decide)

def F_X10_sums_J22 (N : Nat) (o : Nat) (a0 : Int32) (a1 : Int32) (D4 : z_Dat) : Option ((Int32 × z_Dat) ⊕ (String × z_Dat)) :=
  z_bt (F_X10_demand 0 D4) (fun a_6 => z_bd (F_X6_mixAll N o a_6) (fun a_8 => if a1 = 0 then (some (.inl (F_X6_mixesOf a0 a_8, a_8)))
  else (some (.inl (F_X6_dipsOf a0 a_8, a_8)))))
def F_X10_sums_J21 (N : Nat) (o : Nat) (a0 : Int32) (a1 : Int32) (D3 : z_Dat) : Option ((Int32 × z_Dat) ⊕ (String × z_Dat)) :=
  F_X10_sums_J22 N o a0 a1 D3
def F_X10_sums_J22x (N : Nat) (o : Nat) (a0 : Int32) (a1 : Int32) (D14 : z_Dat) : Option ((Int32 × z_Dat) ⊕ (String × z_Dat)) :=
  z_bt (F_X10_demand 1 D14) (fun a_16 => z_bd (F_X6_mixAll N o a_16) (fun a_18 => if a1 = 0 then (some (.inl (F_X6_mixesOf a0 a_18, a_18)))
  else (some (.inl (F_X6_dipsOf a0 a_18, a_18)))))
def F_X10_sums (N : Nat) (o : Nat) (a0 : Int32) (a1 : Int32) (D : z_Dat) : Option ((Int32 × z_Dat) ⊕ (String × z_Dat)) :=
  if (F_X10_isShade a0) = 0 then (F_X10_sums_J21 N o a0 a1 D)
  else (if a1 < 0 then (F_X10_sums_J21 N o a0 a1 D)
  else (if 1 < a1 then (F_X10_sums_J21 N o a0 a1 D)
  else (F_X10_sums_J22x N o a0 a1 D)))
set_option maxRecDepth 100000 in
set_option maxHeartbeats 4000000 in
theorem em_X10_sums {l : Launch} {S : List z_Shp} {o : Nat} (hl : l.stackTraces = false) (hW : z_W S o) (N : Nat) (a0 : Int32) (a1 : Int32) (D : z_Dat) : ∀ out, z_ko (z_kTI S) (F_X10_sums N o a0 a1 D) out → z_EM l M_X10_sums (60, 700, 1, 6) [.ref 0, .int a0, .int a1] S D out := by
  have hC := hW.2
  have hs0 : S[0]? = some (12, 15, [some (some 1), some (some 3), some (some 5), some (some 7), some (some 12), some (some 15), some (some 21), some (some 25), some (some 28), some (some 32), some (some 33), some (some o), none, none, none]) := hW.1 0 _ rfl
  have hs25 : S[25]? = some (8, 2, [some (some 26), some (some 27)]) := hW.1 25 _ rfl
  refine z_meth hl rfl kp_X10 (Nat.le_of_ble_eq_true rfl) (lv := [some (.ref 0), some (.int a0), some (.int a1)]) rfl ?_
  unfold F_X10_sums
  have hJ_F_X10_sums_J22 : ∀ (D4 : z_Dat) , z_F l M_X10_sums (60, 700, 1, 6) 0 0 22 [some (.ref 0), some (.int a0), some (.int a1)] [.int 0, .ref 0] S D4 (z_ko (z_kTI S)) (F_X10_sums_J22 N o a0 a1 D4) := by
    intro D4
    unfold F_X10_sums_J22
    refine z_cXVI rfl (As := [.ref 0, .int 0]) (rest := []) (em_X10_demand hl hW 0 D4) (fun o7 h => z_runV 102 1 h rfl kk_X10_102 hs0 kl_10.1 kq_X10_demand rfl (Nat.le_of_ble_eq_true rfl) ⟨Nat.le_of_ble_eq_true rfl, Nat.le_of_ble_eq_true rfl, Nat.le_of_ble_eq_true rfl, Nat.le_of_ble_eq_true rfl⟩ dX10_sums_22) (by decide) (by decide) (fun a_6 hz5 => ?_)
    refine z_aload_n (i := 0) (x := 0) dX10_sums_25 rfl rfl ?_
    refine z_getR (j := 7) dX10_sums_26 kl_10 hs0 (by decide) rfl rfl kf_X10_57 ?_
    refine z_aload_n (i := 0) (x := 0) dX10_sums_29 rfl rfl ?_
    refine z_getR (j := 11) dX10_sums_30 kl_10 hs0 (by decide) rfl rfl kf_X10_82 ?_
    refine z_cWV (As := [.ref 25, .ref o]) (rest := []) (em_X6_mixAll hl hW hC N a_6) (fun o7 h => z_runV 263 1 h rfl kk_X10_263 hs25 kl_6.1 kq_X6_mixAll rfl (Nat.le_of_ble_eq_true rfl) ⟨Nat.le_of_ble_eq_true rfl, Nat.le_of_ble_eq_true rfl, Nat.le_of_ble_eq_true rfl, Nat.le_of_ble_eq_true rfl⟩ dX10_sums_33) z_gXI (fun a_8 hz7 => ?_)
    refine z_iload_n (i := 2) (x := a1) dX10_sums_36 rfl rfl ?_
    refine z_if_ne 51 dX10_sums_37 (by decide) (fun c9 => ?_) (fun c9 => ?_)
    · refine z_aload_n (i := 0) (x := 0) dX10_sums_40 rfl rfl ?_
      refine z_getR (j := 7) dX10_sums_41 kl_10 hs0 (by decide) rfl rfl kf_X10_57 ?_
      refine z_iload_n (i := 1) (x := a0) dX10_sums_44 rfl rfl ?_
      refine z_cP (As := [.ref 25, .int a0]) (rest := []) (em_X6_mixesOf hl hW a0 a_8) (fun o7 h => z_runV 266 1 h rfl kk_X10_266 hs25 kl_6.1 kq_X6_mixesOf rfl (Nat.le_of_ble_eq_true rfl) ⟨Nat.le_of_ble_eq_true rfl, Nat.le_of_ble_eq_true rfl, Nat.le_of_ble_eq_true rfl, Nat.le_of_ble_eq_true rfl⟩ dX10_sums_45) z_gXI (fun hz10 => ?_)
      refine z_goto 59 dX10_sums_48 (by decide) ?_
      exact z_ireturn dX10_sums_59 z_rXI rfl (by decide) (by decide)
    · refine z_aload_n (i := 0) (x := 0) dX10_sums_51 rfl rfl ?_
      refine z_getR (j := 7) dX10_sums_52 kl_10 hs0 (by decide) rfl rfl kf_X10_57 ?_
      refine z_iload_n (i := 1) (x := a0) dX10_sums_55 rfl rfl ?_
      refine z_cP (As := [.ref 25, .int a0]) (rest := []) (em_X6_dipsOf hl hW a0 a_8) (fun o7 h => z_runV 269 1 h rfl kk_X10_269 hs25 kl_6.1 kq_X6_dipsOf rfl (Nat.le_of_ble_eq_true rfl) ⟨Nat.le_of_ble_eq_true rfl, Nat.le_of_ble_eq_true rfl, Nat.le_of_ble_eq_true rfl, Nat.le_of_ble_eq_true rfl⟩ dX10_sums_56) z_gXI (fun hz11 => ?_)
      exact z_ireturn dX10_sums_59 z_rXI rfl (by decide) (by decide)
  have hJ_F_X10_sums_J21 : ∀ (D3 : z_Dat) , z_F l M_X10_sums (60, 700, 1, 6) 0 0 21 [some (.ref 0), some (.int a0), some (.int a1)] [.ref 0] S D3 (z_ko (z_kTI S)) (F_X10_sums_J21 N o a0 a1 D3) := by
    intro D3
    unfold F_X10_sums_J21
    refine z_iconst (v := 0) dX10_sums_21 rfl ?_
    refine z_widen (k := 0) (n := 0) (by decide) (by decide) ?_
    exact hJ_F_X10_sums_J22 D3
  have hJ_F_X10_sums_J22x : ∀ (D14 : z_Dat) , z_F l M_X10_sums (60, 700, 1, 6) 0 0 22 [some (.ref 0), some (.int a0), some (.int a1)] [.int 1, .ref 0] S D14 (z_ko (z_kTI S)) (F_X10_sums_J22x N o a0 a1 D14) := by
    intro D14
    unfold F_X10_sums_J22x
    refine z_cXVI rfl (As := [.ref 0, .int 1]) (rest := []) (em_X10_demand hl hW 1 D14) (fun o7 h => z_runV 102 1 h rfl kk_X10_102 hs0 kl_10.1 kq_X10_demand rfl (Nat.le_of_ble_eq_true rfl) ⟨Nat.le_of_ble_eq_true rfl, Nat.le_of_ble_eq_true rfl, Nat.le_of_ble_eq_true rfl, Nat.le_of_ble_eq_true rfl⟩ dX10_sums_22) (by decide) (by decide) (fun a_16 hz15 => ?_)
    refine z_aload_n (i := 0) (x := 0) dX10_sums_25 rfl rfl ?_
    refine z_getR (j := 7) dX10_sums_26 kl_10 hs0 (by decide) rfl rfl kf_X10_57 ?_
    refine z_aload_n (i := 0) (x := 0) dX10_sums_29 rfl rfl ?_
    refine z_getR (j := 11) dX10_sums_30 kl_10 hs0 (by decide) rfl rfl kf_X10_82 ?_
    refine z_cWV (As := [.ref 25, .ref o]) (rest := []) (em_X6_mixAll hl hW hC N a_16) (fun o7 h => z_runV 263 1 h rfl kk_X10_263 hs25 kl_6.1 kq_X6_mixAll rfl (Nat.le_of_ble_eq_true rfl) ⟨Nat.le_of_ble_eq_true rfl, Nat.le_of_ble_eq_true rfl, Nat.le_of_ble_eq_true rfl, Nat.le_of_ble_eq_true rfl⟩ dX10_sums_33) z_gXI (fun a_18 hz17 => ?_)
    refine z_iload_n (i := 2) (x := a1) dX10_sums_36 rfl rfl ?_
    refine z_if_ne 51 dX10_sums_37 (by decide) (fun c19 => ?_) (fun c19 => ?_)
    · refine z_aload_n (i := 0) (x := 0) dX10_sums_40 rfl rfl ?_
      refine z_getR (j := 7) dX10_sums_41 kl_10 hs0 (by decide) rfl rfl kf_X10_57 ?_
      refine z_iload_n (i := 1) (x := a0) dX10_sums_44 rfl rfl ?_
      refine z_cP (As := [.ref 25, .int a0]) (rest := []) (em_X6_mixesOf hl hW a0 a_18) (fun o7 h => z_runV 266 1 h rfl kk_X10_266 hs25 kl_6.1 kq_X6_mixesOf rfl (Nat.le_of_ble_eq_true rfl) ⟨Nat.le_of_ble_eq_true rfl, Nat.le_of_ble_eq_true rfl, Nat.le_of_ble_eq_true rfl, Nat.le_of_ble_eq_true rfl⟩ dX10_sums_45) z_gXI (fun hz20 => ?_)
      refine z_goto 59 dX10_sums_48 (by decide) ?_
      exact z_ireturn dX10_sums_59 z_rXI rfl (by decide) (by decide)
    · refine z_aload_n (i := 0) (x := 0) dX10_sums_51 rfl rfl ?_
      refine z_getR (j := 7) dX10_sums_52 kl_10 hs0 (by decide) rfl rfl kf_X10_57 ?_
      refine z_iload_n (i := 1) (x := a0) dX10_sums_55 rfl rfl ?_
      refine z_cP (As := [.ref 25, .int a0]) (rest := []) (em_X6_dipsOf hl hW a0 a_18) (fun o7 h => z_runV 269 1 h rfl kk_X10_269 hs25 kl_6.1 kq_X6_dipsOf rfl (Nat.le_of_ble_eq_true rfl) ⟨Nat.le_of_ble_eq_true rfl, Nat.le_of_ble_eq_true rfl, Nat.le_of_ble_eq_true rfl, Nat.le_of_ble_eq_true rfl⟩ dX10_sums_56) z_gXI (fun hz21 => ?_)
      exact z_ireturn dX10_sums_59 z_rXI rfl (by decide) (by decide)
  refine z_aload_n (i := 0) (x := 0) dX10_sums_0 rfl rfl ?_
  refine z_iload_n (i := 1) (x := a0) dX10_sums_1 rfl rfl ?_
  refine z_cP (As := [.int a0]) (rest := [.ref 0]) (em_X10_isShade hl a0 D) (fun o7 h => z_runS 232 1 h rfl kk_X10_232 kq_X10_isShade rfl (Nat.le_of_ble_eq_true rfl) ⟨Nat.le_of_ble_eq_true rfl, Nat.le_of_ble_eq_true rfl, Nat.le_of_ble_eq_true rfl, Nat.le_of_ble_eq_true rfl⟩ dX10_sums_2) z_gXI (fun hz1 => ?_)
  refine z_if_eq 21 dX10_sums_5 (by decide) (fun c2 => ?_) (fun c2 => ?_)
  · refine z_widen (k := 0) (n := 0) (by decide) (by decide) ?_
    exact hJ_F_X10_sums_J21 D
  · refine z_iload_n (i := 2) (x := a1) dX10_sums_8 rfl rfl ?_
    refine z_if_lt 21 dX10_sums_9 (by decide) (fun c12 => ?_) (fun c12 => ?_)
    · refine z_widen (k := 0) (n := 0) (by decide) (by decide) ?_
      exact hJ_F_X10_sums_J21 D
    · refine z_iload_n (i := 2) (x := a1) dX10_sums_12 rfl rfl ?_
      refine z_iconst (v := 1) dX10_sums_13 rfl ?_
      refine z_icmp_gt 21 dX10_sums_14 (by decide) (fun c13 => ?_) (fun c13 => ?_)
      · refine z_widen (k := 0) (n := 0) (by decide) (by decide) ?_
        exact hJ_F_X10_sums_J21 D
      · refine z_iconst (v := 1) dX10_sums_17 rfl ?_
        refine z_goto 22 dX10_sums_18 (by decide) ?_
        refine z_widen (k := 0) (n := 0) (by decide) (by decide) ?_
        exact hJ_F_X10_sums_J22x D

def F_X6_reachable_L49 (o : Nat) (kc8 : ((Int32 × Int32 × z_Dat) → Option (Int32 × z_Dat))) (v6 : Int32) (v12 : Int32) (kc15 : ((Int32 × z_Dat) → Option (Int32 × z_Dat))) (v13 : Int32) (D14 : z_Dat) : Option (Int32 × z_Dat) :=
  if (D14 o 5) ≤ v13 then (z_let (v6 + 1) (fun v17 => kc8 (v12, v17, D14)))
  else (z_let (F_X10_put 27 1000 (F_X10_deeper v6 (F_X1_vatOf o v13 D14)) 1 D14) (fun a_21 => z_let (v13 + 1) (fun v22 => kc15 (v22, a_21))))
def F_X6_reachable_L22 (N : Nat) (o : Nat) (kc8 : ((Int32 × Int32 × z_Dat) → Option (Int32 × z_Dat))) (v5 : Int32) (v6 : Int32) (D7 : z_Dat) : Option (Int32 × z_Dat) :=
  if 1000 ≤ v6 then (some (v5, D7))
  else (if (F_X10_at 27 1000 v6 D7) = 1 then (z_let (v5 + 1) (fun v12 => z_loop (fun kc15 s => F_X6_reachable_L49 o kc8 v6 v12 kc15 s.1 s.2) N (0, D7)))
  else (z_let (v6 + 1) (fun v24 => kc8 (v5, v24, D7))))
def F_X6_reachable (N : Nat) (o : Nat) (a0 : Int32) (D : z_Dat) : Option (Int32 × z_Dat) :=
  z_bd (F_X10_fill N 27 1000 0 D) (fun a_2 => z_let (F_X10_put 27 1000 a0 1 a_2) (fun a_4 => z_loop (fun kc8 s => F_X6_reachable_L22 N o kc8 s.1 s.2.1 s.2.2) N (0, a0, a_4)))
set_option maxRecDepth 100000 in
set_option maxHeartbeats 4000000 in
theorem em_X6_reachable {l : Launch} {S : List z_Shp} {oW : Nat} {o : Nat} (hl : l.stackTraces = false) (hW : z_W S oW) (hC : z_isCity S o) (N : Nat) (a0 : Int32) (D : z_Dat) : ∀ out, z_ko (z_kI S) (F_X6_reachable N o a0 D) out → z_EM l M_X6_reachable (40, 640, 0, 0) [.ref 25, .ref o, .int a0] S D out := by
  have hs25 : S[25]? = some (8, 2, [some (some 26), some (some 27)]) := hW.1 25 _ rfl
  have hs27 : S[27]? = some (0, 1000, []) := hW.1 27 _ rfl
  refine z_meth hl rfl kp_X6 (Nat.le_of_ble_eq_true rfl) (lv := [some (.ref 25), some (.ref o), some (.int a0), none, none, none]) rfl ?_
  unfold F_X6_reachable
  refine z_aload_n (i := 0) (x := 25) dX6_reachable_0 rfl rfl ?_
  refine z_getR (j := 1) dX6_reachable_1 kl_6 hs25 (by decide) rfl rfl kf_X6_15 ?_
  refine z_iconst (v := 0) dX6_reachable_4 rfl ?_
  refine z_cWV (As := [.ref 27, .int 0]) (rest := []) (em_X10_fill (n0 := 1000) hl hs27 (by decide) N 0 D) (fun o7 h => z_runSN 50 2 h rfl kk_X6_50 kn_X6_50 kq_X10_fill rfl (Nat.le_of_ble_eq_true rfl) ⟨Nat.le_of_ble_eq_true rfl, Nat.le_of_ble_eq_true rfl, Nat.le_of_ble_eq_true rfl, Nat.le_of_ble_eq_true rfl⟩ dX6_reachable_5) z_gWI (fun a_2 hz1 => ?_)
  refine z_aload_n (i := 0) (x := 25) dX6_reachable_8 rfl rfl ?_
  refine z_getR (j := 1) dX6_reachable_9 kl_6 hs25 (by decide) rfl rfl kf_X6_15 ?_
  refine z_iload_n (i := 2) (x := a0) dX6_reachable_12 rfl rfl ?_
  refine z_iconst (v := 1) dX6_reachable_13 rfl ?_
  refine z_cTV (As := [.ref 27, .int a0, .int 1]) (rest := []) (em_X10_put (n0 := 1000) hl hs27 (by decide) a0 1 a_2) (fun o7 h => z_runSN 22 3 h rfl kk_X6_22 kn_X6_22 kq_X10_put rfl (Nat.le_of_ble_eq_true rfl) ⟨Nat.le_of_ble_eq_true rfl, Nat.le_of_ble_eq_true rfl, Nat.le_of_ble_eq_true rfl, Nat.le_of_ble_eq_true rfl⟩ dX6_reachable_14) z_gWI (fun a_4 hz3 => ?_)
  refine z_iconst (v := 0) dX6_reachable_17 rfl ?_
  refine z_istore_n (i := 3) (x := 0) (lv' := [some (.ref 25), some (.ref o), some (.int a0), some (.int 0), none, none]) dX6_reachable_18 rfl (by decide) rfl rfl ?_
  refine z_iload_n (i := 2) (x := a0) dX6_reachable_19 rfl rfl ?_
  refine z_istore (i := 4) (x := a0) (lv' := [some (.ref 25), some (.ref o), some (.int a0), some (.int 0), some (.int a0), none]) dX6_reachable_20 (by decide) rfl rfl ?_
  refine z_weak (lv' := [some (.ref 25), some (.ref o), none, some (.int 0), some (.int a0), none]) ⟨Or.inr rfl, ⟨Or.inr rfl, ⟨Or.inl rfl, ⟨Or.inr rfl, ⟨Or.inr rfl, ⟨Or.inl rfl, trivial⟩⟩⟩⟩⟩⟩ ?_
  refine z_loops (lvOf := fun s : Int32 × Int32 × z_Dat => [some (.ref 25), some (.ref o), none, some (.int s.1), some (.int s.2.1), none]) (dOf := fun s : Int32 × Int32 × z_Dat => s.2.2) (fun kc8 hkc8 s => ?_) N (0, a0, a_4)
  obtain ⟨v5, v6, D7⟩ := s
  show z_F _ _ _ _ _ 22 [some (.ref 25), some (.ref o), none, some (.int v5), some (.int v6), none] [] S D7 _ (F_X6_reachable_L22 N o kc8 v5 v6 D7)
  unfold F_X6_reachable_L22
  refine z_iload (i := 4) (x := v6) dX6_reachable_22 rfl ?_
  refine z_sipush (v := 1000) dX6_reachable_24 (by decide) ?_
  refine z_icmp_ge 89 dX6_reachable_27 (by decide) (fun c9 => ?_) (fun c9 => ?_)
  · refine z_iload_n (i := 3) (x := v5) dX6_reachable_89 rfl rfl ?_
    exact z_ireturn dX6_reachable_90 z_rWI rfl (by decide) (by decide)
  · refine z_aload_n (i := 0) (x := 25) dX6_reachable_30 rfl rfl ?_
    refine z_getR (j := 1) dX6_reachable_31 kl_6 hs25 (by decide) rfl rfl kf_X6_15 ?_
    refine z_iload (i := 4) (x := v6) dX6_reachable_34 rfl ?_
    refine z_cP (As := [.ref 27, .int v6]) (rest := []) (em_X10_at (n0 := 1000) hl hs27 (by decide) v6 D7) (fun o7 h => z_runSN 26 2 h rfl kk_X6_26 kn_X6_26 kq_X10_at rfl (Nat.le_of_ble_eq_true rfl) ⟨Nat.le_of_ble_eq_true rfl, Nat.le_of_ble_eq_true rfl, Nat.le_of_ble_eq_true rfl, Nat.le_of_ble_eq_true rfl⟩ dX6_reachable_36) z_gWI (fun hz10 => ?_)
    refine z_iconst (v := 1) dX6_reachable_39 rfl ?_
    refine z_icmp_ne 83 dX6_reachable_40 (by decide) (fun c11 => ?_) (fun c11 => ?_)
    · refine z_iinc (i := 3) (x := v5) (y := 1) dX6_reachable_43 rfl (by decide) (by decide) rfl (fun v12 => ?_)
      refine z_iconst (v := 0) dX6_reachable_46 rfl ?_
      refine z_istore (i := 5) (x := 0) (lv' := [some (.ref 25), some (.ref o), none, some (.int v12), some (.int v6), some (.int 0)]) dX6_reachable_47 (by decide) rfl rfl ?_
      refine z_loops (lvOf := fun s : Int32 × z_Dat => [some (.ref 25), some (.ref o), none, some (.int v12), some (.int v6), some (.int s.1)]) (dOf := fun s : Int32 × z_Dat => s.2) (fun kc15 hkc15 s => ?_) N (0, D7)
      obtain ⟨v13, D14⟩ := s
      show z_F _ _ _ _ _ 49 [some (.ref 25), some (.ref o), none, some (.int v12), some (.int v6), some (.int v13)] [] S D14 _ (F_X6_reachable_L49 o kc8 v6 v12 kc15 v13 D14)
      unfold F_X6_reachable_L49
      refine z_iload (i := 5) (x := v13) dX6_reachable_49 rfl ?_
      refine z_aload_n (i := 1) (x := o) dX6_reachable_51 rfl rfl ?_
      refine z_getIN (j := 5) dX6_reachable_52 kl_1 hC.1 (by decide) rfl rfl kf_X6_30 ?_
      refine z_icmp_ge 83 dX6_reachable_55 (by decide) (fun c16 => ?_) (fun c16 => ?_)
      · refine z_iinc (i := 4) (x := v6) (y := 1) dX6_reachable_83 rfl (by decide) (by decide) rfl (fun v17 => ?_)
        refine z_goto 22 dX6_reachable_86 (by decide) ?_
        refine z_weak (lv' := [some (.ref 25), some (.ref o), none, some (.int v12), some (.int v17), none]) ⟨Or.inr rfl, ⟨Or.inr rfl, ⟨Or.inl rfl, ⟨Or.inr rfl, ⟨Or.inr rfl, ⟨Or.inl rfl, trivial⟩⟩⟩⟩⟩⟩ ?_
        exact hkc8 (v12, v17, D14)
      · refine z_aload_n (i := 0) (x := 25) dX6_reachable_58 rfl rfl ?_
        refine z_getR (j := 1) dX6_reachable_59 kl_6 hs25 (by decide) rfl rfl kf_X6_15 ?_
        refine z_iload (i := 4) (x := v6) dX6_reachable_62 rfl ?_
        refine z_aload_n (i := 1) (x := o) dX6_reachable_64 rfl rfl ?_
        refine z_iload (i := 5) (x := v13) dX6_reachable_65 rfl ?_
        refine z_cP (As := [.ref o, .int v13]) (rest := [.int v6, .ref 27]) (em_X1_vatOf hl hC v13 D14) (fun o7 h => z_runV 36 1 h rfl kk_X6_36 hC.1 kl_1.1 kq_X1_vatOf rfl (Nat.le_of_ble_eq_true rfl) ⟨Nat.le_of_ble_eq_true rfl, Nat.le_of_ble_eq_true rfl, Nat.le_of_ble_eq_true rfl, Nat.le_of_ble_eq_true rfl⟩ dX6_reachable_67) z_gWI (fun hz18 => ?_)
        refine z_cP (As := [.int v6, .int (F_X1_vatOf o v13 D14)]) (rest := [.ref 27]) (em_X10_deeper hl v6 (F_X1_vatOf o v13 D14) D14) (fun o7 h => z_runSN 40 2 h rfl kk_X6_40 kn_X6_40 kq_X10_deeper rfl (Nat.le_of_ble_eq_true rfl) ⟨Nat.le_of_ble_eq_true rfl, Nat.le_of_ble_eq_true rfl, Nat.le_of_ble_eq_true rfl, Nat.le_of_ble_eq_true rfl⟩ dX6_reachable_70) z_gWI (fun hz19 => ?_)
        refine z_iconst (v := 1) dX6_reachable_73 rfl ?_
        refine z_cTV (As := [.ref 27, .int (F_X10_deeper v6 (F_X1_vatOf o v13 D14)), .int 1]) (rest := []) (em_X10_put (n0 := 1000) hl hs27 (by decide) (F_X10_deeper v6 (F_X1_vatOf o v13 D14)) 1 D14) (fun o7 h => z_runSN 22 3 h rfl kk_X6_22 kn_X6_22 kq_X10_put rfl (Nat.le_of_ble_eq_true rfl) ⟨Nat.le_of_ble_eq_true rfl, Nat.le_of_ble_eq_true rfl, Nat.le_of_ble_eq_true rfl, Nat.le_of_ble_eq_true rfl⟩ dX6_reachable_74) z_gWI (fun a_21 hz20 => ?_)
        refine z_iinc (i := 5) (x := v13) (y := 1) dX6_reachable_77 rfl (by decide) (by decide) rfl (fun v22 => ?_)
        refine z_goto 49 dX6_reachable_80 (by decide) ?_
        exact hkc15 (v22, a_21)
    · refine z_iinc (i := 4) (x := v6) (y := 1) dX6_reachable_83 rfl (by decide) (by decide) rfl (fun v24 => ?_)
      refine z_goto 22 dX6_reachable_86 (by decide) ?_
      exact hkc8 (v5, v24, D7)
