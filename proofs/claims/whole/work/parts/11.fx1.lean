/-! ===== methods as functions, and their walks (by program) ===== -/
def F_X8_hasRoom (D : z_Dat) : Int32 :=
  if 600 < ((D 1 1) + 20) then (0)
  else (1)
set_option maxRecDepth 100000 in
set_option maxHeartbeats 4000000 in
theorem em_X8_hasRoom {l : Launch} {S : List z_Shp} {oW : Nat} (hl : l.stackTraces = false) (hW : z_W S oW) (D : z_Dat) : ∀ out, z_kt (z_kR S D) (F_X8_hasRoom D) out → z_EM l M_X8_hasRoom (20, 520, 0, 0) [.ref 1] S D out := by
  have hs1 : S[1]? = some (10, 7, [some (some 2), none, none, none, none, none, none]) := hW.1 1 _ rfl
  refine z_meth hl rfl kp_X8 (Nat.le_of_ble_eq_true rfl) (lv := [some (.ref 1)]) rfl ?_
  unfold F_X8_hasRoom
  refine z_aload_n (i := 0) (x := 1) dX8_hasRoom_0 rfl rfl ?_
  refine z_getI (j := 1) dX8_hasRoom_1 kl_8 hs1 (by decide) rfl rfl kf_X8_19 ?_
  refine z_bipush (v := 20) dX8_hasRoom_4 (by decide) ?_
  refine z_iadd dX8_hasRoom_6 ?_
  refine z_sipush (v := 600) dX8_hasRoom_7 (by decide) ?_
  refine z_icmp_gt 17 dX8_hasRoom_10 (by decide) (fun c1 => ?_) (fun c1 => ?_)
  · refine z_iconst (v := 0) dX8_hasRoom_17 rfl ?_
    exact z_ireturn dX8_hasRoom_18 z_rP rfl (by decide) (by decide)
  · refine z_iconst (v := 1) dX8_hasRoom_13 rfl ?_
    refine z_goto 18 dX8_hasRoom_14 (by decide) ?_
    exact z_ireturn dX8_hasRoom_18 z_rP rfl (by decide) (by decide)

def F_X10_put (r0 : Nat) (n0 : Nat) (a0 : Int32) (a1 : Int32) (D : z_Dat) : z_Dat :=
  if a0 < 0 then (D)
  else (if (Int32.ofNat n0) ≤ a0 then (D)
  else (z_let (z_up D r0 (z_ix a0) a1) (fun D3 => D3)))
set_option maxRecDepth 100000 in
set_option maxHeartbeats 4000000 in
theorem em_X10_put {l : Launch} {S : List z_Shp} {r0 : Nat} {n0 : Nat} (hl : l.stackTraces = false) (hr0 : S[r0]? = some (0, n0, [])) (hn0 : n0 < 2147483648) (a0 : Int32) (a1 : Int32) (D : z_Dat) : ∀ out, z_kt (z_kV S) (F_X10_put r0 n0 a0 a1 D) out → z_EM l M_X10_put (20, 520, 0, 0) [.ref r0, .int a0, .int a1] S D out := by
  refine z_meth hl rfl kp_X10 (Nat.le_of_ble_eq_true rfl) (lv := [some (.ref r0), some (.int a0), some (.int a1)]) rfl ?_
  unfold F_X10_put
  refine z_iload_n (i := 1) (x := a0) dX10_put_0 rfl rfl ?_
  refine z_if_lt 14 dX10_put_1 (by decide) (fun c1 => ?_) (fun c1 => ?_)
  · exact z_vreturn dX10_put_14 z_rTV trivial (by decide) (by decide)
  · refine z_iload_n (i := 1) (x := a0) dX10_put_4 rfl rfl ?_
    refine z_aload_n (i := 0) (x := r0) dX10_put_5 rfl rfl ?_
    refine z_alen (v := Int32.ofNat n0) dX10_put_6 hr0 rfl ?_
    refine z_icmp_ge 14 dX10_put_7 (by decide) (fun c2 => ?_) (fun c2 => ?_)
    · exact z_vreturn dX10_put_14 z_rTV trivial (by decide) (by decide)
    · refine z_aload_n (i := 0) (x := r0) dX10_put_10 rfl rfl ?_
      refine z_iload_n (i := 1) (x := a0) dX10_put_11 rfl rfl ?_
      refine z_iload_n (i := 2) (x := a1) dX10_put_12 rfl rfl ?_
      refine z_iastL dX10_put_13 hr0 (z_vpin c1 c2 hn0) (fun D3 => ?_)
      exact z_vreturn dX10_put_14 z_rTV trivial (by decide) (by decide)

def F_X8_add_J3 (D17 : z_Dat) : z_Dat :=
  D17
def F_X8_add_J3x (a0 : Int32) (D13 : z_Dat) : z_Dat :=
  z_let (F_X10_put 2 600 (D13 1 1) ((z_ushr a0 0) &&& 255) D13) (fun a_15 => z_let (z_up a_15 1 1 ((a_15 1 1) + 1)) (fun D16 => F_X8_add_J3 D16))
def F_X8_add_J3xx (a0 : Int32) (D9 : z_Dat) : z_Dat :=
  z_let (F_X10_put 2 600 (D9 1 1) ((z_ushr a0 8) &&& 255) D9) (fun a_11 => z_let (z_up a_11 1 1 ((a_11 1 1) + 1)) (fun D12 => F_X8_add_J3x a0 D12))
def F_X8_add_J3xxx (a0 : Int32) (D5 : z_Dat) : z_Dat :=
  z_let (F_X10_put 2 600 (D5 1 1) ((z_ushr a0 16) &&& 255) D5) (fun a_7 => z_let (z_up a_7 1 1 ((a_7 1 1) + 1)) (fun D8 => F_X8_add_J3xx a0 D8))
def F_X8_add_J3xxxx (a0 : Int32) (D1 : z_Dat) : z_Dat :=
  z_let (F_X10_put 2 600 (D1 1 1) ((z_ushr a0 24) &&& 255) D1) (fun a_3 => z_let (z_up a_3 1 1 ((a_3 1 1) + 1)) (fun D4 => F_X8_add_J3xxx a0 D4))
def F_X8_add (a0 : Int32) (D : z_Dat) : z_Dat :=
  F_X8_add_J3xxxx a0 D
set_option maxRecDepth 100000 in
set_option maxHeartbeats 4000000 in
theorem em_X8_add {l : Launch} {S : List z_Shp} {oW : Nat} (hl : l.stackTraces = false) (hW : z_W S oW) (a0 : Int32) (D : z_Dat) : ∀ out, z_kt (z_kV S) (F_X8_add a0 D) out → z_EM l M_X8_add (30, 580, 0, 0) [.ref 1, .int a0] S D out := by
  have hs1 : S[1]? = some (10, 7, [some (some 2), none, none, none, none, none, none]) := hW.1 1 _ rfl
  have hs2 : S[2]? = some (0, 600, []) := hW.1 2 _ rfl
  refine z_meth hl rfl kp_X8 (Nat.le_of_ble_eq_true rfl) (lv := [some (.ref 1), some (.int a0), none]) rfl ?_
  unfold F_X8_add
  have hJ_F_X8_add_J3 : ∀ (D17 : z_Dat) , z_F l M_X8_add (30, 580, 0, 0) 0 0 3 [some (.ref 1), some (.int a0), some (.int (-8))] [] S D17 (z_kt (z_kV S)) (F_X8_add_J3 D17) := by
    intro D17
    unfold F_X8_add_J3
    refine z_iload_n (i := 2) (x := (-8)) dX8_add_3 rfl rfl ?_
    refine z_if_ltJ 41 dX8_add_4 (by decide) (by decide) ?_
    exact z_vreturn dX8_add_41 z_rTV trivial (by decide) (by decide)
  have hJ_F_X8_add_J3x : ∀ (D13 : z_Dat) , z_F l M_X8_add (30, 580, 0, 0) 0 0 3 [some (.ref 1), some (.int a0), some (.int 0)] [] S D13 (z_kt (z_kV S)) (F_X8_add_J3x a0 D13) := by
    intro D13
    unfold F_X8_add_J3x
    refine z_iload_n (i := 2) (x := 0) dX8_add_3 rfl rfl ?_
    refine z_if_ltN 41 dX8_add_4 (by decide) (by decide) ?_
    refine z_aload_n (i := 0) (x := 1) dX8_add_7 rfl rfl ?_
    refine z_getR (j := 0) dX8_add_8 kl_8 hs1 (by decide) rfl rfl kf_X8_9 ?_
    refine z_aload_n (i := 0) (x := 1) dX8_add_11 rfl rfl ?_
    refine z_getI (j := 1) dX8_add_12 kl_8 hs1 (by decide) rfl rfl kf_X8_19 ?_
    refine z_iload_n (i := 1) (x := a0) dX8_add_15 rfl rfl ?_
    refine z_iload_n (i := 2) (x := 0) dX8_add_16 rfl rfl ?_
    refine z_iushr dX8_add_17 ?_
    refine z_sipush (v := 255) dX8_add_18 (by decide) ?_
    refine z_iand dX8_add_21 ?_
    refine z_cTV (As := [.ref 2, .int (D13 1 1), .int ((z_ushr a0 0) &&& 255)]) (rest := []) (em_X10_put (n0 := 600) hl hs2 (by decide) (D13 1 1) ((z_ushr a0 0) &&& 255) D13) (fun o7 h => z_runSN 22 3 h rfl kk_X8_22 kn_X8_22 kq_X10_put rfl (Nat.le_of_ble_eq_true rfl) ⟨Nat.le_of_ble_eq_true rfl, Nat.le_of_ble_eq_true rfl, Nat.le_of_ble_eq_true rfl, Nat.le_of_ble_eq_true rfl⟩ dX8_add_22) z_gTV (fun a_15 hz14 => ?_)
    refine z_aload_n (i := 0) (x := 1) dX8_add_25 rfl rfl ?_
    refine z_dup dX8_add_26 rfl ?_
    refine z_getI (j := 1) dX8_add_27 kl_8 hs1 (by decide) rfl rfl kf_X8_19 ?_
    refine z_iconst (v := 1) dX8_add_30 rfl ?_
    refine z_iadd dX8_add_31 ?_
    refine z_putI (j := 1) dX8_add_32 kl_8 tyX8_ok nmX8 hs1 (by decide) rfl rfl rfl rfl rfl rfl kf_X8_19 (fun D16 => ?_)
    refine z_iincC (i := 2) (x := 0) (v := (-8)) (lv' := [some (.ref 1), some (.int a0), some (.int (-8))]) dX8_add_35 rfl (by decide) (by decide) rfl rfl ?_
    refine z_goto 3 dX8_add_38 (by decide) ?_
    exact hJ_F_X8_add_J3 D16
  have hJ_F_X8_add_J3xx : ∀ (D9 : z_Dat) , z_F l M_X8_add (30, 580, 0, 0) 0 0 3 [some (.ref 1), some (.int a0), some (.int 8)] [] S D9 (z_kt (z_kV S)) (F_X8_add_J3xx a0 D9) := by
    intro D9
    unfold F_X8_add_J3xx
    refine z_iload_n (i := 2) (x := 8) dX8_add_3 rfl rfl ?_
    refine z_if_ltN 41 dX8_add_4 (by decide) (by decide) ?_
    refine z_aload_n (i := 0) (x := 1) dX8_add_7 rfl rfl ?_
    refine z_getR (j := 0) dX8_add_8 kl_8 hs1 (by decide) rfl rfl kf_X8_9 ?_
    refine z_aload_n (i := 0) (x := 1) dX8_add_11 rfl rfl ?_
    refine z_getI (j := 1) dX8_add_12 kl_8 hs1 (by decide) rfl rfl kf_X8_19 ?_
    refine z_iload_n (i := 1) (x := a0) dX8_add_15 rfl rfl ?_
    refine z_iload_n (i := 2) (x := 8) dX8_add_16 rfl rfl ?_
    refine z_iushr dX8_add_17 ?_
    refine z_sipush (v := 255) dX8_add_18 (by decide) ?_
    refine z_iand dX8_add_21 ?_
    refine z_cTV (As := [.ref 2, .int (D9 1 1), .int ((z_ushr a0 8) &&& 255)]) (rest := []) (em_X10_put (n0 := 600) hl hs2 (by decide) (D9 1 1) ((z_ushr a0 8) &&& 255) D9) (fun o7 h => z_runSN 22 3 h rfl kk_X8_22 kn_X8_22 kq_X10_put rfl (Nat.le_of_ble_eq_true rfl) ⟨Nat.le_of_ble_eq_true rfl, Nat.le_of_ble_eq_true rfl, Nat.le_of_ble_eq_true rfl, Nat.le_of_ble_eq_true rfl⟩ dX8_add_22) z_gTV (fun a_11 hz10 => ?_)
    refine z_aload_n (i := 0) (x := 1) dX8_add_25 rfl rfl ?_
    refine z_dup dX8_add_26 rfl ?_
    refine z_getI (j := 1) dX8_add_27 kl_8 hs1 (by decide) rfl rfl kf_X8_19 ?_
    refine z_iconst (v := 1) dX8_add_30 rfl ?_
    refine z_iadd dX8_add_31 ?_
    refine z_putI (j := 1) dX8_add_32 kl_8 tyX8_ok nmX8 hs1 (by decide) rfl rfl rfl rfl rfl rfl kf_X8_19 (fun D12 => ?_)
    refine z_iincC (i := 2) (x := 8) (v := 0) (lv' := [some (.ref 1), some (.int a0), some (.int 0)]) dX8_add_35 rfl (by decide) (by decide) rfl rfl ?_
    refine z_goto 3 dX8_add_38 (by decide) ?_
    exact hJ_F_X8_add_J3x D12
  have hJ_F_X8_add_J3xxx : ∀ (D5 : z_Dat) , z_F l M_X8_add (30, 580, 0, 0) 0 0 3 [some (.ref 1), some (.int a0), some (.int 16)] [] S D5 (z_kt (z_kV S)) (F_X8_add_J3xxx a0 D5) := by
    intro D5
    unfold F_X8_add_J3xxx
    refine z_iload_n (i := 2) (x := 16) dX8_add_3 rfl rfl ?_
    refine z_if_ltN 41 dX8_add_4 (by decide) (by decide) ?_
    refine z_aload_n (i := 0) (x := 1) dX8_add_7 rfl rfl ?_
    refine z_getR (j := 0) dX8_add_8 kl_8 hs1 (by decide) rfl rfl kf_X8_9 ?_
    refine z_aload_n (i := 0) (x := 1) dX8_add_11 rfl rfl ?_
    refine z_getI (j := 1) dX8_add_12 kl_8 hs1 (by decide) rfl rfl kf_X8_19 ?_
    refine z_iload_n (i := 1) (x := a0) dX8_add_15 rfl rfl ?_
    refine z_iload_n (i := 2) (x := 16) dX8_add_16 rfl rfl ?_
    refine z_iushr dX8_add_17 ?_
    refine z_sipush (v := 255) dX8_add_18 (by decide) ?_
    refine z_iand dX8_add_21 ?_
    refine z_cTV (As := [.ref 2, .int (D5 1 1), .int ((z_ushr a0 16) &&& 255)]) (rest := []) (em_X10_put (n0 := 600) hl hs2 (by decide) (D5 1 1) ((z_ushr a0 16) &&& 255) D5) (fun o7 h => z_runSN 22 3 h rfl kk_X8_22 kn_X8_22 kq_X10_put rfl (Nat.le_of_ble_eq_true rfl) ⟨Nat.le_of_ble_eq_true rfl, Nat.le_of_ble_eq_true rfl, Nat.le_of_ble_eq_true rfl, Nat.le_of_ble_eq_true rfl⟩ dX8_add_22) z_gTV (fun a_7 hz6 => ?_)
    refine z_aload_n (i := 0) (x := 1) dX8_add_25 rfl rfl ?_
    refine z_dup dX8_add_26 rfl ?_
    refine z_getI (j := 1) dX8_add_27 kl_8 hs1 (by decide) rfl rfl kf_X8_19 ?_
    refine z_iconst (v := 1) dX8_add_30 rfl ?_
    refine z_iadd dX8_add_31 ?_
    refine z_putI (j := 1) dX8_add_32 kl_8 tyX8_ok nmX8 hs1 (by decide) rfl rfl rfl rfl rfl rfl kf_X8_19 (fun D8 => ?_)
    refine z_iincC (i := 2) (x := 16) (v := 8) (lv' := [some (.ref 1), some (.int a0), some (.int 8)]) dX8_add_35 rfl (by decide) (by decide) rfl rfl ?_
    refine z_goto 3 dX8_add_38 (by decide) ?_
    exact hJ_F_X8_add_J3xx D8
  have hJ_F_X8_add_J3xxxx : ∀ (D1 : z_Dat) , z_F l M_X8_add (30, 580, 0, 0) 0 0 3 [some (.ref 1), some (.int a0), some (.int 24)] [] S D1 (z_kt (z_kV S)) (F_X8_add_J3xxxx a0 D1) := by
    intro D1
    unfold F_X8_add_J3xxxx
    refine z_iload_n (i := 2) (x := 24) dX8_add_3 rfl rfl ?_
    refine z_if_ltN 41 dX8_add_4 (by decide) (by decide) ?_
    refine z_aload_n (i := 0) (x := 1) dX8_add_7 rfl rfl ?_
    refine z_getR (j := 0) dX8_add_8 kl_8 hs1 (by decide) rfl rfl kf_X8_9 ?_
    refine z_aload_n (i := 0) (x := 1) dX8_add_11 rfl rfl ?_
    refine z_getI (j := 1) dX8_add_12 kl_8 hs1 (by decide) rfl rfl kf_X8_19 ?_
    refine z_iload_n (i := 1) (x := a0) dX8_add_15 rfl rfl ?_
    refine z_iload_n (i := 2) (x := 24) dX8_add_16 rfl rfl ?_
    refine z_iushr dX8_add_17 ?_
    refine z_sipush (v := 255) dX8_add_18 (by decide) ?_
    refine z_iand dX8_add_21 ?_
    refine z_cTV (As := [.ref 2, .int (D1 1 1), .int ((z_ushr a0 24) &&& 255)]) (rest := []) (em_X10_put (n0 := 600) hl hs2 (by decide) (D1 1 1) ((z_ushr a0 24) &&& 255) D1) (fun o7 h => z_runSN 22 3 h rfl kk_X8_22 kn_X8_22 kq_X10_put rfl (Nat.le_of_ble_eq_true rfl) ⟨Nat.le_of_ble_eq_true rfl, Nat.le_of_ble_eq_true rfl, Nat.le_of_ble_eq_true rfl, Nat.le_of_ble_eq_true rfl⟩ dX8_add_22) z_gTV (fun a_3 hz2 => ?_)
    refine z_aload_n (i := 0) (x := 1) dX8_add_25 rfl rfl ?_
    refine z_dup dX8_add_26 rfl ?_
    refine z_getI (j := 1) dX8_add_27 kl_8 hs1 (by decide) rfl rfl kf_X8_19 ?_
    refine z_iconst (v := 1) dX8_add_30 rfl ?_
    refine z_iadd dX8_add_31 ?_
    refine z_putI (j := 1) dX8_add_32 kl_8 tyX8_ok nmX8 hs1 (by decide) rfl rfl rfl rfl rfl rfl kf_X8_19 (fun D4 => ?_)
    refine z_iincC (i := 2) (x := 24) (v := 16) (lv' := [some (.ref 1), some (.int a0), some (.int 16)]) dX8_add_35 rfl (by decide) (by decide) rfl rfl ?_
    refine z_goto 3 dX8_add_38 (by decide) ?_
    exact hJ_F_X8_add_J3xxx D4
  refine z_bipush (v := 24) dX8_add_0 (by decide) ?_
  refine z_istore_n (i := 2) (x := 24) (lv' := [some (.ref 1), some (.int a0), some (.int 24)]) dX8_add_2 rfl (by decide) rfl rfl ?_
  exact hJ_F_X8_add_J3xxxx D

def F_X10_feed (a0 : Int32) (a1 : Int32) (a2 : Int32) (a3 : Int32) (a4 : Int32) (D : z_Dat) : Int32 × z_Dat :=
  if (F_X8_hasRoom D) = 0 then (((-1), D))
  else (z_let (F_X8_add a0 D) (fun a_4 => z_let (F_X8_add a1 a_4) (fun a_6 => z_let (F_X8_add a2 a_6) (fun a_8 => z_let (F_X8_add a3 a_8) (fun a_10 => z_let (F_X8_add a4 a_10) (fun a_12 => (a_12 1 1, a_12)))))))
set_option maxRecDepth 100000 in
set_option maxHeartbeats 4000000 in
theorem em_X10_feed {l : Launch} {S : List z_Shp} {o : Nat} (hl : l.stackTraces = false) (hW : z_W S o) (a0 : Int32) (a1 : Int32) (a2 : Int32) (a3 : Int32) (a4 : Int32) (D : z_Dat) : ∀ out, z_kt (z_kI S) (F_X10_feed a0 a1 a2 a3 a4 D) out → z_EM l M_X10_feed (40, 640, 0, 0) [.ref 0, .int a0, .int a1, .int a2, .int a3, .int a4] S D out := by
  have hC := hW.2
  have hs0 : S[0]? = some (12, 15, [some (some 1), some (some 3), some (some 5), some (some 7), some (some 12), some (some 15), some (some 21), some (some 25), some (some 28), some (some 32), some (some 33), some (some o), none, none, none]) := hW.1 0 _ rfl
  have hs1 : S[1]? = some (10, 7, [some (some 2), none, none, none, none, none, none]) := hW.1 1 _ rfl
  refine z_meth hl rfl kp_X10 (Nat.le_of_ble_eq_true rfl) (lv := [some (.ref 0), some (.int a0), some (.int a1), some (.int a2), some (.int a3), some (.int a4)]) rfl ?_
  unfold F_X10_feed
  refine z_aload_n (i := 0) (x := 0) dX10_feed_0 rfl rfl ?_
  refine z_getR (j := 0) dX10_feed_1 kl_10 hs0 (by decide) rfl rfl kf_X10_12 ?_
  refine z_cP (As := [.ref 1]) (rest := []) (em_X8_hasRoom hl hW D) (fun o7 h => z_runV 86 0 h rfl kk_X10_86 hs1 kl_8.1 kq_X8_hasRoom rfl (Nat.le_of_ble_eq_true rfl) ⟨Nat.le_of_ble_eq_true rfl, Nat.le_of_ble_eq_true rfl, Nat.le_of_ble_eq_true rfl, Nat.le_of_ble_eq_true rfl⟩ dX10_feed_4) z_gTI (fun hz1 => ?_)
  refine z_if_ne 12 dX10_feed_7 (by decide) (fun c2 => ?_) (fun c2 => ?_)
  · refine z_iconst (v := (-1)) dX10_feed_10 rfl ?_
    exact z_ireturn dX10_feed_11 z_rTI rfl (by decide) (by decide)
  · refine z_aload_n (i := 0) (x := 0) dX10_feed_12 rfl rfl ?_
    refine z_getR (j := 0) dX10_feed_13 kl_10 hs0 (by decide) rfl rfl kf_X10_12 ?_
    refine z_iload_n (i := 1) (x := a0) dX10_feed_16 rfl rfl ?_
    refine z_cTV (As := [.ref 1, .int a0]) (rest := []) (em_X8_add hl hW a0 D) (fun o7 h => z_runV 90 1 h rfl kk_X10_90 hs1 kl_8.1 kq_X8_add rfl (Nat.le_of_ble_eq_true rfl) ⟨Nat.le_of_ble_eq_true rfl, Nat.le_of_ble_eq_true rfl, Nat.le_of_ble_eq_true rfl, Nat.le_of_ble_eq_true rfl⟩ dX10_feed_17) z_gTI (fun a_4 hz3 => ?_)
    refine z_aload_n (i := 0) (x := 0) dX10_feed_20 rfl rfl ?_
    refine z_getR (j := 0) dX10_feed_21 kl_10 hs0 (by decide) rfl rfl kf_X10_12 ?_
    refine z_iload_n (i := 2) (x := a1) dX10_feed_24 rfl rfl ?_
    refine z_cTV (As := [.ref 1, .int a1]) (rest := []) (em_X8_add hl hW a1 a_4) (fun o7 h => z_runV 90 1 h rfl kk_X10_90 hs1 kl_8.1 kq_X8_add rfl (Nat.le_of_ble_eq_true rfl) ⟨Nat.le_of_ble_eq_true rfl, Nat.le_of_ble_eq_true rfl, Nat.le_of_ble_eq_true rfl, Nat.le_of_ble_eq_true rfl⟩ dX10_feed_25) z_gTI (fun a_6 hz5 => ?_)
    refine z_aload_n (i := 0) (x := 0) dX10_feed_28 rfl rfl ?_
    refine z_getR (j := 0) dX10_feed_29 kl_10 hs0 (by decide) rfl rfl kf_X10_12 ?_
    refine z_iload_n (i := 3) (x := a2) dX10_feed_32 rfl rfl ?_
    refine z_cTV (As := [.ref 1, .int a2]) (rest := []) (em_X8_add hl hW a2 a_6) (fun o7 h => z_runV 90 1 h rfl kk_X10_90 hs1 kl_8.1 kq_X8_add rfl (Nat.le_of_ble_eq_true rfl) ⟨Nat.le_of_ble_eq_true rfl, Nat.le_of_ble_eq_true rfl, Nat.le_of_ble_eq_true rfl, Nat.le_of_ble_eq_true rfl⟩ dX10_feed_33) z_gTI (fun a_8 hz7 => ?_)
    refine z_aload_n (i := 0) (x := 0) dX10_feed_36 rfl rfl ?_
    refine z_getR (j := 0) dX10_feed_37 kl_10 hs0 (by decide) rfl rfl kf_X10_12 ?_
    refine z_iload (i := 4) (x := a3) dX10_feed_40 rfl ?_
    refine z_cTV (As := [.ref 1, .int a3]) (rest := []) (em_X8_add hl hW a3 a_8) (fun o7 h => z_runV 90 1 h rfl kk_X10_90 hs1 kl_8.1 kq_X8_add rfl (Nat.le_of_ble_eq_true rfl) ⟨Nat.le_of_ble_eq_true rfl, Nat.le_of_ble_eq_true rfl, Nat.le_of_ble_eq_true rfl, Nat.le_of_ble_eq_true rfl⟩ dX10_feed_42) z_gTI (fun a_10 hz9 => ?_)
    refine z_aload_n (i := 0) (x := 0) dX10_feed_45 rfl rfl ?_
    refine z_getR (j := 0) dX10_feed_46 kl_10 hs0 (by decide) rfl rfl kf_X10_12 ?_
    refine z_iload (i := 5) (x := a4) dX10_feed_49 rfl ?_
    refine z_cTV (As := [.ref 1, .int a4]) (rest := []) (em_X8_add hl hW a4 a_10) (fun o7 h => z_runV 90 1 h rfl kk_X10_90 hs1 kl_8.1 kq_X8_add rfl (Nat.le_of_ble_eq_true rfl) ⟨Nat.le_of_ble_eq_true rfl, Nat.le_of_ble_eq_true rfl, Nat.le_of_ble_eq_true rfl, Nat.le_of_ble_eq_true rfl⟩ dX10_feed_51) z_gTI (fun a_12 hz11 => ?_)
    refine z_aload_n (i := 0) (x := 0) dX10_feed_54 rfl rfl ?_
    refine z_getR (j := 0) dX10_feed_55 kl_10 hs0 (by decide) rfl rfl kf_X10_12 ?_
    refine z_getIN (j := 1) dX10_feed_58 kl_8 hs1 (by decide) rfl rfl kf_X10_94 ?_
    exact z_ireturn dX10_feed_61 z_rTI rfl (by decide) (by decide)

def F_X8_has (a0 : Int32) (a1 : Int32) (D : z_Dat) : Int32 :=
  if a0 < 0 then (0)
  else (if (D 1 1) < a0 then (0)
  else (if a1 < a0 then (0)
  else (1)))
set_option maxRecDepth 100000 in
set_option maxHeartbeats 4000000 in
theorem em_X8_has {l : Launch} {S : List z_Shp} {oW : Nat} (hl : l.stackTraces = false) (hW : z_W S oW) (a0 : Int32) (a1 : Int32) (D : z_Dat) : ∀ out, z_kt (z_kR S D) (F_X8_has a0 a1 D) out → z_EM l M_X8_has (20, 520, 0, 0) [.ref 1, .int a0, .int a1] S D out := by
  have hs1 : S[1]? = some (10, 7, [some (some 2), none, none, none, none, none, none]) := hW.1 1 _ rfl
  refine z_meth hl rfl kp_X8 (Nat.le_of_ble_eq_true rfl) (lv := [some (.ref 1), some (.int a0), some (.int a1)]) rfl ?_
  unfold F_X8_has
  refine z_iload_n (i := 1) (x := a0) dX8_has_0 rfl rfl ?_
  refine z_if_lt 21 dX8_has_1 (by decide) (fun c1 => ?_) (fun c1 => ?_)
  · refine z_iconst (v := 0) dX8_has_21 rfl ?_
    exact z_ireturn dX8_has_22 z_rP rfl (by decide) (by decide)
  · refine z_iload_n (i := 1) (x := a0) dX8_has_4 rfl rfl ?_
    refine z_aload_n (i := 0) (x := 1) dX8_has_5 rfl rfl ?_
    refine z_getI (j := 1) dX8_has_6 kl_8 hs1 (by decide) rfl rfl kf_X8_19 ?_
    refine z_icmp_gt 21 dX8_has_9 (by decide) (fun c2 => ?_) (fun c2 => ?_)
    · refine z_iconst (v := 0) dX8_has_21 rfl ?_
      exact z_ireturn dX8_has_22 z_rP rfl (by decide) (by decide)
    · refine z_iload_n (i := 1) (x := a0) dX8_has_12 rfl rfl ?_
      refine z_iload_n (i := 2) (x := a1) dX8_has_13 rfl rfl ?_
      refine z_icmp_gt 21 dX8_has_14 (by decide) (fun c3 => ?_) (fun c3 => ?_)
      · refine z_iconst (v := 0) dX8_has_21 rfl ?_
        exact z_ireturn dX8_has_22 z_rP rfl (by decide) (by decide)
      · refine z_iconst (v := 1) dX8_has_17 rfl ?_
        refine z_goto 22 dX8_has_18 (by decide) ?_
        exact z_ireturn dX8_has_22 z_rP rfl (by decide) (by decide)

def F_X10_demand (a0 : Int32) (D : z_Dat) : Option (z_Dat ⊕ (String × z_Dat)) :=
  if a0 = 0 then (z_let (z_up D 0 14 ((D 0 14) + 1)) (fun D2 => some (.inr ("java/lang/IllegalArgumentException", D2))))
  else (some (.inl D))
set_option maxRecDepth 100000 in
set_option maxHeartbeats 4000000 in
theorem em_X10_demand {l : Launch} {S : List z_Shp} {o : Nat} (hl : l.stackTraces = false) (hW : z_W S o) (a0 : Int32) (D : z_Dat) : ∀ out, z_ko (z_kTV S) (F_X10_demand a0 D) out → z_EM l M_X10_demand (50, 520, 1, 6) [.ref 0, .int a0] S D out := by
  have hC := hW.2
  have hs0 : S[0]? = some (12, 15, [some (some 1), some (some 3), some (some 5), some (some 7), some (some 12), some (some 15), some (some 21), some (some 25), some (some 28), some (some 32), some (some 33), some (some o), none, none, none]) := hW.1 0 _ rfl
  refine z_meth hl rfl kp_X10 (Nat.le_of_ble_eq_true rfl) (lv := [some (.ref 0), some (.int a0)]) rfl ?_
  unfold F_X10_demand
  refine z_iload_n (i := 1) (x := a0) dX10_demand_0 rfl rfl ?_
  refine z_if_ne 22 dX10_demand_1 (by decide) (fun c1 => ?_) (fun c1 => ?_)
  · refine z_aload_n (i := 0) (x := 0) dX10_demand_4 rfl rfl ?_
    refine z_dup dX10_demand_5 rfl ?_
    refine z_getI (j := 14) dX10_demand_6 kl_10 hs0 (by decide) rfl rfl kf_X10_359 ?_
    refine z_iconst (v := 1) dX10_demand_9 rfl ?_
    refine z_iadd dX10_demand_10 ?_
    refine z_putI (j := 14) dX10_demand_11 kl_10 tyX10_ok nmX10 hs0 (by decide) rfl rfl rfl rfl rfl rfl kf_X10_359 (fun D2 => ?_)
    exact z_throwG ["java/lang/RuntimeException", "java/lang/Exception"] rfl (by decide +kernel) (by decide +kernel) (by decide +kernel) (by decide +kernel) (by decide +kernel) ⟨Nat.le_of_ble_eq_true rfl, Nat.le_of_ble_eq_true rfl, Nat.le_of_ble_eq_true rfl, Nat.le_of_ble_eq_true rfl⟩ dX10_demand_14 dX10_demand_17 dX10_demand_18 dX10_demand_21
  · exact z_vreturn dX10_demand_22 z_rXV trivial (by decide) (by decide)

def F_X8_pass_L18 (kc4 : (z_Dat → Option z_Dat)) (D3 : z_Dat) : Option z_Dat :=
  if (D3 1 3) < 0 then (some D3)
  else (if (D3 1 2) ≤ (D3 1 3) then (some D3)
  else (if 600 ≤ (D3 1 3) then (some D3)
  else (if z_inb (D3 1 3) 600 then (if (D3 2 (z_ix (D3 1 3))) = 32 then (z_let (z_up D3 1 3 ((D3 1 3) + 1)) (fun D9 => kc4 D9))
  else (some D3)) else none)))
def F_X8_pass (N : Nat) (a0 : Int32) (D : z_Dat) : Option z_Dat :=
  z_let (z_up D 1 4 (D 1 3)) (fun D1 => z_let (z_up D1 1 3 ((D1 1 3) + a0)) (fun D2 => z_loop (fun kc4 s => F_X8_pass_L18 kc4 s) N D2))
set_option maxRecDepth 100000 in
set_option maxHeartbeats 4000000 in
theorem em_X8_pass {l : Launch} {S : List z_Shp} {oW : Nat} (hl : l.stackTraces = false) (hW : z_W S oW) (N : Nat) (a0 : Int32) (D : z_Dat) : ∀ out, z_ko (z_kV S) (F_X8_pass N a0 D) out → z_EM l M_X8_pass (20, 520, 0, 0) [.ref 1, .int a0] S D out := by
  have hs1 : S[1]? = some (10, 7, [some (some 2), none, none, none, none, none, none]) := hW.1 1 _ rfl
  have hs2 : S[2]? = some (0, 600, []) := hW.1 2 _ rfl
  refine z_meth hl rfl kp_X8 (Nat.le_of_ble_eq_true rfl) (lv := [some (.ref 1), some (.int a0)]) rfl ?_
  unfold F_X8_pass
  refine z_aload_n (i := 0) (x := 1) dX8_pass_0 rfl rfl ?_
  refine z_aload_n (i := 0) (x := 1) dX8_pass_1 rfl rfl ?_
  refine z_getI (j := 3) dX8_pass_2 kl_8 hs1 (by decide) rfl rfl kf_X8_29 ?_
  refine z_putI (j := 4) dX8_pass_5 kl_8 tyX8_ok nmX8 hs1 (by decide) rfl rfl rfl rfl rfl rfl kf_X8_78 (fun D1 => ?_)
  refine z_aload_n (i := 0) (x := 1) dX8_pass_8 rfl rfl ?_
  refine z_dup dX8_pass_9 rfl ?_
  refine z_getI (j := 3) dX8_pass_10 kl_8 hs1 (by decide) rfl rfl kf_X8_29 ?_
  refine z_iload_n (i := 1) (x := a0) dX8_pass_13 rfl rfl ?_
  refine z_iadd dX8_pass_14 ?_
  refine z_putI (j := 3) dX8_pass_15 kl_8 tyX8_ok nmX8 hs1 (by decide) rfl rfl rfl rfl rfl rfl kf_X8_29 (fun D2 => ?_)
  refine z_weak (lv' := [some (.ref 1), none]) ⟨Or.inr rfl, ⟨Or.inl rfl, trivial⟩⟩ ?_
  refine z_loops (lvOf := fun s : z_Dat => [some (.ref 1), none]) (dOf := fun s : z_Dat => s) (fun kc4 hkc4 s => ?_) N D2
  obtain ⟨D3, hq⟩ : ∃ z, z = s := ⟨_, rfl⟩
  subst hq
  show z_F _ _ _ _ _ 18 [some (.ref 1), none] [] S D3 _ (F_X8_pass_L18 kc4 D3)
  unfold F_X8_pass_L18
  refine z_aload_n (i := 0) (x := 1) dX8_pass_18 rfl rfl ?_
  refine z_getI (j := 3) dX8_pass_19 kl_8 hs1 (by decide) rfl rfl kf_X8_29 ?_
  refine z_if_lt 75 dX8_pass_22 (by decide) (fun c5 => ?_) (fun c5 => ?_)
  · exact z_vreturn dX8_pass_75 z_rWV trivial (by decide) (by decide)
  · refine z_aload_n (i := 0) (x := 1) dX8_pass_25 rfl rfl ?_
    refine z_getI (j := 3) dX8_pass_26 kl_8 hs1 (by decide) rfl rfl kf_X8_29 ?_
    refine z_aload_n (i := 0) (x := 1) dX8_pass_29 rfl rfl ?_
    refine z_getI (j := 2) dX8_pass_30 kl_8 hs1 (by decide) rfl rfl kf_X8_26 ?_
    refine z_icmp_ge 75 dX8_pass_33 (by decide) (fun c6 => ?_) (fun c6 => ?_)
    · exact z_vreturn dX8_pass_75 z_rWV trivial (by decide) (by decide)
    · refine z_aload_n (i := 0) (x := 1) dX8_pass_36 rfl rfl ?_
      refine z_getI (j := 3) dX8_pass_37 kl_8 hs1 (by decide) rfl rfl kf_X8_29 ?_
      refine z_aload_n (i := 0) (x := 1) dX8_pass_40 rfl rfl ?_
      refine z_getR (j := 0) dX8_pass_41 kl_8 hs1 (by decide) rfl rfl kf_X8_9 ?_
      refine z_alen (v := 600) dX8_pass_44 hs2 rfl ?_
      refine z_icmp_ge 75 dX8_pass_45 (by decide) (fun c7 => ?_) (fun c7 => ?_)
      · exact z_vreturn dX8_pass_75 z_rWV trivial (by decide) (by decide)
      · refine z_aload_n (i := 0) (x := 1) dX8_pass_48 rfl rfl ?_
        refine z_getR (j := 0) dX8_pass_49 kl_8 hs1 (by decide) rfl rfl kf_X8_9 ?_
        refine z_aload_n (i := 0) (x := 1) dX8_pass_52 rfl rfl ?_
        refine z_getI (j := 3) dX8_pass_53 kl_8 hs1 (by decide) rfl rfl kf_X8_29 ?_
        refine z_iald dX8_pass_56 hs2 ?_
        refine z_bipush (v := 32) dX8_pass_57 (by decide) ?_
        refine z_icmp_ne 75 dX8_pass_59 (by decide) (fun c8 => ?_) (fun c8 => ?_)
        · refine z_aload_n (i := 0) (x := 1) dX8_pass_62 rfl rfl ?_
          refine z_dup dX8_pass_63 rfl ?_
          refine z_getI (j := 3) dX8_pass_64 kl_8 hs1 (by decide) rfl rfl kf_X8_29 ?_
          refine z_iconst (v := 1) dX8_pass_67 rfl ?_
          refine z_iadd dX8_pass_68 ?_
          refine z_putI (j := 3) dX8_pass_69 kl_8 tyX8_ok nmX8 hs1 (by decide) rfl rfl rfl rfl rfl rfl kf_X8_29 (fun D9 => ?_)
          refine z_goto 18 dX8_pass_72 (by decide) ?_
          exact hkc4 D9
        · exact z_vreturn dX8_pass_75 z_rWV trivial (by decide) (by decide)

def F_X8_open (N : Nat) (a0 : Int32) (D : z_Dat) : Option z_Dat :=
  z_let (z_up D 1 2 a0) (fun D1 => z_let (z_up D1 1 1 0) (fun D2 => z_let (z_up D2 1 3 0) (fun D3 => z_let (z_up D3 1 5 0) (fun D4 => z_let (z_up D4 1 6 (-1)) (fun D5 => z_bd (F_X8_pass N 0 D5) (fun a_7 => some a_7))))))
set_option maxRecDepth 100000 in
set_option maxHeartbeats 4000000 in
theorem em_X8_open {l : Launch} {S : List z_Shp} {oW : Nat} (hl : l.stackTraces = false) (hW : z_W S oW) (N : Nat) (a0 : Int32) (D : z_Dat) : ∀ out, z_ko (z_kV S) (F_X8_open N a0 D) out → z_EM l M_X8_open (30, 580, 0, 0) [.ref 1, .int a0] S D out := by
  have hs1 : S[1]? = some (10, 7, [some (some 2), none, none, none, none, none, none]) := hW.1 1 _ rfl
  refine z_meth hl rfl kp_X8 (Nat.le_of_ble_eq_true rfl) (lv := [some (.ref 1), some (.int a0)]) rfl ?_
  unfold F_X8_open
  refine z_aload_n (i := 0) (x := 1) dX8_open_0 rfl rfl ?_
  refine z_iload_n (i := 1) (x := a0) dX8_open_1 rfl rfl ?_
  refine z_putI (j := 2) dX8_open_2 kl_8 tyX8_ok nmX8 hs1 (by decide) rfl rfl rfl rfl rfl rfl kf_X8_26 (fun D1 => ?_)
  refine z_aload_n (i := 0) (x := 1) dX8_open_5 rfl rfl ?_
  refine z_iconst (v := 0) dX8_open_6 rfl ?_
  refine z_putI (j := 1) dX8_open_7 kl_8 tyX8_ok nmX8 hs1 (by decide) rfl rfl rfl rfl rfl rfl kf_X8_19 (fun D2 => ?_)
  refine z_aload_n (i := 0) (x := 1) dX8_open_10 rfl rfl ?_
  refine z_iconst (v := 0) dX8_open_11 rfl ?_
  refine z_putI (j := 3) dX8_open_12 kl_8 tyX8_ok nmX8 hs1 (by decide) rfl rfl rfl rfl rfl rfl kf_X8_29 (fun D3 => ?_)
  refine z_aload_n (i := 0) (x := 1) dX8_open_15 rfl rfl ?_
  refine z_iconst (v := 0) dX8_open_16 rfl ?_
  refine z_putI (j := 5) dX8_open_17 kl_8 tyX8_ok nmX8 hs1 (by decide) rfl rfl rfl rfl rfl rfl kf_X8_32 (fun D4 => ?_)
  refine z_aload_n (i := 0) (x := 1) dX8_open_20 rfl rfl ?_
  refine z_iconst (v := (-1)) dX8_open_21 rfl ?_
  refine z_putI (j := 6) dX8_open_22 kl_8 tyX8_ok nmX8 hs1 (by decide) rfl rfl rfl rfl rfl rfl kf_X8_15 (fun D5 => ?_)
  refine z_aload_n (i := 0) (x := 1) dX8_open_25 rfl rfl ?_
  refine z_iconst (v := 0) dX8_open_26 rfl ?_
  refine z_cWV (As := [.ref 1, .int 0]) (rest := []) (em_X8_pass hl hW N 0 D5) (fun o7 h => z_runV 35 1 h rfl kk_X8_35 hs1 kl_8.1 kq_X8_pass rfl (Nat.le_of_ble_eq_true rfl) ⟨Nat.le_of_ble_eq_true rfl, Nat.le_of_ble_eq_true rfl, Nat.le_of_ble_eq_true rfl, Nat.le_of_ble_eq_true rfl⟩ dX8_open_27) z_gWV (fun a_7 hz6 => ?_)
  exact z_vreturn dX8_open_30 z_rWV trivial (by decide) (by decide)

def F_X8_failed (D : z_Dat) : Int32 :=
  if (D 1 5) = 0 then (0)
  else (1)
set_option maxRecDepth 100000 in
set_option maxHeartbeats 4000000 in
theorem em_X8_failed {l : Launch} {S : List z_Shp} {oW : Nat} (hl : l.stackTraces = false) (hW : z_W S oW) (D : z_Dat) : ∀ out, z_kt (z_kR S D) (F_X8_failed D) out → z_EM l M_X8_failed (20, 520, 0, 0) [.ref 1] S D out := by
  have hs1 : S[1]? = some (10, 7, [some (some 2), none, none, none, none, none, none]) := hW.1 1 _ rfl
  refine z_meth hl rfl kp_X8 (Nat.le_of_ble_eq_true rfl) (lv := [some (.ref 1)]) rfl ?_
  unfold F_X8_failed
  refine z_aload_n (i := 0) (x := 1) dX8_failed_0 rfl rfl ?_
  refine z_getI (j := 5) dX8_failed_1 kl_8 hs1 (by decide) rfl rfl kf_X8_32 ?_
  refine z_if_eq 11 dX8_failed_4 (by decide) (fun c1 => ?_) (fun c1 => ?_)
  · refine z_iconst (v := 0) dX8_failed_11 rfl ?_
    exact z_ireturn dX8_failed_12 z_rP rfl (by decide) (by decide)
  · refine z_iconst (v := 1) dX8_failed_7 rfl ?_
    refine z_goto 12 dX8_failed_8 (by decide) ?_
    exact z_ireturn dX8_failed_12 z_rP rfl (by decide) (by decide)

def F_X8_byteAt (a0 : Int32) (D : z_Dat) : Option Int32 :=
  if a0 < 0 then (some (-1))
  else (if (D 1 2) ≤ a0 then (some (-1))
  else (if 600 ≤ a0 then (some (-1))
  else (if z_inb a0 600 then (some (D 2 (z_ix a0))) else none)))
set_option maxRecDepth 100000 in
set_option maxHeartbeats 4000000 in
theorem em_X8_byteAt {l : Launch} {S : List z_Shp} {oW : Nat} (hl : l.stackTraces = false) (hW : z_W S oW) (a0 : Int32) (D : z_Dat) : ∀ out, z_ko (z_kR S D) (F_X8_byteAt a0 D) out → z_EM l M_X8_byteAt (20, 520, 0, 0) [.ref 1, .int a0] S D out := by
  have hs1 : S[1]? = some (10, 7, [some (some 2), none, none, none, none, none, none]) := hW.1 1 _ rfl
  have hs2 : S[2]? = some (0, 600, []) := hW.1 2 _ rfl
  refine z_meth hl rfl kp_X8 (Nat.le_of_ble_eq_true rfl) (lv := [some (.ref 1), some (.int a0)]) rfl ?_
  unfold F_X8_byteAt
  refine z_iload_n (i := 1) (x := a0) dX8_byteAt_0 rfl rfl ?_
  refine z_if_lt 30 dX8_byteAt_1 (by decide) (fun c1 => ?_) (fun c1 => ?_)
  · refine z_iconst (v := (-1)) dX8_byteAt_30 rfl ?_
    exact z_ireturn dX8_byteAt_31 z_rR rfl (by decide) (by decide)
  · refine z_iload_n (i := 1) (x := a0) dX8_byteAt_4 rfl rfl ?_
    refine z_aload_n (i := 0) (x := 1) dX8_byteAt_5 rfl rfl ?_
    refine z_getI (j := 2) dX8_byteAt_6 kl_8 hs1 (by decide) rfl rfl kf_X8_26 ?_
    refine z_icmp_ge 30 dX8_byteAt_9 (by decide) (fun c2 => ?_) (fun c2 => ?_)
    · refine z_iconst (v := (-1)) dX8_byteAt_30 rfl ?_
      exact z_ireturn dX8_byteAt_31 z_rR rfl (by decide) (by decide)
    · refine z_iload_n (i := 1) (x := a0) dX8_byteAt_12 rfl rfl ?_
      refine z_aload_n (i := 0) (x := 1) dX8_byteAt_13 rfl rfl ?_
      refine z_getR (j := 0) dX8_byteAt_14 kl_8 hs1 (by decide) rfl rfl kf_X8_9 ?_
      refine z_alen (v := 600) dX8_byteAt_17 hs2 rfl ?_
      refine z_icmp_ge 30 dX8_byteAt_18 (by decide) (fun c3 => ?_) (fun c3 => ?_)
      · refine z_iconst (v := (-1)) dX8_byteAt_30 rfl ?_
        exact z_ireturn dX8_byteAt_31 z_rR rfl (by decide) (by decide)
      · refine z_aload_n (i := 0) (x := 1) dX8_byteAt_21 rfl rfl ?_
        refine z_getR (j := 0) dX8_byteAt_22 kl_8 hs1 (by decide) rfl rfl kf_X8_9 ?_
        refine z_iload_n (i := 1) (x := a0) dX8_byteAt_25 rfl rfl ?_
        refine z_iald dX8_byteAt_26 hs2 ?_
        refine z_goto 31 dX8_byteAt_27 (by decide) ?_
        exact z_ireturn dX8_byteAt_31 z_rR rfl (by decide) (by decide)

def F_X8_next (D : z_Dat) : Option Int32 :=
  z_bd (F_X8_byteAt (D 1 3) D) (fun a_2 => some a_2)
set_option maxRecDepth 100000 in
set_option maxHeartbeats 4000000 in
theorem em_X8_next {l : Launch} {S : List z_Shp} {oW : Nat} (hl : l.stackTraces = false) (hW : z_W S oW) (D : z_Dat) : ∀ out, z_ko (z_kR S D) (F_X8_next D) out → z_EM l M_X8_next (30, 580, 0, 0) [.ref 1] S D out := by
  have hs1 : S[1]? = some (10, 7, [some (some 2), none, none, none, none, none, none]) := hW.1 1 _ rfl
  refine z_meth hl rfl kp_X8 (Nat.le_of_ble_eq_true rfl) (lv := [some (.ref 1)]) rfl ?_
  unfold F_X8_next
  refine z_aload_n (i := 0) (x := 1) dX8_next_0 rfl rfl ?_
  refine z_aload_n (i := 0) (x := 1) dX8_next_1 rfl rfl ?_
  refine z_getI (j := 3) dX8_next_2 kl_8 hs1 (by decide) rfl rfl kf_X8_29 ?_
  refine z_cR (As := [.ref 1, .int (D 1 3)]) (rest := []) (em_X8_byteAt hl hW (D 1 3) D) (fun o7 h => z_runV 39 1 h rfl kk_X8_39 hs1 kl_8.1 kq_X8_byteAt rfl (Nat.le_of_ble_eq_true rfl) ⟨Nat.le_of_ble_eq_true rfl, Nat.le_of_ble_eq_true rfl, Nat.le_of_ble_eq_true rfl, Nat.le_of_ble_eq_true rfl⟩ dX8_next_5) z_gR (fun a_2 hz1 => ?_)
  exact z_ireturn dX8_next_8 z_rR rfl (by decide) (by decide)

def F_X10_isLetter (a0 : Int32) : Int32 :=
  if a0 < 97 then (0)
  else (if 122 < a0 then (0)
  else (1))
set_option maxRecDepth 100000 in
set_option maxHeartbeats 4000000 in
theorem em_X10_isLetter {l : Launch} {S : List z_Shp} (hl : l.stackTraces = false) (a0 : Int32) (D : z_Dat) : ∀ out, z_kt (z_kR S D) (F_X10_isLetter a0) out → z_EM l M_X10_isLetter (20, 520, 0, 0) [.int a0] S D out := by
  refine z_meth hl rfl kp_X10 (Nat.le_of_ble_eq_true rfl) (lv := [some (.int a0)]) rfl ?_
  unfold F_X10_isLetter
  refine z_iload_n (i := 0) (x := a0) dX10_isLetter_0 rfl rfl ?_
  refine z_bipush (v := 97) dX10_isLetter_1 (by decide) ?_
  refine z_icmp_lt 16 dX10_isLetter_3 (by decide) (fun c1 => ?_) (fun c1 => ?_)
  · refine z_iconst (v := 0) dX10_isLetter_16 rfl ?_
    exact z_ireturn dX10_isLetter_17 z_rP rfl (by decide) (by decide)
  · refine z_iload_n (i := 0) (x := a0) dX10_isLetter_6 rfl rfl ?_
    refine z_bipush (v := 122) dX10_isLetter_7 (by decide) ?_
    refine z_icmp_gt 16 dX10_isLetter_9 (by decide) (fun c2 => ?_) (fun c2 => ?_)
    · refine z_iconst (v := 0) dX10_isLetter_16 rfl ?_
      exact z_ireturn dX10_isLetter_17 z_rP rfl (by decide) (by decide)
    · refine z_iconst (v := 1) dX10_isLetter_12 rfl ?_
      refine z_goto 17 dX10_isLetter_13 (by decide) ?_
      exact z_ireturn dX10_isLetter_17 z_rP rfl (by decide) (by decide)

def F_X8_comesNext_J53 (a0 : Int32) (a1 : Int32) (D : z_Dat) : Option Int32 :=
  if (F_X8_failed D) = 0 then (z_bd (F_X8_byteAt (((D 1 3) + a1) - a0) D) (fun a_7 => if (F_X10_isLetter a_7) = 0 then (some 1)
  else (some 0)))
  else (some 0)
def F_X8_comesNext_L3 (w : Nat) (a0 : Int32) (a1 : Int32) (D : z_Dat) (kc2 : (Int32 → Option Int32)) (v1 : Int32) : Option Int32 :=
  if v1 < 0 then (F_X8_comesNext_J53 a0 a1 D)
  else (if a1 ≤ v1 then (F_X8_comesNext_J53 a0 a1 D)
  else (if (z_slg w) ≤ v1 then (F_X8_comesNext_J53 a0 a1 D)
  else (z_bd (F_X8_byteAt (((D 1 3) + v1) - a0) D) (fun a_14 => if z_inb v1 (z_slen.getD w 0) then (if a_14 = (z_chr w v1) then (z_let (v1 + 1) (fun v18 => kc2 v18))
  else (some 0)) else none))))
def F_X8_comesNext (N : Nat) (w : Nat) (a0 : Int32) (a1 : Int32) (D : z_Dat) : Option Int32 :=
  z_loop (fun kc2 s => F_X8_comesNext_L3 w a0 a1 D kc2 s) N a0
set_option maxRecDepth 100000 in
set_option maxHeartbeats 4000000 in
theorem em_X8_comesNext {l : Launch} {S : List z_Shp} {oW : Nat} {w : Nat} (hl : l.stackTraces = false) (hW : z_W S oW) (hw : w < 24) (N : Nat) (a0 : Int32) (a1 : Int32) (D : z_Dat) : ∀ out, z_ko (z_kR S D) (F_X8_comesNext N w a0 a1 D) out → z_EM l M_X8_comesNext (50, 580, 0, 0) [.ref 1, .retAddr w, .int a0, .int a1] S D out := by
  have hs1 : S[1]? = some (10, 7, [some (some 2), none, none, none, none, none, none]) := hW.1 1 _ rfl
  refine z_meth hl rfl kp_X8 (Nat.le_of_ble_eq_true rfl) (lv := [some (.ref 1), some (.retAddr w), some (.int a0), some (.int a1), none]) rfl ?_
  unfold F_X8_comesNext
  have hJ_F_X8_comesNext_J53 : z_F l M_X8_comesNext (50, 580, 0, 0) 0 0 53 [some (.ref 1), none, some (.int a0), some (.int a1), none] [] S D (z_ko (z_kR S D)) (F_X8_comesNext_J53 a0 a1 D) := by
    unfold F_X8_comesNext_J53
    refine z_aload_n (i := 0) (x := 1) dX8_comesNext_53 rfl rfl ?_
    refine z_cP (As := [.ref 1]) (rest := []) (em_X8_failed hl hW D) (fun o7 h => z_runV 43 0 h rfl kk_X8_43 hs1 kl_8.1 kq_X8_failed rfl (Nat.le_of_ble_eq_true rfl) ⟨Nat.le_of_ble_eq_true rfl, Nat.le_of_ble_eq_true rfl, Nat.le_of_ble_eq_true rfl, Nat.le_of_ble_eq_true rfl⟩ dX8_comesNext_54) z_gR (fun hz4 => ?_)
    refine z_if_ne 82 dX8_comesNext_57 (by decide) (fun c5 => ?_) (fun c5 => ?_)
    · refine z_aload_n (i := 0) (x := 1) dX8_comesNext_60 rfl rfl ?_
      refine z_aload_n (i := 0) (x := 1) dX8_comesNext_61 rfl rfl ?_
      refine z_getI (j := 3) dX8_comesNext_62 kl_8 hs1 (by decide) rfl rfl kf_X8_29 ?_
      refine z_iload_n (i := 3) (x := a1) dX8_comesNext_65 rfl rfl ?_
      refine z_iadd dX8_comesNext_66 ?_
      refine z_iload_n (i := 2) (x := a0) dX8_comesNext_67 rfl rfl ?_
      refine z_isub dX8_comesNext_68 ?_
      refine z_cR (As := [.ref 1, .int (((D 1 3) + a1) - a0)]) (rest := []) (em_X8_byteAt hl hW (((D 1 3) + a1) - a0) D) (fun o7 h => z_runV 39 1 h rfl kk_X8_39 hs1 kl_8.1 kq_X8_byteAt rfl (Nat.le_of_ble_eq_true rfl) ⟨Nat.le_of_ble_eq_true rfl, Nat.le_of_ble_eq_true rfl, Nat.le_of_ble_eq_true rfl, Nat.le_of_ble_eq_true rfl⟩ dX8_comesNext_69) z_gR (fun a_7 hz6 => ?_)
      refine z_cP (As := [.int a_7]) (rest := []) (em_X10_isLetter hl a_7 D) (fun o7 h => z_runSN 64 1 h rfl kk_X8_64 kn_X8_64 kq_X10_isLetter rfl (Nat.le_of_ble_eq_true rfl) ⟨Nat.le_of_ble_eq_true rfl, Nat.le_of_ble_eq_true rfl, Nat.le_of_ble_eq_true rfl, Nat.le_of_ble_eq_true rfl⟩ dX8_comesNext_72) z_gR (fun hz8 => ?_)
      refine z_if_ne 82 dX8_comesNext_75 (by decide) (fun c9 => ?_) (fun c9 => ?_)
      · refine z_iconst (v := 1) dX8_comesNext_78 rfl ?_
        refine z_goto 83 dX8_comesNext_79 (by decide) ?_
        exact z_ireturn dX8_comesNext_83 z_rR rfl (by decide) (by decide)
      · refine z_iconst (v := 0) dX8_comesNext_82 rfl ?_
        exact z_ireturn dX8_comesNext_83 z_rR rfl (by decide) (by decide)
    · refine z_iconst (v := 0) dX8_comesNext_82 rfl ?_
      exact z_ireturn dX8_comesNext_83 z_rR rfl (by decide) (by decide)
  refine z_iload_n (i := 2) (x := a0) dX8_comesNext_0 rfl rfl ?_
  refine z_istore (i := 4) (x := a0) (lv' := [some (.ref 1), some (.retAddr w), some (.int a0), some (.int a1), some (.int a0)]) dX8_comesNext_1 (by decide) rfl rfl ?_
  refine z_loops (lvOf := fun s : Int32 => [some (.ref 1), some (.retAddr w), some (.int a0), some (.int a1), some (.int s)]) (dOf := fun s : Int32 => D) (fun kc2 hkc2 s => ?_) N a0
  obtain ⟨v1, hq⟩ : ∃ z, z = s := ⟨_, rfl⟩
  subst hq
  show z_F _ _ _ _ _ 3 [some (.ref 1), some (.retAddr w), some (.int a0), some (.int a1), some (.int v1)] [] S D _ (F_X8_comesNext_L3 w a0 a1 D kc2 v1)
  unfold F_X8_comesNext_L3
  refine z_iload (i := 4) (x := v1) dX8_comesNext_3 rfl ?_
  refine z_if_lt 53 dX8_comesNext_5 (by decide) (fun c3 => ?_) (fun c3 => ?_)
  · refine z_weak (lv' := [some (.ref 1), none, some (.int a0), some (.int a1), none]) ⟨Or.inr rfl, ⟨Or.inl rfl, ⟨Or.inr rfl, ⟨Or.inr rfl, ⟨Or.inl rfl, trivial⟩⟩⟩⟩⟩ ?_
    exact hJ_F_X8_comesNext_J53
  · refine z_iload (i := 4) (x := v1) dX8_comesNext_8 rfl ?_
    refine z_iload_n (i := 3) (x := a1) dX8_comesNext_10 rfl rfl ?_
    refine z_icmp_ge 53 dX8_comesNext_11 (by decide) (fun c10 => ?_) (fun c10 => ?_)
    · refine z_weak (lv' := [some (.ref 1), none, some (.int a0), some (.int a1), none]) ⟨Or.inr rfl, ⟨Or.inl rfl, ⟨Or.inr rfl, ⟨Or.inr rfl, ⟨Or.inl rfl, trivial⟩⟩⟩⟩⟩ ?_
      exact hJ_F_X8_comesNext_J53
    · refine z_iload (i := 4) (x := v1) dX8_comesNext_14 rfl ?_
      refine z_aloadC_n (i := 1) (x := w) dX8_comesNext_16 rfl rfl ?_
      refine z_cP (As := [.retAddr w]) (rest := [.int v1]) (em_J0_length hl w hw D) (fun o7 h => z_runVS 51 0 h rfl kk_X8_51 hw rfl kq_J0_length_8abf5 rfl (Nat.le_of_ble_eq_true rfl) ⟨Nat.le_of_ble_eq_true rfl, Nat.le_of_ble_eq_true rfl, Nat.le_of_ble_eq_true rfl, Nat.le_of_ble_eq_true rfl⟩ dX8_comesNext_17) z_gR (fun hz11 => ?_)
      refine z_icmp_ge 53 dX8_comesNext_20 (by decide) (fun c12 => ?_) (fun c12 => ?_)
      · refine z_weak (lv' := [some (.ref 1), none, some (.int a0), some (.int a1), none]) ⟨Or.inr rfl, ⟨Or.inl rfl, ⟨Or.inr rfl, ⟨Or.inr rfl, ⟨Or.inl rfl, trivial⟩⟩⟩⟩⟩ ?_
        exact hJ_F_X8_comesNext_J53
      · refine z_aload_n (i := 0) (x := 1) dX8_comesNext_23 rfl rfl ?_
        refine z_aload_n (i := 0) (x := 1) dX8_comesNext_24 rfl rfl ?_
        refine z_getI (j := 3) dX8_comesNext_25 kl_8 hs1 (by decide) rfl rfl kf_X8_29 ?_
        refine z_iload (i := 4) (x := v1) dX8_comesNext_28 rfl ?_
        refine z_iadd dX8_comesNext_30 ?_
        refine z_iload_n (i := 2) (x := a0) dX8_comesNext_31 rfl rfl ?_
        refine z_isub dX8_comesNext_32 ?_
        refine z_cR (As := [.ref 1, .int (((D 1 3) + v1) - a0)]) (rest := []) (em_X8_byteAt hl hW (((D 1 3) + v1) - a0) D) (fun o7 h => z_runV 39 1 h rfl kk_X8_39 hs1 kl_8.1 kq_X8_byteAt rfl (Nat.le_of_ble_eq_true rfl) ⟨Nat.le_of_ble_eq_true rfl, Nat.le_of_ble_eq_true rfl, Nat.le_of_ble_eq_true rfl, Nat.le_of_ble_eq_true rfl⟩ dX8_comesNext_33) z_gR (fun a_14 hz13 => ?_)
        refine z_aloadC_n (i := 1) (x := w) dX8_comesNext_36 rfl rfl ?_
        refine z_iload (i := 4) (x := v1) dX8_comesNext_37 rfl ?_
        refine z_ifn (fun c16 => ?_)
        refine z_cP (As := [.retAddr w, .int v1]) (rest := [.int a_14]) (em_J0_charAt hl w hw v1 c16 D) (fun o7 h => z_runVS 56 1 h rfl kk_X8_56 hw rfl kq_J0_charAt_5068e rfl (Nat.le_of_ble_eq_true rfl) ⟨Nat.le_of_ble_eq_true rfl, Nat.le_of_ble_eq_true rfl, Nat.le_of_ble_eq_true rfl, Nat.le_of_ble_eq_true rfl⟩ dX8_comesNext_39) z_gR (fun hz15 => ?_)
        refine z_icmp_eq 47 dX8_comesNext_42 (by decide) (fun c17 => ?_) (fun c17 => ?_)
        · refine z_iinc (i := 4) (x := v1) (y := 1) dX8_comesNext_47 rfl (by decide) (by decide) rfl (fun v18 => ?_)
          refine z_goto 3 dX8_comesNext_50 (by decide) ?_
          exact hkc2 v18
        · refine z_iconst (v := 0) dX8_comesNext_45 rfl ?_
          exact z_ireturn dX8_comesNext_46 z_rR rfl (by decide) (by decide)

def F_X8_takesWordOf_L7 (N : Nat) (w : Nat) (D : z_Dat) (kc4 : ((Int32 × Int32 × Int32) → Option (Int32 × z_Dat))) (v1 : Int32) (v2 : Int32) (v3 : Int32) : Option (Int32 × z_Dat) :=
  if (z_slg w) ≤ v3 then (some ((-1), D))
  else (if z_inb v3 (z_slen.getD w 0) then (if (z_chr w v3) = 32 then (z_bd (F_X8_comesNext N w v2 v3 D) (fun a_11 => if a_11 = 0 then (z_let (v1 + 1) (fun v13 => z_let (v3 + 1) (fun v14 => z_let (v3 + 1) (fun v15 => kc4 (v13, v14, v15)))))
  else (z_bd (F_X8_pass N (v3 - v2) D) (fun a_17 => some (v1, a_17)))))
  else (z_let (v3 + 1) (fun v18 => kc4 (v1, v2, v18)))) else none)
def F_X8_takesWordOf (N : Nat) (w : Nat) (D : z_Dat) : Option (Int32 × z_Dat) :=
  z_loop (fun kc4 s => F_X8_takesWordOf_L7 N w D kc4 s.1 s.2.1 s.2.2) N (0, 0, 0)
set_option maxRecDepth 100000 in
set_option maxHeartbeats 4000000 in
theorem em_X8_takesWordOf {l : Launch} {S : List z_Shp} {oW : Nat} {w : Nat} (hl : l.stackTraces = false) (hW : z_W S oW) (hw : w < 24) (N : Nat) (D : z_Dat) : ∀ out, z_ko (z_kI S) (F_X8_takesWordOf N w D) out → z_EM l M_X8_takesWordOf (60, 640, 0, 0) [.ref 1, .retAddr w] S D out := by
  have hs1 : S[1]? = some (10, 7, [some (some 2), none, none, none, none, none, none]) := hW.1 1 _ rfl
  refine z_meth hl rfl kp_X8 (Nat.le_of_ble_eq_true rfl) (lv := [some (.ref 1), some (.retAddr w), none, none, none]) rfl ?_
  unfold F_X8_takesWordOf
  refine z_iconst (v := 0) dX8_takesWordOf_0 rfl ?_
  refine z_istore_n (i := 2) (x := 0) (lv' := [some (.ref 1), some (.retAddr w), some (.int 0), none, none]) dX8_takesWordOf_1 rfl (by decide) rfl rfl ?_
  refine z_iconst (v := 0) dX8_takesWordOf_2 rfl ?_
  refine z_istore_n (i := 3) (x := 0) (lv' := [some (.ref 1), some (.retAddr w), some (.int 0), some (.int 0), none]) dX8_takesWordOf_3 rfl (by decide) rfl rfl ?_
  refine z_iconst (v := 0) dX8_takesWordOf_4 rfl ?_
  refine z_istore (i := 4) (x := 0) (lv' := [some (.ref 1), some (.retAddr w), some (.int 0), some (.int 0), some (.int 0)]) dX8_takesWordOf_5 (by decide) rfl rfl ?_
  refine z_loops (lvOf := fun s : Int32 × Int32 × Int32 => [some (.ref 1), some (.retAddr w), some (.int s.1), some (.int s.2.1), some (.int s.2.2)]) (dOf := fun s : Int32 × Int32 × Int32 => D) (fun kc4 hkc4 s => ?_) N (0, 0, 0)
  obtain ⟨v1, v2, v3⟩ := s
  show z_F _ _ _ _ _ 7 [some (.ref 1), some (.retAddr w), some (.int v1), some (.int v2), some (.int v3)] [] S D _ (F_X8_takesWordOf_L7 N w D kc4 v1 v2 v3)
  unfold F_X8_takesWordOf_L7
  refine z_iload (i := 4) (x := v3) dX8_takesWordOf_7 rfl ?_
  refine z_aloadC_n (i := 1) (x := w) dX8_takesWordOf_9 rfl rfl ?_
  refine z_cP (As := [.retAddr w]) (rest := [.int v3]) (em_J0_length hl w hw D) (fun o7 h => z_runVS 51 0 h rfl kk_X8_51 hw rfl kq_J0_length_8abf5 rfl (Nat.le_of_ble_eq_true rfl) ⟨Nat.le_of_ble_eq_true rfl, Nat.le_of_ble_eq_true rfl, Nat.le_of_ble_eq_true rfl, Nat.le_of_ble_eq_true rfl⟩ dX8_takesWordOf_10) z_gWI (fun hz5 => ?_)
  refine z_icmp_ge 62 dX8_takesWordOf_13 (by decide) (fun c6 => ?_) (fun c6 => ?_)
  · refine z_iconst (v := (-1)) dX8_takesWordOf_62 rfl ?_
    exact z_ireturn dX8_takesWordOf_63 z_rWI rfl (by decide) (by decide)
  · refine z_aloadC_n (i := 1) (x := w) dX8_takesWordOf_16 rfl rfl ?_
    refine z_iload (i := 4) (x := v3) dX8_takesWordOf_17 rfl ?_
    refine z_ifn (fun c8 => ?_)
    refine z_cP (As := [.retAddr w, .int v3]) (rest := []) (em_J0_charAt hl w hw v3 c8 D) (fun o7 h => z_runVS 56 1 h rfl kk_X8_56 hw rfl kq_J0_charAt_5068e rfl (Nat.le_of_ble_eq_true rfl) ⟨Nat.le_of_ble_eq_true rfl, Nat.le_of_ble_eq_true rfl, Nat.le_of_ble_eq_true rfl, Nat.le_of_ble_eq_true rfl⟩ dX8_takesWordOf_19) z_gWI (fun hz7 => ?_)
    refine z_bipush (v := 32) dX8_takesWordOf_22 (by decide) ?_
    refine z_icmp_ne 56 dX8_takesWordOf_24 (by decide) (fun c9 => ?_) (fun c9 => ?_)
    · refine z_aload_n (i := 0) (x := 1) dX8_takesWordOf_27 rfl rfl ?_
      refine z_aloadC_n (i := 1) (x := w) dX8_takesWordOf_28 rfl rfl ?_
      refine z_iload_n (i := 3) (x := v2) dX8_takesWordOf_29 rfl rfl ?_
      refine z_iload (i := 4) (x := v3) dX8_takesWordOf_30 rfl ?_
      refine z_cR (As := [.ref 1, .retAddr w, .int v2, .int v3]) (rest := []) (em_X8_comesNext (w := w) hl hW hw N v2 v3 D) (fun o7 h => z_runV 60 3 h rfl kk_X8_60 hs1 kl_8.1 kq_X8_comesNext rfl (Nat.le_of_ble_eq_true rfl) ⟨Nat.le_of_ble_eq_true rfl, Nat.le_of_ble_eq_true rfl, Nat.le_of_ble_eq_true rfl, Nat.le_of_ble_eq_true rfl⟩ dX8_takesWordOf_32) z_gWI (fun a_11 hz10 => ?_)
      refine z_if_eq 48 dX8_takesWordOf_35 (by decide) (fun c12 => ?_) (fun c12 => ?_)
      · refine z_iinc (i := 2) (x := v1) (y := 1) dX8_takesWordOf_48 rfl (by decide) (by decide) rfl (fun v13 => ?_)
        refine z_iload (i := 4) (x := v3) dX8_takesWordOf_51 rfl ?_
        refine z_iconst (v := 1) dX8_takesWordOf_53 rfl ?_
        refine z_iadd dX8_takesWordOf_54 ?_
        refine z_topi (fun v14 => ?_)
        refine z_istore_n (i := 3) (x := v14) (lv' := [some (.ref 1), some (.retAddr w), some (.int v13), some (.int v14), some (.int v3)]) dX8_takesWordOf_55 rfl (by decide) rfl rfl ?_
        refine z_iinc (i := 4) (x := v3) (y := 1) dX8_takesWordOf_56 rfl (by decide) (by decide) rfl (fun v15 => ?_)
        refine z_goto 7 dX8_takesWordOf_59 (by decide) ?_
        exact hkc4 (v13, v14, v15)
      · refine z_aload_n (i := 0) (x := 1) dX8_takesWordOf_38 rfl rfl ?_
        refine z_iload (i := 4) (x := v3) dX8_takesWordOf_39 rfl ?_
        refine z_iload_n (i := 3) (x := v2) dX8_takesWordOf_41 rfl rfl ?_
        refine z_isub dX8_takesWordOf_42 ?_
        refine z_cWV (As := [.ref 1, .int (v3 - v2)]) (rest := []) (em_X8_pass hl hW N (v3 - v2) D) (fun o7 h => z_runV 35 1 h rfl kk_X8_35 hs1 kl_8.1 kq_X8_pass rfl (Nat.le_of_ble_eq_true rfl) ⟨Nat.le_of_ble_eq_true rfl, Nat.le_of_ble_eq_true rfl, Nat.le_of_ble_eq_true rfl, Nat.le_of_ble_eq_true rfl⟩ dX8_takesWordOf_43) z_gWI (fun a_17 hz16 => ?_)
        refine z_iload_n (i := 2) (x := v1) dX8_takesWordOf_46 rfl rfl ?_
        exact z_ireturn dX8_takesWordOf_47 z_rWI rfl (by decide) (by decide)
    · refine z_iinc (i := 4) (x := v3) (y := 1) dX8_takesWordOf_56 rfl (by decide) (by decide) rfl (fun v18 => ?_)
      refine z_goto 7 dX8_takesWordOf_59 (by decide) ?_
      exact hkc4 (v1, v2, v18)

def F_X8_fail (a0 : Int32) (a1 : Int32) (D : z_Dat) : z_Dat :=
  if (D 1 5) = 0 then (z_let (z_up D 1 5 a0) (fun D2 => z_let (z_up D2 1 6 a1) (fun D3 => D3)))
  else (D)
set_option maxRecDepth 100000 in
set_option maxHeartbeats 4000000 in
theorem em_X8_fail {l : Launch} {S : List z_Shp} {oW : Nat} (hl : l.stackTraces = false) (hW : z_W S oW) (a0 : Int32) (a1 : Int32) (D : z_Dat) : ∀ out, z_kt (z_kV S) (F_X8_fail a0 a1 D) out → z_EM l M_X8_fail (20, 520, 0, 0) [.ref 1, .int a0, .int a1] S D out := by
  have hs1 : S[1]? = some (10, 7, [some (some 2), none, none, none, none, none, none]) := hW.1 1 _ rfl
  refine z_meth hl rfl kp_X8 (Nat.le_of_ble_eq_true rfl) (lv := [some (.ref 1), some (.int a0), some (.int a1)]) rfl ?_
  unfold F_X8_fail
  refine z_aload_n (i := 0) (x := 1) dX8_fail_0 rfl rfl ?_
  refine z_getI (j := 5) dX8_fail_1 kl_8 hs1 (by decide) rfl rfl kf_X8_32 ?_
  refine z_if_ne 17 dX8_fail_4 (by decide) (fun c1 => ?_) (fun c1 => ?_)
  · refine z_aload_n (i := 0) (x := 1) dX8_fail_7 rfl rfl ?_
    refine z_iload_n (i := 1) (x := a0) dX8_fail_8 rfl rfl ?_
    refine z_putI (j := 5) dX8_fail_9 kl_8 tyX8_ok nmX8 hs1 (by decide) rfl rfl rfl rfl rfl rfl kf_X8_32 (fun D2 => ?_)
    refine z_aload_n (i := 0) (x := 1) dX8_fail_12 rfl rfl ?_
    refine z_iload_n (i := 2) (x := a1) dX8_fail_13 rfl rfl ?_
    refine z_putI (j := 6) dX8_fail_14 kl_8 tyX8_ok nmX8 hs1 (by decide) rfl rfl rfl rfl rfl rfl kf_X8_15 (fun D3 => ?_)
    exact z_vreturn dX8_fail_17 z_rTV trivial (by decide) (by decide)
  · exact z_vreturn dX8_fail_17 z_rTV trivial (by decide) (by decide)

def F_X10_isDigit (a0 : Int32) : Int32 :=
  if a0 < 48 then (0)
  else (if 57 < a0 then (0)
  else (1))
set_option maxRecDepth 100000 in
set_option maxHeartbeats 4000000 in
theorem em_X10_isDigit {l : Launch} {S : List z_Shp} (hl : l.stackTraces = false) (a0 : Int32) (D : z_Dat) : ∀ out, z_kt (z_kR S D) (F_X10_isDigit a0) out → z_EM l M_X10_isDigit (20, 520, 0, 0) [.int a0] S D out := by
  refine z_meth hl rfl kp_X10 (Nat.le_of_ble_eq_true rfl) (lv := [some (.int a0)]) rfl ?_
  unfold F_X10_isDigit
  refine z_iload_n (i := 0) (x := a0) dX10_isDigit_0 rfl rfl ?_
  refine z_bipush (v := 48) dX10_isDigit_1 (by decide) ?_
  refine z_icmp_lt 16 dX10_isDigit_3 (by decide) (fun c1 => ?_) (fun c1 => ?_)
  · refine z_iconst (v := 0) dX10_isDigit_16 rfl ?_
    exact z_ireturn dX10_isDigit_17 z_rP rfl (by decide) (by decide)
  · refine z_iload_n (i := 0) (x := a0) dX10_isDigit_6 rfl rfl ?_
    refine z_bipush (v := 57) dX10_isDigit_7 (by decide) ?_
    refine z_icmp_gt 16 dX10_isDigit_9 (by decide) (fun c2 => ?_) (fun c2 => ?_)
    · refine z_iconst (v := 0) dX10_isDigit_16 rfl ?_
      exact z_ireturn dX10_isDigit_17 z_rP rfl (by decide) (by decide)
    · refine z_iconst (v := 1) dX10_isDigit_12 rfl ?_
      refine z_goto 17 dX10_isDigit_13 (by decide) ?_
      exact z_ireturn dX10_isDigit_17 z_rP rfl (by decide) (by decide)

def F_X8_needNumber_J90 (N : Nat) (a0 : Int32) (v13 : Int32) (v14 : Int32) (D15 : z_Dat) : Option (Int32 × z_Dat) :=
  z_bd (F_X8_pass N v13 D15) (fun a_17 => if v14 ≤ a0 then (some (v14, a_17))
  else (z_let (F_X8_fail 2 (a_17 1 4) a_17) (fun a_20 => some (v14, a_20))))
def F_X8_needNumber_L36 (N : Nat) (a0 : Int32) (D : z_Dat) (kc11 : ((Int32 × Int32) → Option (Int32 × z_Dat))) (v9 : Int32) (v10 : Int32) : Option (Int32 × z_Dat) :=
  if (D 1 2) ≤ v9 then (F_X8_needNumber_J90 N a0 v9 v10 D)
  else (z_bd (F_X8_byteAt ((D 1 3) + v9) D) (fun a_22 => if (F_X10_isDigit a_22) = 0 then (F_X8_needNumber_J90 N a0 v9 v10 D)
  else (z_bd (F_X8_byteAt ((D 1 3) + v9) D) (fun a_26 => z_let (z_min 1000000 (((v10 * 10) + a_26) - 48)) (fun v27 => z_let (v9 + 1) (fun v28 => kc11 (v28, v27)))))))
def F_X8_needNumber (N : Nat) (a0 : Int32) (D : z_Dat) : Option (Int32 × z_Dat) :=
  if (F_X8_failed D) = 0 then (z_bd (F_X8_byteAt (D 1 3) D) (fun a_4 => if (F_X10_isDigit a_4) = 0 then (z_let (F_X8_fail 1 (D 1 3) D) (fun a_8 => some (0, a_8)))
  else (z_loop (fun kc11 s => F_X8_needNumber_L36 N a0 D kc11 s.1 s.2) N (0, 0))))
  else (z_let (F_X8_fail 1 (D 1 3) D) (fun a_31 => some (0, a_31)))
set_option maxRecDepth 100000 in
set_option maxHeartbeats 4000000 in
theorem em_X8_needNumber {l : Launch} {S : List z_Shp} {oW : Nat} (hl : l.stackTraces = false) (hW : z_W S oW) (N : Nat) (a0 : Int32) (D : z_Dat) : ∀ out, z_ko (z_kI S) (F_X8_needNumber N a0 D) out → z_EM l M_X8_needNumber (30, 580, 0, 0) [.ref 1, .int a0] S D out := by
  have hs1 : S[1]? = some (10, 7, [some (some 2), none, none, none, none, none, none]) := hW.1 1 _ rfl
  refine z_meth hl rfl kp_X8 (Nat.le_of_ble_eq_true rfl) (lv := [some (.ref 1), some (.int a0), none, none]) rfl ?_
  unfold F_X8_needNumber
  have hJ_F_X8_needNumber_J90 : ∀ (v13 : Int32) (v14 : Int32) (D15 : z_Dat) , z_F l M_X8_needNumber (30, 580, 0, 0) 0 0 90 [some (.ref 1), some (.int a0), some (.int v13), some (.int v14)] [] S D15 (z_ko (z_kI S)) (F_X8_needNumber_J90 N a0 v13 v14 D15) := by
    intro v13 v14 D15
    unfold F_X8_needNumber_J90
    refine z_aload_n (i := 0) (x := 1) dX8_needNumber_90 rfl rfl ?_
    refine z_iload_n (i := 2) (x := v13) dX8_needNumber_91 rfl rfl ?_
    refine z_cWV (As := [.ref 1, .int v13]) (rest := []) (em_X8_pass hl hW N v13 D15) (fun o7 h => z_runV 35 1 h rfl kk_X8_35 hs1 kl_8.1 kq_X8_pass rfl (Nat.le_of_ble_eq_true rfl) ⟨Nat.le_of_ble_eq_true rfl, Nat.le_of_ble_eq_true rfl, Nat.le_of_ble_eq_true rfl, Nat.le_of_ble_eq_true rfl⟩ dX8_needNumber_92) z_gWI (fun a_17 hz16 => ?_)
    refine z_iload_n (i := 3) (x := v14) dX8_needNumber_95 rfl rfl ?_
    refine z_iload_n (i := 1) (x := a0) dX8_needNumber_96 rfl rfl ?_
    refine z_icmp_le 109 dX8_needNumber_97 (by decide) (fun c18 => ?_) (fun c18 => ?_)
    · refine z_iload_n (i := 3) (x := v14) dX8_needNumber_109 rfl rfl ?_
      exact z_ireturn dX8_needNumber_110 z_rWI rfl (by decide) (by decide)
    · refine z_aload_n (i := 0) (x := 1) dX8_needNumber_100 rfl rfl ?_
      refine z_iconst (v := 2) dX8_needNumber_101 rfl ?_
      refine z_aload_n (i := 0) (x := 1) dX8_needNumber_102 rfl rfl ?_
      refine z_getI (j := 4) dX8_needNumber_103 kl_8 hs1 (by decide) rfl rfl kf_X8_78 ?_
      refine z_cTV (As := [.ref 1, .int 2, .int (a_17 1 4)]) (rest := []) (em_X8_fail hl hW 2 (a_17 1 4) a_17) (fun o7 h => z_runV 47 2 h rfl kk_X8_47 hs1 kl_8.1 kq_X8_fail rfl (Nat.le_of_ble_eq_true rfl) ⟨Nat.le_of_ble_eq_true rfl, Nat.le_of_ble_eq_true rfl, Nat.le_of_ble_eq_true rfl, Nat.le_of_ble_eq_true rfl⟩ dX8_needNumber_106) z_gWI (fun a_20 hz19 => ?_)
      refine z_iload_n (i := 3) (x := v14) dX8_needNumber_109 rfl rfl ?_
      exact z_ireturn dX8_needNumber_110 z_rWI rfl (by decide) (by decide)
  refine z_aload_n (i := 0) (x := 1) dX8_needNumber_0 rfl rfl ?_
  refine z_cP (As := [.ref 1]) (rest := []) (em_X8_failed hl hW D) (fun o7 h => z_runV 43 0 h rfl kk_X8_43 hs1 kl_8.1 kq_X8_failed rfl (Nat.le_of_ble_eq_true rfl) ⟨Nat.le_of_ble_eq_true rfl, Nat.le_of_ble_eq_true rfl, Nat.le_of_ble_eq_true rfl, Nat.le_of_ble_eq_true rfl⟩ dX8_needNumber_1) z_gWI (fun hz1 => ?_)
  refine z_if_ne 21 dX8_needNumber_4 (by decide) (fun c2 => ?_) (fun c2 => ?_)
  · refine z_aload_n (i := 0) (x := 1) dX8_needNumber_7 rfl rfl ?_
    refine z_aload_n (i := 0) (x := 1) dX8_needNumber_8 rfl rfl ?_
    refine z_getI (j := 3) dX8_needNumber_9 kl_8 hs1 (by decide) rfl rfl kf_X8_29 ?_
    refine z_cR (As := [.ref 1, .int (D 1 3)]) (rest := []) (em_X8_byteAt hl hW (D 1 3) D) (fun o7 h => z_runV 39 1 h rfl kk_X8_39 hs1 kl_8.1 kq_X8_byteAt rfl (Nat.le_of_ble_eq_true rfl) ⟨Nat.le_of_ble_eq_true rfl, Nat.le_of_ble_eq_true rfl, Nat.le_of_ble_eq_true rfl, Nat.le_of_ble_eq_true rfl⟩ dX8_needNumber_12) z_gWI (fun a_4 hz3 => ?_)
    refine z_cP (As := [.int a_4]) (rest := []) (em_X10_isDigit hl a_4 D) (fun o7 h => z_runSN 68 1 h rfl kk_X8_68 kn_X8_68 kq_X10_isDigit rfl (Nat.le_of_ble_eq_true rfl) ⟨Nat.le_of_ble_eq_true rfl, Nat.le_of_ble_eq_true rfl, Nat.le_of_ble_eq_true rfl, Nat.le_of_ble_eq_true rfl⟩ dX8_needNumber_15) z_gWI (fun hz5 => ?_)
    refine z_if_ne 32 dX8_needNumber_18 (by decide) (fun c6 => ?_) (fun c6 => ?_)
    · refine z_aload_n (i := 0) (x := 1) dX8_needNumber_21 rfl rfl ?_
      refine z_iconst (v := 1) dX8_needNumber_22 rfl ?_
      refine z_aload_n (i := 0) (x := 1) dX8_needNumber_23 rfl rfl ?_
      refine z_getI (j := 3) dX8_needNumber_24 kl_8 hs1 (by decide) rfl rfl kf_X8_29 ?_
      refine z_cTV (As := [.ref 1, .int 1, .int (D 1 3)]) (rest := []) (em_X8_fail hl hW 1 (D 1 3) D) (fun o7 h => z_runV 47 2 h rfl kk_X8_47 hs1 kl_8.1 kq_X8_fail rfl (Nat.le_of_ble_eq_true rfl) ⟨Nat.le_of_ble_eq_true rfl, Nat.le_of_ble_eq_true rfl, Nat.le_of_ble_eq_true rfl, Nat.le_of_ble_eq_true rfl⟩ dX8_needNumber_27) z_gWI (fun a_8 hz7 => ?_)
      refine z_iconst (v := 0) dX8_needNumber_30 rfl ?_
      exact z_ireturn dX8_needNumber_31 z_rWI rfl (by decide) (by decide)
    · refine z_iconst (v := 0) dX8_needNumber_32 rfl ?_
      refine z_istore_n (i := 2) (x := 0) (lv' := [some (.ref 1), some (.int a0), some (.int 0), none]) dX8_needNumber_33 rfl (by decide) rfl rfl ?_
      refine z_iconst (v := 0) dX8_needNumber_34 rfl ?_
      refine z_istore_n (i := 3) (x := 0) (lv' := [some (.ref 1), some (.int a0), some (.int 0), some (.int 0)]) dX8_needNumber_35 rfl (by decide) rfl rfl ?_
      refine z_loops (lvOf := fun s : Int32 × Int32 => [some (.ref 1), some (.int a0), some (.int s.1), some (.int s.2)]) (dOf := fun s : Int32 × Int32 => D) (fun kc11 hkc11 s => ?_) N (0, 0)
      obtain ⟨v9, v10⟩ := s
      show z_F _ _ _ _ _ 36 [some (.ref 1), some (.int a0), some (.int v9), some (.int v10)] [] S D _ (F_X8_needNumber_L36 N a0 D kc11 v9 v10)
      unfold F_X8_needNumber_L36
      refine z_iload_n (i := 2) (x := v9) dX8_needNumber_36 rfl rfl ?_
      refine z_aload_n (i := 0) (x := 1) dX8_needNumber_37 rfl rfl ?_
      refine z_getI (j := 2) dX8_needNumber_38 kl_8 hs1 (by decide) rfl rfl kf_X8_26 ?_
      refine z_icmp_ge 90 dX8_needNumber_41 (by decide) (fun c12 => ?_) (fun c12 => ?_)
      · exact hJ_F_X8_needNumber_J90 v9 v10 D
      · refine z_aload_n (i := 0) (x := 1) dX8_needNumber_44 rfl rfl ?_
        refine z_aload_n (i := 0) (x := 1) dX8_needNumber_45 rfl rfl ?_
        refine z_getI (j := 3) dX8_needNumber_46 kl_8 hs1 (by decide) rfl rfl kf_X8_29 ?_
        refine z_iload_n (i := 2) (x := v9) dX8_needNumber_49 rfl rfl ?_
        refine z_iadd dX8_needNumber_50 ?_
        refine z_cR (As := [.ref 1, .int ((D 1 3) + v9)]) (rest := []) (em_X8_byteAt hl hW ((D 1 3) + v9) D) (fun o7 h => z_runV 39 1 h rfl kk_X8_39 hs1 kl_8.1 kq_X8_byteAt rfl (Nat.le_of_ble_eq_true rfl) ⟨Nat.le_of_ble_eq_true rfl, Nat.le_of_ble_eq_true rfl, Nat.le_of_ble_eq_true rfl, Nat.le_of_ble_eq_true rfl⟩ dX8_needNumber_51) z_gWI (fun a_22 hz21 => ?_)
        refine z_cP (As := [.int a_22]) (rest := []) (em_X10_isDigit hl a_22 D) (fun o7 h => z_runSN 68 1 h rfl kk_X8_68 kn_X8_68 kq_X10_isDigit rfl (Nat.le_of_ble_eq_true rfl) ⟨Nat.le_of_ble_eq_true rfl, Nat.le_of_ble_eq_true rfl, Nat.le_of_ble_eq_true rfl, Nat.le_of_ble_eq_true rfl⟩ dX8_needNumber_54) z_gWI (fun hz23 => ?_)
        refine z_if_eq 90 dX8_needNumber_57 (by decide) (fun c24 => ?_) (fun c24 => ?_)
        · exact hJ_F_X8_needNumber_J90 v9 v10 D
        · refine z_ldc (v := 1000000) dX8_needNumber_60 kd_X8_71 ?_
          refine z_iload_n (i := 3) (x := v10) dX8_needNumber_62 rfl rfl ?_
          refine z_bipush (v := 10) dX8_needNumber_63 (by decide) ?_
          refine z_imul dX8_needNumber_65 ?_
          refine z_aload_n (i := 0) (x := 1) dX8_needNumber_66 rfl rfl ?_
          refine z_aload_n (i := 0) (x := 1) dX8_needNumber_67 rfl rfl ?_
          refine z_getI (j := 3) dX8_needNumber_68 kl_8 hs1 (by decide) rfl rfl kf_X8_29 ?_
          refine z_iload_n (i := 2) (x := v9) dX8_needNumber_71 rfl rfl ?_
          refine z_iadd dX8_needNumber_72 ?_
          refine z_cR (As := [.ref 1, .int ((D 1 3) + v9)]) (rest := [.int (v10 * 10), .int 1000000]) (em_X8_byteAt hl hW ((D 1 3) + v9) D) (fun o7 h => z_runV 39 1 h rfl kk_X8_39 hs1 kl_8.1 kq_X8_byteAt rfl (Nat.le_of_ble_eq_true rfl) ⟨Nat.le_of_ble_eq_true rfl, Nat.le_of_ble_eq_true rfl, Nat.le_of_ble_eq_true rfl, Nat.le_of_ble_eq_true rfl⟩ dX8_needNumber_73) z_gWI (fun a_26 hz25 => ?_)
          refine z_iadd dX8_needNumber_76 ?_
          refine z_bipush (v := 48) dX8_needNumber_77 (by decide) ?_
          refine z_isub dX8_needNumber_79 ?_
          refine z_mmin dX8_needNumber_80 km_X8_72 ⟨Nat.le_of_ble_eq_true rfl, Nat.le_of_ble_eq_true rfl, Nat.le_of_ble_eq_true rfl, Nat.le_of_ble_eq_true rfl⟩ ?_
          refine z_topi (fun v27 => ?_)
          refine z_istore_n (i := 3) (x := v27) (lv' := [some (.ref 1), some (.int a0), some (.int v9), some (.int v27)]) dX8_needNumber_83 rfl (by decide) rfl rfl ?_
          refine z_iinc (i := 2) (x := v9) (y := 1) dX8_needNumber_84 rfl (by decide) (by decide) rfl (fun v28 => ?_)
          refine z_goto 36 dX8_needNumber_87 (by decide) ?_
          exact hkc11 (v28, v27)
  · refine z_aload_n (i := 0) (x := 1) dX8_needNumber_21 rfl rfl ?_
    refine z_iconst (v := 1) dX8_needNumber_22 rfl ?_
    refine z_aload_n (i := 0) (x := 1) dX8_needNumber_23 rfl rfl ?_
    refine z_getI (j := 3) dX8_needNumber_24 kl_8 hs1 (by decide) rfl rfl kf_X8_29 ?_
    refine z_cTV (As := [.ref 1, .int 1, .int (D 1 3)]) (rest := []) (em_X8_fail hl hW 1 (D 1 3) D) (fun o7 h => z_runV 47 2 h rfl kk_X8_47 hs1 kl_8.1 kq_X8_fail rfl (Nat.le_of_ble_eq_true rfl) ⟨Nat.le_of_ble_eq_true rfl, Nat.le_of_ble_eq_true rfl, Nat.le_of_ble_eq_true rfl, Nat.le_of_ble_eq_true rfl⟩ dX8_needNumber_27) z_gWI (fun a_31 hz30 => ?_)
    refine z_iconst (v := 0) dX8_needNumber_30 rfl ?_
    exact z_ireturn dX8_needNumber_31 z_rWI rfl (by decide) (by decide)

def F_X10_unitOf (a0 : Int32) : Int32 :=
  if a0 = 0 then (100)
  else (if a0 = 1 then (10)
  else (1))
set_option maxRecDepth 100000 in
set_option maxHeartbeats 4000000 in
theorem em_X10_unitOf {l : Launch} {S : List z_Shp} (hl : l.stackTraces = false) (a0 : Int32) (D : z_Dat) : ∀ out, z_kt (z_kR S D) (F_X10_unitOf a0) out → z_EM l M_X10_unitOf (20, 520, 0, 0) [.int a0] S D out := by
  refine z_meth hl rfl kp_X10 (Nat.le_of_ble_eq_true rfl) (lv := [some (.int a0)]) rfl ?_
  unfold F_X10_unitOf
  refine z_iload_n (i := 0) (x := a0) dX10_unitOf_0 rfl rfl ?_
  refine z_if_ne 9 dX10_unitOf_1 (by decide) (fun c1 => ?_) (fun c1 => ?_)
  · refine z_bipush (v := 100) dX10_unitOf_4 (by decide) ?_
    refine z_goto 20 dX10_unitOf_6 (by decide) ?_
    exact z_ireturn dX10_unitOf_20 z_rP rfl (by decide) (by decide)
  · refine z_iload_n (i := 0) (x := a0) dX10_unitOf_9 rfl rfl ?_
    refine z_iconst (v := 1) dX10_unitOf_10 rfl ?_
    refine z_icmp_ne 19 dX10_unitOf_11 (by decide) (fun c2 => ?_) (fun c2 => ?_)
    · refine z_bipush (v := 10) dX10_unitOf_14 (by decide) ?_
      refine z_goto 20 dX10_unitOf_16 (by decide) ?_
      exact z_ireturn dX10_unitOf_20 z_rP rfl (by decide) (by decide)
    · refine z_iconst (v := 1) dX10_unitOf_19 rfl ?_
      exact z_ireturn dX10_unitOf_20 z_rP rfl (by decide) (by decide)

def F_X1_readRest_J9 (N : Nat) (o : Nat) (v19 : Int32) (D20 : z_Dat) : Option z_Dat :=
  z_let (F_X10_put (o + 1) 6 (D20 o 5) v19 D20) (fun a_22 => z_bd (F_X8_needNumber N 9 a_22) (fun a_24 => z_let (F_X10_put (o + 2) 6 (a_22 o 5) a_24.1 a_24.2) (fun a_26 => z_let (z_up a_26 o 5 ((a_26 o 5) + 1)) (fun D27 => some D27))))
def F_X1_readRest_J9x (N : Nat) (o : Nat) (v13 : Int32) (D14 : z_Dat) : Option z_Dat :=
  z_bd (F_X8_needNumber N 9 D14) (fun a_16 => z_let (v13 + (a_16.1 * (F_X10_unitOf 2))) (fun v18 => F_X1_readRest_J9 N o v18 a_16.2))
def F_X1_readRest_J9xx (N : Nat) (o : Nat) (v7 : Int32) (D8 : z_Dat) : Option z_Dat :=
  z_bd (F_X8_needNumber N 9 D8) (fun a_10 => z_let (v7 + (a_10.1 * (F_X10_unitOf 1))) (fun v12 => F_X1_readRest_J9x N o v12 a_10.2))
def F_X1_readRest_J9xxx (N : Nat) (o : Nat) (D2 : z_Dat) : Option z_Dat :=
  z_bd (F_X8_needNumber N 9 D2) (fun a_4 => z_let (0 + (a_4.1 * (F_X10_unitOf 0))) (fun v6 => F_X1_readRest_J9xx N o v6 a_4.2))
def F_X1_readRest (N : Nat) (o : Nat) (a0 : Int32) (D : z_Dat) : Option z_Dat :=
  if a0 = 0 then (F_X1_readRest_J9xxx N o D)
  else (if a0 = 1 then (z_bd (F_X8_needNumber N ((D o 5) - 1) D) (fun a_30 => z_let (F_X10_put (o + 3) 8 (D o 6) a_30.1 a_30.2) (fun a_32 => z_bd (F_X8_needNumber N 60 a_32) (fun a_34 => z_let (F_X10_put (o + 4) 8 (a_32 o 6) a_34.1 a_34.2) (fun a_36 => z_let (z_up a_36 o 6 ((a_36 o 6) + 1)) (fun D37 => some D37))))))
  else (if a0 = 2 then (z_bd (F_X8_needNumber N 2 D) (fun a_40 => z_bd (F_X8_needNumber N 200 a_40.2) (fun a_42 => z_let (F_X10_put (o + 5) 3 a_40.1 a_42.1 a_42.2) (fun a_44 => some a_44))))
  else (z_bd (F_X8_needNumber N 20 D) (fun a_46 => z_let (z_up a_46.2 o 7 a_46.1) (fun D47 => some D47)))))
set_option maxRecDepth 100000 in
set_option maxHeartbeats 4000000 in
theorem em_X1_readRest {l : Launch} {S : List z_Shp} {oW : Nat} {o : Nat} (hl : l.stackTraces = false) (hW : z_W S oW) (hC : z_isCity S o) (N : Nat) (a0 : Int32) (D : z_Dat) : ∀ out, z_ko (z_kV S) (F_X1_readRest N o a0 D) out → z_EM l M_X1_readRest (40, 640, 0, 0) [.ref o, .ref 1, .int a0] S D out := by
  have hs1 : S[1]? = some (10, 7, [some (some 2), none, none, none, none, none, none]) := hW.1 1 _ rfl
  refine z_meth hl rfl kp_X1 (Nat.le_of_ble_eq_true rfl) (lv := [some (.ref o), some (.ref 1), some (.int a0), none, none]) rfl ?_
  unfold F_X1_readRest
  have hJ_F_X1_readRest_J9 : ∀ (v19 : Int32) (D20 : z_Dat) , z_F l M_X1_readRest (40, 640, 0, 0) 0 0 9 [some (.ref o), some (.ref 1), none, some (.int v19), some (.int 3)] [] S D20 (z_ko (z_kV S)) (F_X1_readRest_J9 N o v19 D20) := by
    intro v19 D20
    unfold F_X1_readRest_J9
    refine z_iload (i := 4) (x := 3) dX1_readRest_9 rfl ?_
    refine z_iconst (v := 3) dX1_readRest_11 rfl ?_
    refine z_icmp_geJ 36 dX1_readRest_12 (by decide) (by decide) ?_
    refine z_aload_n (i := 0) (x := o) dX1_readRest_36 rfl rfl ?_
    refine z_getR (j := 0) dX1_readRest_37 kl_1 hC.1 (by decide) rfl rfl kf_X1_9 ?_
    refine z_aload_n (i := 0) (x := o) dX1_readRest_40 rfl rfl ?_
    refine z_getI (j := 5) dX1_readRest_41 kl_1 hC.1 (by decide) rfl rfl kf_X1_55 ?_
    refine z_iload_n (i := 3) (x := v19) dX1_readRest_44 rfl rfl ?_
    refine z_cTV (As := [.ref (o + 1), .int (D20 o 5), .int v19]) (rest := []) (em_X10_put (n0 := 6) hl hC.2.1 (by decide) (D20 o 5) v19 D20) (fun o7 h => z_runSN 81 3 h rfl kk_X1_81 kn_X1_81 kq_X10_put rfl (Nat.le_of_ble_eq_true rfl) ⟨Nat.le_of_ble_eq_true rfl, Nat.le_of_ble_eq_true rfl, Nat.le_of_ble_eq_true rfl, Nat.le_of_ble_eq_true rfl⟩ dX1_readRest_45) z_gWV (fun a_22 hz21 => ?_)
    refine z_aload_n (i := 0) (x := o) dX1_readRest_48 rfl rfl ?_
    refine z_getR (j := 1) dX1_readRest_49 kl_1 hC.1 (by decide) rfl rfl kf_X1_15 ?_
    refine z_aload_n (i := 0) (x := o) dX1_readRest_52 rfl rfl ?_
    refine z_getI (j := 5) dX1_readRest_53 kl_1 hC.1 (by decide) rfl rfl kf_X1_55 ?_
    refine z_aload_n (i := 1) (x := 1) dX1_readRest_56 rfl rfl ?_
    refine z_bipush (v := 9) dX1_readRest_57 (by decide) ?_
    refine z_cWI (As := [.ref 1, .int 9]) (rest := [.int (a_22 o 5), .ref (o + 2)]) (em_X8_needNumber hl hW N 9 a_22) (fun o7 h => z_runV 74 1 h rfl kk_X1_74 hs1 kl_8.1 kq_X8_needNumber rfl (Nat.le_of_ble_eq_true rfl) ⟨Nat.le_of_ble_eq_true rfl, Nat.le_of_ble_eq_true rfl, Nat.le_of_ble_eq_true rfl, Nat.le_of_ble_eq_true rfl⟩ dX1_readRest_59) z_gWV (fun a_24 hz23 => ?_)
    refine z_cTV (As := [.ref (o + 2), .int (a_22 o 5), .int a_24.1]) (rest := []) (em_X10_put (n0 := 6) hl hC.2.2.1 (by decide) (a_22 o 5) a_24.1 a_24.2) (fun o7 h => z_runSN 81 3 h rfl kk_X1_81 kn_X1_81 kq_X10_put rfl (Nat.le_of_ble_eq_true rfl) ⟨Nat.le_of_ble_eq_true rfl, Nat.le_of_ble_eq_true rfl, Nat.le_of_ble_eq_true rfl, Nat.le_of_ble_eq_true rfl⟩ dX1_readRest_62) z_gWV (fun a_26 hz25 => ?_)
    refine z_aload_n (i := 0) (x := o) dX1_readRest_65 rfl rfl ?_
    refine z_dup dX1_readRest_66 rfl ?_
    refine z_getI (j := 5) dX1_readRest_67 kl_1 hC.1 (by decide) rfl rfl kf_X1_55 ?_
    refine z_iconst (v := 1) dX1_readRest_70 rfl ?_
    refine z_iadd dX1_readRest_71 ?_
    refine z_putI (j := 5) dX1_readRest_72 kl_1 tyX1_ok nmX1 hC.1 (by decide) rfl rfl rfl rfl rfl rfl kf_X1_55 (fun D27 => ?_)
    refine z_goto 173 dX1_readRest_75 (by decide) ?_
    exact z_vreturn dX1_readRest_173 z_rWV trivial (by decide) (by decide)
  have hJ_F_X1_readRest_J9x : ∀ (v13 : Int32) (D14 : z_Dat) , z_F l M_X1_readRest (40, 640, 0, 0) 0 0 9 [some (.ref o), some (.ref 1), none, some (.int v13), some (.int 2)] [] S D14 (z_ko (z_kV S)) (F_X1_readRest_J9x N o v13 D14) := by
    intro v13 D14
    unfold F_X1_readRest_J9x
    refine z_iload (i := 4) (x := 2) dX1_readRest_9 rfl ?_
    refine z_iconst (v := 3) dX1_readRest_11 rfl ?_
    refine z_icmp_geN 36 dX1_readRest_12 (by decide) (by decide) ?_
    refine z_iload_n (i := 3) (x := v13) dX1_readRest_15 rfl rfl ?_
    refine z_aload_n (i := 1) (x := 1) dX1_readRest_16 rfl rfl ?_
    refine z_bipush (v := 9) dX1_readRest_17 (by decide) ?_
    refine z_cWI (As := [.ref 1, .int 9]) (rest := [.int v13]) (em_X8_needNumber hl hW N 9 D14) (fun o7 h => z_runV 74 1 h rfl kk_X1_74 hs1 kl_8.1 kq_X8_needNumber rfl (Nat.le_of_ble_eq_true rfl) ⟨Nat.le_of_ble_eq_true rfl, Nat.le_of_ble_eq_true rfl, Nat.le_of_ble_eq_true rfl, Nat.le_of_ble_eq_true rfl⟩ dX1_readRest_19) z_gWV (fun a_16 hz15 => ?_)
    refine z_iload (i := 4) (x := 2) dX1_readRest_22 rfl ?_
    refine z_cP (As := [.int 2]) (rest := [.int a_16.1, .int v13]) (em_X10_unitOf hl 2 a_16.2) (fun o7 h => z_runSN 78 1 h rfl kk_X1_78 kn_X1_78 kq_X10_unitOf rfl (Nat.le_of_ble_eq_true rfl) ⟨Nat.le_of_ble_eq_true rfl, Nat.le_of_ble_eq_true rfl, Nat.le_of_ble_eq_true rfl, Nat.le_of_ble_eq_true rfl⟩ dX1_readRest_24) z_gWV (fun hz17 => ?_)
    refine z_imul dX1_readRest_27 ?_
    refine z_iadd dX1_readRest_28 ?_
    refine z_topi (fun v18 => ?_)
    refine z_istore_n (i := 3) (x := v18) (lv' := [some (.ref o), some (.ref 1), none, some (.int v18), some (.int 2)]) dX1_readRest_29 rfl (by decide) rfl rfl ?_
    refine z_iincC (i := 4) (x := 2) (v := 3) (lv' := [some (.ref o), some (.ref 1), none, some (.int v18), some (.int 3)]) dX1_readRest_30 rfl (by decide) (by decide) rfl rfl ?_
    refine z_goto 9 dX1_readRest_33 (by decide) ?_
    exact hJ_F_X1_readRest_J9 v18 a_16.2
  have hJ_F_X1_readRest_J9xx : ∀ (v7 : Int32) (D8 : z_Dat) , z_F l M_X1_readRest (40, 640, 0, 0) 0 0 9 [some (.ref o), some (.ref 1), none, some (.int v7), some (.int 1)] [] S D8 (z_ko (z_kV S)) (F_X1_readRest_J9xx N o v7 D8) := by
    intro v7 D8
    unfold F_X1_readRest_J9xx
    refine z_iload (i := 4) (x := 1) dX1_readRest_9 rfl ?_
    refine z_iconst (v := 3) dX1_readRest_11 rfl ?_
    refine z_icmp_geN 36 dX1_readRest_12 (by decide) (by decide) ?_
    refine z_iload_n (i := 3) (x := v7) dX1_readRest_15 rfl rfl ?_
    refine z_aload_n (i := 1) (x := 1) dX1_readRest_16 rfl rfl ?_
    refine z_bipush (v := 9) dX1_readRest_17 (by decide) ?_
    refine z_cWI (As := [.ref 1, .int 9]) (rest := [.int v7]) (em_X8_needNumber hl hW N 9 D8) (fun o7 h => z_runV 74 1 h rfl kk_X1_74 hs1 kl_8.1 kq_X8_needNumber rfl (Nat.le_of_ble_eq_true rfl) ⟨Nat.le_of_ble_eq_true rfl, Nat.le_of_ble_eq_true rfl, Nat.le_of_ble_eq_true rfl, Nat.le_of_ble_eq_true rfl⟩ dX1_readRest_19) z_gWV (fun a_10 hz9 => ?_)
    refine z_iload (i := 4) (x := 1) dX1_readRest_22 rfl ?_
    refine z_cP (As := [.int 1]) (rest := [.int a_10.1, .int v7]) (em_X10_unitOf hl 1 a_10.2) (fun o7 h => z_runSN 78 1 h rfl kk_X1_78 kn_X1_78 kq_X10_unitOf rfl (Nat.le_of_ble_eq_true rfl) ⟨Nat.le_of_ble_eq_true rfl, Nat.le_of_ble_eq_true rfl, Nat.le_of_ble_eq_true rfl, Nat.le_of_ble_eq_true rfl⟩ dX1_readRest_24) z_gWV (fun hz11 => ?_)
    refine z_imul dX1_readRest_27 ?_
    refine z_iadd dX1_readRest_28 ?_
    refine z_topi (fun v12 => ?_)
    refine z_istore_n (i := 3) (x := v12) (lv' := [some (.ref o), some (.ref 1), none, some (.int v12), some (.int 1)]) dX1_readRest_29 rfl (by decide) rfl rfl ?_
    refine z_iincC (i := 4) (x := 1) (v := 2) (lv' := [some (.ref o), some (.ref 1), none, some (.int v12), some (.int 2)]) dX1_readRest_30 rfl (by decide) (by decide) rfl rfl ?_
    refine z_goto 9 dX1_readRest_33 (by decide) ?_
    exact hJ_F_X1_readRest_J9x v12 a_10.2
  have hJ_F_X1_readRest_J9xxx : ∀ (D2 : z_Dat) , z_F l M_X1_readRest (40, 640, 0, 0) 0 0 9 [some (.ref o), some (.ref 1), none, some (.int 0), some (.int 0)] [] S D2 (z_ko (z_kV S)) (F_X1_readRest_J9xxx N o D2) := by
    intro D2
    unfold F_X1_readRest_J9xxx
    refine z_iload (i := 4) (x := 0) dX1_readRest_9 rfl ?_
    refine z_iconst (v := 3) dX1_readRest_11 rfl ?_
    refine z_icmp_geN 36 dX1_readRest_12 (by decide) (by decide) ?_
    refine z_iload_n (i := 3) (x := 0) dX1_readRest_15 rfl rfl ?_
    refine z_aload_n (i := 1) (x := 1) dX1_readRest_16 rfl rfl ?_
    refine z_bipush (v := 9) dX1_readRest_17 (by decide) ?_
    refine z_cWI (As := [.ref 1, .int 9]) (rest := [.int 0]) (em_X8_needNumber hl hW N 9 D2) (fun o7 h => z_runV 74 1 h rfl kk_X1_74 hs1 kl_8.1 kq_X8_needNumber rfl (Nat.le_of_ble_eq_true rfl) ⟨Nat.le_of_ble_eq_true rfl, Nat.le_of_ble_eq_true rfl, Nat.le_of_ble_eq_true rfl, Nat.le_of_ble_eq_true rfl⟩ dX1_readRest_19) z_gWV (fun a_4 hz3 => ?_)
    refine z_iload (i := 4) (x := 0) dX1_readRest_22 rfl ?_
    refine z_cP (As := [.int 0]) (rest := [.int a_4.1, .int 0]) (em_X10_unitOf hl 0 a_4.2) (fun o7 h => z_runSN 78 1 h rfl kk_X1_78 kn_X1_78 kq_X10_unitOf rfl (Nat.le_of_ble_eq_true rfl) ⟨Nat.le_of_ble_eq_true rfl, Nat.le_of_ble_eq_true rfl, Nat.le_of_ble_eq_true rfl, Nat.le_of_ble_eq_true rfl⟩ dX1_readRest_24) z_gWV (fun hz5 => ?_)
    refine z_imul dX1_readRest_27 ?_
    refine z_iadd dX1_readRest_28 ?_
    refine z_topi (fun v6 => ?_)
    refine z_istore_n (i := 3) (x := v6) (lv' := [some (.ref o), some (.ref 1), none, some (.int v6), some (.int 0)]) dX1_readRest_29 rfl (by decide) rfl rfl ?_
    refine z_iincC (i := 4) (x := 0) (v := 1) (lv' := [some (.ref o), some (.ref 1), none, some (.int v6), some (.int 1)]) dX1_readRest_30 rfl (by decide) (by decide) rfl rfl ?_
    refine z_goto 9 dX1_readRest_33 (by decide) ?_
    exact hJ_F_X1_readRest_J9xx v6 a_4.2
  refine z_iload_n (i := 2) (x := a0) dX1_readRest_0 rfl rfl ?_
  refine z_if_ne 78 dX1_readRest_1 (by decide) (fun c1 => ?_) (fun c1 => ?_)
  · refine z_iconst (v := 0) dX1_readRest_4 rfl ?_
    refine z_istore_n (i := 3) (x := 0) (lv' := [some (.ref o), some (.ref 1), some (.int a0), some (.int 0), none]) dX1_readRest_5 rfl (by decide) rfl rfl ?_
    refine z_iconst (v := 0) dX1_readRest_6 rfl ?_
    refine z_istore (i := 4) (x := 0) (lv' := [some (.ref o), some (.ref 1), some (.int a0), some (.int 0), some (.int 0)]) dX1_readRest_7 (by decide) rfl rfl ?_
    refine z_weak (lv' := [some (.ref o), some (.ref 1), none, some (.int 0), some (.int 0)]) ⟨Or.inr rfl, ⟨Or.inr rfl, ⟨Or.inl rfl, ⟨Or.inr rfl, ⟨Or.inr rfl, trivial⟩⟩⟩⟩⟩ ?_
    exact hJ_F_X1_readRest_J9xxx D
  · refine z_iload_n (i := 2) (x := a0) dX1_readRest_78 rfl rfl ?_
    refine z_iconst (v := 1) dX1_readRest_79 rfl ?_
    refine z_icmp_ne 134 dX1_readRest_80 (by decide) (fun c28 => ?_) (fun c28 => ?_)
    · refine z_aload_n (i := 0) (x := o) dX1_readRest_83 rfl rfl ?_
      refine z_getR (j := 2) dX1_readRest_84 kl_1 hC.1 (by decide) rfl rfl kf_X1_18 ?_
      refine z_aload_n (i := 0) (x := o) dX1_readRest_87 rfl rfl ?_
      refine z_getI (j := 6) dX1_readRest_88 kl_1 hC.1 (by decide) rfl rfl kf_X1_58 ?_
      refine z_aload_n (i := 1) (x := 1) dX1_readRest_91 rfl rfl ?_
      refine z_aload_n (i := 0) (x := o) dX1_readRest_92 rfl rfl ?_
      refine z_getI (j := 5) dX1_readRest_93 kl_1 hC.1 (by decide) rfl rfl kf_X1_55 ?_
      refine z_iconst (v := 1) dX1_readRest_96 rfl ?_
      refine z_isub dX1_readRest_97 ?_
      refine z_cWI (As := [.ref 1, .int ((D o 5) - 1)]) (rest := [.int (D o 6), .ref (o + 3)]) (em_X8_needNumber hl hW N ((D o 5) - 1) D) (fun o7 h => z_runV 74 1 h rfl kk_X1_74 hs1 kl_8.1 kq_X8_needNumber rfl (Nat.le_of_ble_eq_true rfl) ⟨Nat.le_of_ble_eq_true rfl, Nat.le_of_ble_eq_true rfl, Nat.le_of_ble_eq_true rfl, Nat.le_of_ble_eq_true rfl⟩ dX1_readRest_98) z_gWV (fun a_30 hz29 => ?_)
      refine z_cTV (As := [.ref (o + 3), .int (D o 6), .int a_30.1]) (rest := []) (em_X10_put (n0 := 8) hl hC.2.2.2.1 (by decide) (D o 6) a_30.1 a_30.2) (fun o7 h => z_runSN 81 3 h rfl kk_X1_81 kn_X1_81 kq_X10_put rfl (Nat.le_of_ble_eq_true rfl) ⟨Nat.le_of_ble_eq_true rfl, Nat.le_of_ble_eq_true rfl, Nat.le_of_ble_eq_true rfl, Nat.le_of_ble_eq_true rfl⟩ dX1_readRest_101) z_gWV (fun a_32 hz31 => ?_)
      refine z_aload_n (i := 0) (x := o) dX1_readRest_104 rfl rfl ?_
      refine z_getR (j := 3) dX1_readRest_105 kl_1 hC.1 (by decide) rfl rfl kf_X1_21 ?_
      refine z_aload_n (i := 0) (x := o) dX1_readRest_108 rfl rfl ?_
      refine z_getI (j := 6) dX1_readRest_109 kl_1 hC.1 (by decide) rfl rfl kf_X1_58 ?_
      refine z_aload_n (i := 1) (x := 1) dX1_readRest_112 rfl rfl ?_
      refine z_bipush (v := 60) dX1_readRest_113 (by decide) ?_
      refine z_cWI (As := [.ref 1, .int 60]) (rest := [.int (a_32 o 6), .ref (o + 4)]) (em_X8_needNumber hl hW N 60 a_32) (fun o7 h => z_runV 74 1 h rfl kk_X1_74 hs1 kl_8.1 kq_X8_needNumber rfl (Nat.le_of_ble_eq_true rfl) ⟨Nat.le_of_ble_eq_true rfl, Nat.le_of_ble_eq_true rfl, Nat.le_of_ble_eq_true rfl, Nat.le_of_ble_eq_true rfl⟩ dX1_readRest_115) z_gWV (fun a_34 hz33 => ?_)
      refine z_cTV (As := [.ref (o + 4), .int (a_32 o 6), .int a_34.1]) (rest := []) (em_X10_put (n0 := 8) hl hC.2.2.2.2.1 (by decide) (a_32 o 6) a_34.1 a_34.2) (fun o7 h => z_runSN 81 3 h rfl kk_X1_81 kn_X1_81 kq_X10_put rfl (Nat.le_of_ble_eq_true rfl) ⟨Nat.le_of_ble_eq_true rfl, Nat.le_of_ble_eq_true rfl, Nat.le_of_ble_eq_true rfl, Nat.le_of_ble_eq_true rfl⟩ dX1_readRest_118) z_gWV (fun a_36 hz35 => ?_)
      refine z_aload_n (i := 0) (x := o) dX1_readRest_121 rfl rfl ?_
      refine z_dup dX1_readRest_122 rfl ?_
      refine z_getI (j := 6) dX1_readRest_123 kl_1 hC.1 (by decide) rfl rfl kf_X1_58 ?_
      refine z_iconst (v := 1) dX1_readRest_126 rfl ?_
      refine z_iadd dX1_readRest_127 ?_
      refine z_putI (j := 6) dX1_readRest_128 kl_1 tyX1_ok nmX1 hC.1 (by decide) rfl rfl rfl rfl rfl rfl kf_X1_58 (fun D37 => ?_)
      refine z_goto 173 dX1_readRest_131 (by decide) ?_
      exact z_vreturn dX1_readRest_173 z_rWV trivial (by decide) (by decide)
    · refine z_iload_n (i := 2) (x := a0) dX1_readRest_134 rfl rfl ?_
      refine z_iconst (v := 2) dX1_readRest_135 rfl ?_
      refine z_icmp_ne 163 dX1_readRest_136 (by decide) (fun c38 => ?_) (fun c38 => ?_)
      · refine z_aload_n (i := 1) (x := 1) dX1_readRest_139 rfl rfl ?_
        refine z_iconst (v := 2) dX1_readRest_140 rfl ?_
        refine z_cWI (As := [.ref 1, .int 2]) (rest := []) (em_X8_needNumber hl hW N 2 D) (fun o7 h => z_runV 74 1 h rfl kk_X1_74 hs1 kl_8.1 kq_X8_needNumber rfl (Nat.le_of_ble_eq_true rfl) ⟨Nat.le_of_ble_eq_true rfl, Nat.le_of_ble_eq_true rfl, Nat.le_of_ble_eq_true rfl, Nat.le_of_ble_eq_true rfl⟩ dX1_readRest_141) z_gWV (fun a_40 hz39 => ?_)
        refine z_istore_n (i := 3) (x := a_40.1) (lv' := [some (.ref o), some (.ref 1), some (.int a0), some (.int a_40.1), none]) dX1_readRest_144 rfl (by decide) rfl rfl ?_
        refine z_aload_n (i := 0) (x := o) dX1_readRest_145 rfl rfl ?_
        refine z_getR (j := 4) dX1_readRest_146 kl_1 hC.1 (by decide) rfl rfl kf_X1_24 ?_
        refine z_iload_n (i := 3) (x := a_40.1) dX1_readRest_149 rfl rfl ?_
        refine z_aload_n (i := 1) (x := 1) dX1_readRest_150 rfl rfl ?_
        refine z_sipush (v := 200) dX1_readRest_151 (by decide) ?_
        refine z_cWI (As := [.ref 1, .int 200]) (rest := [.int a_40.1, .ref (o + 5)]) (em_X8_needNumber hl hW N 200 a_40.2) (fun o7 h => z_runV 74 1 h rfl kk_X1_74 hs1 kl_8.1 kq_X8_needNumber rfl (Nat.le_of_ble_eq_true rfl) ⟨Nat.le_of_ble_eq_true rfl, Nat.le_of_ble_eq_true rfl, Nat.le_of_ble_eq_true rfl, Nat.le_of_ble_eq_true rfl⟩ dX1_readRest_154) z_gWV (fun a_42 hz41 => ?_)
        refine z_cTV (As := [.ref (o + 5), .int a_40.1, .int a_42.1]) (rest := []) (em_X10_put (n0 := 3) hl hC.2.2.2.2.2 (by decide) a_40.1 a_42.1 a_42.2) (fun o7 h => z_runSN 81 3 h rfl kk_X1_81 kn_X1_81 kq_X10_put rfl (Nat.le_of_ble_eq_true rfl) ⟨Nat.le_of_ble_eq_true rfl, Nat.le_of_ble_eq_true rfl, Nat.le_of_ble_eq_true rfl, Nat.le_of_ble_eq_true rfl⟩ dX1_readRest_157) z_gWV (fun a_44 hz43 => ?_)
        refine z_goto 173 dX1_readRest_160 (by decide) ?_
        exact z_vreturn dX1_readRest_173 z_rWV trivial (by decide) (by decide)
      · refine z_aload_n (i := 0) (x := o) dX1_readRest_163 rfl rfl ?_
        refine z_aload_n (i := 1) (x := 1) dX1_readRest_164 rfl rfl ?_
        refine z_bipush (v := 20) dX1_readRest_165 (by decide) ?_
        refine z_cWI (As := [.ref 1, .int 20]) (rest := [.ref o]) (em_X8_needNumber hl hW N 20 D) (fun o7 h => z_runV 74 1 h rfl kk_X1_74 hs1 kl_8.1 kq_X8_needNumber rfl (Nat.le_of_ble_eq_true rfl) ⟨Nat.le_of_ble_eq_true rfl, Nat.le_of_ble_eq_true rfl, Nat.le_of_ble_eq_true rfl, Nat.le_of_ble_eq_true rfl⟩ dX1_readRest_167) z_gWV (fun a_46 hz45 => ?_)
        refine z_putI (j := 7) dX1_readRest_170 kl_1 tyX1_ok nmX1 hC.1 (by decide) rfl rfl rfl rfl rfl rfl kf_X1_27 (fun D47 => ?_)
        exact z_vreturn dX1_readRest_173 z_rWV trivial (by decide) (by decide)

def F_X1_readClause_J45 (v6 : Int32) (D7 : z_Dat) : Option z_Dat :=
  if v6 = (-1) then (z_let (F_X8_fail 1 (D7 1 3) D7) (fun a_10 => some a_10))
  else (z_let (F_X8_fail 3 (D7 1 4) D7) (fun a_12 => some a_12))
def F_X1_readClause_J40 (v4 : Int32) (D5 : z_Dat) : Option z_Dat :=
  F_X1_readClause_J45 v4 D5
def F_X1_readClause_J45x (N : Nat) (o : Nat) (v21 : Int32) (D22 : z_Dat) : Option z_Dat :=
  if v21 = (-1) then (z_let (F_X8_fail 1 (D22 1 3) D22) (fun a_25 => some a_25))
  else (z_bd (F_X1_readRest N o v21 D22) (fun a_27 => some a_27))
def F_X1_readClause_J44 (N : Nat) (o : Nat) (v19 : Int32) (D20 : z_Dat) : Option z_Dat :=
  F_X1_readClause_J45x N o v19 D20
def F_X1_readClause_J26 (N : Nat) (o : Nat) (v15 : Int32) (D16 : z_Dat) : Option z_Dat :=
  if v15 = 1 then (if (D16 o 6) < 8 then (F_X1_readClause_J44 N o v15 D16)
  else (F_X1_readClause_J40 v15 D16))
  else (F_X1_readClause_J44 N o v15 D16)
def F_X1_readClause (N : Nat) (o : Nat) (a0 : Int32) (D : z_Dat) : Option z_Dat :=
  z_bd (F_X8_takesWordOf N 0 D) (fun a_2 => if 60 ≤ a0 then (F_X1_readClause_J40 a_2.1 a_2.2)
  else (if a_2.1 = 0 then (if 6 ≤ (a_2.2 o 5) then (F_X1_readClause_J40 a_2.1 a_2.2)
  else (F_X1_readClause_J26 N o a_2.1 a_2.2))
  else (F_X1_readClause_J26 N o a_2.1 a_2.2)))
set_option maxRecDepth 100000 in
set_option maxHeartbeats 4000000 in
theorem em_X1_readClause {l : Launch} {S : List z_Shp} {oW : Nat} {o : Nat} (hl : l.stackTraces = false) (hW : z_W S oW) (hC : z_isCity S o) (N : Nat) (a0 : Int32) (D : z_Dat) : ∀ out, z_ko (z_kV S) (F_X1_readClause N o a0 D) out → z_EM l M_X1_readClause (70, 700, 0, 0) [.ref o, .ref 1, .int a0] S D out := by
  have hs1 : S[1]? = some (10, 7, [some (some 2), none, none, none, none, none, none]) := hW.1 1 _ rfl
  refine z_meth hl rfl kp_X1 (Nat.le_of_ble_eq_true rfl) (lv := [some (.ref o), some (.ref 1), some (.int a0), none, none]) rfl ?_
  unfold F_X1_readClause
  have hJ_F_X1_readClause_J45 : ∀ (v6 : Int32) (D7 : z_Dat) , z_F l M_X1_readClause (70, 700, 0, 0) 0 0 45 [some (.ref o), some (.ref 1), none, some (.int v6), none] [.int 1] S D7 (z_ko (z_kV S)) (F_X1_readClause_J45 v6 D7) := by
    intro v6 D7
    unfold F_X1_readClause_J45
    refine z_istore (i := 4) (x := 1) (lv' := [some (.ref o), some (.ref 1), none, some (.int v6), some (.int 1)]) dX1_readClause_45 (by decide) rfl rfl ?_
    refine z_iload_n (i := 3) (x := v6) dX1_readClause_47 rfl rfl ?_
    refine z_iconst (v := (-1)) dX1_readClause_48 rfl ?_
    refine z_icmp_ne 64 dX1_readClause_49 (by decide) (fun c8 => ?_) (fun c8 => ?_)
    · refine z_aload_n (i := 1) (x := 1) dX1_readClause_52 rfl rfl ?_
      refine z_iconst (v := 1) dX1_readClause_53 rfl ?_
      refine z_aload_n (i := 1) (x := 1) dX1_readClause_54 rfl rfl ?_
      refine z_getIN (j := 3) dX1_readClause_55 kl_8 hs1 (by decide) rfl rfl kf_X1_61 ?_
      refine z_cTV (As := [.ref 1, .int 1, .int (D7 1 3)]) (rest := []) (em_X8_fail hl hW 1 (D7 1 3) D7) (fun o7 h => z_runV 64 2 h rfl kk_X1_64 hs1 kl_8.1 kq_X8_fail rfl (Nat.le_of_ble_eq_true rfl) ⟨Nat.le_of_ble_eq_true rfl, Nat.le_of_ble_eq_true rfl, Nat.le_of_ble_eq_true rfl, Nat.le_of_ble_eq_true rfl⟩ dX1_readClause_58) z_gWV (fun a_10 hz9 => ?_)
      refine z_goto 87 dX1_readClause_61 (by decide) ?_
      exact z_vreturn dX1_readClause_87 z_rWV trivial (by decide) (by decide)
    · refine z_iload (i := 4) (x := 1) dX1_readClause_64 rfl ?_
      refine z_if_eqN 81 dX1_readClause_66 (by decide) (by decide) ?_
      refine z_aload_n (i := 1) (x := 1) dX1_readClause_69 rfl rfl ?_
      refine z_iconst (v := 3) dX1_readClause_70 rfl ?_
      refine z_aload_n (i := 1) (x := 1) dX1_readClause_71 rfl rfl ?_
      refine z_getIN (j := 4) dX1_readClause_72 kl_8 hs1 (by decide) rfl rfl kf_X1_68 ?_
      refine z_cTV (As := [.ref 1, .int 3, .int (D7 1 4)]) (rest := []) (em_X8_fail hl hW 3 (D7 1 4) D7) (fun o7 h => z_runV 64 2 h rfl kk_X1_64 hs1 kl_8.1 kq_X8_fail rfl (Nat.le_of_ble_eq_true rfl) ⟨Nat.le_of_ble_eq_true rfl, Nat.le_of_ble_eq_true rfl, Nat.le_of_ble_eq_true rfl, Nat.le_of_ble_eq_true rfl⟩ dX1_readClause_75) z_gWV (fun a_12 hz11 => ?_)
      refine z_goto 87 dX1_readClause_78 (by decide) ?_
      exact z_vreturn dX1_readClause_87 z_rWV trivial (by decide) (by decide)
  have hJ_F_X1_readClause_J40 : ∀ (v4 : Int32) (D5 : z_Dat) , z_F l M_X1_readClause (70, 700, 0, 0) 0 0 40 [some (.ref o), some (.ref 1), none, some (.int v4), none] [] S D5 (z_ko (z_kV S)) (F_X1_readClause_J40 v4 D5) := by
    intro v4 D5
    unfold F_X1_readClause_J40
    refine z_iconst (v := 1) dX1_readClause_40 rfl ?_
    refine z_goto 45 dX1_readClause_41 (by decide) ?_
    exact hJ_F_X1_readClause_J45 v4 D5
  have hJ_F_X1_readClause_J45x : ∀ (v21 : Int32) (D22 : z_Dat) , z_F l M_X1_readClause (70, 700, 0, 0) 0 0 45 [some (.ref o), some (.ref 1), none, some (.int v21), none] [.int 0] S D22 (z_ko (z_kV S)) (F_X1_readClause_J45x N o v21 D22) := by
    intro v21 D22
    unfold F_X1_readClause_J45x
    refine z_istore (i := 4) (x := 0) (lv' := [some (.ref o), some (.ref 1), none, some (.int v21), some (.int 0)]) dX1_readClause_45 (by decide) rfl rfl ?_
    refine z_iload_n (i := 3) (x := v21) dX1_readClause_47 rfl rfl ?_
    refine z_iconst (v := (-1)) dX1_readClause_48 rfl ?_
    refine z_icmp_ne 64 dX1_readClause_49 (by decide) (fun c23 => ?_) (fun c23 => ?_)
    · refine z_aload_n (i := 1) (x := 1) dX1_readClause_52 rfl rfl ?_
      refine z_iconst (v := 1) dX1_readClause_53 rfl ?_
      refine z_aload_n (i := 1) (x := 1) dX1_readClause_54 rfl rfl ?_
      refine z_getIN (j := 3) dX1_readClause_55 kl_8 hs1 (by decide) rfl rfl kf_X1_61 ?_
      refine z_cTV (As := [.ref 1, .int 1, .int (D22 1 3)]) (rest := []) (em_X8_fail hl hW 1 (D22 1 3) D22) (fun o7 h => z_runV 64 2 h rfl kk_X1_64 hs1 kl_8.1 kq_X8_fail rfl (Nat.le_of_ble_eq_true rfl) ⟨Nat.le_of_ble_eq_true rfl, Nat.le_of_ble_eq_true rfl, Nat.le_of_ble_eq_true rfl, Nat.le_of_ble_eq_true rfl⟩ dX1_readClause_58) z_gWV (fun a_25 hz24 => ?_)
      refine z_goto 87 dX1_readClause_61 (by decide) ?_
      exact z_vreturn dX1_readClause_87 z_rWV trivial (by decide) (by decide)
    · refine z_iload (i := 4) (x := 0) dX1_readClause_64 rfl ?_
      refine z_if_eqJ 81 dX1_readClause_66 (by decide) (by decide) ?_
      refine z_aload_n (i := 0) (x := o) dX1_readClause_81 rfl rfl ?_
      refine z_aload_n (i := 1) (x := 1) dX1_readClause_82 rfl rfl ?_
      refine z_iload_n (i := 3) (x := v21) dX1_readClause_83 rfl rfl ?_
      refine z_cWV (As := [.ref o, .ref 1, .int v21]) (rest := []) (em_X1_readRest hl hW hC N v21 D22) (fun o7 h => z_runV 71 2 h rfl kk_X1_71 hC.1 kl_1.1 kq_X1_readRest rfl (Nat.le_of_ble_eq_true rfl) ⟨Nat.le_of_ble_eq_true rfl, Nat.le_of_ble_eq_true rfl, Nat.le_of_ble_eq_true rfl, Nat.le_of_ble_eq_true rfl⟩ dX1_readClause_84) z_gWV (fun a_27 hz26 => ?_)
      exact z_vreturn dX1_readClause_87 z_rWV trivial (by decide) (by decide)
  have hJ_F_X1_readClause_J44 : ∀ (v19 : Int32) (D20 : z_Dat) , z_F l M_X1_readClause (70, 700, 0, 0) 0 0 44 [some (.ref o), some (.ref 1), none, some (.int v19), none] [] S D20 (z_ko (z_kV S)) (F_X1_readClause_J44 N o v19 D20) := by
    intro v19 D20
    unfold F_X1_readClause_J44
    refine z_iconst (v := 0) dX1_readClause_44 rfl ?_
    exact hJ_F_X1_readClause_J45x v19 D20
  have hJ_F_X1_readClause_J26 : ∀ (v15 : Int32) (D16 : z_Dat) , z_F l M_X1_readClause (70, 700, 0, 0) 0 0 26 [some (.ref o), some (.ref 1), none, some (.int v15), none] [] S D16 (z_ko (z_kV S)) (F_X1_readClause_J26 N o v15 D16) := by
    intro v15 D16
    unfold F_X1_readClause_J26
    refine z_iload_n (i := 3) (x := v15) dX1_readClause_26 rfl rfl ?_
    refine z_iconst (v := 1) dX1_readClause_27 rfl ?_
    refine z_icmp_ne 44 dX1_readClause_28 (by decide) (fun c17 => ?_) (fun c17 => ?_)
    · refine z_aload_n (i := 0) (x := o) dX1_readClause_31 rfl rfl ?_
      refine z_getI (j := 6) dX1_readClause_32 kl_1 hC.1 (by decide) rfl rfl kf_X1_58 ?_
      refine z_bipush (v := 8) dX1_readClause_35 (by decide) ?_
      refine z_icmp_lt 44 dX1_readClause_37 (by decide) (fun c18 => ?_) (fun c18 => ?_)
      · exact hJ_F_X1_readClause_J44 v15 D16
      · exact hJ_F_X1_readClause_J40 v15 D16
    · exact hJ_F_X1_readClause_J44 v15 D16
  refine z_aload_n (i := 1) (x := 1) dX1_readClause_0 rfl rfl ?_
  refine z_ldcS 0 (by decide) dX1_readClause_1 rfl rfl ?_
  refine z_cWI (As := [.ref 1, .retAddr 0]) (rest := []) (em_X8_takesWordOf (w := 0) hl hW (by decide) N D) (fun o7 h => z_runV 51 1 h rfl kk_X1_51 hs1 kl_8.1 kq_X8_takesWordOf rfl (Nat.le_of_ble_eq_true rfl) ⟨Nat.le_of_ble_eq_true rfl, Nat.le_of_ble_eq_true rfl, Nat.le_of_ble_eq_true rfl, Nat.le_of_ble_eq_true rfl⟩ dX1_readClause_3) z_gWV (fun a_2 hz1 => ?_)
  refine z_istore_n (i := 3) (x := a_2.1) (lv' := [some (.ref o), some (.ref 1), some (.int a0), some (.int a_2.1), none]) dX1_readClause_6 rfl (by decide) rfl rfl ?_
  refine z_iload_n (i := 2) (x := a0) dX1_readClause_7 rfl rfl ?_
  refine z_bipush (v := 60) dX1_readClause_8 (by decide) ?_
  refine z_icmp_ge 40 dX1_readClause_10 (by decide) (fun c3 => ?_) (fun c3 => ?_)
  · refine z_weak (lv' := [some (.ref o), some (.ref 1), none, some (.int a_2.1), none]) ⟨Or.inr rfl, ⟨Or.inr rfl, ⟨Or.inl rfl, ⟨Or.inr rfl, ⟨Or.inl rfl, trivial⟩⟩⟩⟩⟩ ?_
    exact hJ_F_X1_readClause_J40 a_2.1 a_2.2
  · refine z_iload_n (i := 3) (x := a_2.1) dX1_readClause_13 rfl rfl ?_
    refine z_if_ne 26 dX1_readClause_14 (by decide) (fun c13 => ?_) (fun c13 => ?_)
    · refine z_aload_n (i := 0) (x := o) dX1_readClause_17 rfl rfl ?_
      refine z_getI (j := 5) dX1_readClause_18 kl_1 hC.1 (by decide) rfl rfl kf_X1_55 ?_
      refine z_bipush (v := 6) dX1_readClause_21 (by decide) ?_
      refine z_icmp_ge 40 dX1_readClause_23 (by decide) (fun c14 => ?_) (fun c14 => ?_)
      · refine z_weak (lv' := [some (.ref o), some (.ref 1), none, some (.int a_2.1), none]) ⟨Or.inr rfl, ⟨Or.inr rfl, ⟨Or.inl rfl, ⟨Or.inr rfl, ⟨Or.inl rfl, trivial⟩⟩⟩⟩⟩ ?_
        exact hJ_F_X1_readClause_J40 a_2.1 a_2.2
      · refine z_weak (lv' := [some (.ref o), some (.ref 1), none, some (.int a_2.1), none]) ⟨Or.inr rfl, ⟨Or.inr rfl, ⟨Or.inl rfl, ⟨Or.inr rfl, ⟨Or.inl rfl, trivial⟩⟩⟩⟩⟩ ?_
        exact hJ_F_X1_readClause_J26 a_2.1 a_2.2
    · refine z_weak (lv' := [some (.ref o), some (.ref 1), none, some (.int a_2.1), none]) ⟨Or.inr rfl, ⟨Or.inr rfl, ⟨Or.inl rfl, ⟨Or.inr rfl, ⟨Or.inl rfl, trivial⟩⟩⟩⟩⟩ ?_
      exact hJ_F_X1_readClause_J26 a_2.1 a_2.2

def F_X8_needSign (N : Nat) (a0 : Int32) (D : z_Dat) : Option z_Dat :=
  if (F_X8_failed D) = 0 then (z_bd (F_X8_byteAt (D 1 3) D) (fun a_4 => if a_4 = a0 then (z_bd (F_X8_pass N 1 D) (fun a_7 => some a_7))
  else (z_let (F_X8_fail 1 (D 1 3) D) (fun a_9 => some a_9))))
  else (z_let (F_X8_fail 1 (D 1 3) D) (fun a_11 => some a_11))
set_option maxRecDepth 100000 in
set_option maxHeartbeats 4000000 in
theorem em_X8_needSign {l : Launch} {S : List z_Shp} {oW : Nat} (hl : l.stackTraces = false) (hW : z_W S oW) (N : Nat) (a0 : Int32) (D : z_Dat) : ∀ out, z_ko (z_kV S) (F_X8_needSign N a0 D) out → z_EM l M_X8_needSign (30, 580, 0, 0) [.ref 1, .int a0] S D out := by
  have hs1 : S[1]? = some (10, 7, [some (some 2), none, none, none, none, none, none]) := hW.1 1 _ rfl
  refine z_meth hl rfl kp_X8 (Nat.le_of_ble_eq_true rfl) (lv := [some (.ref 1), some (.int a0)]) rfl ?_
  unfold F_X8_needSign
  refine z_aload_n (i := 0) (x := 1) dX8_needSign_0 rfl rfl ?_
  refine z_cP (As := [.ref 1]) (rest := []) (em_X8_failed hl hW D) (fun o7 h => z_runV 43 0 h rfl kk_X8_43 hs1 kl_8.1 kq_X8_failed rfl (Nat.le_of_ble_eq_true rfl) ⟨Nat.le_of_ble_eq_true rfl, Nat.le_of_ble_eq_true rfl, Nat.le_of_ble_eq_true rfl, Nat.le_of_ble_eq_true rfl⟩ dX8_needSign_1) z_gWV (fun hz1 => ?_)
  refine z_if_ne 19 dX8_needSign_4 (by decide) (fun c2 => ?_) (fun c2 => ?_)
  · refine z_aload_n (i := 0) (x := 1) dX8_needSign_7 rfl rfl ?_
    refine z_aload_n (i := 0) (x := 1) dX8_needSign_8 rfl rfl ?_
    refine z_getI (j := 3) dX8_needSign_9 kl_8 hs1 (by decide) rfl rfl kf_X8_29 ?_
    refine z_cR (As := [.ref 1, .int (D 1 3)]) (rest := []) (em_X8_byteAt hl hW (D 1 3) D) (fun o7 h => z_runV 39 1 h rfl kk_X8_39 hs1 kl_8.1 kq_X8_byteAt rfl (Nat.le_of_ble_eq_true rfl) ⟨Nat.le_of_ble_eq_true rfl, Nat.le_of_ble_eq_true rfl, Nat.le_of_ble_eq_true rfl, Nat.le_of_ble_eq_true rfl⟩ dX8_needSign_12) z_gWV (fun a_4 hz3 => ?_)
    refine z_iload_n (i := 1) (x := a0) dX8_needSign_15 rfl rfl ?_
    refine z_icmp_eq 31 dX8_needSign_16 (by decide) (fun c5 => ?_) (fun c5 => ?_)
    · refine z_aload_n (i := 0) (x := 1) dX8_needSign_31 rfl rfl ?_
      refine z_iconst (v := 1) dX8_needSign_32 rfl ?_
      refine z_cWV (As := [.ref 1, .int 1]) (rest := []) (em_X8_pass hl hW N 1 D) (fun o7 h => z_runV 35 1 h rfl kk_X8_35 hs1 kl_8.1 kq_X8_pass rfl (Nat.le_of_ble_eq_true rfl) ⟨Nat.le_of_ble_eq_true rfl, Nat.le_of_ble_eq_true rfl, Nat.le_of_ble_eq_true rfl, Nat.le_of_ble_eq_true rfl⟩ dX8_needSign_33) z_gWV (fun a_7 hz6 => ?_)
      exact z_vreturn dX8_needSign_36 z_rWV trivial (by decide) (by decide)
    · refine z_aload_n (i := 0) (x := 1) dX8_needSign_19 rfl rfl ?_
      refine z_iconst (v := 1) dX8_needSign_20 rfl ?_
      refine z_aload_n (i := 0) (x := 1) dX8_needSign_21 rfl rfl ?_
      refine z_getI (j := 3) dX8_needSign_22 kl_8 hs1 (by decide) rfl rfl kf_X8_29 ?_
      refine z_cTV (As := [.ref 1, .int 1, .int (D 1 3)]) (rest := []) (em_X8_fail hl hW 1 (D 1 3) D) (fun o7 h => z_runV 47 2 h rfl kk_X8_47 hs1 kl_8.1 kq_X8_fail rfl (Nat.le_of_ble_eq_true rfl) ⟨Nat.le_of_ble_eq_true rfl, Nat.le_of_ble_eq_true rfl, Nat.le_of_ble_eq_true rfl, Nat.le_of_ble_eq_true rfl⟩ dX8_needSign_25) z_gWV (fun a_9 hz8 => ?_)
      refine z_goto 36 dX8_needSign_28 (by decide) ?_
      exact z_vreturn dX8_needSign_36 z_rWV trivial (by decide) (by decide)
  · refine z_aload_n (i := 0) (x := 1) dX8_needSign_19 rfl rfl ?_
    refine z_iconst (v := 1) dX8_needSign_20 rfl ?_
    refine z_aload_n (i := 0) (x := 1) dX8_needSign_21 rfl rfl ?_
    refine z_getI (j := 3) dX8_needSign_22 kl_8 hs1 (by decide) rfl rfl kf_X8_29 ?_
    refine z_cTV (As := [.ref 1, .int 1, .int (D 1 3)]) (rest := []) (em_X8_fail hl hW 1 (D 1 3) D) (fun o7 h => z_runV 47 2 h rfl kk_X8_47 hs1 kl_8.1 kq_X8_fail rfl (Nat.le_of_ble_eq_true rfl) ⟨Nat.le_of_ble_eq_true rfl, Nat.le_of_ble_eq_true rfl, Nat.le_of_ble_eq_true rfl, Nat.le_of_ble_eq_true rfl⟩ dX8_needSign_25) z_gWV (fun a_11 hz10 => ?_)
    refine z_goto 36 dX8_needSign_28 (by decide) ?_
    exact z_vreturn dX8_needSign_36 z_rWV trivial (by decide) (by decide)

def F_X1_read_L2 (N : Nat) (o : Nat) (kc3 : ((Int32 × z_Dat) → Option z_Dat)) (v1 : Int32) (D2 : z_Dat) : Option z_Dat :=
  if 600 ≤ v1 then (some D2)
  else (if (F_X8_failed D2) = 0 then (z_bd (F_X8_next D2) (fun a_8 => if a_8 = (-1) then (some D2)
  else (z_bd (F_X1_readClause N o v1 D2) (fun a_11 => z_bd (F_X8_needSign N 59 a_11) (fun a_13 => z_let (v1 + 1) (fun v14 => kc3 (v14, a_13)))))))
  else (some D2))
def F_X1_read (N : Nat) (o : Nat) (D : z_Dat) : Option z_Dat :=
  z_loop (fun kc3 s => F_X1_read_L2 N o kc3 s.1 s.2) N (0, D)
set_option maxRecDepth 100000 in
set_option maxHeartbeats 4000000 in
theorem em_X1_read {l : Launch} {S : List z_Shp} {oW : Nat} {o : Nat} (hl : l.stackTraces = false) (hW : z_W S oW) (hC : z_isCity S o) (N : Nat) (D : z_Dat) : ∀ out, z_ko (z_kV S) (F_X1_read N o D) out → z_EM l M_X1_read (80, 760, 0, 0) [.ref o, .ref 1] S D out := by
  have hs1 : S[1]? = some (10, 7, [some (some 2), none, none, none, none, none, none]) := hW.1 1 _ rfl
  refine z_meth hl rfl kp_X1 (Nat.le_of_ble_eq_true rfl) (lv := [some (.ref o), some (.ref 1), none]) rfl ?_
  unfold F_X1_read
  refine z_iconst (v := 0) dX1_read_0 rfl ?_
  refine z_istore_n (i := 2) (x := 0) (lv' := [some (.ref o), some (.ref 1), some (.int 0)]) dX1_read_1 rfl (by decide) rfl rfl ?_
  refine z_loops (lvOf := fun s : Int32 × z_Dat => [some (.ref o), some (.ref 1), some (.int s.1)]) (dOf := fun s : Int32 × z_Dat => s.2) (fun kc3 hkc3 s => ?_) N (0, D)
  obtain ⟨v1, D2⟩ := s
  show z_F _ _ _ _ _ 2 [some (.ref o), some (.ref 1), some (.int v1)] [] S D2 _ (F_X1_read_L2 N o kc3 v1 D2)
  unfold F_X1_read_L2
  refine z_iload_n (i := 2) (x := v1) dX1_read_2 rfl rfl ?_
  refine z_sipush (v := 600) dX1_read_3 (by decide) ?_
  refine z_icmp_ge 42 dX1_read_6 (by decide) (fun c4 => ?_) (fun c4 => ?_)
  · exact z_vreturn dX1_read_42 z_rWV trivial (by decide) (by decide)
  · refine z_aload_n (i := 1) (x := 1) dX1_read_9 rfl rfl ?_
    refine z_cP (As := [.ref 1]) (rest := []) (em_X8_failed hl hW D2) (fun o7 h => z_runV 31 0 h rfl kk_X1_31 hs1 kl_8.1 kq_X8_failed rfl (Nat.le_of_ble_eq_true rfl) ⟨Nat.le_of_ble_eq_true rfl, Nat.le_of_ble_eq_true rfl, Nat.le_of_ble_eq_true rfl, Nat.le_of_ble_eq_true rfl⟩ dX1_read_10) z_gWV (fun hz5 => ?_)
    refine z_if_ne 42 dX1_read_13 (by decide) (fun c6 => ?_) (fun c6 => ?_)
    · refine z_aload_n (i := 1) (x := 1) dX1_read_16 rfl rfl ?_
      refine z_cR (As := [.ref 1]) (rest := []) (em_X8_next hl hW D2) (fun o7 h => z_runV 37 0 h rfl kk_X1_37 hs1 kl_8.1 kq_X8_next rfl (Nat.le_of_ble_eq_true rfl) ⟨Nat.le_of_ble_eq_true rfl, Nat.le_of_ble_eq_true rfl, Nat.le_of_ble_eq_true rfl, Nat.le_of_ble_eq_true rfl⟩ dX1_read_17) z_gWV (fun a_8 hz7 => ?_)
      refine z_iconst (v := (-1)) dX1_read_20 rfl ?_
      refine z_icmp_eq 42 dX1_read_21 (by decide) (fun c9 => ?_) (fun c9 => ?_)
      · exact z_vreturn dX1_read_42 z_rWV trivial (by decide) (by decide)
      · refine z_aload_n (i := 0) (x := o) dX1_read_24 rfl rfl ?_
        refine z_aload_n (i := 1) (x := 1) dX1_read_25 rfl rfl ?_
        refine z_iload_n (i := 2) (x := v1) dX1_read_26 rfl rfl ?_
        refine z_cWV (As := [.ref o, .ref 1, .int v1]) (rest := []) (em_X1_readClause hl hW hC N v1 D2) (fun o7 h => z_runV 41 2 h rfl kk_X1_41 hC.1 kl_1.1 kq_X1_readClause rfl (Nat.le_of_ble_eq_true rfl) ⟨Nat.le_of_ble_eq_true rfl, Nat.le_of_ble_eq_true rfl, Nat.le_of_ble_eq_true rfl, Nat.le_of_ble_eq_true rfl⟩ dX1_read_27) z_gWV (fun a_11 hz10 => ?_)
        refine z_aload_n (i := 1) (x := 1) dX1_read_30 rfl rfl ?_
        refine z_bipush (v := 59) dX1_read_31 (by decide) ?_
        refine z_cWV (As := [.ref 1, .int 59]) (rest := []) (em_X8_needSign hl hW N 59 a_11) (fun o7 h => z_runV 45 1 h rfl kk_X1_45 hs1 kl_8.1 kq_X8_needSign rfl (Nat.le_of_ble_eq_true rfl) ⟨Nat.le_of_ble_eq_true rfl, Nat.le_of_ble_eq_true rfl, Nat.le_of_ble_eq_true rfl, Nat.le_of_ble_eq_true rfl⟩ dX1_read_33) z_gWV (fun a_13 hz12 => ?_)
        refine z_iinc (i := 2) (x := v1) (y := 1) dX1_read_36 rfl (by decide) (by decide) rfl (fun v14 => ?_)
        refine z_goto 2 dX1_read_39 (by decide) ?_
        exact hkc3 (v14, a_13)
    · exact z_vreturn dX1_read_42 z_rWV trivial (by decide) (by decide)

def F_X8_verdict (D : z_Dat) : Int32 :=
  (D 1 5) - 10
set_option maxRecDepth 100000 in
set_option maxHeartbeats 4000000 in
theorem em_X8_verdict {l : Launch} {S : List z_Shp} {oW : Nat} (hl : l.stackTraces = false) (hW : z_W S oW) (D : z_Dat) : ∀ out, z_kt (z_kR S D) (F_X8_verdict D) out → z_EM l M_X8_verdict (20, 520, 0, 0) [.ref 1] S D out := by
  have hs1 : S[1]? = some (10, 7, [some (some 2), none, none, none, none, none, none]) := hW.1 1 _ rfl
  refine z_meth hl rfl kp_X8 (Nat.le_of_ble_eq_true rfl) (lv := [some (.ref 1)]) rfl ?_
  unfold F_X8_verdict
  refine z_aload_n (i := 0) (x := 1) dX8_verdict_0 rfl rfl ?_
  refine z_getI (j := 5) dX8_verdict_1 kl_8 hs1 (by decide) rfl rfl kf_X8_32 ?_
  refine z_bipush (v := 10) dX8_verdict_4 (by decide) ?_
  refine z_isub dX8_verdict_6 ?_
  exact z_ireturn dX8_verdict_7 z_rP rfl (by decide) (by decide)

def F_X10_fill_L2 (r0 : Nat) (n0 : Nat) (a0 : Int32) (kc3 : ((Int32 × z_Dat) → Option z_Dat)) (v1 : Int32) (D2 : z_Dat) : Option z_Dat :=
  if (Int32.ofNat n0) ≤ v1 then (some D2)
  else (if z_inb v1 n0 then z_let (z_up D2 r0 (z_ix v1) a0) (fun D5 => z_let (v1 + 1) (fun v6 => kc3 (v6, D5))) else none)
def F_X10_fill (N : Nat) (r0 : Nat) (n0 : Nat) (a0 : Int32) (D : z_Dat) : Option z_Dat :=
  z_loop (fun kc3 s => F_X10_fill_L2 r0 n0 a0 kc3 s.1 s.2) N (0, D)
set_option maxRecDepth 100000 in
set_option maxHeartbeats 4000000 in
theorem em_X10_fill {l : Launch} {S : List z_Shp} {r0 : Nat} {n0 : Nat} (hl : l.stackTraces = false) (hr0 : S[r0]? = some (0, n0, [])) (hn0 : n0 < 2147483648) (N : Nat) (a0 : Int32) (D : z_Dat) : ∀ out, z_ko (z_kV S) (F_X10_fill N r0 n0 a0 D) out → z_EM l M_X10_fill (20, 520, 0, 0) [.ref r0, .int a0] S D out := by
  refine z_meth hl rfl kp_X10 (Nat.le_of_ble_eq_true rfl) (lv := [some (.ref r0), some (.int a0), none]) rfl ?_
  unfold F_X10_fill
  refine z_iconst (v := 0) dX10_fill_0 rfl ?_
  refine z_istore_n (i := 2) (x := 0) (lv' := [some (.ref r0), some (.int a0), some (.int 0)]) dX10_fill_1 rfl (by decide) rfl rfl ?_
  refine z_loops (lvOf := fun s : Int32 × z_Dat => [some (.ref r0), some (.int a0), some (.int s.1)]) (dOf := fun s : Int32 × z_Dat => s.2) (fun kc3 hkc3 s => ?_) N (0, D)
  obtain ⟨v1, D2⟩ := s
  show z_F _ _ _ _ _ 2 [some (.ref r0), some (.int a0), some (.int v1)] [] S D2 _ (F_X10_fill_L2 r0 n0 a0 kc3 v1 D2)
  unfold F_X10_fill_L2
  refine z_iload_n (i := 2) (x := v1) dX10_fill_2 rfl rfl ?_
  refine z_aload_n (i := 0) (x := r0) dX10_fill_3 rfl rfl ?_
  refine z_alen (v := Int32.ofNat n0) dX10_fill_4 hr0 rfl ?_
  refine z_icmp_ge 18 dX10_fill_5 (by decide) (fun c4 => ?_) (fun c4 => ?_)
  · exact z_vreturn dX10_fill_18 z_rWV trivial (by decide) (by decide)
  · refine z_aload_n (i := 0) (x := r0) dX10_fill_8 rfl rfl ?_
    refine z_iload_n (i := 2) (x := v1) dX10_fill_9 rfl rfl ?_
    refine z_iload_n (i := 1) (x := a0) dX10_fill_10 rfl rfl ?_
    refine z_iast dX10_fill_11 hr0 (fun D5 => ?_)
    refine z_iinc (i := 2) (x := v1) (y := 1) dX10_fill_12 rfl (by decide) (by decide) rfl (fun v6 => ?_)
    refine z_goto 2 dX10_fill_15 (by decide) ?_
    exact hkc3 (v6, D5)

def F_X10_at (r0 : Nat) (n0 : Nat) (a0 : Int32) (D : z_Dat) : Int32 :=
  if a0 < 0 then (0)
  else (if (Int32.ofNat n0) ≤ a0 then (0)
  else (D r0 (z_ix a0)))
set_option maxRecDepth 100000 in
set_option maxHeartbeats 4000000 in
theorem em_X10_at {l : Launch} {S : List z_Shp} {r0 : Nat} {n0 : Nat} (hl : l.stackTraces = false) (hr0 : S[r0]? = some (0, n0, [])) (hn0 : n0 < 2147483648) (a0 : Int32) (D : z_Dat) : ∀ out, z_kt (z_kR S D) (F_X10_at r0 n0 a0 D) out → z_EM l M_X10_at (20, 520, 0, 0) [.ref r0, .int a0] S D out := by
  refine z_meth hl rfl kp_X10 (Nat.le_of_ble_eq_true rfl) (lv := [some (.ref r0), some (.int a0)]) rfl ?_
  unfold F_X10_at
  refine z_iload_n (i := 1) (x := a0) dX10_at_0 rfl rfl ?_
  refine z_if_lt 16 dX10_at_1 (by decide) (fun c1 => ?_) (fun c1 => ?_)
  · refine z_iconst (v := 0) dX10_at_16 rfl ?_
    exact z_ireturn dX10_at_17 z_rP rfl (by decide) (by decide)
  · refine z_iload_n (i := 1) (x := a0) dX10_at_4 rfl rfl ?_
    refine z_aload_n (i := 0) (x := r0) dX10_at_5 rfl rfl ?_
    refine z_alen (v := Int32.ofNat n0) dX10_at_6 hr0 rfl ?_
    refine z_icmp_ge 16 dX10_at_7 (by decide) (fun c2 => ?_) (fun c2 => ?_)
    · refine z_iconst (v := 0) dX10_at_16 rfl ?_
      exact z_ireturn dX10_at_17 z_rP rfl (by decide) (by decide)
    · refine z_aload_n (i := 0) (x := r0) dX10_at_10 rfl rfl ?_
      refine z_iload_n (i := 1) (x := a0) dX10_at_11 rfl rfl ?_
      refine z_ialdC dX10_at_12 hr0 (z_vpin c1 c2 hn0) ?_
      refine z_goto 17 dX10_at_13 (by decide) ?_
      exact z_ireturn dX10_at_17 z_rP rfl (by decide) (by decide)

def F_X9_set (t : Nat) (a0 : Int32) (a1 : Int32) (a2 : Int32) (D : z_Dat) : z_Dat :=
  z_let (F_X10_put (t + 1) 44 ((a0 * 5) + a1) a2 D) (fun a_2 => a_2)
set_option maxRecDepth 100000 in
set_option maxHeartbeats 4000000 in
theorem em_X9_set {l : Launch} {S : List z_Shp} {t : Nat} (hl : l.stackTraces = false) (hT : z_isTown S t) (a0 : Int32) (a1 : Int32) (a2 : Int32) (D : z_Dat) : ∀ out, z_kt (z_kV S) (F_X9_set t a0 a1 a2 D) out → z_EM l M_X9_set (30, 580, 0, 0) [.ref t, .int a0, .int a1, .int a2] S D out := by
  refine z_meth hl rfl kp_X9 (Nat.le_of_ble_eq_true rfl) (lv := [some (.ref t), some (.int a0), some (.int a1), some (.int a2)]) rfl ?_
  unfold F_X9_set
  refine z_aload_n (i := 0) (x := t) dX9_set_0 rfl rfl ?_
  refine z_getR (j := 0) dX9_set_1 kl_9 hT.1 (by decide) rfl rfl kf_X9_9 ?_
  refine z_iload_n (i := 1) (x := a0) dX9_set_4 rfl rfl ?_
  refine z_iconst (v := 5) dX9_set_5 rfl ?_
  refine z_imul dX9_set_6 ?_
  refine z_iload_n (i := 2) (x := a1) dX9_set_7 rfl rfl ?_
  refine z_iadd dX9_set_8 ?_
  refine z_iload_n (i := 3) (x := a2) dX9_set_9 rfl rfl ?_
  refine z_cTV (As := [.ref (t + 1), .int ((a0 * 5) + a1), .int a2]) (rest := []) (em_X10_put (n0 := 44) hl hT.2 (by decide) ((a0 * 5) + a1) a2 D) (fun o7 h => z_runSN 43 3 h rfl kk_X9_43 kn_X9_43 kq_X10_put rfl (Nat.le_of_ble_eq_true rfl) ⟨Nat.le_of_ble_eq_true rfl, Nat.le_of_ble_eq_true rfl, Nat.le_of_ble_eq_true rfl, Nat.le_of_ble_eq_true rfl⟩ dX9_set_10) z_gTV (fun a_2 hz1 => ?_)
  exact z_vreturn dX9_set_13 z_rTV trivial (by decide) (by decide)

def F_X10_copy_L3 (r0 : Nat) (n0 : Nat) (r1 : Nat) (n1 : Nat) (a0 : Int32) (a1 : Int32) (a2 : Int32) (kc3 : ((Int32 × z_Dat) → Option z_Dat)) (v1 : Int32) (D2 : z_Dat) : Option z_Dat :=
  if a2 ≤ v1 then (some D2)
  else (z_let (F_X10_put r1 n1 (a1 + v1) (F_X10_at r0 n0 (a0 + v1) D2) D2) (fun a_7 => z_let (v1 + 1) (fun v8 => kc3 (v8, a_7))))
def F_X10_copy (N : Nat) (r0 : Nat) (n0 : Nat) (r1 : Nat) (n1 : Nat) (a0 : Int32) (a1 : Int32) (a2 : Int32) (D : z_Dat) : Option z_Dat :=
  z_loop (fun kc3 s => F_X10_copy_L3 r0 n0 r1 n1 a0 a1 a2 kc3 s.1 s.2) N (0, D)
set_option maxRecDepth 100000 in
set_option maxHeartbeats 4000000 in
theorem em_X10_copy {l : Launch} {S : List z_Shp} {r0 : Nat} {n0 : Nat} {r1 : Nat} {n1 : Nat} (hl : l.stackTraces = false) (hr0 : S[r0]? = some (0, n0, [])) (hn0 : n0 < 2147483648) (hr1 : S[r1]? = some (0, n1, [])) (hn1 : n1 < 2147483648) (N : Nat) (a0 : Int32) (a1 : Int32) (a2 : Int32) (D : z_Dat) : ∀ out, z_ko (z_kV S) (F_X10_copy N r0 n0 r1 n1 a0 a1 a2 D) out → z_EM l M_X10_copy (30, 580, 0, 0) [.ref r0, .int a0, .ref r1, .int a1, .int a2] S D out := by
  refine z_meth hl rfl kp_X10 (Nat.le_of_ble_eq_true rfl) (lv := [some (.ref r0), some (.int a0), some (.ref r1), some (.int a1), some (.int a2), none]) rfl ?_
  unfold F_X10_copy
  refine z_iconst (v := 0) dX10_copy_0 rfl ?_
  refine z_istore (i := 5) (x := 0) (lv' := [some (.ref r0), some (.int a0), some (.ref r1), some (.int a1), some (.int a2), some (.int 0)]) dX10_copy_1 (by decide) rfl rfl ?_
  refine z_loops (lvOf := fun s : Int32 × z_Dat => [some (.ref r0), some (.int a0), some (.ref r1), some (.int a1), some (.int a2), some (.int s.1)]) (dOf := fun s : Int32 × z_Dat => s.2) (fun kc3 hkc3 s => ?_) N (0, D)
  obtain ⟨v1, D2⟩ := s
  show z_F _ _ _ _ _ 3 [some (.ref r0), some (.int a0), some (.ref r1), some (.int a1), some (.int a2), some (.int v1)] [] S D2 _ (F_X10_copy_L3 r0 n0 r1 n1 a0 a1 a2 kc3 v1 D2)
  unfold F_X10_copy_L3
  refine z_iload (i := 5) (x := v1) dX10_copy_3 rfl ?_
  refine z_iload (i := 4) (x := a2) dX10_copy_5 rfl ?_
  refine z_icmp_ge 32 dX10_copy_7 (by decide) (fun c4 => ?_) (fun c4 => ?_)
  · exact z_vreturn dX10_copy_32 z_rWV trivial (by decide) (by decide)
  · refine z_aload_n (i := 2) (x := r1) dX10_copy_10 rfl rfl ?_
    refine z_iload_n (i := 3) (x := a1) dX10_copy_11 rfl rfl ?_
    refine z_iload (i := 5) (x := v1) dX10_copy_12 rfl ?_
    refine z_iadd dX10_copy_14 ?_
    refine z_aload_n (i := 0) (x := r0) dX10_copy_15 rfl rfl ?_
    refine z_iload_n (i := 1) (x := a0) dX10_copy_16 rfl rfl ?_
    refine z_iload (i := 5) (x := v1) dX10_copy_17 rfl ?_
    refine z_iadd dX10_copy_19 ?_
    refine z_cP (As := [.ref r0, .int (a0 + v1)]) (rest := [.int (a1 + v1), .ref r1]) (em_X10_at (n0 := n0) hl hr0 hn0 (a0 + v1) D2) (fun o7 h => z_runS 375 2 h rfl kk_X10_375 kq_X10_at rfl (Nat.le_of_ble_eq_true rfl) ⟨Nat.le_of_ble_eq_true rfl, Nat.le_of_ble_eq_true rfl, Nat.le_of_ble_eq_true rfl, Nat.le_of_ble_eq_true rfl⟩ dX10_copy_20) z_gWV (fun hz5 => ?_)
    refine z_cTV (As := [.ref r1, .int (a1 + v1), .int (F_X10_at r0 n0 (a0 + v1) D2)]) (rest := []) (em_X10_put (n0 := n1) hl hr1 hn1 (a1 + v1) (F_X10_at r0 n0 (a0 + v1) D2) D2) (fun o7 h => z_runS 371 3 h rfl kk_X10_371 kq_X10_put rfl (Nat.le_of_ble_eq_true rfl) ⟨Nat.le_of_ble_eq_true rfl, Nat.le_of_ble_eq_true rfl, Nat.le_of_ble_eq_true rfl, Nat.le_of_ble_eq_true rfl⟩ dX10_copy_23) z_gWV (fun a_7 hz6 => ?_)
    refine z_iinc (i := 5) (x := v1) (y := 1) dX10_copy_26 rfl (by decide) (by decide) rfl (fun v8 => ?_)
    refine z_goto 3 dX10_copy_29 (by decide) ?_
    exact hkc3 (v8, a_7)

def F_X9_settle_L10 (N : Nat) (t : Nat) (o : Nat) (kc5 : ((Int32 × z_Dat) → Option z_Dat)) (v3 : Int32) (D4 : z_Dat) : Option z_Dat :=
  if (D4 o 6) ≤ v3 then (z_bd (F_X10_copy N (o + 5) 3 (t + 1) 44 0 40 3 D4) (fun a_8 => some a_8))
  else (z_let (F_X9_set t v3 1 (F_X10_at (o + 4) 8 v3 D4) D4) (fun a_11 => z_let (F_X9_set t v3 3 (-1) a_11) (fun a_13 => z_let (v3 + 1) (fun v14 => kc5 (v14, a_13)))))
def F_X9_settle (N : Nat) (t : Nat) (o : Nat) (D : z_Dat) : Option z_Dat :=
  z_bd (F_X10_fill N (t + 1) 44 0 D) (fun a_2 => z_loop (fun kc5 s => F_X9_settle_L10 N t o kc5 s.1 s.2) N (0, a_2))
set_option maxRecDepth 100000 in
set_option maxHeartbeats 4000000 in
theorem em_X9_settle {l : Launch} {S : List z_Shp} {oW : Nat} {t : Nat} {o : Nat} (hl : l.stackTraces = false) (hW : z_W S oW) (hT : z_isTown S t) (hC : z_isCity S o) (N : Nat) (D : z_Dat) : ∀ out, z_ko (z_kV S) (F_X9_settle N t o D) out → z_EM l M_X9_settle (40, 640, 0, 0) [.ref t, .ref o] S D out := by
  refine z_meth hl rfl kp_X9 (Nat.le_of_ble_eq_true rfl) (lv := [some (.ref t), some (.ref o), none]) rfl ?_
  unfold F_X9_settle
  refine z_aload_n (i := 0) (x := t) dX9_settle_0 rfl rfl ?_
  refine z_getR (j := 0) dX9_settle_1 kl_9 hT.1 (by decide) rfl rfl kf_X9_9 ?_
  refine z_iconst (v := 0) dX9_settle_4 rfl ?_
  refine z_cWV (As := [.ref (t + 1), .int 0]) (rest := []) (em_X10_fill (n0 := 44) hl hT.2 (by decide) N 0 D) (fun o7 h => z_runSN 15 2 h rfl kk_X9_15 kn_X9_15 kq_X10_fill rfl (Nat.le_of_ble_eq_true rfl) ⟨Nat.le_of_ble_eq_true rfl, Nat.le_of_ble_eq_true rfl, Nat.le_of_ble_eq_true rfl, Nat.le_of_ble_eq_true rfl⟩ dX9_settle_5) z_gWV (fun a_2 hz1 => ?_)
  refine z_iconst (v := 0) dX9_settle_8 rfl ?_
  refine z_istore_n (i := 2) (x := 0) (lv' := [some (.ref t), some (.ref o), some (.int 0)]) dX9_settle_9 rfl (by decide) rfl rfl ?_
  refine z_loops (lvOf := fun s : Int32 × z_Dat => [some (.ref t), some (.ref o), some (.int s.1)]) (dOf := fun s : Int32 × z_Dat => s.2) (fun kc5 hkc5 s => ?_) N (0, a_2)
  obtain ⟨v3, D4⟩ := s
  show z_F _ _ _ _ _ 10 [some (.ref t), some (.ref o), some (.int v3)] [] S D4 _ (F_X9_settle_L10 N t o kc5 v3 D4)
  unfold F_X9_settle_L10
  refine z_iload_n (i := 2) (x := v3) dX9_settle_10 rfl rfl ?_
  refine z_aload_n (i := 1) (x := o) dX9_settle_11 rfl rfl ?_
  refine z_getIN (j := 6) dX9_settle_12 kl_1 hC.1 (by decide) rfl rfl kf_X9_19 ?_
  refine z_icmp_ge 45 dX9_settle_15 (by decide) (fun c6 => ?_) (fun c6 => ?_)
  · refine z_aload_n (i := 1) (x := o) dX9_settle_45 rfl rfl ?_
    refine z_getRN (j := 4) dX9_settle_46 kl_1 hC.1 (by decide) rfl rfl kf_X9_36 ?_
    refine z_iconst (v := 0) dX9_settle_49 rfl ?_
    refine z_aload_n (i := 0) (x := t) dX9_settle_50 rfl rfl ?_
    refine z_getR (j := 0) dX9_settle_51 kl_9 hT.1 (by decide) rfl rfl kf_X9_9 ?_
    refine z_bipush (v := 40) dX9_settle_54 (by decide) ?_
    refine z_iconst (v := 3) dX9_settle_56 rfl ?_
    refine z_cWV (As := [.ref (o + 5), .int 0, .ref (t + 1), .int 40, .int 3]) (rest := []) (em_X10_copy (n0 := 3) (n1 := 44) hl hC.2.2.2.2.2 (by decide) hT.2 (by decide) N 0 40 3 D4) (fun o7 h => z_runSN 39 5 h rfl kk_X9_39 kn_X9_39 kq_X10_copy rfl (Nat.le_of_ble_eq_true rfl) ⟨Nat.le_of_ble_eq_true rfl, Nat.le_of_ble_eq_true rfl, Nat.le_of_ble_eq_true rfl, Nat.le_of_ble_eq_true rfl⟩ dX9_settle_57) z_gWV (fun a_8 hz7 => ?_)
    exact z_vreturn dX9_settle_60 z_rWV trivial (by decide) (by decide)
  · refine z_aload_n (i := 0) (x := t) dX9_settle_18 rfl rfl ?_
    refine z_iload_n (i := 2) (x := v3) dX9_settle_19 rfl rfl ?_
    refine z_iconst (v := 1) dX9_settle_20 rfl ?_
    refine z_aload_n (i := 1) (x := o) dX9_settle_21 rfl rfl ?_
    refine z_getRN (j := 3) dX9_settle_22 kl_1 hC.1 (by decide) rfl rfl kf_X9_25 ?_
    refine z_iload_n (i := 2) (x := v3) dX9_settle_25 rfl rfl ?_
    refine z_cP (As := [.ref (o + 4), .int v3]) (rest := [.int 1, .int v3, .ref t]) (em_X10_at (n0 := 8) hl hC.2.2.2.2.1 (by decide) v3 D4) (fun o7 h => z_runSN 28 2 h rfl kk_X9_28 kn_X9_28 kq_X10_at rfl (Nat.le_of_ble_eq_true rfl) ⟨Nat.le_of_ble_eq_true rfl, Nat.le_of_ble_eq_true rfl, Nat.le_of_ble_eq_true rfl, Nat.le_of_ble_eq_true rfl⟩ dX9_settle_26) z_gWV (fun hz9 => ?_)
    refine z_cTV (As := [.ref t, .int v3, .int 1, .int (F_X10_at (o + 4) 8 v3 D4)]) (rest := []) (em_X9_set hl hT v3 1 (F_X10_at (o + 4) 8 v3 D4) D4) (fun o7 h => z_runV 32 3 h rfl kk_X9_32 hT.1 kl_9.1 kq_X9_set rfl (Nat.le_of_ble_eq_true rfl) ⟨Nat.le_of_ble_eq_true rfl, Nat.le_of_ble_eq_true rfl, Nat.le_of_ble_eq_true rfl, Nat.le_of_ble_eq_true rfl⟩ dX9_settle_29) z_gWV (fun a_11 hz10 => ?_)
    refine z_aload_n (i := 0) (x := t) dX9_settle_32 rfl rfl ?_
    refine z_iload_n (i := 2) (x := v3) dX9_settle_33 rfl rfl ?_
    refine z_iconst (v := 3) dX9_settle_34 rfl ?_
    refine z_iconst (v := (-1)) dX9_settle_35 rfl ?_
    refine z_cTV (As := [.ref t, .int v3, .int 3, .int (-1)]) (rest := []) (em_X9_set hl hT v3 3 (-1) a_11) (fun o7 h => z_runV 32 3 h rfl kk_X9_32 hT.1 kl_9.1 kq_X9_set rfl (Nat.le_of_ble_eq_true rfl) ⟨Nat.le_of_ble_eq_true rfl, Nat.le_of_ble_eq_true rfl, Nat.le_of_ble_eq_true rfl, Nat.le_of_ble_eq_true rfl⟩ dX9_settle_36) z_gWV (fun a_13 hz12 => ?_)
    refine z_iinc (i := 2) (x := v3) (y := 1) dX9_settle_39 rfl (by decide) (by decide) rfl (fun v14 => ?_)
    refine z_goto 10 dX9_settle_42 (by decide) ?_
    exact hkc5 (v14, a_13)

def F_X5_repeal (D : z_Dat) : z_Dat :=
  z_let (z_up D 7 6 0) (fun D1 => D1)
set_option maxRecDepth 100000 in
set_option maxHeartbeats 4000000 in
theorem em_X5_repeal {l : Launch} {S : List z_Shp} {oW : Nat} (hl : l.stackTraces = false) (hW : z_W S oW) (D : z_Dat) : ∀ out, z_kt (z_kV S) (F_X5_repeal D) out → z_EM l M_X5_repeal (20, 520, 0, 0) [.ref 7] S D out := by
  have hs7 : S[7]? = some (7, 7, [some (some 8), some (some 9), some (some 10), some (some 11), none, none, none]) := hW.1 7 _ rfl
  refine z_meth hl rfl kp_X5 (Nat.le_of_ble_eq_true rfl) (lv := [some (.ref 7)]) rfl ?_
  unfold F_X5_repeal
  refine z_aload_n (i := 0) (x := 7) dX5_repeal_0 rfl rfl ?_
  refine z_iconst (v := 0) dX5_repeal_1 rfl ?_
  refine z_putI (j := 6) dX5_repeal_2 kl_5 tyX5_ok nmX5 hs7 (by decide) rfl rfl rfl rfl (by decide) (by decide) kf_X5_24 (fun D1 => ?_)
  exact z_vreturn dX5_repeal_5 z_rTV trivial (by decide) (by decide)

def F_X0_clear (N : Nat) (D : z_Dat) : Option z_Dat :=
  z_bd (F_X10_fill N 13 3 (-1) D) (fun a_2 => z_let (z_up a_2 12 2 0) (fun D3 => some D3))
set_option maxRecDepth 100000 in
set_option maxHeartbeats 4000000 in
theorem em_X0_clear {l : Launch} {S : List z_Shp} {oW : Nat} (hl : l.stackTraces = false) (hW : z_W S oW) (N : Nat) (D : z_Dat) : ∀ out, z_ko (z_kV S) (F_X0_clear N D) out → z_EM l M_X0_clear (30, 580, 0, 0) [.ref 12] S D out := by
  have hs12 : S[12]? = some (2, 3, [some (some 13), some (some 14), none]) := hW.1 12 _ rfl
  have hs13 : S[13]? = some (0, 3, []) := hW.1 13 _ rfl
  refine z_meth hl rfl kp_X0 (Nat.le_of_ble_eq_true rfl) (lv := [some (.ref 12)]) rfl ?_
  unfold F_X0_clear
  refine z_aload_n (i := 0) (x := 12) dX0_clear_0 rfl rfl ?_
  refine z_getR (j := 0) dX0_clear_1 kl_0 hs12 (by decide) rfl rfl kf_X0_9 ?_
  refine z_iconst (v := (-1)) dX0_clear_4 rfl ?_
  refine z_cWV (As := [.ref 13, .int (-1)]) (rest := []) (em_X10_fill (n0 := 3) hl hs13 (by decide) N (-1) D) (fun o7 h => z_runSN 18 2 h rfl kk_X0_18 kn_X0_18 kq_X10_fill rfl (Nat.le_of_ble_eq_true rfl) ⟨Nat.le_of_ble_eq_true rfl, Nat.le_of_ble_eq_true rfl, Nat.le_of_ble_eq_true rfl, Nat.le_of_ble_eq_true rfl⟩ dX0_clear_5) z_gWV (fun a_2 hz1 => ?_)
  refine z_aload_n (i := 0) (x := 12) dX0_clear_8 rfl rfl ?_
  refine z_iconst (v := 0) dX0_clear_9 rfl ?_
  refine z_putI (j := 2) dX0_clear_10 kl_0 tyX0_ok nmX0 hs12 (by decide) rfl rfl rfl rfl rfl rfl kf_X0_22 (fun D3 => ?_)
  exact z_vreturn dX0_clear_13 z_rWV trivial (by decide) (by decide)

def F_X4_clear (D : z_Dat) : z_Dat :=
  z_let (z_up D 21 3 0) (fun D1 => z_let (z_up D1 21 4 0) (fun D2 => D2))
set_option maxRecDepth 100000 in
set_option maxHeartbeats 4000000 in
theorem em_X4_clear {l : Launch} {S : List z_Shp} {oW : Nat} (hl : l.stackTraces = false) (hW : z_W S oW) (D : z_Dat) : ∀ out, z_kt (z_kV S) (F_X4_clear D) out → z_EM l M_X4_clear (20, 520, 0, 0) [.ref 21] S D out := by
  have hs21 : S[21]? = some (6, 5, [some (some 22), some (some 23), some (some 24), none, none]) := hW.1 21 _ rfl
  refine z_meth hl rfl kp_X4 (Nat.le_of_ble_eq_true rfl) (lv := [some (.ref 21)]) rfl ?_
  unfold F_X4_clear
  refine z_aload_n (i := 0) (x := 21) dX4_clear_0 rfl rfl ?_
  refine z_iconst (v := 0) dX4_clear_1 rfl ?_
  refine z_putI (j := 3) dX4_clear_2 kl_4 tyX4_ok nmX4 hs21 (by decide) rfl rfl rfl rfl rfl rfl kf_X4_21 (fun D1 => ?_)
  refine z_aload_n (i := 0) (x := 21) dX4_clear_5 rfl rfl ?_
  refine z_iconst (v := 0) dX4_clear_6 rfl ?_
  refine z_putI (j := 4) dX4_clear_7 kl_4 tyX4_ok nmX4 hs21 (by decide) rfl rfl rfl rfl rfl rfl kf_X4_25 (fun D2 => ?_)
  exact z_vreturn dX4_clear_10 z_rTV trivial (by decide) (by decide)

def F_X5_write (a0 : Int32) (D : z_Dat) : z_Dat :=
  z_let (F_X10_put 9 150 (D 7 5) a0 D) (fun a_2 => z_let (z_up a_2 7 5 ((a_2 7 5) + 1)) (fun D3 => D3))
set_option maxRecDepth 100000 in
set_option maxHeartbeats 4000000 in
theorem em_X5_write {l : Launch} {S : List z_Shp} {oW : Nat} (hl : l.stackTraces = false) (hW : z_W S oW) (a0 : Int32) (D : z_Dat) : ∀ out, z_kt (z_kV S) (F_X5_write a0 D) out → z_EM l M_X5_write (30, 580, 0, 0) [.ref 7, .int a0] S D out := by
  have hs7 : S[7]? = some (7, 7, [some (some 8), some (some 9), some (some 10), some (some 11), none, none, none]) := hW.1 7 _ rfl
  have hs9 : S[9]? = some (0, 150, []) := hW.1 9 _ rfl
  refine z_meth hl rfl kp_X5 (Nat.le_of_ble_eq_true rfl) (lv := [some (.ref 7), some (.int a0)]) rfl ?_
  unfold F_X5_write
  refine z_aload_n (i := 0) (x := 7) dX5_write_0 rfl rfl ?_
  refine z_getR (j := 1) dX5_write_1 kl_5 hs7 (by decide) rfl rfl kf_X5_15 ?_
  refine z_aload_n (i := 0) (x := 7) dX5_write_4 rfl rfl ?_
  refine z_getI (j := 5) dX5_write_5 kl_5 hs7 (by decide) rfl rfl kf_X5_28 ?_
  refine z_iload_n (i := 1) (x := a0) dX5_write_8 rfl rfl ?_
  refine z_cTV (As := [.ref 9, .int (D 7 5), .int a0]) (rest := []) (em_X10_put (n0 := 150) hl hs9 (by decide) (D 7 5) a0 D) (fun o7 h => z_runSN 103 3 h rfl kk_X5_103 kn_X5_103 kq_X10_put rfl (Nat.le_of_ble_eq_true rfl) ⟨Nat.le_of_ble_eq_true rfl, Nat.le_of_ble_eq_true rfl, Nat.le_of_ble_eq_true rfl, Nat.le_of_ble_eq_true rfl⟩ dX5_write_9) z_gTV (fun a_2 hz1 => ?_)
  refine z_aload_n (i := 0) (x := 7) dX5_write_12 rfl rfl ?_
  refine z_dup dX5_write_13 rfl ?_
  refine z_getI (j := 5) dX5_write_14 kl_5 hs7 (by decide) rfl rfl kf_X5_28 ?_
  refine z_iconst (v := 1) dX5_write_17 rfl ?_
  refine z_iadd dX5_write_18 ?_
  refine z_putI (j := 5) dX5_write_19 kl_5 tyX5_ok nmX5 hs7 (by decide) rfl rfl rfl rfl rfl rfl kf_X5_28 (fun D3 => ?_)
  exact z_vreturn dX5_write_22 z_rTV trivial (by decide) (by decide)

def F_X8_takesSign (N : Nat) (a0 : Int32) (D : z_Dat) : Option (Int32 × z_Dat) :=
  if (F_X8_failed D) = 0 then (z_bd (F_X8_byteAt (D 1 3) D) (fun a_4 => if a_4 = a0 then (z_bd (F_X8_pass N 1 D) (fun a_7 => some (1, a_7)))
  else (some (0, D))))
  else (some (0, D))
set_option maxRecDepth 100000 in
set_option maxHeartbeats 4000000 in
theorem em_X8_takesSign {l : Launch} {S : List z_Shp} {oW : Nat} (hl : l.stackTraces = false) (hW : z_W S oW) (N : Nat) (a0 : Int32) (D : z_Dat) : ∀ out, z_ko (z_kI S) (F_X8_takesSign N a0 D) out → z_EM l M_X8_takesSign (30, 580, 0, 0) [.ref 1, .int a0] S D out := by
  have hs1 : S[1]? = some (10, 7, [some (some 2), none, none, none, none, none, none]) := hW.1 1 _ rfl
  refine z_meth hl rfl kp_X8 (Nat.le_of_ble_eq_true rfl) (lv := [some (.ref 1), some (.int a0)]) rfl ?_
  unfold F_X8_takesSign
  refine z_aload_n (i := 0) (x := 1) dX8_takesSign_0 rfl rfl ?_
  refine z_cP (As := [.ref 1]) (rest := []) (em_X8_failed hl hW D) (fun o7 h => z_runV 43 0 h rfl kk_X8_43 hs1 kl_8.1 kq_X8_failed rfl (Nat.le_of_ble_eq_true rfl) ⟨Nat.le_of_ble_eq_true rfl, Nat.le_of_ble_eq_true rfl, Nat.le_of_ble_eq_true rfl, Nat.le_of_ble_eq_true rfl⟩ dX8_takesSign_1) z_gWI (fun hz1 => ?_)
  refine z_if_ne 19 dX8_takesSign_4 (by decide) (fun c2 => ?_) (fun c2 => ?_)
  · refine z_aload_n (i := 0) (x := 1) dX8_takesSign_7 rfl rfl ?_
    refine z_aload_n (i := 0) (x := 1) dX8_takesSign_8 rfl rfl ?_
    refine z_getI (j := 3) dX8_takesSign_9 kl_8 hs1 (by decide) rfl rfl kf_X8_29 ?_
    refine z_cR (As := [.ref 1, .int (D 1 3)]) (rest := []) (em_X8_byteAt hl hW (D 1 3) D) (fun o7 h => z_runV 39 1 h rfl kk_X8_39 hs1 kl_8.1 kq_X8_byteAt rfl (Nat.le_of_ble_eq_true rfl) ⟨Nat.le_of_ble_eq_true rfl, Nat.le_of_ble_eq_true rfl, Nat.le_of_ble_eq_true rfl, Nat.le_of_ble_eq_true rfl⟩ dX8_takesSign_12) z_gWI (fun a_4 hz3 => ?_)
    refine z_iload_n (i := 1) (x := a0) dX8_takesSign_15 rfl rfl ?_
    refine z_icmp_eq 21 dX8_takesSign_16 (by decide) (fun c5 => ?_) (fun c5 => ?_)
    · refine z_aload_n (i := 0) (x := 1) dX8_takesSign_21 rfl rfl ?_
      refine z_iconst (v := 1) dX8_takesSign_22 rfl ?_
      refine z_cWV (As := [.ref 1, .int 1]) (rest := []) (em_X8_pass hl hW N 1 D) (fun o7 h => z_runV 35 1 h rfl kk_X8_35 hs1 kl_8.1 kq_X8_pass rfl (Nat.le_of_ble_eq_true rfl) ⟨Nat.le_of_ble_eq_true rfl, Nat.le_of_ble_eq_true rfl, Nat.le_of_ble_eq_true rfl, Nat.le_of_ble_eq_true rfl⟩ dX8_takesSign_23) z_gWI (fun a_7 hz6 => ?_)
      refine z_iconst (v := 1) dX8_takesSign_26 rfl ?_
      exact z_ireturn dX8_takesSign_27 z_rWI rfl (by decide) (by decide)
    · refine z_iconst (v := 0) dX8_takesSign_19 rfl ?_
      exact z_ireturn dX8_takesSign_20 z_rWI rfl (by decide) (by decide)
  · refine z_iconst (v := 0) dX8_takesSign_19 rfl ?_
    exact z_ireturn dX8_takesSign_20 z_rWI rfl (by decide) (by decide)

def F_X5_isDeepest (a0 : Int32) (D : z_Dat) : Int32 × z_Dat :=
  if 6 ≤ a0 then (z_let (F_X8_fail 3 (D 1 4) D) (fun a_3 => (1, a_3)))
  else ((0, D))
set_option maxRecDepth 100000 in
set_option maxHeartbeats 4000000 in
theorem em_X5_isDeepest {l : Launch} {S : List z_Shp} {oW : Nat} (hl : l.stackTraces = false) (hW : z_W S oW) (a0 : Int32) (D : z_Dat) : ∀ out, z_kt (z_kI S) (F_X5_isDeepest a0 D) out → z_EM l M_X5_isDeepest (30, 580, 0, 0) [.ref 1, .int a0] S D out := by
  have hs1 : S[1]? = some (10, 7, [some (some 2), none, none, none, none, none, none]) := hW.1 1 _ rfl
  refine z_meth hl rfl kp_X5 (Nat.le_of_ble_eq_true rfl) (lv := [some (.ref 1), some (.int a0)]) rfl ?_
  unfold F_X5_isDeepest
  refine z_iload_n (i := 1) (x := a0) dX5_isDeepest_0 rfl rfl ?_
  refine z_bipush (v := 6) dX5_isDeepest_1 (by decide) ?_
  refine z_icmp_ge 8 dX5_isDeepest_3 (by decide) (fun c1 => ?_) (fun c1 => ?_)
  · refine z_aload_n (i := 0) (x := 1) dX5_isDeepest_8 rfl rfl ?_
    refine z_iconst (v := 3) dX5_isDeepest_9 rfl ?_
    refine z_aload_n (i := 0) (x := 1) dX5_isDeepest_10 rfl rfl ?_
    refine z_getIN (j := 4) dX5_isDeepest_11 kl_8 hs1 (by decide) rfl rfl kf_X5_100 ?_
    refine z_cTV (As := [.ref 1, .int 3, .int (D 1 4)]) (rest := []) (em_X8_fail hl hW 3 (D 1 4) D) (fun o7 h => z_runV 45 2 h rfl kk_X5_45 hs1 kl_8.1 kq_X8_fail rfl (Nat.le_of_ble_eq_true rfl) ⟨Nat.le_of_ble_eq_true rfl, Nat.le_of_ble_eq_true rfl, Nat.le_of_ble_eq_true rfl, Nat.le_of_ble_eq_true rfl⟩ dX5_isDeepest_14) z_gTI (fun a_3 hz2 => ?_)
    refine z_iconst (v := 1) dX5_isDeepest_17 rfl ?_
    exact z_ireturn dX5_isDeepest_18 z_rTI rfl (by decide) (by decide)
  · refine z_iconst (v := 0) dX5_isDeepest_6 rfl ?_
    exact z_ireturn dX5_isDeepest_7 z_rTI rfl (by decide) (by decide)

def F_X5_readTwo (N : Nat) (slf : Int32 → z_Dat → Option z_Dat) (a0 : Int32) (a1 : Int32) (D : z_Dat) : Option z_Dat :=
  z_let (F_X5_isDeepest a0 D) (fun a_2 => if a_2.1 = 0 then (z_bd (F_X8_needSign N 91 a_2.2) (fun a_5 => z_bd (slf (a0 + 1) a_5) (fun a_7 => z_bd (F_X8_needSign N 44 a_7) (fun a_9 => z_bd (slf (a0 + 1) a_9) (fun a_11 => z_bd (F_X8_needSign N 93 a_11) (fun a_13 => z_let (F_X5_write a1 a_13) (fun a_15 => some a_15)))))))
  else (some a_2.2))
set_option maxRecDepth 100000 in
set_option maxHeartbeats 4000000 in
theorem em_X5_readTwo {l : Launch} {S : List z_Shp} {oW : Nat} (hl : l.stackTraces = false) (hW : z_W S oW) (N : Nat) (K : Nat) (slf : Int32 → z_Dat → Option z_Dat) (hs : ∀ (a0 : Int32) (D : z_Dat), ∀ out, z_ko (z_kV S) (slf a0 D) out → z_EM l M_X5_readSum (70 + 20 * K, 700 + 300 * K, 0, 0) [.ref 7, .ref 1, .int a0] S D out) (a0 : Int32) (a1 : Int32) (D : z_Dat) : ∀ out, z_ko (z_kV S) (F_X5_readTwo N slf a0 a1 D) out → z_EM l M_X5_readTwo (73 + 20 * K, 760 + 300 * K, 0, 0) [.ref 7, .ref 1, .int a0, .int a1] S D out := by
  have hs1 : S[1]? = some (10, 7, [some (some 2), none, none, none, none, none, none]) := hW.1 1 _ rfl
  have hs7 : S[7]? = some (7, 7, [some (some 8), some (some 9), some (some 10), some (some 11), none, none, none]) := hW.1 7 _ rfl
  refine z_meth hl rfl kp_X5 (Nat.le_of_ble_eq_true rfl) (lv := [some (.ref 7), some (.ref 1), some (.int a0), some (.int a1)]) rfl ?_
  unfold F_X5_readTwo
  refine z_aload_n (i := 1) (x := 1) dX5_readTwo_0 rfl rfl ?_
  refine z_iload_n (i := 2) (x := a0) dX5_readTwo_1 rfl rfl ?_
  refine z_cTI (As := [.ref 1, .int a0]) (rest := []) (em_X5_isDeepest hl hW a0 D) (fun o7 h => z_runS 82 2 h rfl kk_X5_82 kq_X5_isDeepest rfl (Nat.le_of_ble_eq_true rfl) ⟨by dsimp only; omega, by dsimp only; omega, Nat.le_of_ble_eq_true rfl, Nat.le_of_ble_eq_true rfl⟩ dX5_readTwo_2) z_gWV (fun a_2 hz1 => ?_)
  refine z_if_eq 9 dX5_readTwo_5 (by decide) (fun c3 => ?_) (fun c3 => ?_)
  · refine z_aload_n (i := 1) (x := 1) dX5_readTwo_9 rfl rfl ?_
    refine z_bipush (v := 91) dX5_readTwo_10 (by decide) ?_
    refine z_cWV (As := [.ref 1, .int 91]) (rest := []) (em_X8_needSign hl hW N 91 a_2.2) (fun o7 h => z_runV 86 1 h rfl kk_X5_86 hs1 kl_8.1 kq_X8_needSign rfl (Nat.le_of_ble_eq_true rfl) ⟨by dsimp only; omega, by dsimp only; omega, Nat.le_of_ble_eq_true rfl, Nat.le_of_ble_eq_true rfl⟩ dX5_readTwo_12) z_gWV (fun a_5 hz4 => ?_)
    refine z_aload_n (i := 0) (x := 7) dX5_readTwo_15 rfl rfl ?_
    refine z_aload_n (i := 1) (x := 1) dX5_readTwo_16 rfl rfl ?_
    refine z_iload_n (i := 2) (x := a0) dX5_readTwo_17 rfl rfl ?_
    refine z_iconst (v := 1) dX5_readTwo_18 rfl ?_
    refine z_iadd dX5_readTwo_19 ?_
    refine z_cWV (As := [.ref 7, .ref 1, .int (a0 + 1)]) (rest := []) (hs (a0 + 1) a_5) (fun o7 h => z_runV 32 2 h rfl kk_X5_32 hs7 kl_5.1 kq_X5_readSum rfl (Nat.le_of_ble_eq_true rfl) ⟨by dsimp only; omega, by dsimp only; omega, Nat.le_of_ble_eq_true rfl, Nat.le_of_ble_eq_true rfl⟩ dX5_readTwo_20) z_gWV (fun a_7 hz6 => ?_)
    refine z_aload_n (i := 1) (x := 1) dX5_readTwo_23 rfl rfl ?_
    refine z_bipush (v := 44) dX5_readTwo_24 (by decide) ?_
    refine z_cWV (As := [.ref 1, .int 44]) (rest := []) (em_X8_needSign hl hW N 44 a_7) (fun o7 h => z_runV 86 1 h rfl kk_X5_86 hs1 kl_8.1 kq_X8_needSign rfl (Nat.le_of_ble_eq_true rfl) ⟨by dsimp only; omega, by dsimp only; omega, Nat.le_of_ble_eq_true rfl, Nat.le_of_ble_eq_true rfl⟩ dX5_readTwo_26) z_gWV (fun a_9 hz8 => ?_)
    refine z_aload_n (i := 0) (x := 7) dX5_readTwo_29 rfl rfl ?_
    refine z_aload_n (i := 1) (x := 1) dX5_readTwo_30 rfl rfl ?_
    refine z_iload_n (i := 2) (x := a0) dX5_readTwo_31 rfl rfl ?_
    refine z_iconst (v := 1) dX5_readTwo_32 rfl ?_
    refine z_iadd dX5_readTwo_33 ?_
    refine z_cWV (As := [.ref 7, .ref 1, .int (a0 + 1)]) (rest := []) (hs (a0 + 1) a_9) (fun o7 h => z_runV 32 2 h rfl kk_X5_32 hs7 kl_5.1 kq_X5_readSum rfl (Nat.le_of_ble_eq_true rfl) ⟨by dsimp only; omega, by dsimp only; omega, Nat.le_of_ble_eq_true rfl, Nat.le_of_ble_eq_true rfl⟩ dX5_readTwo_34) z_gWV (fun a_11 hz10 => ?_)
    refine z_aload_n (i := 1) (x := 1) dX5_readTwo_37 rfl rfl ?_
    refine z_bipush (v := 93) dX5_readTwo_38 (by decide) ?_
    refine z_cWV (As := [.ref 1, .int 93]) (rest := []) (em_X8_needSign hl hW N 93 a_11) (fun o7 h => z_runV 86 1 h rfl kk_X5_86 hs1 kl_8.1 kq_X8_needSign rfl (Nat.le_of_ble_eq_true rfl) ⟨by dsimp only; omega, by dsimp only; omega, Nat.le_of_ble_eq_true rfl, Nat.le_of_ble_eq_true rfl⟩ dX5_readTwo_40) z_gWV (fun a_13 hz12 => ?_)
    refine z_aload_n (i := 0) (x := 7) dX5_readTwo_43 rfl rfl ?_
    refine z_iload_n (i := 3) (x := a1) dX5_readTwo_44 rfl rfl ?_
    refine z_cTV (As := [.ref 7, .int a1]) (rest := []) (em_X5_write hl hW a1 a_13) (fun o7 h => z_runV 67 1 h rfl kk_X5_67 hs7 kl_5.1 kq_X5_write rfl (Nat.le_of_ble_eq_true rfl) ⟨by dsimp only; omega, by dsimp only; omega, Nat.le_of_ble_eq_true rfl, Nat.le_of_ble_eq_true rfl⟩ dX5_readTwo_45) z_gWV (fun a_15 hz14 => ?_)
    exact z_vreturn dX5_readTwo_48 z_rWV trivial (Nat.le_refl _) (Nat.le_refl _)
  · exact z_vreturn dX5_readTwo_8 z_rWV trivial (Nat.le_refl _) (Nat.le_refl _)

def F_X5_readUnit (N : Nat) (slf : Int32 → z_Dat → Option z_Dat) (a0 : Int32) (D : z_Dat) : Option z_Dat :=
  z_bd (F_X8_next D) (fun a_2 => if (F_X10_isDigit a_2) = 0 then (z_bd (F_X8_takesSign N 40 D) (fun a_6 => if a_6.1 = 0 then (z_bd (F_X8_takesWordOf N 1 a_6.2) (fun a_9 => if a_9.1 = (-1) then (z_let (F_X8_fail 1 (a_9.2 1 3) a_9.2) (fun a_12 => some a_12))
  else (if 9 ≤ a_9.1 then (z_bd (F_X5_readTwo N slf a0 ((2000 + a_9.1) - 9) a_9.2) (fun a_15 => some a_15))
  else (z_let (F_X5_write (1000 + a_9.1) a_9.2) (fun a_17 => some a_17)))))
  else (z_let (F_X5_isDeepest a0 a_6.2) (fun a_19 => if a_19.1 = 0 then (z_bd (slf (a0 + 1) a_19.2) (fun a_22 => z_bd (F_X8_needSign N 41 a_22) (fun a_24 => some a_24)))
  else (some a_19.2)))))
  else (z_bd (F_X8_needNumber N 999 D) (fun a_26 => z_let (F_X5_write a_26.1 a_26.2) (fun a_28 => some a_28))))
set_option maxRecDepth 100000 in
set_option maxHeartbeats 4000000 in
theorem em_X5_readUnit {l : Launch} {S : List z_Shp} {oW : Nat} (hl : l.stackTraces = false) (hW : z_W S oW) (N : Nat) (K : Nat) (slf : Int32 → z_Dat → Option z_Dat) (hs : ∀ (a0 : Int32) (D : z_Dat), ∀ out, z_ko (z_kV S) (slf a0 D) out → z_EM l M_X5_readSum (70 + 20 * K, 700 + 300 * K, 0, 0) [.ref 7, .ref 1, .int a0] S D out) (a0 : Int32) (D : z_Dat) : ∀ out, z_ko (z_kV S) (F_X5_readUnit N slf a0 D) out → z_EM l M_X5_readUnit (76 + 20 * K, 820 + 300 * K, 0, 0) [.ref 7, .ref 1, .int a0] S D out := by
  have hs1 : S[1]? = some (10, 7, [some (some 2), none, none, none, none, none, none]) := hW.1 1 _ rfl
  have hs7 : S[7]? = some (7, 7, [some (some 8), some (some 9), some (some 10), some (some 11), none, none, none]) := hW.1 7 _ rfl
  refine z_meth hl rfl kp_X5 (Nat.le_of_ble_eq_true rfl) (lv := [some (.ref 7), some (.ref 1), some (.int a0), none]) rfl ?_
  unfold F_X5_readUnit
  refine z_aload_n (i := 1) (x := 1) dX5_readUnit_0 rfl rfl ?_
  refine z_cR (As := [.ref 1]) (rest := []) (em_X8_next hl hW D) (fun o7 h => z_runV 36 0 h rfl kk_X5_36 hs1 kl_8.1 kq_X8_next rfl (Nat.le_of_ble_eq_true rfl) ⟨by dsimp only; omega, by dsimp only; omega, Nat.le_of_ble_eq_true rfl, Nat.le_of_ble_eq_true rfl⟩ dX5_readUnit_1) z_gWV (fun a_2 hz1 => ?_)
  refine z_cP (As := [.int a_2]) (rest := []) (em_X10_isDigit hl a_2 D) (fun o7 h => z_runSN 74 1 h rfl kk_X5_74 kn_X5_74 kq_X10_isDigit rfl (Nat.le_of_ble_eq_true rfl) ⟨by dsimp only; omega, by dsimp only; omega, Nat.le_of_ble_eq_true rfl, Nat.le_of_ble_eq_true rfl⟩ dX5_readUnit_4) z_gWV (fun hz3 => ?_)
  refine z_if_eq 22 dX5_readUnit_7 (by decide) (fun c4 => ?_) (fun c4 => ?_)
  · refine z_aload_n (i := 1) (x := 1) dX5_readUnit_22 rfl rfl ?_
    refine z_bipush (v := 40) dX5_readUnit_23 (by decide) ?_
    refine z_cWI (As := [.ref 1, .int 40]) (rest := []) (em_X8_takesSign hl hW N 40 D) (fun o7 h => z_runV 63 1 h rfl kk_X5_63 hs1 kl_8.1 kq_X8_takesSign rfl (Nat.le_of_ble_eq_true rfl) ⟨by dsimp only; omega, by dsimp only; omega, Nat.le_of_ble_eq_true rfl, Nat.le_of_ble_eq_true rfl⟩ dX5_readUnit_25) z_gWV (fun a_6 hz5 => ?_)
    refine z_if_eq 54 dX5_readUnit_28 (by decide) (fun c7 => ?_) (fun c7 => ?_)
    · refine z_aload_n (i := 1) (x := 1) dX5_readUnit_54 rfl rfl ?_
      refine z_ldcS 1 (by decide) dX5_readUnit_55 rfl rfl ?_
      refine z_cWI (As := [.ref 1, .retAddr 1]) (rest := []) (em_X8_takesWordOf (w := 1) hl hW (by decide) N a_6.2) (fun o7 h => z_runV 92 1 h rfl kk_X5_92 hs1 kl_8.1 kq_X8_takesWordOf rfl (Nat.le_of_ble_eq_true rfl) ⟨by dsimp only; omega, by dsimp only; omega, Nat.le_of_ble_eq_true rfl, Nat.le_of_ble_eq_true rfl⟩ dX5_readUnit_57) z_gWV (fun a_9 hz8 => ?_)
      refine z_istore_n (i := 3) (x := a_9.1) (lv' := [some (.ref 7), some (.ref 1), some (.int a0), some (.int a_9.1)]) dX5_readUnit_60 rfl (by decide) rfl rfl ?_
      refine z_iload_n (i := 3) (x := a_9.1) dX5_readUnit_61 rfl rfl ?_
      refine z_iconst (v := (-1)) dX5_readUnit_62 rfl ?_
      refine z_icmp_ne 78 dX5_readUnit_63 (by decide) (fun c10 => ?_) (fun c10 => ?_)
      · refine z_aload_n (i := 1) (x := 1) dX5_readUnit_66 rfl rfl ?_
        refine z_iconst (v := 1) dX5_readUnit_67 rfl ?_
        refine z_aload_n (i := 1) (x := 1) dX5_readUnit_68 rfl rfl ?_
        refine z_getIN (j := 3) dX5_readUnit_69 kl_8 hs1 (by decide) rfl rfl kf_X5_42 ?_
        refine z_cTV (As := [.ref 1, .int 1, .int (a_9.2 1 3)]) (rest := []) (em_X8_fail hl hW 1 (a_9.2 1 3) a_9.2) (fun o7 h => z_runV 45 2 h rfl kk_X5_45 hs1 kl_8.1 kq_X8_fail rfl (Nat.le_of_ble_eq_true rfl) ⟨by dsimp only; omega, by dsimp only; omega, Nat.le_of_ble_eq_true rfl, Nat.le_of_ble_eq_true rfl⟩ dX5_readUnit_72) z_gWV (fun a_12 hz11 => ?_)
        refine z_goto 110 dX5_readUnit_75 (by decide) ?_
        exact z_vreturn dX5_readUnit_110 z_rWV trivial (Nat.le_refl _) (Nat.le_refl _)
      · refine z_iload_n (i := 3) (x := a_9.1) dX5_readUnit_78 rfl rfl ?_
        refine z_bipush (v := 9) dX5_readUnit_79 (by decide) ?_
        refine z_icmp_ge 96 dX5_readUnit_81 (by decide) (fun c13 => ?_) (fun c13 => ?_)
        · refine z_aload_n (i := 0) (x := 7) dX5_readUnit_96 rfl rfl ?_
          refine z_aload_n (i := 1) (x := 1) dX5_readUnit_97 rfl rfl ?_
          refine z_iload_n (i := 2) (x := a0) dX5_readUnit_98 rfl rfl ?_
          refine z_sipush (v := 2000) dX5_readUnit_99 (by decide) ?_
          refine z_iload_n (i := 3) (x := a_9.1) dX5_readUnit_102 rfl rfl ?_
          refine z_iadd dX5_readUnit_103 ?_
          refine z_bipush (v := 9) dX5_readUnit_104 (by decide) ?_
          refine z_isub dX5_readUnit_106 ?_
          refine z_cWV (As := [.ref 7, .ref 1, .int a0, .int ((2000 + a_9.1) - 9)]) (rest := []) (em_X5_readTwo hl hW N K slf hs a0 ((2000 + a_9.1) - 9) a_9.2) (fun o7 h => z_runV 96 3 h rfl kk_X5_96 hs7 kl_5.1 kq_X5_readTwo rfl (Nat.le_of_ble_eq_true rfl) ⟨by dsimp only; omega, by dsimp only; omega, Nat.le_of_ble_eq_true rfl, Nat.le_of_ble_eq_true rfl⟩ dX5_readUnit_107) z_gWV (fun a_15 hz14 => ?_)
          exact z_vreturn dX5_readUnit_110 z_rWV trivial (Nat.le_refl _) (Nat.le_refl _)
        · refine z_aload_n (i := 0) (x := 7) dX5_readUnit_84 rfl rfl ?_
          refine z_sipush (v := 1000) dX5_readUnit_85 (by decide) ?_
          refine z_iload_n (i := 3) (x := a_9.1) dX5_readUnit_88 rfl rfl ?_
          refine z_iadd dX5_readUnit_89 ?_
          refine z_cTV (As := [.ref 7, .int (1000 + a_9.1)]) (rest := []) (em_X5_write hl hW (1000 + a_9.1) a_9.2) (fun o7 h => z_runV 67 1 h rfl kk_X5_67 hs7 kl_5.1 kq_X5_write rfl (Nat.le_of_ble_eq_true rfl) ⟨by dsimp only; omega, by dsimp only; omega, Nat.le_of_ble_eq_true rfl, Nat.le_of_ble_eq_true rfl⟩ dX5_readUnit_90) z_gWV (fun a_17 hz16 => ?_)
          refine z_goto 110 dX5_readUnit_93 (by decide) ?_
          exact z_vreturn dX5_readUnit_110 z_rWV trivial (Nat.le_refl _) (Nat.le_refl _)
    · refine z_aload_n (i := 1) (x := 1) dX5_readUnit_31 rfl rfl ?_
      refine z_iload_n (i := 2) (x := a0) dX5_readUnit_32 rfl rfl ?_
      refine z_cTI (As := [.ref 1, .int a0]) (rest := []) (em_X5_isDeepest hl hW a0 a_6.2) (fun o7 h => z_runS 82 2 h rfl kk_X5_82 kq_X5_isDeepest rfl (Nat.le_of_ble_eq_true rfl) ⟨by dsimp only; omega, by dsimp only; omega, Nat.le_of_ble_eq_true rfl, Nat.le_of_ble_eq_true rfl⟩ dX5_readUnit_33) z_gWV (fun a_19 hz18 => ?_)
      refine z_if_ne 53 dX5_readUnit_36 (by decide) (fun c20 => ?_) (fun c20 => ?_)
      · refine z_aload_n (i := 0) (x := 7) dX5_readUnit_39 rfl rfl ?_
        refine z_aload_n (i := 1) (x := 1) dX5_readUnit_40 rfl rfl ?_
        refine z_iload_n (i := 2) (x := a0) dX5_readUnit_41 rfl rfl ?_
        refine z_iconst (v := 1) dX5_readUnit_42 rfl ?_
        refine z_iadd dX5_readUnit_43 ?_
        refine z_cWV (As := [.ref 7, .ref 1, .int (a0 + 1)]) (rest := []) (hs (a0 + 1) a_19.2) (fun o7 h => z_runV 32 2 h rfl kk_X5_32 hs7 kl_5.1 kq_X5_readSum rfl (Nat.le_of_ble_eq_true rfl) ⟨by dsimp only; omega, by dsimp only; omega, Nat.le_of_ble_eq_true rfl, Nat.le_of_ble_eq_true rfl⟩ dX5_readUnit_44) z_gWV (fun a_22 hz21 => ?_)
        refine z_aload_n (i := 1) (x := 1) dX5_readUnit_47 rfl rfl ?_
        refine z_bipush (v := 41) dX5_readUnit_48 (by decide) ?_
        refine z_cWV (As := [.ref 1, .int 41]) (rest := []) (em_X8_needSign hl hW N 41 a_22) (fun o7 h => z_runV 86 1 h rfl kk_X5_86 hs1 kl_8.1 kq_X8_needSign rfl (Nat.le_of_ble_eq_true rfl) ⟨by dsimp only; omega, by dsimp only; omega, Nat.le_of_ble_eq_true rfl, Nat.le_of_ble_eq_true rfl⟩ dX5_readUnit_50) z_gWV (fun a_24 hz23 => ?_)
        exact z_vreturn dX5_readUnit_53 z_rWV trivial (Nat.le_refl _) (Nat.le_refl _)
      · exact z_vreturn dX5_readUnit_53 z_rWV trivial (Nat.le_refl _) (Nat.le_refl _)
  · refine z_aload_n (i := 0) (x := 7) dX5_readUnit_10 rfl rfl ?_
    refine z_aload_n (i := 1) (x := 1) dX5_readUnit_11 rfl rfl ?_
    refine z_sipush (v := 999) dX5_readUnit_12 (by decide) ?_
    refine z_cWI (As := [.ref 1, .int 999]) (rest := [.ref 7]) (em_X8_needNumber hl hW N 999 D) (fun o7 h => z_runV 78 1 h rfl kk_X5_78 hs1 kl_8.1 kq_X8_needNumber rfl (Nat.le_of_ble_eq_true rfl) ⟨by dsimp only; omega, by dsimp only; omega, Nat.le_of_ble_eq_true rfl, Nat.le_of_ble_eq_true rfl⟩ dX5_readUnit_15) z_gWV (fun a_26 hz25 => ?_)
    refine z_cTV (As := [.ref 7, .int a_26.1]) (rest := []) (em_X5_write hl hW a_26.1 a_26.2) (fun o7 h => z_runV 67 1 h rfl kk_X5_67 hs7 kl_5.1 kq_X5_write rfl (Nat.le_of_ble_eq_true rfl) ⟨by dsimp only; omega, by dsimp only; omega, Nat.le_of_ble_eq_true rfl, Nat.le_of_ble_eq_true rfl⟩ dX5_readUnit_18) z_gWV (fun a_28 hz27 => ?_)
    exact z_vreturn dX5_readUnit_21 z_rWV trivial (Nat.le_refl _) (Nat.le_refl _)

def F_X5_readProduct_L8 (N : Nat) (slf : Int32 → z_Dat → Option z_Dat) (a0 : Int32) (kc5 : ((Int32 × z_Dat) → Option z_Dat)) (v3 : Int32) (D4 : z_Dat) : Option z_Dat :=
  if 150 ≤ v3 then (some D4)
  else (if (F_X8_failed D4) = 0 then (z_bd (F_X8_takesSign N 42 D4) (fun a_10 => if a_10.1 = 0 then (z_bd (F_X8_takesSign N 47 a_10.2) (fun a_13 => if a_13.1 = 0 then (some a_13.2)
  else (z_bd (F_X5_readUnit N slf a0 a_13.2) (fun a_16 => z_let (F_X5_write 2005 a_16) (fun a_18 => z_let (v3 + 1) (fun v19 => kc5 (v19, a_18)))))))
  else (z_bd (F_X5_readUnit N slf a0 a_10.2) (fun a_21 => z_let (F_X5_write 2004 a_21) (fun a_23 => z_let (v3 + 1) (fun v24 => kc5 (v24, a_23)))))))
  else (some D4))
def F_X5_readProduct (N : Nat) (slf : Int32 → z_Dat → Option z_Dat) (a0 : Int32) (D : z_Dat) : Option z_Dat :=
  z_bd (F_X5_readUnit N slf a0 D) (fun a_2 => z_loop (fun kc5 s => F_X5_readProduct_L8 N slf a0 kc5 s.1 s.2) N (0, a_2))
set_option maxRecDepth 100000 in
set_option maxHeartbeats 4000000 in
theorem em_X5_readProduct {l : Launch} {S : List z_Shp} {oW : Nat} (hl : l.stackTraces = false) (hW : z_W S oW) (N : Nat) (K : Nat) (slf : Int32 → z_Dat → Option z_Dat) (hs : ∀ (a0 : Int32) (D : z_Dat), ∀ out, z_ko (z_kV S) (slf a0 D) out → z_EM l M_X5_readSum (70 + 20 * K, 700 + 300 * K, 0, 0) [.ref 7, .ref 1, .int a0] S D out) (a0 : Int32) (D : z_Dat) : ∀ out, z_ko (z_kV S) (F_X5_readProduct N slf a0 D) out → z_EM l M_X5_readProduct (79 + 20 * K, 880 + 300 * K, 0, 0) [.ref 7, .ref 1, .int a0] S D out := by
  have hs1 : S[1]? = some (10, 7, [some (some 2), none, none, none, none, none, none]) := hW.1 1 _ rfl
  have hs7 : S[7]? = some (7, 7, [some (some 8), some (some 9), some (some 10), some (some 11), none, none, none]) := hW.1 7 _ rfl
  refine z_meth hl rfl kp_X5 (Nat.le_of_ble_eq_true rfl) (lv := [some (.ref 7), some (.ref 1), some (.int a0), none]) rfl ?_
  unfold F_X5_readProduct
  refine z_aload_n (i := 0) (x := 7) dX5_readProduct_0 rfl rfl ?_
  refine z_aload_n (i := 1) (x := 1) dX5_readProduct_1 rfl rfl ?_
  refine z_iload_n (i := 2) (x := a0) dX5_readProduct_2 rfl rfl ?_
  refine z_cWV (As := [.ref 7, .ref 1, .int a0]) (rest := []) (em_X5_readUnit hl hW N K slf hs a0 D) (fun o7 h => z_runV 71 2 h rfl kk_X5_71 hs7 kl_5.1 kq_X5_readUnit rfl (Nat.le_of_ble_eq_true rfl) ⟨by dsimp only; omega, by dsimp only; omega, Nat.le_of_ble_eq_true rfl, Nat.le_of_ble_eq_true rfl⟩ dX5_readProduct_3) z_gWV (fun a_2 hz1 => ?_)
  refine z_iconst (v := 0) dX5_readProduct_6 rfl ?_
  refine z_istore_n (i := 3) (x := 0) (lv' := [some (.ref 7), some (.ref 1), some (.int a0), some (.int 0)]) dX5_readProduct_7 rfl (by decide) rfl rfl ?_
  refine z_loops (lvOf := fun s : Int32 × z_Dat => [some (.ref 7), some (.ref 1), some (.int a0), some (.int s.1)]) (dOf := fun s : Int32 × z_Dat => s.2) (fun kc5 hkc5 s => ?_) N (0, a_2)
  obtain ⟨v3, D4⟩ := s
  show z_F _ _ _ _ _ 8 [some (.ref 7), some (.ref 1), some (.int a0), some (.int v3)] [] S D4 _ (F_X5_readProduct_L8 N slf a0 kc5 v3 D4)
  unfold F_X5_readProduct_L8
  refine z_iload_n (i := 3) (x := v3) dX5_readProduct_8 rfl rfl ?_
  refine z_sipush (v := 150) dX5_readProduct_9 (by decide) ?_
  refine z_icmp_ge 79 dX5_readProduct_12 (by decide) (fun c6 => ?_) (fun c6 => ?_)
  · exact z_vreturn dX5_readProduct_79 z_rWV trivial (Nat.le_refl _) (Nat.le_refl _)
  · refine z_aload_n (i := 1) (x := 1) dX5_readProduct_15 rfl rfl ?_
    refine z_cP (As := [.ref 1]) (rest := []) (em_X8_failed hl hW D4) (fun o7 h => z_runV 49 0 h rfl kk_X5_49 hs1 kl_8.1 kq_X8_failed rfl (Nat.le_of_ble_eq_true rfl) ⟨by dsimp only; omega, by dsimp only; omega, Nat.le_of_ble_eq_true rfl, Nat.le_of_ble_eq_true rfl⟩ dX5_readProduct_16) z_gWV (fun hz7 => ?_)
    refine z_if_ne 79 dX5_readProduct_19 (by decide) (fun c8 => ?_) (fun c8 => ?_)
    · refine z_aload_n (i := 1) (x := 1) dX5_readProduct_22 rfl rfl ?_
      refine z_bipush (v := 42) dX5_readProduct_23 (by decide) ?_
      refine z_cWI (As := [.ref 1, .int 42]) (rest := []) (em_X8_takesSign hl hW N 42 D4) (fun o7 h => z_runV 63 1 h rfl kk_X5_63 hs1 kl_8.1 kq_X8_takesSign rfl (Nat.le_of_ble_eq_true rfl) ⟨by dsimp only; omega, by dsimp only; omega, Nat.le_of_ble_eq_true rfl, Nat.le_of_ble_eq_true rfl⟩ dX5_readProduct_25) z_gWV (fun a_10 hz9 => ?_)
      refine z_if_eq 47 dX5_readProduct_28 (by decide) (fun c11 => ?_) (fun c11 => ?_)
      · refine z_aload_n (i := 1) (x := 1) dX5_readProduct_47 rfl rfl ?_
        refine z_bipush (v := 47) dX5_readProduct_48 (by decide) ?_
        refine z_cWI (As := [.ref 1, .int 47]) (rest := []) (em_X8_takesSign hl hW N 47 a_10.2) (fun o7 h => z_runV 63 1 h rfl kk_X5_63 hs1 kl_8.1 kq_X8_takesSign rfl (Nat.le_of_ble_eq_true rfl) ⟨by dsimp only; omega, by dsimp only; omega, Nat.le_of_ble_eq_true rfl, Nat.le_of_ble_eq_true rfl⟩ dX5_readProduct_50) z_gWV (fun a_13 hz12 => ?_)
        refine z_if_eq 72 dX5_readProduct_53 (by decide) (fun c14 => ?_) (fun c14 => ?_)
        · exact z_vreturn dX5_readProduct_72 z_rWV trivial (Nat.le_refl _) (Nat.le_refl _)
        · refine z_aload_n (i := 0) (x := 7) dX5_readProduct_56 rfl rfl ?_
          refine z_aload_n (i := 1) (x := 1) dX5_readProduct_57 rfl rfl ?_
          refine z_iload_n (i := 2) (x := a0) dX5_readProduct_58 rfl rfl ?_
          refine z_cWV (As := [.ref 7, .ref 1, .int a0]) (rest := []) (em_X5_readUnit hl hW N K slf hs a0 a_13.2) (fun o7 h => z_runV 71 2 h rfl kk_X5_71 hs7 kl_5.1 kq_X5_readUnit rfl (Nat.le_of_ble_eq_true rfl) ⟨by dsimp only; omega, by dsimp only; omega, Nat.le_of_ble_eq_true rfl, Nat.le_of_ble_eq_true rfl⟩ dX5_readProduct_59) z_gWV (fun a_16 hz15 => ?_)
          refine z_aload_n (i := 0) (x := 7) dX5_readProduct_62 rfl rfl ?_
          refine z_sipush (v := 2005) dX5_readProduct_63 (by decide) ?_
          refine z_cTV (As := [.ref 7, .int 2005]) (rest := []) (em_X5_write hl hW 2005 a_16) (fun o7 h => z_runV 67 1 h rfl kk_X5_67 hs7 kl_5.1 kq_X5_write rfl (Nat.le_of_ble_eq_true rfl) ⟨by dsimp only; omega, by dsimp only; omega, Nat.le_of_ble_eq_true rfl, Nat.le_of_ble_eq_true rfl⟩ dX5_readProduct_66) z_gWV (fun a_18 hz17 => ?_)
          refine z_goto 73 dX5_readProduct_69 (by decide) ?_
          refine z_iinc (i := 3) (x := v3) (y := 1) dX5_readProduct_73 rfl (by decide) (by decide) rfl (fun v19 => ?_)
          refine z_goto 8 dX5_readProduct_76 (by decide) ?_
          exact hkc5 (v19, a_18)
      · refine z_aload_n (i := 0) (x := 7) dX5_readProduct_31 rfl rfl ?_
        refine z_aload_n (i := 1) (x := 1) dX5_readProduct_32 rfl rfl ?_
        refine z_iload_n (i := 2) (x := a0) dX5_readProduct_33 rfl rfl ?_
        refine z_cWV (As := [.ref 7, .ref 1, .int a0]) (rest := []) (em_X5_readUnit hl hW N K slf hs a0 a_10.2) (fun o7 h => z_runV 71 2 h rfl kk_X5_71 hs7 kl_5.1 kq_X5_readUnit rfl (Nat.le_of_ble_eq_true rfl) ⟨by dsimp only; omega, by dsimp only; omega, Nat.le_of_ble_eq_true rfl, Nat.le_of_ble_eq_true rfl⟩ dX5_readProduct_34) z_gWV (fun a_21 hz20 => ?_)
        refine z_aload_n (i := 0) (x := 7) dX5_readProduct_37 rfl rfl ?_
        refine z_sipush (v := 2004) dX5_readProduct_38 (by decide) ?_
        refine z_cTV (As := [.ref 7, .int 2004]) (rest := []) (em_X5_write hl hW 2004 a_21) (fun o7 h => z_runV 67 1 h rfl kk_X5_67 hs7 kl_5.1 kq_X5_write rfl (Nat.le_of_ble_eq_true rfl) ⟨by dsimp only; omega, by dsimp only; omega, Nat.le_of_ble_eq_true rfl, Nat.le_of_ble_eq_true rfl⟩ dX5_readProduct_41) z_gWV (fun a_23 hz22 => ?_)
        refine z_goto 73 dX5_readProduct_44 (by decide) ?_
        refine z_iinc (i := 3) (x := v3) (y := 1) dX5_readProduct_73 rfl (by decide) (by decide) rfl (fun v24 => ?_)
        refine z_goto 8 dX5_readProduct_76 (by decide) ?_
        exact hkc5 (v24, a_23)
    · exact z_vreturn dX5_readProduct_79 z_rWV trivial (Nat.le_refl _) (Nat.le_refl _)

def F_X5_readSum_L8 (N : Nat) (slf : Int32 → z_Dat → Option z_Dat) (a0 : Int32) (kc5 : ((Int32 × z_Dat) → Option z_Dat)) (v3 : Int32) (D4 : z_Dat) : Option z_Dat :=
  if 150 ≤ v3 then (some D4)
  else (if (F_X8_failed D4) = 0 then (z_bd (F_X8_takesSign N 43 D4) (fun a_10 => if a_10.1 = 0 then (z_bd (F_X8_takesSign N 45 a_10.2) (fun a_13 => if a_13.1 = 0 then (some a_13.2)
  else (z_bd (F_X5_readProduct N slf a0 a_13.2) (fun a_16 => z_let (F_X5_write 2003 a_16) (fun a_18 => z_let (v3 + 1) (fun v19 => kc5 (v19, a_18)))))))
  else (z_bd (F_X5_readProduct N slf a0 a_10.2) (fun a_21 => z_let (F_X5_write 2002 a_21) (fun a_23 => z_let (v3 + 1) (fun v24 => kc5 (v24, a_23)))))))
  else (some D4))
def F_X5_readSum_B (N : Nat) (slf : Int32 → z_Dat → Option z_Dat) (a0 : Int32) (D : z_Dat) : Option z_Dat :=
  z_bd (F_X5_readProduct N slf a0 D) (fun a_2 => z_loop (fun kc5 s => F_X5_readSum_L8 N slf a0 kc5 s.1 s.2) N (0, a_2))
set_option maxRecDepth 100000 in
set_option maxHeartbeats 4000000 in
theorem em_X5_readSum_B {l : Launch} {S : List z_Shp} {oW : Nat} (hl : l.stackTraces = false) (hW : z_W S oW) (N : Nat) (K : Nat) (slf : Int32 → z_Dat → Option z_Dat) (hs : ∀ (a0 : Int32) (D : z_Dat), ∀ out, z_ko (z_kV S) (slf a0 D) out → z_EM l M_X5_readSum (70 + 20 * K, 700 + 300 * K, 0, 0) [.ref 7, .ref 1, .int a0] S D out) (a0 : Int32) (D : z_Dat) : ∀ out, z_ko (z_kV S) (F_X5_readSum_B N slf a0 D) out → z_EM l M_X5_readSum (70 + 20 * (K + 1), 700 + 300 * (K + 1), 0, 0) [.ref 7, .ref 1, .int a0] S D out := by
  have hs1 : S[1]? = some (10, 7, [some (some 2), none, none, none, none, none, none]) := hW.1 1 _ rfl
  have hs7 : S[7]? = some (7, 7, [some (some 8), some (some 9), some (some 10), some (some 11), none, none, none]) := hW.1 7 _ rfl
  refine z_meth hl rfl kp_X5 (Nat.le_of_ble_eq_true rfl) (lv := [some (.ref 7), some (.ref 1), some (.int a0), none]) rfl ?_
  unfold F_X5_readSum_B
  refine z_aload_n (i := 0) (x := 7) dX5_readSum_0 rfl rfl ?_
  refine z_aload_n (i := 1) (x := 1) dX5_readSum_1 rfl rfl ?_
  refine z_iload_n (i := 2) (x := a0) dX5_readSum_2 rfl rfl ?_
  refine z_cWV (As := [.ref 7, .ref 1, .int a0]) (rest := []) (em_X5_readProduct hl hW N K slf hs a0 D) (fun o7 h => z_runV 60 2 h rfl kk_X5_60 hs7 kl_5.1 kq_X5_readProduct rfl (Nat.le_of_ble_eq_true rfl) ⟨by dsimp only; omega, by dsimp only; omega, Nat.le_of_ble_eq_true rfl, Nat.le_of_ble_eq_true rfl⟩ dX5_readSum_3) z_gWV (fun a_2 hz1 => ?_)
  refine z_iconst (v := 0) dX5_readSum_6 rfl ?_
  refine z_istore_n (i := 3) (x := 0) (lv' := [some (.ref 7), some (.ref 1), some (.int a0), some (.int 0)]) dX5_readSum_7 rfl (by decide) rfl rfl ?_
  refine z_loops (lvOf := fun s : Int32 × z_Dat => [some (.ref 7), some (.ref 1), some (.int a0), some (.int s.1)]) (dOf := fun s : Int32 × z_Dat => s.2) (fun kc5 hkc5 s => ?_) N (0, a_2)
  obtain ⟨v3, D4⟩ := s
  show z_F _ _ _ _ _ 8 [some (.ref 7), some (.ref 1), some (.int a0), some (.int v3)] [] S D4 _ (F_X5_readSum_L8 N slf a0 kc5 v3 D4)
  unfold F_X5_readSum_L8
  refine z_iload_n (i := 3) (x := v3) dX5_readSum_8 rfl rfl ?_
  refine z_sipush (v := 150) dX5_readSum_9 (by decide) ?_
  refine z_icmp_ge 79 dX5_readSum_12 (by decide) (fun c6 => ?_) (fun c6 => ?_)
  · exact z_vreturn dX5_readSum_79 z_rWV trivial (Nat.le_refl _) (Nat.le_refl _)
  · refine z_aload_n (i := 1) (x := 1) dX5_readSum_15 rfl rfl ?_
    refine z_cP (As := [.ref 1]) (rest := []) (em_X8_failed hl hW D4) (fun o7 h => z_runV 49 0 h rfl kk_X5_49 hs1 kl_8.1 kq_X8_failed rfl (Nat.le_of_ble_eq_true rfl) ⟨by dsimp only; omega, by dsimp only; omega, Nat.le_of_ble_eq_true rfl, Nat.le_of_ble_eq_true rfl⟩ dX5_readSum_16) z_gWV (fun hz7 => ?_)
    refine z_if_ne 79 dX5_readSum_19 (by decide) (fun c8 => ?_) (fun c8 => ?_)
    · refine z_aload_n (i := 1) (x := 1) dX5_readSum_22 rfl rfl ?_
      refine z_bipush (v := 43) dX5_readSum_23 (by decide) ?_
      refine z_cWI (As := [.ref 1, .int 43]) (rest := []) (em_X8_takesSign hl hW N 43 D4) (fun o7 h => z_runV 63 1 h rfl kk_X5_63 hs1 kl_8.1 kq_X8_takesSign rfl (Nat.le_of_ble_eq_true rfl) ⟨by dsimp only; omega, by dsimp only; omega, Nat.le_of_ble_eq_true rfl, Nat.le_of_ble_eq_true rfl⟩ dX5_readSum_25) z_gWV (fun a_10 hz9 => ?_)
      refine z_if_eq 47 dX5_readSum_28 (by decide) (fun c11 => ?_) (fun c11 => ?_)
      · refine z_aload_n (i := 1) (x := 1) dX5_readSum_47 rfl rfl ?_
        refine z_bipush (v := 45) dX5_readSum_48 (by decide) ?_
        refine z_cWI (As := [.ref 1, .int 45]) (rest := []) (em_X8_takesSign hl hW N 45 a_10.2) (fun o7 h => z_runV 63 1 h rfl kk_X5_63 hs1 kl_8.1 kq_X8_takesSign rfl (Nat.le_of_ble_eq_true rfl) ⟨by dsimp only; omega, by dsimp only; omega, Nat.le_of_ble_eq_true rfl, Nat.le_of_ble_eq_true rfl⟩ dX5_readSum_50) z_gWV (fun a_13 hz12 => ?_)
        refine z_if_eq 72 dX5_readSum_53 (by decide) (fun c14 => ?_) (fun c14 => ?_)
        · exact z_vreturn dX5_readSum_72 z_rWV trivial (Nat.le_refl _) (Nat.le_refl _)
        · refine z_aload_n (i := 0) (x := 7) dX5_readSum_56 rfl rfl ?_
          refine z_aload_n (i := 1) (x := 1) dX5_readSum_57 rfl rfl ?_
          refine z_iload_n (i := 2) (x := a0) dX5_readSum_58 rfl rfl ?_
          refine z_cWV (As := [.ref 7, .ref 1, .int a0]) (rest := []) (em_X5_readProduct hl hW N K slf hs a0 a_13.2) (fun o7 h => z_runV 60 2 h rfl kk_X5_60 hs7 kl_5.1 kq_X5_readProduct rfl (Nat.le_of_ble_eq_true rfl) ⟨by dsimp only; omega, by dsimp only; omega, Nat.le_of_ble_eq_true rfl, Nat.le_of_ble_eq_true rfl⟩ dX5_readSum_59) z_gWV (fun a_16 hz15 => ?_)
          refine z_aload_n (i := 0) (x := 7) dX5_readSum_62 rfl rfl ?_
          refine z_sipush (v := 2003) dX5_readSum_63 (by decide) ?_
          refine z_cTV (As := [.ref 7, .int 2003]) (rest := []) (em_X5_write hl hW 2003 a_16) (fun o7 h => z_runV 67 1 h rfl kk_X5_67 hs7 kl_5.1 kq_X5_write rfl (Nat.le_of_ble_eq_true rfl) ⟨by dsimp only; omega, by dsimp only; omega, Nat.le_of_ble_eq_true rfl, Nat.le_of_ble_eq_true rfl⟩ dX5_readSum_66) z_gWV (fun a_18 hz17 => ?_)
          refine z_goto 73 dX5_readSum_69 (by decide) ?_
          refine z_iinc (i := 3) (x := v3) (y := 1) dX5_readSum_73 rfl (by decide) (by decide) rfl (fun v19 => ?_)
          refine z_goto 8 dX5_readSum_76 (by decide) ?_
          exact hkc5 (v19, a_18)
      · refine z_aload_n (i := 0) (x := 7) dX5_readSum_31 rfl rfl ?_
        refine z_aload_n (i := 1) (x := 1) dX5_readSum_32 rfl rfl ?_
        refine z_iload_n (i := 2) (x := a0) dX5_readSum_33 rfl rfl ?_
        refine z_cWV (As := [.ref 7, .ref 1, .int a0]) (rest := []) (em_X5_readProduct hl hW N K slf hs a0 a_10.2) (fun o7 h => z_runV 60 2 h rfl kk_X5_60 hs7 kl_5.1 kq_X5_readProduct rfl (Nat.le_of_ble_eq_true rfl) ⟨by dsimp only; omega, by dsimp only; omega, Nat.le_of_ble_eq_true rfl, Nat.le_of_ble_eq_true rfl⟩ dX5_readSum_34) z_gWV (fun a_21 hz20 => ?_)
        refine z_aload_n (i := 0) (x := 7) dX5_readSum_37 rfl rfl ?_
        refine z_sipush (v := 2002) dX5_readSum_38 (by decide) ?_
        refine z_cTV (As := [.ref 7, .int 2002]) (rest := []) (em_X5_write hl hW 2002 a_21) (fun o7 h => z_runV 67 1 h rfl kk_X5_67 hs7 kl_5.1 kq_X5_write rfl (Nat.le_of_ble_eq_true rfl) ⟨by dsimp only; omega, by dsimp only; omega, Nat.le_of_ble_eq_true rfl, Nat.le_of_ble_eq_true rfl⟩ dX5_readSum_41) z_gWV (fun a_23 hz22 => ?_)
        refine z_goto 73 dX5_readSum_44 (by decide) ?_
        refine z_iinc (i := 3) (x := v3) (y := 1) dX5_readSum_73 rfl (by decide) (by decide) rfl (fun v24 => ?_)
        refine z_goto 8 dX5_readSum_76 (by decide) ?_
        exact hkc5 (v24, a_23)
    · exact z_vreturn dX5_readSum_79 z_rWV trivial (Nat.le_refl _) (Nat.le_refl _)
def F_X5_readSum (N : Nat) : Nat → Int32 → z_Dat → Option z_Dat
  | 0 => fun _ _ => none
  | K + 1 => F_X5_readSum_B N (F_X5_readSum N K)
theorem em_X5_readSum {l : Launch} {S : List z_Shp} {oW : Nat} (hl : l.stackTraces = false) (hW : z_W S oW) (N : Nat) : ∀ (K : Nat) (a0 : Int32) (D : z_Dat), ∀ out, z_ko (z_kV S) (F_X5_readSum N K a0 D) out → z_EM l M_X5_readSum (70 + 20 * K, 700 + 300 * K, 0, 0) [.ref 7, .ref 1, .int a0] S D out
  | 0, _, _, _, ⟨_, h, _⟩ => by cases h
  | K + 1, a0, D, out, h => em_X5_readSum_B hl hW N K (F_X5_readSum N K) (fun a0 D => em_X5_readSum hl hW N K a0 D) a0 D out h

def F_X5_read_J28 (N : Nat) (D7 : z_Dat) : Option z_Dat :=
  if (F_X8_failed D7) = 0 then (z_bd (F_X10_copy N 9 150 8 150 0 0 (D7 7 5) D7) (fun a_11 => z_let (z_up a_11 7 4 (a_11 7 5)) (fun D12 => z_let (z_up D12 7 6 1) (fun D13 => some D13))))
  else (some D7)
def F_X5_read (N : Nat) (D : z_Dat) : Option z_Dat :=
  z_let (z_up D 7 5 0) (fun D1 => z_bd (F_X5_readSum N 64 0 D1) (fun a_3 => z_bd (F_X8_next a_3) (fun a_5 => if a_5 = (-1) then (F_X5_read_J28 N a_3)
  else (z_let (F_X8_fail 1 (a_3 1 3) a_3) (fun a_15 => F_X5_read_J28 N a_15)))))
set_option maxRecDepth 100000 in
set_option maxHeartbeats 4000000 in
theorem em_X5_read {l : Launch} {S : List z_Shp} {oW : Nat} (hl : l.stackTraces = false) (hW : z_W S oW) (N : Nat) (D : z_Dat) : ∀ out, z_ko (z_kV S) (F_X5_read N D) out → z_EM l M_X5_read (1360, 19960, 0, 0) [.ref 7, .ref 1] S D out := by
  have hs1 : S[1]? = some (10, 7, [some (some 2), none, none, none, none, none, none]) := hW.1 1 _ rfl
  have hs7 : S[7]? = some (7, 7, [some (some 8), some (some 9), some (some 10), some (some 11), none, none, none]) := hW.1 7 _ rfl
  have hs8 : S[8]? = some (0, 150, []) := hW.1 8 _ rfl
  have hs9 : S[9]? = some (0, 150, []) := hW.1 9 _ rfl
  refine z_meth hl rfl kp_X5 (Nat.le_of_ble_eq_true rfl) (lv := [some (.ref 7), some (.ref 1)]) rfl ?_
  unfold F_X5_read
  have hJ_F_X5_read_J28 : ∀ (D7 : z_Dat) , z_F l M_X5_read (1360, 19960, 0, 0) 0 0 28 [some (.ref 7), some (.ref 1)] [] S D7 (z_ko (z_kV S)) (F_X5_read_J28 N D7) := by
    intro D7
    unfold F_X5_read_J28
    refine z_aload_n (i := 1) (x := 1) dX5_read_28 rfl rfl ?_
    refine z_cP (As := [.ref 1]) (rest := []) (em_X8_failed hl hW D7) (fun o7 h => z_runV 49 0 h rfl kk_X5_49 hs1 kl_8.1 kq_X8_failed rfl (Nat.le_of_ble_eq_true rfl) ⟨Nat.le_of_ble_eq_true rfl, Nat.le_of_ble_eq_true rfl, Nat.le_of_ble_eq_true rfl, Nat.le_of_ble_eq_true rfl⟩ dX5_read_29) z_gWV (fun hz8 => ?_)
    refine z_if_ne 65 dX5_read_32 (by decide) (fun c9 => ?_) (fun c9 => ?_)
    · refine z_aload_n (i := 0) (x := 7) dX5_read_35 rfl rfl ?_
      refine z_getR (j := 1) dX5_read_36 kl_5 hs7 (by decide) rfl rfl kf_X5_15 ?_
      refine z_iconst (v := 0) dX5_read_39 rfl ?_
      refine z_aload_n (i := 0) (x := 7) dX5_read_40 rfl rfl ?_
      refine z_getR (j := 0) dX5_read_41 kl_5 hs7 (by decide) rfl rfl kf_X5_9 ?_
      refine z_iconst (v := 0) dX5_read_44 rfl ?_
      refine z_aload_n (i := 0) (x := 7) dX5_read_45 rfl rfl ?_
      refine z_getI (j := 5) dX5_read_46 kl_5 hs7 (by decide) rfl rfl kf_X5_28 ?_
      refine z_cWV (As := [.ref 9, .int 0, .ref 8, .int 0, .int (D7 7 5)]) (rest := []) (em_X10_copy (n0 := 150) (n1 := 150) hl hs9 (by decide) hs8 (by decide) N 0 0 (D7 7 5) D7) (fun o7 h => z_runSN 53 5 h rfl kk_X5_53 kn_X5_53 kq_X10_copy rfl (Nat.le_of_ble_eq_true rfl) ⟨Nat.le_of_ble_eq_true rfl, Nat.le_of_ble_eq_true rfl, Nat.le_of_ble_eq_true rfl, Nat.le_of_ble_eq_true rfl⟩ dX5_read_49) z_gWV (fun a_11 hz10 => ?_)
      refine z_aload_n (i := 0) (x := 7) dX5_read_52 rfl rfl ?_
      refine z_aload_n (i := 0) (x := 7) dX5_read_53 rfl rfl ?_
      refine z_getI (j := 5) dX5_read_54 kl_5 hs7 (by decide) rfl rfl kf_X5_28 ?_
      refine z_putI (j := 4) dX5_read_57 kl_5 tyX5_ok nmX5 hs7 (by decide) rfl rfl rfl rfl rfl rfl kf_X5_57 (fun D12 => ?_)
      refine z_aload_n (i := 0) (x := 7) dX5_read_60 rfl rfl ?_
      refine z_iconst (v := 1) dX5_read_61 rfl ?_
      refine z_putI (j := 6) dX5_read_62 kl_5 tyX5_ok nmX5 hs7 (by decide) rfl rfl rfl rfl (by decide) (by decide) kf_X5_24 (fun D13 => ?_)
      exact z_vreturn dX5_read_65 z_rWV trivial (by decide) (by decide)
    · exact z_vreturn dX5_read_65 z_rWV trivial (by decide) (by decide)
  refine z_aload_n (i := 0) (x := 7) dX5_read_0 rfl rfl ?_
  refine z_iconst (v := 0) dX5_read_1 rfl ?_
  refine z_putI (j := 5) dX5_read_2 kl_5 tyX5_ok nmX5 hs7 (by decide) rfl rfl rfl rfl rfl rfl kf_X5_28 (fun D1 => ?_)
  refine z_aload_n (i := 0) (x := 7) dX5_read_5 rfl rfl ?_
  refine z_aload_n (i := 1) (x := 1) dX5_read_6 rfl rfl ?_
  refine z_iconst (v := 0) dX5_read_7 rfl ?_
  refine z_cWV (As := [.ref 7, .ref 1, .int 0]) (rest := []) (em_X5_readSum hl hW N 64 0 D1) (fun o7 h => z_runV 32 2 h rfl kk_X5_32 hs7 kl_5.1 kq_X5_readSum rfl (Nat.le_of_ble_eq_true rfl) ⟨Nat.le_of_ble_eq_true rfl, Nat.le_of_ble_eq_true rfl, Nat.le_of_ble_eq_true rfl, Nat.le_of_ble_eq_true rfl⟩ dX5_read_8) z_gWV (fun a_3 hz2 => ?_)
  refine z_aload_n (i := 1) (x := 1) dX5_read_11 rfl rfl ?_
  refine z_cR (As := [.ref 1]) (rest := []) (em_X8_next hl hW a_3) (fun o7 h => z_runV 36 0 h rfl kk_X5_36 hs1 kl_8.1 kq_X8_next rfl (Nat.le_of_ble_eq_true rfl) ⟨Nat.le_of_ble_eq_true rfl, Nat.le_of_ble_eq_true rfl, Nat.le_of_ble_eq_true rfl, Nat.le_of_ble_eq_true rfl⟩ dX5_read_12) z_gWV (fun a_5 hz4 => ?_)
  refine z_iconst (v := (-1)) dX5_read_15 rfl ?_
  refine z_icmp_eq 28 dX5_read_16 (by decide) (fun c6 => ?_) (fun c6 => ?_)
  · exact hJ_F_X5_read_J28 a_3
  · refine z_aload_n (i := 1) (x := 1) dX5_read_19 rfl rfl ?_
    refine z_iconst (v := 1) dX5_read_20 rfl ?_
    refine z_aload_n (i := 1) (x := 1) dX5_read_21 rfl rfl ?_
    refine z_getIN (j := 3) dX5_read_22 kl_8 hs1 (by decide) rfl rfl kf_X5_42 ?_
    refine z_cTV (As := [.ref 1, .int 1, .int (a_3 1 3)]) (rest := []) (em_X8_fail hl hW 1 (a_3 1 3) a_3) (fun o7 h => z_runV 45 2 h rfl kk_X5_45 hs1 kl_8.1 kq_X8_fail rfl (Nat.le_of_ble_eq_true rfl) ⟨Nat.le_of_ble_eq_true rfl, Nat.le_of_ble_eq_true rfl, Nat.le_of_ble_eq_true rfl, Nat.le_of_ble_eq_true rfl⟩ dX5_read_25) z_gWV (fun a_15 hz14 => ?_)
    exact hJ_F_X5_read_J28 a_15

def F_X10_law (N : Nat) (a0 : Int32) (D : z_Dat) : Option ((Int32 × z_Dat) ⊕ (String × z_Dat)) :=
  z_bt (F_X10_demand (F_X8_has a0 150 D) D) (fun a_3 => z_bd (F_X8_open N a0 a_3) (fun a_5 => z_bd (F_X5_read N a_5) (fun a_7 => if (F_X8_failed a_7) = 0 then (some (.inl (1, a_7)))
  else (some (.inl (F_X8_verdict a_7, a_7))))))
set_option maxRecDepth 100000 in
set_option maxHeartbeats 4000000 in
theorem em_X10_law {l : Launch} {S : List z_Shp} {o : Nat} (hl : l.stackTraces = false) (hW : z_W S o) (N : Nat) (a0 : Int32) (D : z_Dat) : ∀ out, z_ko (z_kTI S) (F_X10_law N a0 D) out → z_EM l M_X10_law (1370, 20020, 1, 6) [.ref 0, .int a0] S D out := by
  have hC := hW.2
  have hs0 : S[0]? = some (12, 15, [some (some 1), some (some 3), some (some 5), some (some 7), some (some 12), some (some 15), some (some 21), some (some 25), some (some 28), some (some 32), some (some 33), some (some o), none, none, none]) := hW.1 0 _ rfl
  have hs1 : S[1]? = some (10, 7, [some (some 2), none, none, none, none, none, none]) := hW.1 1 _ rfl
  have hs7 : S[7]? = some (7, 7, [some (some 8), some (some 9), some (some 10), some (some 11), none, none, none]) := hW.1 7 _ rfl
  refine z_meth hl rfl kp_X10 (Nat.le_of_ble_eq_true rfl) (lv := [some (.ref 0), some (.int a0)]) rfl ?_
  unfold F_X10_law
  refine z_aload_n (i := 0) (x := 0) dX10_law_0 rfl rfl ?_
  refine z_aload_n (i := 0) (x := 0) dX10_law_1 rfl rfl ?_
  refine z_getR (j := 0) dX10_law_2 kl_10 hs0 (by decide) rfl rfl kf_X10_12 ?_
  refine z_iload_n (i := 1) (x := a0) dX10_law_5 rfl rfl ?_
  refine z_sipush (v := 150) dX10_law_6 (by decide) ?_
  refine z_cP (As := [.ref 1, .int a0, .int 150]) (rest := [.ref 0]) (em_X8_has hl hW a0 150 D) (fun o7 h => z_runV 98 2 h rfl kk_X10_98 hs1 kl_8.1 kq_X8_has rfl (Nat.le_of_ble_eq_true rfl) ⟨Nat.le_of_ble_eq_true rfl, Nat.le_of_ble_eq_true rfl, Nat.le_of_ble_eq_true rfl, Nat.le_of_ble_eq_true rfl⟩ dX10_law_9) z_gXI (fun hz1 => ?_)
  refine z_cXVI rfl (As := [.ref 0, .int (F_X8_has a0 150 D)]) (rest := []) (em_X10_demand hl hW (F_X8_has a0 150 D) D) (fun o7 h => z_runV 102 1 h rfl kk_X10_102 hs0 kl_10.1 kq_X10_demand rfl (Nat.le_of_ble_eq_true rfl) ⟨Nat.le_of_ble_eq_true rfl, Nat.le_of_ble_eq_true rfl, Nat.le_of_ble_eq_true rfl, Nat.le_of_ble_eq_true rfl⟩ dX10_law_12) (by decide) (by decide) (fun a_3 hz2 => ?_)
  refine z_aload_n (i := 0) (x := 0) dX10_law_15 rfl rfl ?_
  refine z_getR (j := 0) dX10_law_16 kl_10 hs0 (by decide) rfl rfl kf_X10_12 ?_
  refine z_iload_n (i := 1) (x := a0) dX10_law_19 rfl rfl ?_
  refine z_cWV (As := [.ref 1, .int a0]) (rest := []) (em_X8_open hl hW N a0 a_3) (fun o7 h => z_runV 106 1 h rfl kk_X10_106 hs1 kl_8.1 kq_X8_open rfl (Nat.le_of_ble_eq_true rfl) ⟨Nat.le_of_ble_eq_true rfl, Nat.le_of_ble_eq_true rfl, Nat.le_of_ble_eq_true rfl, Nat.le_of_ble_eq_true rfl⟩ dX10_law_20) z_gXI (fun a_5 hz4 => ?_)
  refine z_aload_n (i := 0) (x := 0) dX10_law_23 rfl rfl ?_
  refine z_getR (j := 3) dX10_law_24 kl_10 hs0 (by decide) rfl rfl kf_X10_29 ?_
  refine z_aload_n (i := 0) (x := 0) dX10_law_27 rfl rfl ?_
  refine z_getR (j := 0) dX10_law_28 kl_10 hs0 (by decide) rfl rfl kf_X10_12 ?_
  refine z_cWV (As := [.ref 7, .ref 1]) (rest := []) (em_X5_read hl hW N a_5) (fun o7 h => z_runV 137 1 h rfl kk_X10_137 hs7 kl_5.1 kq_X5_read rfl (Nat.le_of_ble_eq_true rfl) ⟨Nat.le_of_ble_eq_true rfl, Nat.le_of_ble_eq_true rfl, Nat.le_of_ble_eq_true rfl, Nat.le_of_ble_eq_true rfl⟩ dX10_law_31) z_gXI (fun a_7 hz6 => ?_)
  refine z_aload_n (i := 0) (x := 0) dX10_law_34 rfl rfl ?_
  refine z_getR (j := 0) dX10_law_35 kl_10 hs0 (by decide) rfl rfl kf_X10_12 ?_
  refine z_cP (As := [.ref 1]) (rest := []) (em_X8_failed hl hW a_7) (fun o7 h => z_runV 113 0 h rfl kk_X10_113 hs1 kl_8.1 kq_X8_failed rfl (Nat.le_of_ble_eq_true rfl) ⟨Nat.le_of_ble_eq_true rfl, Nat.le_of_ble_eq_true rfl, Nat.le_of_ble_eq_true rfl, Nat.le_of_ble_eq_true rfl⟩ dX10_law_38) z_gXI (fun hz8 => ?_)
  refine z_if_eq 54 dX10_law_41 (by decide) (fun c9 => ?_) (fun c9 => ?_)
  · refine z_iconst (v := 1) dX10_law_54 rfl ?_
    exact z_ireturn dX10_law_55 z_rXI rfl (by decide) (by decide)
  · refine z_aload_n (i := 0) (x := 0) dX10_law_44 rfl rfl ?_
    refine z_getR (j := 0) dX10_law_45 kl_10 hs0 (by decide) rfl rfl kf_X10_12 ?_
    refine z_cP (As := [.ref 1]) (rest := []) (em_X8_verdict hl hW a_7) (fun o7 h => z_runV 116 0 h rfl kk_X10_116 hs1 kl_8.1 kq_X8_verdict rfl (Nat.le_of_ble_eq_true rfl) ⟨Nat.le_of_ble_eq_true rfl, Nat.le_of_ble_eq_true rfl, Nat.le_of_ble_eq_true rfl, Nat.le_of_ble_eq_true rfl⟩ dX10_law_48) z_gXI (fun hz10 => ?_)
    refine z_goto 55 dX10_law_51 (by decide) ?_
    exact z_ireturn dX10_law_55 z_rXI rfl (by decide) (by decide)

def F_X7_write (a0 : Int32) (a1 : Int32) (a2 : Int32) (D : z_Dat) : z_Dat :=
  z_let (F_X10_put 16 37 (D 15 5) a0 D) (fun a_2 => z_let (F_X10_put 17 37 (a_2 15 5) a1 a_2) (fun a_4 => z_let (F_X10_put 18 37 (a_4 15 5) a2 a_4) (fun a_6 => z_let (z_up a_6 15 5 ((a_6 15 5) + 1)) (fun D7 => D7))))
set_option maxRecDepth 100000 in
set_option maxHeartbeats 4000000 in
theorem em_X7_write {l : Launch} {S : List z_Shp} {oW : Nat} (hl : l.stackTraces = false) (hW : z_W S oW) (a0 : Int32) (a1 : Int32) (a2 : Int32) (D : z_Dat) : ∀ out, z_kt (z_kV S) (F_X7_write a0 a1 a2 D) out → z_EM l M_X7_write (30, 580, 0, 0) [.ref 15, .int a0, .int a1, .int a2] S D out := by
  have hs15 : S[15]? = some (9, 9, [some (some 16), some (some 17), some (some 18), some (some 19), some (some 20), none, none, none, none]) := hW.1 15 _ rfl
  have hs16 : S[16]? = some (0, 37, []) := hW.1 16 _ rfl
  have hs17 : S[17]? = some (0, 37, []) := hW.1 17 _ rfl
  have hs18 : S[18]? = some (0, 37, []) := hW.1 18 _ rfl
  refine z_meth hl rfl kp_X7 (Nat.le_of_ble_eq_true rfl) (lv := [some (.ref 15), some (.int a0), some (.int a1), some (.int a2)]) rfl ?_
  unfold F_X7_write
  refine z_aload_n (i := 0) (x := 15) dX7_write_0 rfl rfl ?_
  refine z_getR (j := 0) dX7_write_1 kl_7 hs15 (by decide) rfl rfl kf_X7_11 ?_
  refine z_aload_n (i := 0) (x := 15) dX7_write_4 rfl rfl ?_
  refine z_getI (j := 5) dX7_write_5 kl_7 hs15 (by decide) rfl rfl kf_X7_27 ?_
  refine z_iload_n (i := 1) (x := a0) dX7_write_8 rfl rfl ?_
  refine z_cTV (As := [.ref 16, .int (D 15 5), .int a0]) (rest := []) (em_X10_put (n0 := 37) hl hs16 (by decide) (D 15 5) a0 D) (fun o7 h => z_runSN 95 3 h rfl kk_X7_95 kn_X7_95 kq_X10_put rfl (Nat.le_of_ble_eq_true rfl) ⟨Nat.le_of_ble_eq_true rfl, Nat.le_of_ble_eq_true rfl, Nat.le_of_ble_eq_true rfl, Nat.le_of_ble_eq_true rfl⟩ dX7_write_9) z_gTV (fun a_2 hz1 => ?_)
  refine z_aload_n (i := 0) (x := 15) dX7_write_12 rfl rfl ?_
  refine z_getR (j := 1) dX7_write_13 kl_7 hs15 (by decide) rfl rfl kf_X7_15 ?_
  refine z_aload_n (i := 0) (x := 15) dX7_write_16 rfl rfl ?_
  refine z_getI (j := 5) dX7_write_17 kl_7 hs15 (by decide) rfl rfl kf_X7_27 ?_
  refine z_iload_n (i := 2) (x := a1) dX7_write_20 rfl rfl ?_
  refine z_cTV (As := [.ref 17, .int (a_2 15 5), .int a1]) (rest := []) (em_X10_put (n0 := 37) hl hs17 (by decide) (a_2 15 5) a1 a_2) (fun o7 h => z_runSN 95 3 h rfl kk_X7_95 kn_X7_95 kq_X10_put rfl (Nat.le_of_ble_eq_true rfl) ⟨Nat.le_of_ble_eq_true rfl, Nat.le_of_ble_eq_true rfl, Nat.le_of_ble_eq_true rfl, Nat.le_of_ble_eq_true rfl⟩ dX7_write_21) z_gTV (fun a_4 hz3 => ?_)
  refine z_aload_n (i := 0) (x := 15) dX7_write_24 rfl rfl ?_
  refine z_getR (j := 2) dX7_write_25 kl_7 hs15 (by decide) rfl rfl kf_X7_18 ?_
  refine z_aload_n (i := 0) (x := 15) dX7_write_28 rfl rfl ?_
  refine z_getI (j := 5) dX7_write_29 kl_7 hs15 (by decide) rfl rfl kf_X7_27 ?_
  refine z_iload_n (i := 3) (x := a2) dX7_write_32 rfl rfl ?_
  refine z_cTV (As := [.ref 18, .int (a_4 15 5), .int a2]) (rest := []) (em_X10_put (n0 := 37) hl hs18 (by decide) (a_4 15 5) a2 a_4) (fun o7 h => z_runSN 95 3 h rfl kk_X7_95 kn_X7_95 kq_X10_put rfl (Nat.le_of_ble_eq_true rfl) ⟨Nat.le_of_ble_eq_true rfl, Nat.le_of_ble_eq_true rfl, Nat.le_of_ble_eq_true rfl, Nat.le_of_ble_eq_true rfl⟩ dX7_write_33) z_gTV (fun a_6 hz5 => ?_)
  refine z_aload_n (i := 0) (x := 15) dX7_write_36 rfl rfl ?_
  refine z_dup dX7_write_37 rfl ?_
  refine z_getI (j := 5) dX7_write_38 kl_7 hs15 (by decide) rfl rfl kf_X7_27 ?_
  refine z_iconst (v := 1) dX7_write_41 rfl ?_
  refine z_iadd dX7_write_42 ?_
  refine z_putI (j := 5) dX7_write_43 kl_7 tyX7_ok nmX7 hs15 (by decide) rfl rfl rfl rfl rfl rfl kf_X7_27 (fun D7 => ?_)
  exact z_vreturn dX7_write_46 z_rTV trivial (by decide) (by decide)

def F_X7_close (D : z_Dat) : z_Dat :=
  z_let (z_up D 15 6 ((D 15 6) - 1)) (fun D1 => z_let (F_X10_at 19 6 (D1 15 6) D1) (fun v3 => z_let (F_X10_put 18 37 v3 (D1 15 5) D1) (fun a_5 => z_let (F_X7_write 7 v3 0 a_5) (fun a_7 => a_7))))
set_option maxRecDepth 100000 in
set_option maxHeartbeats 4000000 in
theorem em_X7_close {l : Launch} {S : List z_Shp} {oW : Nat} (hl : l.stackTraces = false) (hW : z_W S oW) (D : z_Dat) : ∀ out, z_kt (z_kV S) (F_X7_close D) out → z_EM l M_X7_close (40, 640, 0, 0) [.ref 15] S D out := by
  have hs15 : S[15]? = some (9, 9, [some (some 16), some (some 17), some (some 18), some (some 19), some (some 20), none, none, none, none]) := hW.1 15 _ rfl
  have hs18 : S[18]? = some (0, 37, []) := hW.1 18 _ rfl
  have hs19 : S[19]? = some (0, 6, []) := hW.1 19 _ rfl
  refine z_meth hl rfl kp_X7 (Nat.le_of_ble_eq_true rfl) (lv := [some (.ref 15), none]) rfl ?_
  unfold F_X7_close
  refine z_aload_n (i := 0) (x := 15) dX7_close_0 rfl rfl ?_
  refine z_dup dX7_close_1 rfl ?_
  refine z_getI (j := 6) dX7_close_2 kl_7 hs15 (by decide) rfl rfl kf_X7_31 ?_
  refine z_iconst (v := 1) dX7_close_5 rfl ?_
  refine z_isub dX7_close_6 ?_
  refine z_putI (j := 6) dX7_close_7 kl_7 tyX7_ok nmX7 hs15 (by decide) rfl rfl rfl rfl rfl rfl kf_X7_31 (fun D1 => ?_)
  refine z_aload_n (i := 0) (x := 15) dX7_close_10 rfl rfl ?_
  refine z_getR (j := 3) dX7_close_11 kl_7 hs15 (by decide) rfl rfl kf_X7_21 ?_
  refine z_aload_n (i := 0) (x := 15) dX7_close_14 rfl rfl ?_
  refine z_getI (j := 6) dX7_close_15 kl_7 hs15 (by decide) rfl rfl kf_X7_31 ?_
  refine z_cP (As := [.ref 19, .int (D1 15 6)]) (rest := []) (em_X10_at (n0 := 6) hl hs19 (by decide) (D1 15 6) D1) (fun o7 h => z_runSN 99 2 h rfl kk_X7_99 kn_X7_99 kq_X10_at rfl (Nat.le_of_ble_eq_true rfl) ⟨Nat.le_of_ble_eq_true rfl, Nat.le_of_ble_eq_true rfl, Nat.le_of_ble_eq_true rfl, Nat.le_of_ble_eq_true rfl⟩ dX7_close_18) z_gTV (fun hz2 => ?_)
  refine z_topi (fun v3 => ?_)
  refine z_istore_n (i := 1) (x := v3) (lv' := [some (.ref 15), some (.int v3)]) dX7_close_21 rfl (by decide) rfl rfl ?_
  refine z_aload_n (i := 0) (x := 15) dX7_close_22 rfl rfl ?_
  refine z_getR (j := 2) dX7_close_23 kl_7 hs15 (by decide) rfl rfl kf_X7_18 ?_
  refine z_iload_n (i := 1) (x := v3) dX7_close_26 rfl rfl ?_
  refine z_aload_n (i := 0) (x := 15) dX7_close_27 rfl rfl ?_
  refine z_getI (j := 5) dX7_close_28 kl_7 hs15 (by decide) rfl rfl kf_X7_27 ?_
  refine z_cTV (As := [.ref 18, .int v3, .int (D1 15 5)]) (rest := []) (em_X10_put (n0 := 37) hl hs18 (by decide) v3 (D1 15 5) D1) (fun o7 h => z_runSN 95 3 h rfl kk_X7_95 kn_X7_95 kq_X10_put rfl (Nat.le_of_ble_eq_true rfl) ⟨Nat.le_of_ble_eq_true rfl, Nat.le_of_ble_eq_true rfl, Nat.le_of_ble_eq_true rfl, Nat.le_of_ble_eq_true rfl⟩ dX7_close_31) z_gTV (fun a_5 hz4 => ?_)
  refine z_aload_n (i := 0) (x := 15) dX7_close_34 rfl rfl ?_
  refine z_bipush (v := 7) dX7_close_35 (by decide) ?_
  refine z_iload_n (i := 1) (x := v3) dX7_close_37 rfl rfl ?_
  refine z_iconst (v := 0) dX7_close_38 rfl ?_
  refine z_cTV (As := [.ref 15, .int 7, .int v3, .int 0]) (rest := []) (em_X7_write hl hW 7 v3 0 a_5) (fun o7 h => z_runV 91 3 h rfl kk_X7_91 hs15 kl_7.1 kq_X7_write rfl (Nat.le_of_ble_eq_true rfl) ⟨Nat.le_of_ble_eq_true rfl, Nat.le_of_ble_eq_true rfl, Nat.le_of_ble_eq_true rfl, Nat.le_of_ble_eq_true rfl⟩ dX7_close_39) z_gTV (fun a_7 hz6 => ?_)
  exact z_vreturn dX7_close_42 z_rTV trivial (by decide) (by decide)

def F_X7_readAgain (N : Nat) (D : z_Dat) : Option z_Dat :=
  if (D 15 6) < 6 then (z_bd (F_X8_needNumber N 60 D) (fun a_3 => z_bd (F_X8_needSign N 91 a_3.2) (fun a_5 => z_let (F_X10_put 19 6 (a_5 15 6) (a_5 15 5) a_5) (fun a_7 => z_let (z_up a_7 15 6 ((a_7 15 6) + 1)) (fun D8 => z_let (F_X7_write 6 a_3.1 0 D8) (fun a_10 => some a_10))))))
  else (z_let (F_X8_fail 3 (D 1 4) D) (fun a_12 => some a_12))
set_option maxRecDepth 100000 in
set_option maxHeartbeats 4000000 in
theorem em_X7_readAgain {l : Launch} {S : List z_Shp} {oW : Nat} (hl : l.stackTraces = false) (hW : z_W S oW) (N : Nat) (D : z_Dat) : ∀ out, z_ko (z_kV S) (F_X7_readAgain N D) out → z_EM l M_X7_readAgain (40, 640, 0, 0) [.ref 15, .ref 1] S D out := by
  have hs1 : S[1]? = some (10, 7, [some (some 2), none, none, none, none, none, none]) := hW.1 1 _ rfl
  have hs15 : S[15]? = some (9, 9, [some (some 16), some (some 17), some (some 18), some (some 19), some (some 20), none, none, none, none]) := hW.1 15 _ rfl
  have hs19 : S[19]? = some (0, 6, []) := hW.1 19 _ rfl
  refine z_meth hl rfl kp_X7 (Nat.le_of_ble_eq_true rfl) (lv := [some (.ref 15), some (.ref 1), none]) rfl ?_
  unfold F_X7_readAgain
  refine z_aload_n (i := 0) (x := 15) dX7_readAgain_0 rfl rfl ?_
  refine z_getI (j := 6) dX7_readAgain_1 kl_7 hs15 (by decide) rfl rfl kf_X7_31 ?_
  refine z_bipush (v := 6) dX7_readAgain_4 (by decide) ?_
  refine z_icmp_lt 19 dX7_readAgain_6 (by decide) (fun c1 => ?_) (fun c1 => ?_)
  · refine z_aload_n (i := 1) (x := 1) dX7_readAgain_19 rfl rfl ?_
    refine z_bipush (v := 60) dX7_readAgain_20 (by decide) ?_
    refine z_cWI (As := [.ref 1, .int 60]) (rest := []) (em_X8_needNumber hl hW N 60 D) (fun o7 h => z_runV 81 1 h rfl kk_X7_81 hs1 kl_8.1 kq_X8_needNumber rfl (Nat.le_of_ble_eq_true rfl) ⟨Nat.le_of_ble_eq_true rfl, Nat.le_of_ble_eq_true rfl, Nat.le_of_ble_eq_true rfl, Nat.le_of_ble_eq_true rfl⟩ dX7_readAgain_22) z_gWV (fun a_3 hz2 => ?_)
    refine z_istore_n (i := 2) (x := a_3.1) (lv' := [some (.ref 15), some (.ref 1), some (.int a_3.1)]) dX7_readAgain_25 rfl (by decide) rfl rfl ?_
    refine z_aload_n (i := 1) (x := 1) dX7_readAgain_26 rfl rfl ?_
    refine z_bipush (v := 91) dX7_readAgain_27 (by decide) ?_
    refine z_cWV (As := [.ref 1, .int 91]) (rest := []) (em_X8_needSign hl hW N 91 a_3.2) (fun o7 h => z_runV 47 1 h rfl kk_X7_47 hs1 kl_8.1 kq_X8_needSign rfl (Nat.le_of_ble_eq_true rfl) ⟨Nat.le_of_ble_eq_true rfl, Nat.le_of_ble_eq_true rfl, Nat.le_of_ble_eq_true rfl, Nat.le_of_ble_eq_true rfl⟩ dX7_readAgain_29) z_gWV (fun a_5 hz4 => ?_)
    refine z_aload_n (i := 0) (x := 15) dX7_readAgain_32 rfl rfl ?_
    refine z_getR (j := 3) dX7_readAgain_33 kl_7 hs15 (by decide) rfl rfl kf_X7_21 ?_
    refine z_aload_n (i := 0) (x := 15) dX7_readAgain_36 rfl rfl ?_
    refine z_getI (j := 6) dX7_readAgain_37 kl_7 hs15 (by decide) rfl rfl kf_X7_31 ?_
    refine z_aload_n (i := 0) (x := 15) dX7_readAgain_40 rfl rfl ?_
    refine z_getI (j := 5) dX7_readAgain_41 kl_7 hs15 (by decide) rfl rfl kf_X7_27 ?_
    refine z_cTV (As := [.ref 19, .int (a_5 15 6), .int (a_5 15 5)]) (rest := []) (em_X10_put (n0 := 6) hl hs19 (by decide) (a_5 15 6) (a_5 15 5) a_5) (fun o7 h => z_runSN 95 3 h rfl kk_X7_95 kn_X7_95 kq_X10_put rfl (Nat.le_of_ble_eq_true rfl) ⟨Nat.le_of_ble_eq_true rfl, Nat.le_of_ble_eq_true rfl, Nat.le_of_ble_eq_true rfl, Nat.le_of_ble_eq_true rfl⟩ dX7_readAgain_44) z_gWV (fun a_7 hz6 => ?_)
    refine z_aload_n (i := 0) (x := 15) dX7_readAgain_47 rfl rfl ?_
    refine z_dup dX7_readAgain_48 rfl ?_
    refine z_getI (j := 6) dX7_readAgain_49 kl_7 hs15 (by decide) rfl rfl kf_X7_31 ?_
    refine z_iconst (v := 1) dX7_readAgain_52 rfl ?_
    refine z_iadd dX7_readAgain_53 ?_
    refine z_putI (j := 6) dX7_readAgain_54 kl_7 tyX7_ok nmX7 hs15 (by decide) rfl rfl rfl rfl rfl rfl kf_X7_31 (fun D8 => ?_)
    refine z_aload_n (i := 0) (x := 15) dX7_readAgain_57 rfl rfl ?_
    refine z_bipush (v := 6) dX7_readAgain_58 (by decide) ?_
    refine z_iload_n (i := 2) (x := a_3.1) dX7_readAgain_60 rfl rfl ?_
    refine z_iconst (v := 0) dX7_readAgain_61 rfl ?_
    refine z_cTV (As := [.ref 15, .int 6, .int a_3.1, .int 0]) (rest := []) (em_X7_write hl hW 6 a_3.1 0 D8) (fun o7 h => z_runV 91 3 h rfl kk_X7_91 hs15 kl_7.1 kq_X7_write rfl (Nat.le_of_ble_eq_true rfl) ⟨Nat.le_of_ble_eq_true rfl, Nat.le_of_ble_eq_true rfl, Nat.le_of_ble_eq_true rfl, Nat.le_of_ble_eq_true rfl⟩ dX7_readAgain_62) z_gWV (fun a_10 hz9 => ?_)
    exact z_vreturn dX7_readAgain_65 z_rWV trivial (by decide) (by decide)
  · refine z_aload_n (i := 1) (x := 1) dX7_readAgain_9 rfl rfl ?_
    refine z_iconst (v := 3) dX7_readAgain_10 rfl ?_
    refine z_aload_n (i := 1) (x := 1) dX7_readAgain_11 rfl rfl ?_
    refine z_getIN (j := 4) dX7_readAgain_12 kl_8 hs1 (by decide) rfl rfl kf_X7_88 ?_
    refine z_cTV (As := [.ref 1, .int 3, .int (D 1 4)]) (rest := []) (em_X8_fail hl hW 3 (D 1 4) D) (fun o7 h => z_runV 72 2 h rfl kk_X7_72 hs1 kl_8.1 kq_X8_fail rfl (Nat.le_of_ble_eq_true rfl) ⟨Nat.le_of_ble_eq_true rfl, Nat.le_of_ble_eq_true rfl, Nat.le_of_ble_eq_true rfl, Nat.le_of_ble_eq_true rfl⟩ dX7_readAgain_15) z_gWV (fun a_12 hz11 => ?_)
    exact z_vreturn dX7_readAgain_18 z_rWV trivial (by decide) (by decide)

def F_X7_readStep_J114 (N : Nat) (v15 : Int32) (v16 : Int32) (D17 : z_Dat) : Option z_Dat :=
  z_bd (F_X8_needSign N 59 D17) (fun a_19 => z_let (F_X7_write v15 0 v16 a_19) (fun a_21 => some a_21))
def F_X7_readStep_J114x (N : Nat) (v28 : Int32) (D29 : z_Dat) : Option z_Dat :=
  z_bd (F_X8_needSign N 59 D29) (fun a_31 => z_let (F_X7_write v28 0 0 a_31) (fun a_33 => some a_33))
def F_X7_readStep_J62 (N : Nat) (o : Nat) (v10 : Int32) (D11 : z_Dat) : Option z_Dat :=
  if v10 = 0 then (z_bd (F_X8_needNumber N ((D11 o 5) - 1) D11) (fun a_14 => F_X7_readStep_J114 N v10 a_14.1 a_14.2))
  else (if v10 = 4 then (z_bd (F_X8_needNumber N ((D11 o 6) - 1) D11) (fun a_24 => if 0 = a_24.1 then (z_let (F_X8_fail 2 (a_24.2 1 4) a_24.2) (fun a_27 => F_X7_readStep_J114 N v10 a_24.1 a_27))
  else (F_X7_readStep_J114 N v10 a_24.1 a_24.2)))
  else (F_X7_readStep_J114x N v10 D11))
def F_X7_readStep_J114xx (N : Nat) (v43 : Int32) (v44 : Int32) (v45 : Int32) (D46 : z_Dat) : Option z_Dat :=
  z_bd (F_X8_needSign N 59 D46) (fun a_48 => z_let (F_X7_write v43 v44 v45 a_48) (fun a_50 => some a_50))
def F_X7_readStep_J114xxx (N : Nat) (v57 : Int32) (v58 : Int32) (D59 : z_Dat) : Option z_Dat :=
  z_bd (F_X8_needSign N 59 D59) (fun a_61 => z_let (F_X7_write v57 v58 0 a_61) (fun a_63 => some a_63))
def F_X7_readStep_J62x (N : Nat) (o : Nat) (v37 : Int32) (v38 : Int32) (D39 : z_Dat) : Option z_Dat :=
  if v37 = 0 then (z_bd (F_X8_needNumber N ((D39 o 5) - 1) D39) (fun a_42 => F_X7_readStep_J114xx N v37 v38 a_42.1 a_42.2))
  else (if v37 = 4 then (z_bd (F_X8_needNumber N ((D39 o 6) - 1) D39) (fun a_53 => if v38 = a_53.1 then (z_let (F_X8_fail 2 (a_53.2 1 4) a_53.2) (fun a_56 => F_X7_readStep_J114xx N v37 v38 a_53.1 a_56))
  else (F_X7_readStep_J114xx N v37 v38 a_53.1 a_53.2)))
  else (F_X7_readStep_J114xxx N v37 v38 D39))
def F_X7_readStep (N : Nat) (o : Nat) (D : z_Dat) : Option z_Dat :=
  z_bd (F_X8_takesWordOf N 2 D) (fun a_2 => if a_2.1 = 6 then (z_bd (F_X7_readAgain N a_2.2) (fun a_5 => some a_5))
  else (if a_2.1 = (-1) then (z_let (F_X8_fail 1 (a_2.2 1 3) a_2.2) (fun a_8 => some a_8))
  else (if a_2.1 = 3 then (F_X7_readStep_J62 N o a_2.1 a_2.2)
  else (if a_2.1 = 5 then (F_X7_readStep_J62 N o a_2.1 a_2.2)
  else (z_bd (F_X8_needNumber N ((a_2.2 o 6) - 1) a_2.2) (fun a_36 => F_X7_readStep_J62x N o a_2.1 a_36.1 a_36.2))))))
set_option maxRecDepth 100000 in
set_option maxHeartbeats 4000000 in
theorem em_X7_readStep {l : Launch} {S : List z_Shp} {oW : Nat} {o : Nat} (hl : l.stackTraces = false) (hW : z_W S oW) (hC : z_isCity S o) (N : Nat) (D : z_Dat) : ∀ out, z_ko (z_kV S) (F_X7_readStep N o D) out → z_EM l M_X7_readStep (70, 700, 0, 0) [.ref 15, .ref 1, .ref o] S D out := by
  have hs1 : S[1]? = some (10, 7, [some (some 2), none, none, none, none, none, none]) := hW.1 1 _ rfl
  have hs15 : S[15]? = some (9, 9, [some (some 16), some (some 17), some (some 18), some (some 19), some (some 20), none, none, none, none]) := hW.1 15 _ rfl
  refine z_meth hl rfl kp_X7 (Nat.le_of_ble_eq_true rfl) (lv := [some (.ref 15), some (.ref 1), some (.ref o), none, none, none]) rfl ?_
  unfold F_X7_readStep
  have hJ_F_X7_readStep_J114 : ∀ (v15 : Int32) (v16 : Int32) (D17 : z_Dat) , z_F l M_X7_readStep (70, 700, 0, 0) 0 0 114 [some (.ref 15), some (.ref 1), none, some (.int v15), some (.int 0), some (.int v16)] [] S D17 (z_ko (z_kV S)) (F_X7_readStep_J114 N v15 v16 D17) := by
    intro v15 v16 D17
    unfold F_X7_readStep_J114
    refine z_aload_n (i := 1) (x := 1) dX7_readStep_114 rfl rfl ?_
    refine z_bipush (v := 59) dX7_readStep_115 (by decide) ?_
    refine z_cWV (As := [.ref 1, .int 59]) (rest := []) (em_X8_needSign hl hW N 59 D17) (fun o7 h => z_runV 47 1 h rfl kk_X7_47 hs1 kl_8.1 kq_X8_needSign rfl (Nat.le_of_ble_eq_true rfl) ⟨Nat.le_of_ble_eq_true rfl, Nat.le_of_ble_eq_true rfl, Nat.le_of_ble_eq_true rfl, Nat.le_of_ble_eq_true rfl⟩ dX7_readStep_117) z_gWV (fun a_19 hz18 => ?_)
    refine z_aload_n (i := 0) (x := 15) dX7_readStep_120 rfl rfl ?_
    refine z_iload_n (i := 3) (x := v15) dX7_readStep_121 rfl rfl ?_
    refine z_iload (i := 4) (x := 0) dX7_readStep_122 rfl ?_
    refine z_iload (i := 5) (x := v16) dX7_readStep_124 rfl ?_
    refine z_cTV (As := [.ref 15, .int v15, .int 0, .int v16]) (rest := []) (em_X7_write hl hW v15 0 v16 a_19) (fun o7 h => z_runV 91 3 h rfl kk_X7_91 hs15 kl_7.1 kq_X7_write rfl (Nat.le_of_ble_eq_true rfl) ⟨Nat.le_of_ble_eq_true rfl, Nat.le_of_ble_eq_true rfl, Nat.le_of_ble_eq_true rfl, Nat.le_of_ble_eq_true rfl⟩ dX7_readStep_126) z_gWV (fun a_21 hz20 => ?_)
    exact z_vreturn dX7_readStep_129 z_rWV trivial (by decide) (by decide)
  have hJ_F_X7_readStep_J114x : ∀ (v28 : Int32) (D29 : z_Dat) , z_F l M_X7_readStep (70, 700, 0, 0) 0 0 114 [some (.ref 15), some (.ref 1), none, some (.int v28), some (.int 0), some (.int 0)] [] S D29 (z_ko (z_kV S)) (F_X7_readStep_J114x N v28 D29) := by
    intro v28 D29
    unfold F_X7_readStep_J114x
    refine z_aload_n (i := 1) (x := 1) dX7_readStep_114 rfl rfl ?_
    refine z_bipush (v := 59) dX7_readStep_115 (by decide) ?_
    refine z_cWV (As := [.ref 1, .int 59]) (rest := []) (em_X8_needSign hl hW N 59 D29) (fun o7 h => z_runV 47 1 h rfl kk_X7_47 hs1 kl_8.1 kq_X8_needSign rfl (Nat.le_of_ble_eq_true rfl) ⟨Nat.le_of_ble_eq_true rfl, Nat.le_of_ble_eq_true rfl, Nat.le_of_ble_eq_true rfl, Nat.le_of_ble_eq_true rfl⟩ dX7_readStep_117) z_gWV (fun a_31 hz30 => ?_)
    refine z_aload_n (i := 0) (x := 15) dX7_readStep_120 rfl rfl ?_
    refine z_iload_n (i := 3) (x := v28) dX7_readStep_121 rfl rfl ?_
    refine z_iload (i := 4) (x := 0) dX7_readStep_122 rfl ?_
    refine z_iload (i := 5) (x := 0) dX7_readStep_124 rfl ?_
    refine z_cTV (As := [.ref 15, .int v28, .int 0, .int 0]) (rest := []) (em_X7_write hl hW v28 0 0 a_31) (fun o7 h => z_runV 91 3 h rfl kk_X7_91 hs15 kl_7.1 kq_X7_write rfl (Nat.le_of_ble_eq_true rfl) ⟨Nat.le_of_ble_eq_true rfl, Nat.le_of_ble_eq_true rfl, Nat.le_of_ble_eq_true rfl, Nat.le_of_ble_eq_true rfl⟩ dX7_readStep_126) z_gWV (fun a_33 hz32 => ?_)
    exact z_vreturn dX7_readStep_129 z_rWV trivial (by decide) (by decide)
  have hJ_F_X7_readStep_J62 : ∀ (v10 : Int32) (D11 : z_Dat) , z_F l M_X7_readStep (70, 700, 0, 0) 0 0 62 [some (.ref 15), some (.ref 1), some (.ref o), some (.int v10), some (.int 0), some (.int 0)] [] S D11 (z_ko (z_kV S)) (F_X7_readStep_J62 N o v10 D11) := by
    intro v10 D11
    unfold F_X7_readStep_J62
    refine z_iload_n (i := 3) (x := v10) dX7_readStep_62 rfl rfl ?_
    refine z_if_ne 81 dX7_readStep_63 (by decide) (fun c12 => ?_) (fun c12 => ?_)
    · refine z_aload_n (i := 1) (x := 1) dX7_readStep_66 rfl rfl ?_
      refine z_aload_n (i := 2) (x := o) dX7_readStep_67 rfl rfl ?_
      refine z_getIN (j := 5) dX7_readStep_68 kl_1 hC.1 (by decide) rfl rfl kf_X7_85 ?_
      refine z_iconst (v := 1) dX7_readStep_71 rfl ?_
      refine z_isub dX7_readStep_72 ?_
      refine z_cWI (As := [.ref 1, .int ((D11 o 5) - 1)]) (rest := []) (em_X8_needNumber hl hW N ((D11 o 5) - 1) D11) (fun o7 h => z_runV 81 1 h rfl kk_X7_81 hs1 kl_8.1 kq_X8_needNumber rfl (Nat.le_of_ble_eq_true rfl) ⟨Nat.le_of_ble_eq_true rfl, Nat.le_of_ble_eq_true rfl, Nat.le_of_ble_eq_true rfl, Nat.le_of_ble_eq_true rfl⟩ dX7_readStep_73) z_gWV (fun a_14 hz13 => ?_)
      refine z_istore (i := 5) (x := a_14.1) (lv' := [some (.ref 15), some (.ref 1), some (.ref o), some (.int v10), some (.int 0), some (.int a_14.1)]) dX7_readStep_76 (by decide) rfl rfl ?_
      refine z_goto 114 dX7_readStep_78 (by decide) ?_
      refine z_weak (lv' := [some (.ref 15), some (.ref 1), none, some (.int v10), some (.int 0), some (.int a_14.1)]) ⟨Or.inr rfl, ⟨Or.inr rfl, ⟨Or.inl rfl, ⟨Or.inr rfl, ⟨Or.inr rfl, ⟨Or.inr rfl, trivial⟩⟩⟩⟩⟩⟩ ?_
      exact hJ_F_X7_readStep_J114 v10 a_14.1 a_14.2
    · refine z_iload_n (i := 3) (x := v10) dX7_readStep_81 rfl rfl ?_
      refine z_iconst (v := 4) dX7_readStep_82 rfl ?_
      refine z_icmp_ne 114 dX7_readStep_83 (by decide) (fun c22 => ?_) (fun c22 => ?_)
      · refine z_aload_n (i := 1) (x := 1) dX7_readStep_86 rfl rfl ?_
        refine z_aload_n (i := 2) (x := o) dX7_readStep_87 rfl rfl ?_
        refine z_getIN (j := 6) dX7_readStep_88 kl_1 hC.1 (by decide) rfl rfl kf_X7_76 ?_
        refine z_iconst (v := 1) dX7_readStep_91 rfl ?_
        refine z_isub dX7_readStep_92 ?_
        refine z_cWI (As := [.ref 1, .int ((D11 o 6) - 1)]) (rest := []) (em_X8_needNumber hl hW N ((D11 o 6) - 1) D11) (fun o7 h => z_runV 81 1 h rfl kk_X7_81 hs1 kl_8.1 kq_X8_needNumber rfl (Nat.le_of_ble_eq_true rfl) ⟨Nat.le_of_ble_eq_true rfl, Nat.le_of_ble_eq_true rfl, Nat.le_of_ble_eq_true rfl, Nat.le_of_ble_eq_true rfl⟩ dX7_readStep_93) z_gWV (fun a_24 hz23 => ?_)
        refine z_istore (i := 5) (x := a_24.1) (lv' := [some (.ref 15), some (.ref 1), some (.ref o), some (.int v10), some (.int 0), some (.int a_24.1)]) dX7_readStep_96 (by decide) rfl rfl ?_
        refine z_iload (i := 4) (x := 0) dX7_readStep_98 rfl ?_
        refine z_iload (i := 5) (x := a_24.1) dX7_readStep_100 rfl ?_
        refine z_icmp_ne 114 dX7_readStep_102 (by decide) (fun c25 => ?_) (fun c25 => ?_)
        · refine z_aload_n (i := 1) (x := 1) dX7_readStep_105 rfl rfl ?_
          refine z_iconst (v := 2) dX7_readStep_106 rfl ?_
          refine z_aload_n (i := 1) (x := 1) dX7_readStep_107 rfl rfl ?_
          refine z_getIN (j := 4) dX7_readStep_108 kl_8 hs1 (by decide) rfl rfl kf_X7_88 ?_
          refine z_cTV (As := [.ref 1, .int 2, .int (a_24.2 1 4)]) (rest := []) (em_X8_fail hl hW 2 (a_24.2 1 4) a_24.2) (fun o7 h => z_runV 72 2 h rfl kk_X7_72 hs1 kl_8.1 kq_X8_fail rfl (Nat.le_of_ble_eq_true rfl) ⟨Nat.le_of_ble_eq_true rfl, Nat.le_of_ble_eq_true rfl, Nat.le_of_ble_eq_true rfl, Nat.le_of_ble_eq_true rfl⟩ dX7_readStep_111) z_gWV (fun a_27 hz26 => ?_)
          refine z_weak (lv' := [some (.ref 15), some (.ref 1), none, some (.int v10), some (.int 0), some (.int a_24.1)]) ⟨Or.inr rfl, ⟨Or.inr rfl, ⟨Or.inl rfl, ⟨Or.inr rfl, ⟨Or.inr rfl, ⟨Or.inr rfl, trivial⟩⟩⟩⟩⟩⟩ ?_
          exact hJ_F_X7_readStep_J114 v10 a_24.1 a_27
        · refine z_weak (lv' := [some (.ref 15), some (.ref 1), none, some (.int v10), some (.int 0), some (.int a_24.1)]) ⟨Or.inr rfl, ⟨Or.inr rfl, ⟨Or.inl rfl, ⟨Or.inr rfl, ⟨Or.inr rfl, ⟨Or.inr rfl, trivial⟩⟩⟩⟩⟩⟩ ?_
          exact hJ_F_X7_readStep_J114 v10 a_24.1 a_24.2
      · refine z_weak (lv' := [some (.ref 15), some (.ref 1), none, some (.int v10), some (.int 0), some (.int 0)]) ⟨Or.inr rfl, ⟨Or.inr rfl, ⟨Or.inl rfl, ⟨Or.inr rfl, ⟨Or.inr rfl, ⟨Or.inr rfl, trivial⟩⟩⟩⟩⟩⟩ ?_
        exact hJ_F_X7_readStep_J114x v10 D11
  have hJ_F_X7_readStep_J114xx : ∀ (v43 : Int32) (v44 : Int32) (v45 : Int32) (D46 : z_Dat) , z_F l M_X7_readStep (70, 700, 0, 0) 0 0 114 [some (.ref 15), some (.ref 1), none, some (.int v43), some (.int v44), some (.int v45)] [] S D46 (z_ko (z_kV S)) (F_X7_readStep_J114xx N v43 v44 v45 D46) := by
    intro v43 v44 v45 D46
    unfold F_X7_readStep_J114xx
    refine z_aload_n (i := 1) (x := 1) dX7_readStep_114 rfl rfl ?_
    refine z_bipush (v := 59) dX7_readStep_115 (by decide) ?_
    refine z_cWV (As := [.ref 1, .int 59]) (rest := []) (em_X8_needSign hl hW N 59 D46) (fun o7 h => z_runV 47 1 h rfl kk_X7_47 hs1 kl_8.1 kq_X8_needSign rfl (Nat.le_of_ble_eq_true rfl) ⟨Nat.le_of_ble_eq_true rfl, Nat.le_of_ble_eq_true rfl, Nat.le_of_ble_eq_true rfl, Nat.le_of_ble_eq_true rfl⟩ dX7_readStep_117) z_gWV (fun a_48 hz47 => ?_)
    refine z_aload_n (i := 0) (x := 15) dX7_readStep_120 rfl rfl ?_
    refine z_iload_n (i := 3) (x := v43) dX7_readStep_121 rfl rfl ?_
    refine z_iload (i := 4) (x := v44) dX7_readStep_122 rfl ?_
    refine z_iload (i := 5) (x := v45) dX7_readStep_124 rfl ?_
    refine z_cTV (As := [.ref 15, .int v43, .int v44, .int v45]) (rest := []) (em_X7_write hl hW v43 v44 v45 a_48) (fun o7 h => z_runV 91 3 h rfl kk_X7_91 hs15 kl_7.1 kq_X7_write rfl (Nat.le_of_ble_eq_true rfl) ⟨Nat.le_of_ble_eq_true rfl, Nat.le_of_ble_eq_true rfl, Nat.le_of_ble_eq_true rfl, Nat.le_of_ble_eq_true rfl⟩ dX7_readStep_126) z_gWV (fun a_50 hz49 => ?_)
    exact z_vreturn dX7_readStep_129 z_rWV trivial (by decide) (by decide)
  have hJ_F_X7_readStep_J114xxx : ∀ (v57 : Int32) (v58 : Int32) (D59 : z_Dat) , z_F l M_X7_readStep (70, 700, 0, 0) 0 0 114 [some (.ref 15), some (.ref 1), none, some (.int v57), some (.int v58), some (.int 0)] [] S D59 (z_ko (z_kV S)) (F_X7_readStep_J114xxx N v57 v58 D59) := by
    intro v57 v58 D59
    unfold F_X7_readStep_J114xxx
    refine z_aload_n (i := 1) (x := 1) dX7_readStep_114 rfl rfl ?_
    refine z_bipush (v := 59) dX7_readStep_115 (by decide) ?_
    refine z_cWV (As := [.ref 1, .int 59]) (rest := []) (em_X8_needSign hl hW N 59 D59) (fun o7 h => z_runV 47 1 h rfl kk_X7_47 hs1 kl_8.1 kq_X8_needSign rfl (Nat.le_of_ble_eq_true rfl) ⟨Nat.le_of_ble_eq_true rfl, Nat.le_of_ble_eq_true rfl, Nat.le_of_ble_eq_true rfl, Nat.le_of_ble_eq_true rfl⟩ dX7_readStep_117) z_gWV (fun a_61 hz60 => ?_)
    refine z_aload_n (i := 0) (x := 15) dX7_readStep_120 rfl rfl ?_
    refine z_iload_n (i := 3) (x := v57) dX7_readStep_121 rfl rfl ?_
    refine z_iload (i := 4) (x := v58) dX7_readStep_122 rfl ?_
    refine z_iload (i := 5) (x := 0) dX7_readStep_124 rfl ?_
    refine z_cTV (As := [.ref 15, .int v57, .int v58, .int 0]) (rest := []) (em_X7_write hl hW v57 v58 0 a_61) (fun o7 h => z_runV 91 3 h rfl kk_X7_91 hs15 kl_7.1 kq_X7_write rfl (Nat.le_of_ble_eq_true rfl) ⟨Nat.le_of_ble_eq_true rfl, Nat.le_of_ble_eq_true rfl, Nat.le_of_ble_eq_true rfl, Nat.le_of_ble_eq_true rfl⟩ dX7_readStep_126) z_gWV (fun a_63 hz62 => ?_)
    exact z_vreturn dX7_readStep_129 z_rWV trivial (by decide) (by decide)
  have hJ_F_X7_readStep_J62x : ∀ (v37 : Int32) (v38 : Int32) (D39 : z_Dat) , z_F l M_X7_readStep (70, 700, 0, 0) 0 0 62 [some (.ref 15), some (.ref 1), some (.ref o), some (.int v37), some (.int v38), some (.int 0)] [] S D39 (z_ko (z_kV S)) (F_X7_readStep_J62x N o v37 v38 D39) := by
    intro v37 v38 D39
    unfold F_X7_readStep_J62x
    refine z_iload_n (i := 3) (x := v37) dX7_readStep_62 rfl rfl ?_
    refine z_if_ne 81 dX7_readStep_63 (by decide) (fun c40 => ?_) (fun c40 => ?_)
    · refine z_aload_n (i := 1) (x := 1) dX7_readStep_66 rfl rfl ?_
      refine z_aload_n (i := 2) (x := o) dX7_readStep_67 rfl rfl ?_
      refine z_getIN (j := 5) dX7_readStep_68 kl_1 hC.1 (by decide) rfl rfl kf_X7_85 ?_
      refine z_iconst (v := 1) dX7_readStep_71 rfl ?_
      refine z_isub dX7_readStep_72 ?_
      refine z_cWI (As := [.ref 1, .int ((D39 o 5) - 1)]) (rest := []) (em_X8_needNumber hl hW N ((D39 o 5) - 1) D39) (fun o7 h => z_runV 81 1 h rfl kk_X7_81 hs1 kl_8.1 kq_X8_needNumber rfl (Nat.le_of_ble_eq_true rfl) ⟨Nat.le_of_ble_eq_true rfl, Nat.le_of_ble_eq_true rfl, Nat.le_of_ble_eq_true rfl, Nat.le_of_ble_eq_true rfl⟩ dX7_readStep_73) z_gWV (fun a_42 hz41 => ?_)
      refine z_istore (i := 5) (x := a_42.1) (lv' := [some (.ref 15), some (.ref 1), some (.ref o), some (.int v37), some (.int v38), some (.int a_42.1)]) dX7_readStep_76 (by decide) rfl rfl ?_
      refine z_goto 114 dX7_readStep_78 (by decide) ?_
      refine z_weak (lv' := [some (.ref 15), some (.ref 1), none, some (.int v37), some (.int v38), some (.int a_42.1)]) ⟨Or.inr rfl, ⟨Or.inr rfl, ⟨Or.inl rfl, ⟨Or.inr rfl, ⟨Or.inr rfl, ⟨Or.inr rfl, trivial⟩⟩⟩⟩⟩⟩ ?_
      exact hJ_F_X7_readStep_J114xx v37 v38 a_42.1 a_42.2
    · refine z_iload_n (i := 3) (x := v37) dX7_readStep_81 rfl rfl ?_
      refine z_iconst (v := 4) dX7_readStep_82 rfl ?_
      refine z_icmp_ne 114 dX7_readStep_83 (by decide) (fun c51 => ?_) (fun c51 => ?_)
      · refine z_aload_n (i := 1) (x := 1) dX7_readStep_86 rfl rfl ?_
        refine z_aload_n (i := 2) (x := o) dX7_readStep_87 rfl rfl ?_
        refine z_getIN (j := 6) dX7_readStep_88 kl_1 hC.1 (by decide) rfl rfl kf_X7_76 ?_
        refine z_iconst (v := 1) dX7_readStep_91 rfl ?_
        refine z_isub dX7_readStep_92 ?_
        refine z_cWI (As := [.ref 1, .int ((D39 o 6) - 1)]) (rest := []) (em_X8_needNumber hl hW N ((D39 o 6) - 1) D39) (fun o7 h => z_runV 81 1 h rfl kk_X7_81 hs1 kl_8.1 kq_X8_needNumber rfl (Nat.le_of_ble_eq_true rfl) ⟨Nat.le_of_ble_eq_true rfl, Nat.le_of_ble_eq_true rfl, Nat.le_of_ble_eq_true rfl, Nat.le_of_ble_eq_true rfl⟩ dX7_readStep_93) z_gWV (fun a_53 hz52 => ?_)
        refine z_istore (i := 5) (x := a_53.1) (lv' := [some (.ref 15), some (.ref 1), some (.ref o), some (.int v37), some (.int v38), some (.int a_53.1)]) dX7_readStep_96 (by decide) rfl rfl ?_
        refine z_iload (i := 4) (x := v38) dX7_readStep_98 rfl ?_
        refine z_iload (i := 5) (x := a_53.1) dX7_readStep_100 rfl ?_
        refine z_icmp_ne 114 dX7_readStep_102 (by decide) (fun c54 => ?_) (fun c54 => ?_)
        · refine z_aload_n (i := 1) (x := 1) dX7_readStep_105 rfl rfl ?_
          refine z_iconst (v := 2) dX7_readStep_106 rfl ?_
          refine z_aload_n (i := 1) (x := 1) dX7_readStep_107 rfl rfl ?_
          refine z_getIN (j := 4) dX7_readStep_108 kl_8 hs1 (by decide) rfl rfl kf_X7_88 ?_
          refine z_cTV (As := [.ref 1, .int 2, .int (a_53.2 1 4)]) (rest := []) (em_X8_fail hl hW 2 (a_53.2 1 4) a_53.2) (fun o7 h => z_runV 72 2 h rfl kk_X7_72 hs1 kl_8.1 kq_X8_fail rfl (Nat.le_of_ble_eq_true rfl) ⟨Nat.le_of_ble_eq_true rfl, Nat.le_of_ble_eq_true rfl, Nat.le_of_ble_eq_true rfl, Nat.le_of_ble_eq_true rfl⟩ dX7_readStep_111) z_gWV (fun a_56 hz55 => ?_)
          refine z_weak (lv' := [some (.ref 15), some (.ref 1), none, some (.int v37), some (.int v38), some (.int a_53.1)]) ⟨Or.inr rfl, ⟨Or.inr rfl, ⟨Or.inl rfl, ⟨Or.inr rfl, ⟨Or.inr rfl, ⟨Or.inr rfl, trivial⟩⟩⟩⟩⟩⟩ ?_
          exact hJ_F_X7_readStep_J114xx v37 v38 a_53.1 a_56
        · refine z_weak (lv' := [some (.ref 15), some (.ref 1), none, some (.int v37), some (.int v38), some (.int a_53.1)]) ⟨Or.inr rfl, ⟨Or.inr rfl, ⟨Or.inl rfl, ⟨Or.inr rfl, ⟨Or.inr rfl, ⟨Or.inr rfl, trivial⟩⟩⟩⟩⟩⟩ ?_
          exact hJ_F_X7_readStep_J114xx v37 v38 a_53.1 a_53.2
      · refine z_weak (lv' := [some (.ref 15), some (.ref 1), none, some (.int v37), some (.int v38), some (.int 0)]) ⟨Or.inr rfl, ⟨Or.inr rfl, ⟨Or.inl rfl, ⟨Or.inr rfl, ⟨Or.inr rfl, ⟨Or.inr rfl, trivial⟩⟩⟩⟩⟩⟩ ?_
        exact hJ_F_X7_readStep_J114xxx v37 v38 D39
  refine z_aload_n (i := 1) (x := 1) dX7_readStep_0 rfl rfl ?_
  refine z_ldcS 2 (by decide) dX7_readStep_1 rfl rfl ?_
  refine z_cWI (As := [.ref 1, .retAddr 2]) (rest := []) (em_X8_takesWordOf (w := 2) hl hW (by decide) N D) (fun o7 h => z_runV 61 1 h rfl kk_X7_61 hs1 kl_8.1 kq_X8_takesWordOf rfl (Nat.le_of_ble_eq_true rfl) ⟨Nat.le_of_ble_eq_true rfl, Nat.le_of_ble_eq_true rfl, Nat.le_of_ble_eq_true rfl, Nat.le_of_ble_eq_true rfl⟩ dX7_readStep_3) z_gWV (fun a_2 hz1 => ?_)
  refine z_istore_n (i := 3) (x := a_2.1) (lv' := [some (.ref 15), some (.ref 1), some (.ref o), some (.int a_2.1), none, none]) dX7_readStep_6 rfl (by decide) rfl rfl ?_
  refine z_iload_n (i := 3) (x := a_2.1) dX7_readStep_7 rfl rfl ?_
  refine z_bipush (v := 6) dX7_readStep_8 (by decide) ?_
  refine z_icmp_ne 19 dX7_readStep_10 (by decide) (fun c3 => ?_) (fun c3 => ?_)
  · refine z_aload_n (i := 0) (x := 15) dX7_readStep_13 rfl rfl ?_
    refine z_aload_n (i := 1) (x := 1) dX7_readStep_14 rfl rfl ?_
    refine z_cWV (As := [.ref 15, .ref 1]) (rest := []) (em_X7_readAgain hl hW N a_2.2) (fun o7 h => z_runV 65 1 h rfl kk_X7_65 hs15 kl_7.1 kq_X7_readAgain rfl (Nat.le_of_ble_eq_true rfl) ⟨Nat.le_of_ble_eq_true rfl, Nat.le_of_ble_eq_true rfl, Nat.le_of_ble_eq_true rfl, Nat.le_of_ble_eq_true rfl⟩ dX7_readStep_15) z_gWV (fun a_5 hz4 => ?_)
    exact z_vreturn dX7_readStep_18 z_rWV trivial (by decide) (by decide)
  · refine z_iload_n (i := 3) (x := a_2.1) dX7_readStep_19 rfl rfl ?_
    refine z_iconst (v := (-1)) dX7_readStep_20 rfl ?_
    refine z_icmp_ne 34 dX7_readStep_21 (by decide) (fun c6 => ?_) (fun c6 => ?_)
    · refine z_aload_n (i := 1) (x := 1) dX7_readStep_24 rfl rfl ?_
      refine z_iconst (v := 1) dX7_readStep_25 rfl ?_
      refine z_aload_n (i := 1) (x := 1) dX7_readStep_26 rfl rfl ?_
      refine z_getIN (j := 3) dX7_readStep_27 kl_8 hs1 (by decide) rfl rfl kf_X7_69 ?_
      refine z_cTV (As := [.ref 1, .int 1, .int (a_2.2 1 3)]) (rest := []) (em_X8_fail hl hW 1 (a_2.2 1 3) a_2.2) (fun o7 h => z_runV 72 2 h rfl kk_X7_72 hs1 kl_8.1 kq_X8_fail rfl (Nat.le_of_ble_eq_true rfl) ⟨Nat.le_of_ble_eq_true rfl, Nat.le_of_ble_eq_true rfl, Nat.le_of_ble_eq_true rfl, Nat.le_of_ble_eq_true rfl⟩ dX7_readStep_30) z_gWV (fun a_8 hz7 => ?_)
      exact z_vreturn dX7_readStep_33 z_rWV trivial (by decide) (by decide)
    · refine z_iconst (v := 0) dX7_readStep_34 rfl ?_
      refine z_istore (i := 4) (x := 0) (lv' := [some (.ref 15), some (.ref 1), some (.ref o), some (.int a_2.1), some (.int 0), none]) dX7_readStep_35 (by decide) rfl rfl ?_
      refine z_iconst (v := 0) dX7_readStep_37 rfl ?_
      refine z_istore (i := 5) (x := 0) (lv' := [some (.ref 15), some (.ref 1), some (.ref o), some (.int a_2.1), some (.int 0), some (.int 0)]) dX7_readStep_38 (by decide) rfl rfl ?_
      refine z_iload_n (i := 3) (x := a_2.1) dX7_readStep_40 rfl rfl ?_
      refine z_iconst (v := 3) dX7_readStep_41 rfl ?_
      refine z_icmp_eq 62 dX7_readStep_42 (by decide) (fun c9 => ?_) (fun c9 => ?_)
      · exact hJ_F_X7_readStep_J62 a_2.1 a_2.2
      · refine z_iload_n (i := 3) (x := a_2.1) dX7_readStep_45 rfl rfl ?_
        refine z_iconst (v := 5) dX7_readStep_46 rfl ?_
        refine z_icmp_eq 62 dX7_readStep_47 (by decide) (fun c34 => ?_) (fun c34 => ?_)
        · exact hJ_F_X7_readStep_J62 a_2.1 a_2.2
        · refine z_aload_n (i := 1) (x := 1) dX7_readStep_50 rfl rfl ?_
          refine z_aload_n (i := 2) (x := o) dX7_readStep_51 rfl rfl ?_
          refine z_getIN (j := 6) dX7_readStep_52 kl_1 hC.1 (by decide) rfl rfl kf_X7_76 ?_
          refine z_iconst (v := 1) dX7_readStep_55 rfl ?_
          refine z_isub dX7_readStep_56 ?_
          refine z_cWI (As := [.ref 1, .int ((a_2.2 o 6) - 1)]) (rest := []) (em_X8_needNumber hl hW N ((a_2.2 o 6) - 1) a_2.2) (fun o7 h => z_runV 81 1 h rfl kk_X7_81 hs1 kl_8.1 kq_X8_needNumber rfl (Nat.le_of_ble_eq_true rfl) ⟨Nat.le_of_ble_eq_true rfl, Nat.le_of_ble_eq_true rfl, Nat.le_of_ble_eq_true rfl, Nat.le_of_ble_eq_true rfl⟩ dX7_readStep_57) z_gWV (fun a_36 hz35 => ?_)
          refine z_istore (i := 4) (x := a_36.1) (lv' := [some (.ref 15), some (.ref 1), some (.ref o), some (.int a_2.1), some (.int a_36.1), some (.int 0)]) dX7_readStep_60 (by decide) rfl rfl ?_
          exact hJ_F_X7_readStep_J62x a_2.1 a_36.1 a_36.2

def F_X7_read_J55 (N : Nat) (o : Nat) (kc5 : ((Int32 × z_Dat) → Option z_Dat)) (v10 : Int32) (D11 : z_Dat) : Option z_Dat :=
  if (D11 15 6) = 0 then (z_bd (F_X8_next D11) (fun a_14 => if a_14 = (-1) then (some D11)
  else (z_bd (F_X7_readStep N o D11) (fun a_17 => z_let (v10 + 1) (fun v18 => kc5 (v18, a_17))))))
  else (z_bd (F_X7_readStep N o D11) (fun a_20 => z_let (v10 + 1) (fun v21 => kc5 (v21, a_20))))
def F_X7_read_L12 (N : Nat) (o : Nat) (kc5 : ((Int32 × z_Dat) → Option z_Dat)) (v3 : Int32) (D4 : z_Dat) : Option z_Dat :=
  if 150 ≤ v3 then (some D4)
  else (if (F_X8_failed D4) = 0 then (if (D4 15 6) ≤ 0 then (F_X7_read_J55 N o kc5 v3 D4)
  else (z_bd (F_X8_takesSign N 93 D4) (fun a_23 => if a_23.1 = 0 then (F_X7_read_J55 N o kc5 v3 a_23.2)
  else (z_let (F_X7_close a_23.2) (fun a_26 => z_bd (F_X8_needSign N 59 a_26) (fun a_28 => z_let (v3 + 1) (fun v29 => kc5 (v29, a_28))))))))
  else (some D4))
def F_X7_read (N : Nat) (o : Nat) (D : z_Dat) : Option z_Dat :=
  z_let (z_up D 15 5 0) (fun D1 => z_let (z_up D1 15 6 0) (fun D2 => z_loop (fun kc5 s => F_X7_read_L12 N o kc5 s.1 s.2) N (0, D2)))
set_option maxRecDepth 100000 in
set_option maxHeartbeats 4000000 in
theorem em_X7_read {l : Launch} {S : List z_Shp} {oW : Nat} {o : Nat} (hl : l.stackTraces = false) (hW : z_W S oW) (hC : z_isCity S o) (N : Nat) (D : z_Dat) : ∀ out, z_ko (z_kV S) (F_X7_read N o D) out → z_EM l M_X7_read (80, 760, 0, 0) [.ref 15, .ref 1, .ref o] S D out := by
  have hs1 : S[1]? = some (10, 7, [some (some 2), none, none, none, none, none, none]) := hW.1 1 _ rfl
  have hs15 : S[15]? = some (9, 9, [some (some 16), some (some 17), some (some 18), some (some 19), some (some 20), none, none, none, none]) := hW.1 15 _ rfl
  refine z_meth hl rfl kp_X7 (Nat.le_of_ble_eq_true rfl) (lv := [some (.ref 15), some (.ref 1), some (.ref o), none]) rfl ?_
  unfold F_X7_read
  refine z_aload_n (i := 0) (x := 15) dX7_read_0 rfl rfl ?_
  refine z_iconst (v := 0) dX7_read_1 rfl ?_
  refine z_putI (j := 5) dX7_read_2 kl_7 tyX7_ok nmX7 hs15 (by decide) rfl rfl rfl rfl rfl rfl kf_X7_27 (fun D1 => ?_)
  refine z_aload_n (i := 0) (x := 15) dX7_read_5 rfl rfl ?_
  refine z_iconst (v := 0) dX7_read_6 rfl ?_
  refine z_putI (j := 6) dX7_read_7 kl_7 tyX7_ok nmX7 hs15 (by decide) rfl rfl rfl rfl rfl rfl kf_X7_31 (fun D2 => ?_)
  refine z_iconst (v := 0) dX7_read_10 rfl ?_
  refine z_istore_n (i := 3) (x := 0) (lv' := [some (.ref 15), some (.ref 1), some (.ref o), some (.int 0)]) dX7_read_11 rfl (by decide) rfl rfl ?_
  refine z_loops (lvOf := fun s : Int32 × z_Dat => [some (.ref 15), some (.ref 1), some (.ref o), some (.int s.1)]) (dOf := fun s : Int32 × z_Dat => s.2) (fun kc5 hkc5 s => ?_) N (0, D2)
  obtain ⟨v3, D4⟩ := s
  show z_F _ _ _ _ _ 12 [some (.ref 15), some (.ref 1), some (.ref o), some (.int v3)] [] S D4 _ (F_X7_read_L12 N o kc5 v3 D4)
  unfold F_X7_read_L12
  have hJ_F_X7_read_J55 : ∀ (v10 : Int32) (D11 : z_Dat) , z_F l M_X7_read (80, 760, 0, 0) 0 0 55 [some (.ref 15), some (.ref 1), some (.ref o), some (.int v10)] [] S D11 (z_ko (z_kV S)) (F_X7_read_J55 N o kc5 v10 D11) := by
    intro v10 D11
    unfold F_X7_read_J55
    refine z_aload_n (i := 0) (x := 15) dX7_read_55 rfl rfl ?_
    refine z_getI (j := 6) dX7_read_56 kl_7 hs15 (by decide) rfl rfl kf_X7_31 ?_
    refine z_if_ne 71 dX7_read_59 (by decide) (fun c12 => ?_) (fun c12 => ?_)
    · refine z_aload_n (i := 1) (x := 1) dX7_read_62 rfl rfl ?_
      refine z_cR (As := [.ref 1]) (rest := []) (em_X8_next hl hW D11) (fun o7 h => z_runV 51 0 h rfl kk_X7_51 hs1 kl_8.1 kq_X8_next rfl (Nat.le_of_ble_eq_true rfl) ⟨Nat.le_of_ble_eq_true rfl, Nat.le_of_ble_eq_true rfl, Nat.le_of_ble_eq_true rfl, Nat.le_of_ble_eq_true rfl⟩ dX7_read_63) z_gWV (fun a_14 hz13 => ?_)
      refine z_iconst (v := (-1)) dX7_read_66 rfl ?_
      refine z_icmp_ne 71 dX7_read_67 (by decide) (fun c15 => ?_) (fun c15 => ?_)
      · exact z_vreturn dX7_read_70 z_rWV trivial (by decide) (by decide)
      · refine z_aload_n (i := 0) (x := 15) dX7_read_71 rfl rfl ?_
        refine z_aload_n (i := 1) (x := 1) dX7_read_72 rfl rfl ?_
        refine z_aload_n (i := 2) (x := o) dX7_read_73 rfl rfl ?_
        refine z_cWV (As := [.ref 15, .ref 1, .ref o]) (rest := []) (em_X7_readStep hl hW hC N D11) (fun o7 h => z_runV 55 2 h rfl kk_X7_55 hs15 kl_7.1 kq_X7_readStep rfl (Nat.le_of_ble_eq_true rfl) ⟨Nat.le_of_ble_eq_true rfl, Nat.le_of_ble_eq_true rfl, Nat.le_of_ble_eq_true rfl, Nat.le_of_ble_eq_true rfl⟩ dX7_read_74) z_gWV (fun a_17 hz16 => ?_)
        refine z_iinc (i := 3) (x := v10) (y := 1) dX7_read_77 rfl (by decide) (by decide) rfl (fun v18 => ?_)
        refine z_goto 12 dX7_read_80 (by decide) ?_
        exact hkc5 (v18, a_17)
    · refine z_aload_n (i := 0) (x := 15) dX7_read_71 rfl rfl ?_
      refine z_aload_n (i := 1) (x := 1) dX7_read_72 rfl rfl ?_
      refine z_aload_n (i := 2) (x := o) dX7_read_73 rfl rfl ?_
      refine z_cWV (As := [.ref 15, .ref 1, .ref o]) (rest := []) (em_X7_readStep hl hW hC N D11) (fun o7 h => z_runV 55 2 h rfl kk_X7_55 hs15 kl_7.1 kq_X7_readStep rfl (Nat.le_of_ble_eq_true rfl) ⟨Nat.le_of_ble_eq_true rfl, Nat.le_of_ble_eq_true rfl, Nat.le_of_ble_eq_true rfl, Nat.le_of_ble_eq_true rfl⟩ dX7_read_74) z_gWV (fun a_20 hz19 => ?_)
      refine z_iinc (i := 3) (x := v10) (y := 1) dX7_read_77 rfl (by decide) (by decide) rfl (fun v21 => ?_)
      refine z_goto 12 dX7_read_80 (by decide) ?_
      exact hkc5 (v21, a_20)
  refine z_iload_n (i := 3) (x := v3) dX7_read_12 rfl rfl ?_
  refine z_sipush (v := 150) dX7_read_13 (by decide) ?_
  refine z_icmp_ge 83 dX7_read_16 (by decide) (fun c6 => ?_) (fun c6 => ?_)
  · exact z_vreturn dX7_read_83 z_rWV trivial (by decide) (by decide)
  · refine z_aload_n (i := 1) (x := 1) dX7_read_19 rfl rfl ?_
    refine z_cP (As := [.ref 1]) (rest := []) (em_X8_failed hl hW D4) (fun o7 h => z_runV 34 0 h rfl kk_X7_34 hs1 kl_8.1 kq_X8_failed rfl (Nat.le_of_ble_eq_true rfl) ⟨Nat.le_of_ble_eq_true rfl, Nat.le_of_ble_eq_true rfl, Nat.le_of_ble_eq_true rfl, Nat.le_of_ble_eq_true rfl⟩ dX7_read_20) z_gWV (fun hz7 => ?_)
    refine z_if_ne 83 dX7_read_23 (by decide) (fun c8 => ?_) (fun c8 => ?_)
    · refine z_aload_n (i := 0) (x := 15) dX7_read_26 rfl rfl ?_
      refine z_getI (j := 6) dX7_read_27 kl_7 hs15 (by decide) rfl rfl kf_X7_31 ?_
      refine z_if_le 55 dX7_read_30 (by decide) (fun c9 => ?_) (fun c9 => ?_)
      · exact hJ_F_X7_read_J55 v3 D4
      · refine z_aload_n (i := 1) (x := 1) dX7_read_33 rfl rfl ?_
        refine z_bipush (v := 93) dX7_read_34 (by decide) ?_
        refine z_cWI (As := [.ref 1, .int 93]) (rest := []) (em_X8_takesSign hl hW N 93 D4) (fun o7 h => z_runV 40 1 h rfl kk_X7_40 hs1 kl_8.1 kq_X8_takesSign rfl (Nat.le_of_ble_eq_true rfl) ⟨Nat.le_of_ble_eq_true rfl, Nat.le_of_ble_eq_true rfl, Nat.le_of_ble_eq_true rfl, Nat.le_of_ble_eq_true rfl⟩ dX7_read_36) z_gWV (fun a_23 hz22 => ?_)
        refine z_if_eq 55 dX7_read_39 (by decide) (fun c24 => ?_) (fun c24 => ?_)
        · exact hJ_F_X7_read_J55 v3 a_23.2
        · refine z_aload_n (i := 0) (x := 15) dX7_read_42 rfl rfl ?_
          refine z_cTV (As := [.ref 15]) (rest := []) (em_X7_close hl hW a_23.2) (fun o7 h => z_runV 44 0 h rfl kk_X7_44 hs15 kl_7.1 kq_X7_close rfl (Nat.le_of_ble_eq_true rfl) ⟨Nat.le_of_ble_eq_true rfl, Nat.le_of_ble_eq_true rfl, Nat.le_of_ble_eq_true rfl, Nat.le_of_ble_eq_true rfl⟩ dX7_read_43) z_gWV (fun a_26 hz25 => ?_)
          refine z_aload_n (i := 1) (x := 1) dX7_read_46 rfl rfl ?_
          refine z_bipush (v := 59) dX7_read_47 (by decide) ?_
          refine z_cWV (As := [.ref 1, .int 59]) (rest := []) (em_X8_needSign hl hW N 59 a_26) (fun o7 h => z_runV 47 1 h rfl kk_X7_47 hs1 kl_8.1 kq_X8_needSign rfl (Nat.le_of_ble_eq_true rfl) ⟨Nat.le_of_ble_eq_true rfl, Nat.le_of_ble_eq_true rfl, Nat.le_of_ble_eq_true rfl, Nat.le_of_ble_eq_true rfl⟩ dX7_read_49) z_gWV (fun a_28 hz27 => ?_)
          refine z_goto 77 dX7_read_52 (by decide) ?_
          refine z_iinc (i := 3) (x := v3) (y := 1) dX7_read_77 rfl (by decide) (by decide) rfl (fun v29 => ?_)
          refine z_goto 12 dX7_read_80 (by decide) ?_
          exact hkc5 (v29, a_28)
    · exact z_vreturn dX7_read_83 z_rWV trivial (by decide) (by decide)

def F_X9_saveTo (N : Nat) (t : Nat) (r0 : Nat) (n0 : Nat) (a0 : Int32) (D : z_Dat) : Option z_Dat :=
  z_bd (F_X10_copy N (t + 1) 44 r0 n0 0 a0 44 D) (fun a_2 => some a_2)
set_option maxRecDepth 100000 in
set_option maxHeartbeats 4000000 in
theorem em_X9_saveTo {l : Launch} {S : List z_Shp} {t : Nat} {r0 : Nat} {n0 : Nat} (hl : l.stackTraces = false) (hT : z_isTown S t) (hr0 : S[r0]? = some (0, n0, [])) (hn0 : n0 < 2147483648) (N : Nat) (a0 : Int32) (D : z_Dat) : ∀ out, z_ko (z_kV S) (F_X9_saveTo N t r0 n0 a0 D) out → z_EM l M_X9_saveTo (40, 640, 0, 0) [.ref t, .ref r0, .int a0] S D out := by
  refine z_meth hl rfl kp_X9 (Nat.le_of_ble_eq_true rfl) (lv := [some (.ref t), some (.ref r0), some (.int a0)]) rfl ?_
  unfold F_X9_saveTo
  refine z_aload_n (i := 0) (x := t) dX9_saveTo_0 rfl rfl ?_
  refine z_getR (j := 0) dX9_saveTo_1 kl_9 hT.1 (by decide) rfl rfl kf_X9_9 ?_
  refine z_iconst (v := 0) dX9_saveTo_4 rfl ?_
  refine z_aload_n (i := 1) (x := r0) dX9_saveTo_5 rfl rfl ?_
  refine z_iload_n (i := 2) (x := a0) dX9_saveTo_6 rfl rfl ?_
  refine z_bipush (v := 44) dX9_saveTo_7 (by decide) ?_
  refine z_cWV (As := [.ref (t + 1), .int 0, .ref r0, .int a0, .int 44]) (rest := []) (em_X10_copy (n0 := 44) (n1 := n0) hl hT.2 (by decide) hr0 hn0 N 0 a0 44 D) (fun o7 h => z_runSN 39 5 h rfl kk_X9_39 kn_X9_39 kq_X10_copy rfl (Nat.le_of_ble_eq_true rfl) ⟨Nat.le_of_ble_eq_true rfl, Nat.le_of_ble_eq_true rfl, Nat.le_of_ble_eq_true rfl, Nat.le_of_ble_eq_true rfl⟩ dX9_saveTo_9) z_gWV (fun a_2 hz1 => ?_)
  exact z_vreturn dX9_saveTo_12 z_rWV trivial (by decide) (by decide)

def F_X4_remember (N : Nat) (t : Nat) (D : z_Dat) : Option z_Dat :=
  z_bd (F_X9_saveTo N t 22 704 ((D 21 3) * 44) D) (fun a_2 => z_let (z_up a_2 21 3 ((a_2 21 3) + 1)) (fun D3 => some D3))
set_option maxRecDepth 100000 in
set_option maxHeartbeats 4000000 in
theorem em_X4_remember {l : Launch} {S : List z_Shp} {oW : Nat} {t : Nat} (hl : l.stackTraces = false) (hW : z_W S oW) (hT : z_isTown S t) (N : Nat) (D : z_Dat) : ∀ out, z_ko (z_kV S) (F_X4_remember N t D) out → z_EM l M_X4_remember (50, 700, 0, 0) [.ref 21, .ref t] S D out := by
  have hs21 : S[21]? = some (6, 5, [some (some 22), some (some 23), some (some 24), none, none]) := hW.1 21 _ rfl
  have hs22 : S[22]? = some (0, 704, []) := hW.1 22 _ rfl
  refine z_meth hl rfl kp_X4 (Nat.le_of_ble_eq_true rfl) (lv := [some (.ref 21), some (.ref t)]) rfl ?_
  unfold F_X4_remember
  refine z_aload_n (i := 1) (x := t) dX4_remember_0 rfl rfl ?_
  refine z_aload_n (i := 0) (x := 21) dX4_remember_1 rfl rfl ?_
  refine z_getR (j := 0) dX4_remember_2 kl_4 hs21 (by decide) rfl rfl kf_X4_9 ?_
  refine z_aload_n (i := 0) (x := 21) dX4_remember_5 rfl rfl ?_
  refine z_getI (j := 3) dX4_remember_6 kl_4 hs21 (by decide) rfl rfl kf_X4_21 ?_
  refine z_bipush (v := 44) dX4_remember_9 (by decide) ?_
  refine z_imul dX4_remember_11 ?_
  refine z_cWV (As := [.ref t, .ref 22, .int ((D 21 3) * 44)]) (rest := []) (em_X9_saveTo (n0 := 704) hl hT hs22 (by decide) N ((D 21 3) * 44) D) (fun o7 h => z_runV 28 2 h rfl kk_X4_28 hT.1 kl_9.1 kq_X9_saveTo rfl (Nat.le_of_ble_eq_true rfl) ⟨Nat.le_of_ble_eq_true rfl, Nat.le_of_ble_eq_true rfl, Nat.le_of_ble_eq_true rfl, Nat.le_of_ble_eq_true rfl⟩ dX4_remember_12) z_gWV (fun a_2 hz1 => ?_)
  refine z_aload_n (i := 0) (x := 21) dX4_remember_15 rfl rfl ?_
  refine z_dup dX4_remember_16 rfl ?_
  refine z_getI (j := 3) dX4_remember_17 kl_4 hs21 (by decide) rfl rfl kf_X4_21 ?_
  refine z_iconst (v := 1) dX4_remember_20 rfl ?_
  refine z_iadd dX4_remember_21 ?_
  refine z_putI (j := 3) dX4_remember_22 kl_4 tyX4_ok nmX4 hs21 (by decide) rfl rfl rfl rfl rfl rfl kf_X4_21 (fun D3 => ?_)
  exact z_vreturn dX4_remember_25 z_rWV trivial (by decide) (by decide)

def F_X7_afterTurn (a0 : Int32) (D : z_Dat) : Int32 × z_Dat :=
  z_let ((F_X10_at 20 6 ((D 15 6) - 1) D) - 1) (fun v2 => z_let (F_X10_put 20 6 ((D 15 6) - 1) v2 D) (fun a_4 => if v2 ≤ 0 then (z_let (z_up a_4 15 6 ((a_4 15 6) - 1)) (fun D6 => (a0 + 1, D6)))
  else (((F_X10_at 17 37 a0 a_4) + 1, a_4))))
set_option maxRecDepth 100000 in
set_option maxHeartbeats 4000000 in
theorem em_X7_afterTurn {l : Launch} {S : List z_Shp} {oW : Nat} (hl : l.stackTraces = false) (hW : z_W S oW) (a0 : Int32) (D : z_Dat) : ∀ out, z_kt (z_kI S) (F_X7_afterTurn a0 D) out → z_EM l M_X7_afterTurn (30, 580, 0, 0) [.ref 15, .int a0] S D out := by
  have hs15 : S[15]? = some (9, 9, [some (some 16), some (some 17), some (some 18), some (some 19), some (some 20), none, none, none, none]) := hW.1 15 _ rfl
  have hs17 : S[17]? = some (0, 37, []) := hW.1 17 _ rfl
  have hs20 : S[20]? = some (0, 6, []) := hW.1 20 _ rfl
  refine z_meth hl rfl kp_X7 (Nat.le_of_ble_eq_true rfl) (lv := [some (.ref 15), some (.int a0), none]) rfl ?_
  unfold F_X7_afterTurn
  refine z_aload_n (i := 0) (x := 15) dX7_afterTurn_0 rfl rfl ?_
  refine z_getR (j := 4) dX7_afterTurn_1 kl_7 hs15 (by decide) rfl rfl kf_X7_24 ?_
  refine z_aload_n (i := 0) (x := 15) dX7_afterTurn_4 rfl rfl ?_
  refine z_getI (j := 6) dX7_afterTurn_5 kl_7 hs15 (by decide) rfl rfl kf_X7_31 ?_
  refine z_iconst (v := 1) dX7_afterTurn_8 rfl ?_
  refine z_isub dX7_afterTurn_9 ?_
  refine z_cP (As := [.ref 20, .int ((D 15 6) - 1)]) (rest := []) (em_X10_at (n0 := 6) hl hs20 (by decide) ((D 15 6) - 1) D) (fun o7 h => z_runSN 99 2 h rfl kk_X7_99 kn_X7_99 kq_X10_at rfl (Nat.le_of_ble_eq_true rfl) ⟨Nat.le_of_ble_eq_true rfl, Nat.le_of_ble_eq_true rfl, Nat.le_of_ble_eq_true rfl, Nat.le_of_ble_eq_true rfl⟩ dX7_afterTurn_10) z_gTI (fun hz1 => ?_)
  refine z_iconst (v := 1) dX7_afterTurn_13 rfl ?_
  refine z_isub dX7_afterTurn_14 ?_
  refine z_topi (fun v2 => ?_)
  refine z_istore_n (i := 2) (x := v2) (lv' := [some (.ref 15), some (.int a0), some (.int v2)]) dX7_afterTurn_15 rfl (by decide) rfl rfl ?_
  refine z_aload_n (i := 0) (x := 15) dX7_afterTurn_16 rfl rfl ?_
  refine z_getR (j := 4) dX7_afterTurn_17 kl_7 hs15 (by decide) rfl rfl kf_X7_24 ?_
  refine z_aload_n (i := 0) (x := 15) dX7_afterTurn_20 rfl rfl ?_
  refine z_getI (j := 6) dX7_afterTurn_21 kl_7 hs15 (by decide) rfl rfl kf_X7_31 ?_
  refine z_iconst (v := 1) dX7_afterTurn_24 rfl ?_
  refine z_isub dX7_afterTurn_25 ?_
  refine z_iload_n (i := 2) (x := v2) dX7_afterTurn_26 rfl rfl ?_
  refine z_cTV (As := [.ref 20, .int ((D 15 6) - 1), .int v2]) (rest := []) (em_X10_put (n0 := 6) hl hs20 (by decide) ((D 15 6) - 1) v2 D) (fun o7 h => z_runSN 95 3 h rfl kk_X7_95 kn_X7_95 kq_X10_put rfl (Nat.le_of_ble_eq_true rfl) ⟨Nat.le_of_ble_eq_true rfl, Nat.le_of_ble_eq_true rfl, Nat.le_of_ble_eq_true rfl, Nat.le_of_ble_eq_true rfl⟩ dX7_afterTurn_27) z_gTI (fun a_4 hz3 => ?_)
  refine z_iload_n (i := 2) (x := v2) dX7_afterTurn_30 rfl rfl ?_
  refine z_if_le 45 dX7_afterTurn_31 (by decide) (fun c5 => ?_) (fun c5 => ?_)
  · refine z_aload_n (i := 0) (x := 15) dX7_afterTurn_45 rfl rfl ?_
    refine z_dup dX7_afterTurn_46 rfl ?_
    refine z_getI (j := 6) dX7_afterTurn_47 kl_7 hs15 (by decide) rfl rfl kf_X7_31 ?_
    refine z_iconst (v := 1) dX7_afterTurn_50 rfl ?_
    refine z_isub dX7_afterTurn_51 ?_
    refine z_putI (j := 6) dX7_afterTurn_52 kl_7 tyX7_ok nmX7 hs15 (by decide) rfl rfl rfl rfl rfl rfl kf_X7_31 (fun D6 => ?_)
    refine z_iload_n (i := 1) (x := a0) dX7_afterTurn_55 rfl rfl ?_
    refine z_iconst (v := 1) dX7_afterTurn_56 rfl ?_
    refine z_iadd dX7_afterTurn_57 ?_
    exact z_ireturn dX7_afterTurn_58 z_rTI rfl (by decide) (by decide)
  · refine z_aload_n (i := 0) (x := 15) dX7_afterTurn_34 rfl rfl ?_
    refine z_getR (j := 1) dX7_afterTurn_35 kl_7 hs15 (by decide) rfl rfl kf_X7_15 ?_
    refine z_iload_n (i := 1) (x := a0) dX7_afterTurn_38 rfl rfl ?_
    refine z_cP (As := [.ref 17, .int a0]) (rest := []) (em_X10_at (n0 := 37) hl hs17 (by decide) a0 a_4) (fun o7 h => z_runSN 99 2 h rfl kk_X7_99 kn_X7_99 kq_X10_at rfl (Nat.le_of_ble_eq_true rfl) ⟨Nat.le_of_ble_eq_true rfl, Nat.le_of_ble_eq_true rfl, Nat.le_of_ble_eq_true rfl, Nat.le_of_ble_eq_true rfl⟩ dX7_afterTurn_39) z_gTI (fun hz7 => ?_)
    refine z_iconst (v := 1) dX7_afterTurn_42 rfl ?_
    refine z_iadd dX7_afterTurn_43 ?_
    exact z_ireturn dX7_afterTurn_44 z_rTI rfl (by decide) (by decide)

def F_X7_afterAgain (a0 : Int32) (D : z_Dat) : Int32 × z_Dat :=
  z_let (F_X10_at 17 37 a0 D) (fun v2 => if v2 = 0 then (((F_X10_at 18 37 a0 D) + 1, D))
  else (z_let (F_X10_put 20 6 (D 15 6) v2 D) (fun a_6 => z_let (z_up a_6 15 6 ((a_6 15 6) + 1)) (fun D7 => (a0 + 1, D7)))))
set_option maxRecDepth 100000 in
set_option maxHeartbeats 4000000 in
theorem em_X7_afterAgain {l : Launch} {S : List z_Shp} {oW : Nat} (hl : l.stackTraces = false) (hW : z_W S oW) (a0 : Int32) (D : z_Dat) : ∀ out, z_kt (z_kI S) (F_X7_afterAgain a0 D) out → z_EM l M_X7_afterAgain (30, 580, 0, 0) [.ref 15, .int a0] S D out := by
  have hs15 : S[15]? = some (9, 9, [some (some 16), some (some 17), some (some 18), some (some 19), some (some 20), none, none, none, none]) := hW.1 15 _ rfl
  have hs17 : S[17]? = some (0, 37, []) := hW.1 17 _ rfl
  have hs18 : S[18]? = some (0, 37, []) := hW.1 18 _ rfl
  have hs20 : S[20]? = some (0, 6, []) := hW.1 20 _ rfl
  refine z_meth hl rfl kp_X7 (Nat.le_of_ble_eq_true rfl) (lv := [some (.ref 15), some (.int a0), none]) rfl ?_
  unfold F_X7_afterAgain
  refine z_aload_n (i := 0) (x := 15) dX7_afterAgain_0 rfl rfl ?_
  refine z_getR (j := 1) dX7_afterAgain_1 kl_7 hs15 (by decide) rfl rfl kf_X7_15 ?_
  refine z_iload_n (i := 1) (x := a0) dX7_afterAgain_4 rfl rfl ?_
  refine z_cP (As := [.ref 17, .int a0]) (rest := []) (em_X10_at (n0 := 37) hl hs17 (by decide) a0 D) (fun o7 h => z_runSN 99 2 h rfl kk_X7_99 kn_X7_99 kq_X10_at rfl (Nat.le_of_ble_eq_true rfl) ⟨Nat.le_of_ble_eq_true rfl, Nat.le_of_ble_eq_true rfl, Nat.le_of_ble_eq_true rfl, Nat.le_of_ble_eq_true rfl⟩ dX7_afterAgain_5) z_gTI (fun hz1 => ?_)
  refine z_topi (fun v2 => ?_)
  refine z_istore_n (i := 2) (x := v2) (lv' := [some (.ref 15), some (.int a0), some (.int v2)]) dX7_afterAgain_8 rfl (by decide) rfl rfl ?_
  refine z_iload_n (i := 2) (x := v2) dX7_afterAgain_9 rfl rfl ?_
  refine z_if_ne 24 dX7_afterAgain_10 (by decide) (fun c3 => ?_) (fun c3 => ?_)
  · refine z_aload_n (i := 0) (x := 15) dX7_afterAgain_13 rfl rfl ?_
    refine z_getR (j := 2) dX7_afterAgain_14 kl_7 hs15 (by decide) rfl rfl kf_X7_18 ?_
    refine z_iload_n (i := 1) (x := a0) dX7_afterAgain_17 rfl rfl ?_
    refine z_cP (As := [.ref 18, .int a0]) (rest := []) (em_X10_at (n0 := 37) hl hs18 (by decide) a0 D) (fun o7 h => z_runSN 99 2 h rfl kk_X7_99 kn_X7_99 kq_X10_at rfl (Nat.le_of_ble_eq_true rfl) ⟨Nat.le_of_ble_eq_true rfl, Nat.le_of_ble_eq_true rfl, Nat.le_of_ble_eq_true rfl, Nat.le_of_ble_eq_true rfl⟩ dX7_afterAgain_18) z_gTI (fun hz4 => ?_)
    refine z_iconst (v := 1) dX7_afterAgain_21 rfl ?_
    refine z_iadd dX7_afterAgain_22 ?_
    exact z_ireturn dX7_afterAgain_23 z_rTI rfl (by decide) (by decide)
  · refine z_aload_n (i := 0) (x := 15) dX7_afterAgain_24 rfl rfl ?_
    refine z_getR (j := 4) dX7_afterAgain_25 kl_7 hs15 (by decide) rfl rfl kf_X7_24 ?_
    refine z_aload_n (i := 0) (x := 15) dX7_afterAgain_28 rfl rfl ?_
    refine z_getI (j := 6) dX7_afterAgain_29 kl_7 hs15 (by decide) rfl rfl kf_X7_31 ?_
    refine z_iload_n (i := 2) (x := v2) dX7_afterAgain_32 rfl rfl ?_
    refine z_cTV (As := [.ref 20, .int (D 15 6), .int v2]) (rest := []) (em_X10_put (n0 := 6) hl hs20 (by decide) (D 15 6) v2 D) (fun o7 h => z_runSN 95 3 h rfl kk_X7_95 kn_X7_95 kq_X10_put rfl (Nat.le_of_ble_eq_true rfl) ⟨Nat.le_of_ble_eq_true rfl, Nat.le_of_ble_eq_true rfl, Nat.le_of_ble_eq_true rfl, Nat.le_of_ble_eq_true rfl⟩ dX7_afterAgain_33) z_gTI (fun a_6 hz5 => ?_)
    refine z_aload_n (i := 0) (x := 15) dX7_afterAgain_36 rfl rfl ?_
    refine z_dup dX7_afterAgain_37 rfl ?_
    refine z_getI (j := 6) dX7_afterAgain_38 kl_7 hs15 (by decide) rfl rfl kf_X7_31 ?_
    refine z_iconst (v := 1) dX7_afterAgain_41 rfl ?_
    refine z_iadd dX7_afterAgain_42 ?_
    refine z_putI (j := 6) dX7_afterAgain_43 kl_7 tyX7_ok nmX7 hs15 (by decide) rfl rfl rfl rfl rfl rfl kf_X7_31 (fun D7 => ?_)
    refine z_iload_n (i := 1) (x := a0) dX7_afterAgain_46 rfl rfl ?_
    refine z_iconst (v := 1) dX7_afterAgain_47 rfl ?_
    refine z_iadd dX7_afterAgain_48 ?_
    exact z_ireturn dX7_afterAgain_49 z_rTI rfl (by decide) (by decide)

def F_X1_vatOf (o : Nat) (a0 : Int32) (D : z_Dat) : Int32 :=
  F_X10_at (o + 1) 6 a0 D
set_option maxRecDepth 100000 in
set_option maxHeartbeats 4000000 in
theorem em_X1_vatOf {l : Launch} {S : List z_Shp} {o : Nat} (hl : l.stackTraces = false) (hC : z_isCity S o) (a0 : Int32) (D : z_Dat) : ∀ out, z_kt (z_kR S D) (F_X1_vatOf o a0 D) out → z_EM l M_X1_vatOf (30, 580, 0, 0) [.ref o, .int a0] S D out := by
  refine z_meth hl rfl kp_X1 (Nat.le_of_ble_eq_true rfl) (lv := [some (.ref o), some (.int a0)]) rfl ?_
  unfold F_X1_vatOf
  refine z_aload_n (i := 0) (x := o) dX1_vatOf_0 rfl rfl ?_
  refine z_getR (j := 0) dX1_vatOf_1 kl_1 hC.1 (by decide) rfl rfl kf_X1_9 ?_
  refine z_iload_n (i := 1) (x := a0) dX1_vatOf_4 rfl rfl ?_
  refine z_cP (As := [.ref (o + 1), .int a0]) (rest := []) (em_X10_at (n0 := 6) hl hC.2.1 (by decide) a0 D) (fun o7 h => z_runSN 85 2 h rfl kk_X1_85 kn_X1_85 kq_X10_at rfl (Nat.le_of_ble_eq_true rfl) ⟨Nat.le_of_ble_eq_true rfl, Nat.le_of_ble_eq_true rfl, Nat.le_of_ble_eq_true rfl, Nat.le_of_ble_eq_true rfl⟩ dX1_vatOf_5) z_gP (fun hz1 => ?_)
  exact z_ireturn dX1_vatOf_8 z_rP rfl (by decide) (by decide)

def F_X9_has (t : Nat) (a0 : Int32) (a1 : Int32) (D : z_Dat) : Int32 :=
  F_X10_at (t + 1) 44 ((a0 * 5) + a1) D
set_option maxRecDepth 100000 in
set_option maxHeartbeats 4000000 in
theorem em_X9_has {l : Launch} {S : List z_Shp} {t : Nat} (hl : l.stackTraces = false) (hT : z_isTown S t) (a0 : Int32) (a1 : Int32) (D : z_Dat) : ∀ out, z_kt (z_kR S D) (F_X9_has t a0 a1 D) out → z_EM l M_X9_has (30, 580, 0, 0) [.ref t, .int a0, .int a1] S D out := by
  refine z_meth hl rfl kp_X9 (Nat.le_of_ble_eq_true rfl) (lv := [some (.ref t), some (.int a0), some (.int a1)]) rfl ?_
  unfold F_X9_has
  refine z_aload_n (i := 0) (x := t) dX9_has_0 rfl rfl ?_
  refine z_getR (j := 0) dX9_has_1 kl_9 hT.1 (by decide) rfl rfl kf_X9_9 ?_
  refine z_iload_n (i := 1) (x := a0) dX9_has_4 rfl rfl ?_
  refine z_iconst (v := 5) dX9_has_5 rfl ?_
  refine z_imul dX9_has_6 ?_
  refine z_iload_n (i := 2) (x := a1) dX9_has_7 rfl rfl ?_
  refine z_iadd dX9_has_8 ?_
  refine z_cP (As := [.ref (t + 1), .int ((a0 * 5) + a1)]) (rest := []) (em_X10_at (n0 := 44) hl hT.2 (by decide) ((a0 * 5) + a1) D) (fun o7 h => z_runSN 28 2 h rfl kk_X9_28 kn_X9_28 kq_X10_at rfl (Nat.le_of_ble_eq_true rfl) ⟨Nat.le_of_ble_eq_true rfl, Nat.le_of_ble_eq_true rfl, Nat.le_of_ble_eq_true rfl, Nat.le_of_ble_eq_true rfl⟩ dX9_has_9) z_gP (fun hz1 => ?_)
  exact z_ireturn dX9_has_12 z_rP rfl (by decide) (by decide)

def F_X10_partOf (a0 : Int32) (a1 : Int32) : Int32 :=
  if a1 = 0 then (z_rem (a0 / 100) 10)
  else (if a1 = 1 then (z_rem (a0 / 10) 10)
  else (z_rem a0 10))
set_option maxRecDepth 100000 in
set_option maxHeartbeats 4000000 in
theorem em_X10_partOf {l : Launch} {S : List z_Shp} (hl : l.stackTraces = false) (a0 : Int32) (a1 : Int32) (D : z_Dat) : ∀ out, z_kt (z_kR S D) (F_X10_partOf a0 a1) out → z_EM l M_X10_partOf (20, 520, 0, 0) [.int a0, .int a1] S D out := by
  refine z_meth hl rfl kp_X10 (Nat.le_of_ble_eq_true rfl) (lv := [some (.int a0), some (.int a1)]) rfl ?_
  unfold F_X10_partOf
  refine z_iload_n (i := 1) (x := a1) dX10_partOf_0 rfl rfl ?_
  refine z_ite (fun h_0 => ?_) (fun h_0 => ?_)
  · refine z_lsw 28 dX10_partOf_1 (by decide) (by rw [h_0]; first | done | rfl) (by decide) ?_
    refine z_iload_n (i := 0) (x := a0) dX10_partOf_28 rfl rfl ?_
    refine z_bipush (v := 100) dX10_partOf_29 (by decide) ?_
    refine z_idivC dX10_partOf_31 (by decide) ?_
    refine z_bipush (v := 10) dX10_partOf_32 (by decide) ?_
    refine z_iremC dX10_partOf_34 (by decide) ?_
    exact z_ireturn dX10_partOf_35 z_rP rfl (by decide) (by decide)
  · refine z_ite (fun h_1 => ?_) (fun h_1 => ?_)
    · refine z_lsw 36 dX10_partOf_1 (by decide) (by rw [h_1]; first | done | rfl) (by decide) ?_
      refine z_iload_n (i := 0) (x := a0) dX10_partOf_36 rfl rfl ?_
      refine z_bipush (v := 10) dX10_partOf_37 (by decide) ?_
      refine z_idivC dX10_partOf_39 (by decide) ?_
      refine z_bipush (v := 10) dX10_partOf_40 (by decide) ?_
      refine z_iremC dX10_partOf_42 (by decide) ?_
      exact z_ireturn dX10_partOf_43 z_rP rfl (by decide) (by decide)
    · refine z_lsw (off := 43) 44 dX10_partOf_1 (by decide) ((lv_osw h_0 (by decide)).trans ((lv_osw h_1 (by decide)).trans rfl)) (by decide) ?_
      refine z_iload_n (i := 0) (x := a0) dX10_partOf_44 rfl rfl ?_
      refine z_bipush (v := 10) dX10_partOf_45 (by decide) ?_
      refine z_iremC dX10_partOf_47 (by decide) ?_
      exact z_ireturn dX10_partOf_48 z_rP rfl (by decide) (by decide)

def F_X10_deeper_J4 (v18 : Int32) : Int32 :=
  v18
def F_X10_deeper_J4x (a0 : Int32) (a1 : Int32) (v12 : Int32) : Int32 :=
  z_let (z_min 9 ((F_X10_partOf a0 2) + (F_X10_partOf a1 2))) (fun v15 => z_let (v12 + (v15 * (F_X10_unitOf 2))) (fun v17 => F_X10_deeper_J4 v17))
def F_X10_deeper_J4xx (a0 : Int32) (a1 : Int32) (v6 : Int32) : Int32 :=
  z_let (z_min 9 ((F_X10_partOf a0 1) + (F_X10_partOf a1 1))) (fun v9 => z_let (v6 + (v9 * (F_X10_unitOf 1))) (fun v11 => F_X10_deeper_J4x a0 a1 v11))
def F_X10_deeper_J4xxx (a0 : Int32) (a1 : Int32) : Int32 :=
  z_let (z_min 9 ((F_X10_partOf a0 0) + (F_X10_partOf a1 0))) (fun v3 => z_let (0 + (v3 * (F_X10_unitOf 0))) (fun v5 => F_X10_deeper_J4xx a0 a1 v5))
def F_X10_deeper (a0 : Int32) (a1 : Int32) : Int32 :=
  F_X10_deeper_J4xxx a0 a1
set_option maxRecDepth 100000 in
set_option maxHeartbeats 4000000 in
theorem em_X10_deeper {l : Launch} {S : List z_Shp} (hl : l.stackTraces = false) (a0 : Int32) (a1 : Int32) (D : z_Dat) : ∀ out, z_kt (z_kR S D) (F_X10_deeper a0 a1) out → z_EM l M_X10_deeper (30, 580, 0, 0) [.int a0, .int a1] S D out := by
  refine z_meth hl rfl kp_X10 (Nat.le_of_ble_eq_true rfl) (lv := [some (.int a0), some (.int a1), none, none, none]) rfl ?_
  unfold F_X10_deeper
  have hJ_F_X10_deeper_J4 : ∀ (v18 : Int32) , z_F l M_X10_deeper (30, 580, 0, 0) 0 0 4 [some (.int a0), some (.int a1), some (.int v18), some (.int 3), none] [] S D (z_kt (z_kR S D)) (F_X10_deeper_J4 v18) := by
    intro v18
    unfold F_X10_deeper_J4
    refine z_iload_n (i := 3) (x := 3) dX10_deeper_4 rfl rfl ?_
    refine z_iconst (v := 3) dX10_deeper_5 rfl ?_
    refine z_icmp_geJ 43 dX10_deeper_6 (by decide) (by decide) ?_
    refine z_iload_n (i := 2) (x := v18) dX10_deeper_43 rfl rfl ?_
    exact z_ireturn dX10_deeper_44 z_rP rfl (by decide) (by decide)
  have hJ_F_X10_deeper_J4x : ∀ (v12 : Int32) , z_F l M_X10_deeper (30, 580, 0, 0) 0 0 4 [some (.int a0), some (.int a1), some (.int v12), some (.int 2), none] [] S D (z_kt (z_kR S D)) (F_X10_deeper_J4x a0 a1 v12) := by
    intro v12
    unfold F_X10_deeper_J4x
    refine z_iload_n (i := 3) (x := 2) dX10_deeper_4 rfl rfl ?_
    refine z_iconst (v := 3) dX10_deeper_5 rfl ?_
    refine z_icmp_geN 43 dX10_deeper_6 (by decide) (by decide) ?_
    refine z_bipush (v := 9) dX10_deeper_9 (by decide) ?_
    refine z_iload_n (i := 0) (x := a0) dX10_deeper_11 rfl rfl ?_
    refine z_iload_n (i := 3) (x := 2) dX10_deeper_12 rfl rfl ?_
    refine z_cP (As := [.int a0, .int 2]) (rest := [.int 9]) (em_X10_partOf hl a0 2 D) (fun o7 h => z_runS 368 2 h rfl kk_X10_368 kq_X10_partOf rfl (Nat.le_of_ble_eq_true rfl) ⟨Nat.le_of_ble_eq_true rfl, Nat.le_of_ble_eq_true rfl, Nat.le_of_ble_eq_true rfl, Nat.le_of_ble_eq_true rfl⟩ dX10_deeper_13) z_gP (fun hz13 => ?_)
    refine z_iload_n (i := 1) (x := a1) dX10_deeper_16 rfl rfl ?_
    refine z_iload_n (i := 3) (x := 2) dX10_deeper_17 rfl rfl ?_
    refine z_cP (As := [.int a1, .int 2]) (rest := [.int (F_X10_partOf a0 2), .int 9]) (em_X10_partOf hl a1 2 D) (fun o7 h => z_runS 368 2 h rfl kk_X10_368 kq_X10_partOf rfl (Nat.le_of_ble_eq_true rfl) ⟨Nat.le_of_ble_eq_true rfl, Nat.le_of_ble_eq_true rfl, Nat.le_of_ble_eq_true rfl, Nat.le_of_ble_eq_true rfl⟩ dX10_deeper_18) z_gP (fun hz14 => ?_)
    refine z_iadd dX10_deeper_21 ?_
    refine z_mmin dX10_deeper_22 km_X10_339 ⟨Nat.le_of_ble_eq_true rfl, Nat.le_of_ble_eq_true rfl, Nat.le_of_ble_eq_true rfl, Nat.le_of_ble_eq_true rfl⟩ ?_
    refine z_topi (fun v15 => ?_)
    refine z_istore (i := 4) (x := v15) (lv' := [some (.int a0), some (.int a1), some (.int v12), some (.int 2), some (.int v15)]) dX10_deeper_25 (by decide) rfl rfl ?_
    refine z_iload_n (i := 2) (x := v12) dX10_deeper_27 rfl rfl ?_
    refine z_iload (i := 4) (x := v15) dX10_deeper_28 rfl ?_
    refine z_iload_n (i := 3) (x := 2) dX10_deeper_30 rfl rfl ?_
    refine z_cP (As := [.int 2]) (rest := [.int v15, .int v12]) (em_X10_unitOf hl 2 D) (fun o7 h => z_runS 387 1 h rfl kk_X10_387 kq_X10_unitOf rfl (Nat.le_of_ble_eq_true rfl) ⟨Nat.le_of_ble_eq_true rfl, Nat.le_of_ble_eq_true rfl, Nat.le_of_ble_eq_true rfl, Nat.le_of_ble_eq_true rfl⟩ dX10_deeper_31) z_gP (fun hz16 => ?_)
    refine z_imul dX10_deeper_34 ?_
    refine z_iadd dX10_deeper_35 ?_
    refine z_topi (fun v17 => ?_)
    refine z_istore_n (i := 2) (x := v17) (lv' := [some (.int a0), some (.int a1), some (.int v17), some (.int 2), some (.int v15)]) dX10_deeper_36 rfl (by decide) rfl rfl ?_
    refine z_iincC (i := 3) (x := 2) (v := 3) (lv' := [some (.int a0), some (.int a1), some (.int v17), some (.int 3), some (.int v15)]) dX10_deeper_37 rfl (by decide) (by decide) rfl rfl ?_
    refine z_goto 4 dX10_deeper_40 (by decide) ?_
    refine z_weak (lv' := [some (.int a0), some (.int a1), some (.int v17), some (.int 3), none]) ⟨Or.inr rfl, ⟨Or.inr rfl, ⟨Or.inr rfl, ⟨Or.inr rfl, ⟨Or.inl rfl, trivial⟩⟩⟩⟩⟩ ?_
    exact hJ_F_X10_deeper_J4 v17
  have hJ_F_X10_deeper_J4xx : ∀ (v6 : Int32) , z_F l M_X10_deeper (30, 580, 0, 0) 0 0 4 [some (.int a0), some (.int a1), some (.int v6), some (.int 1), none] [] S D (z_kt (z_kR S D)) (F_X10_deeper_J4xx a0 a1 v6) := by
    intro v6
    unfold F_X10_deeper_J4xx
    refine z_iload_n (i := 3) (x := 1) dX10_deeper_4 rfl rfl ?_
    refine z_iconst (v := 3) dX10_deeper_5 rfl ?_
    refine z_icmp_geN 43 dX10_deeper_6 (by decide) (by decide) ?_
    refine z_bipush (v := 9) dX10_deeper_9 (by decide) ?_
    refine z_iload_n (i := 0) (x := a0) dX10_deeper_11 rfl rfl ?_
    refine z_iload_n (i := 3) (x := 1) dX10_deeper_12 rfl rfl ?_
    refine z_cP (As := [.int a0, .int 1]) (rest := [.int 9]) (em_X10_partOf hl a0 1 D) (fun o7 h => z_runS 368 2 h rfl kk_X10_368 kq_X10_partOf rfl (Nat.le_of_ble_eq_true rfl) ⟨Nat.le_of_ble_eq_true rfl, Nat.le_of_ble_eq_true rfl, Nat.le_of_ble_eq_true rfl, Nat.le_of_ble_eq_true rfl⟩ dX10_deeper_13) z_gP (fun hz7 => ?_)
    refine z_iload_n (i := 1) (x := a1) dX10_deeper_16 rfl rfl ?_
    refine z_iload_n (i := 3) (x := 1) dX10_deeper_17 rfl rfl ?_
    refine z_cP (As := [.int a1, .int 1]) (rest := [.int (F_X10_partOf a0 1), .int 9]) (em_X10_partOf hl a1 1 D) (fun o7 h => z_runS 368 2 h rfl kk_X10_368 kq_X10_partOf rfl (Nat.le_of_ble_eq_true rfl) ⟨Nat.le_of_ble_eq_true rfl, Nat.le_of_ble_eq_true rfl, Nat.le_of_ble_eq_true rfl, Nat.le_of_ble_eq_true rfl⟩ dX10_deeper_18) z_gP (fun hz8 => ?_)
    refine z_iadd dX10_deeper_21 ?_
    refine z_mmin dX10_deeper_22 km_X10_339 ⟨Nat.le_of_ble_eq_true rfl, Nat.le_of_ble_eq_true rfl, Nat.le_of_ble_eq_true rfl, Nat.le_of_ble_eq_true rfl⟩ ?_
    refine z_topi (fun v9 => ?_)
    refine z_istore (i := 4) (x := v9) (lv' := [some (.int a0), some (.int a1), some (.int v6), some (.int 1), some (.int v9)]) dX10_deeper_25 (by decide) rfl rfl ?_
    refine z_iload_n (i := 2) (x := v6) dX10_deeper_27 rfl rfl ?_
    refine z_iload (i := 4) (x := v9) dX10_deeper_28 rfl ?_
    refine z_iload_n (i := 3) (x := 1) dX10_deeper_30 rfl rfl ?_
    refine z_cP (As := [.int 1]) (rest := [.int v9, .int v6]) (em_X10_unitOf hl 1 D) (fun o7 h => z_runS 387 1 h rfl kk_X10_387 kq_X10_unitOf rfl (Nat.le_of_ble_eq_true rfl) ⟨Nat.le_of_ble_eq_true rfl, Nat.le_of_ble_eq_true rfl, Nat.le_of_ble_eq_true rfl, Nat.le_of_ble_eq_true rfl⟩ dX10_deeper_31) z_gP (fun hz10 => ?_)
    refine z_imul dX10_deeper_34 ?_
    refine z_iadd dX10_deeper_35 ?_
    refine z_topi (fun v11 => ?_)
    refine z_istore_n (i := 2) (x := v11) (lv' := [some (.int a0), some (.int a1), some (.int v11), some (.int 1), some (.int v9)]) dX10_deeper_36 rfl (by decide) rfl rfl ?_
    refine z_iincC (i := 3) (x := 1) (v := 2) (lv' := [some (.int a0), some (.int a1), some (.int v11), some (.int 2), some (.int v9)]) dX10_deeper_37 rfl (by decide) (by decide) rfl rfl ?_
    refine z_goto 4 dX10_deeper_40 (by decide) ?_
    refine z_weak (lv' := [some (.int a0), some (.int a1), some (.int v11), some (.int 2), none]) ⟨Or.inr rfl, ⟨Or.inr rfl, ⟨Or.inr rfl, ⟨Or.inr rfl, ⟨Or.inl rfl, trivial⟩⟩⟩⟩⟩ ?_
    exact hJ_F_X10_deeper_J4x v11
  have hJ_F_X10_deeper_J4xxx : z_F l M_X10_deeper (30, 580, 0, 0) 0 0 4 [some (.int a0), some (.int a1), some (.int 0), some (.int 0), none] [] S D (z_kt (z_kR S D)) (F_X10_deeper_J4xxx a0 a1) := by
    unfold F_X10_deeper_J4xxx
    refine z_iload_n (i := 3) (x := 0) dX10_deeper_4 rfl rfl ?_
    refine z_iconst (v := 3) dX10_deeper_5 rfl ?_
    refine z_icmp_geN 43 dX10_deeper_6 (by decide) (by decide) ?_
    refine z_bipush (v := 9) dX10_deeper_9 (by decide) ?_
    refine z_iload_n (i := 0) (x := a0) dX10_deeper_11 rfl rfl ?_
    refine z_iload_n (i := 3) (x := 0) dX10_deeper_12 rfl rfl ?_
    refine z_cP (As := [.int a0, .int 0]) (rest := [.int 9]) (em_X10_partOf hl a0 0 D) (fun o7 h => z_runS 368 2 h rfl kk_X10_368 kq_X10_partOf rfl (Nat.le_of_ble_eq_true rfl) ⟨Nat.le_of_ble_eq_true rfl, Nat.le_of_ble_eq_true rfl, Nat.le_of_ble_eq_true rfl, Nat.le_of_ble_eq_true rfl⟩ dX10_deeper_13) z_gP (fun hz1 => ?_)
    refine z_iload_n (i := 1) (x := a1) dX10_deeper_16 rfl rfl ?_
    refine z_iload_n (i := 3) (x := 0) dX10_deeper_17 rfl rfl ?_
    refine z_cP (As := [.int a1, .int 0]) (rest := [.int (F_X10_partOf a0 0), .int 9]) (em_X10_partOf hl a1 0 D) (fun o7 h => z_runS 368 2 h rfl kk_X10_368 kq_X10_partOf rfl (Nat.le_of_ble_eq_true rfl) ⟨Nat.le_of_ble_eq_true rfl, Nat.le_of_ble_eq_true rfl, Nat.le_of_ble_eq_true rfl, Nat.le_of_ble_eq_true rfl⟩ dX10_deeper_18) z_gP (fun hz2 => ?_)
    refine z_iadd dX10_deeper_21 ?_
    refine z_mmin dX10_deeper_22 km_X10_339 ⟨Nat.le_of_ble_eq_true rfl, Nat.le_of_ble_eq_true rfl, Nat.le_of_ble_eq_true rfl, Nat.le_of_ble_eq_true rfl⟩ ?_
    refine z_topi (fun v3 => ?_)
    refine z_istore (i := 4) (x := v3) (lv' := [some (.int a0), some (.int a1), some (.int 0), some (.int 0), some (.int v3)]) dX10_deeper_25 (by decide) rfl rfl ?_
    refine z_iload_n (i := 2) (x := 0) dX10_deeper_27 rfl rfl ?_
    refine z_iload (i := 4) (x := v3) dX10_deeper_28 rfl ?_
    refine z_iload_n (i := 3) (x := 0) dX10_deeper_30 rfl rfl ?_
    refine z_cP (As := [.int 0]) (rest := [.int v3, .int 0]) (em_X10_unitOf hl 0 D) (fun o7 h => z_runS 387 1 h rfl kk_X10_387 kq_X10_unitOf rfl (Nat.le_of_ble_eq_true rfl) ⟨Nat.le_of_ble_eq_true rfl, Nat.le_of_ble_eq_true rfl, Nat.le_of_ble_eq_true rfl, Nat.le_of_ble_eq_true rfl⟩ dX10_deeper_31) z_gP (fun hz4 => ?_)
    refine z_imul dX10_deeper_34 ?_
    refine z_iadd dX10_deeper_35 ?_
    refine z_topi (fun v5 => ?_)
    refine z_istore_n (i := 2) (x := v5) (lv' := [some (.int a0), some (.int a1), some (.int v5), some (.int 0), some (.int v3)]) dX10_deeper_36 rfl (by decide) rfl rfl ?_
    refine z_iincC (i := 3) (x := 0) (v := 1) (lv' := [some (.int a0), some (.int a1), some (.int v5), some (.int 1), some (.int v3)]) dX10_deeper_37 rfl (by decide) (by decide) rfl rfl ?_
    refine z_goto 4 dX10_deeper_40 (by decide) ?_
    refine z_weak (lv' := [some (.int a0), some (.int a1), some (.int v5), some (.int 1), none]) ⟨Or.inr rfl, ⟨Or.inr rfl, ⟨Or.inr rfl, ⟨Or.inr rfl, ⟨Or.inl rfl, trivial⟩⟩⟩⟩⟩ ?_
    exact hJ_F_X10_deeper_J4xx v5
  refine z_iconst (v := 0) dX10_deeper_0 rfl ?_
  refine z_istore_n (i := 2) (x := 0) (lv' := [some (.int a0), some (.int a1), some (.int 0), none, none]) dX10_deeper_1 rfl (by decide) rfl rfl ?_
  refine z_iconst (v := 0) dX10_deeper_2 rfl ?_
  refine z_istore_n (i := 3) (x := 0) (lv' := [some (.int a0), some (.int a1), some (.int 0), some (.int 0), none]) dX10_deeper_3 rfl (by decide) rfl rfl ?_
  exact hJ_F_X10_deeper_J4xxx

def F_X9_stored (t : Nat) (a0 : Int32) (D : z_Dat) : Int32 :=
  F_X10_at (t + 1) 44 (40 + a0) D
set_option maxRecDepth 100000 in
set_option maxHeartbeats 4000000 in
theorem em_X9_stored {l : Launch} {S : List z_Shp} {t : Nat} (hl : l.stackTraces = false) (hT : z_isTown S t) (a0 : Int32) (D : z_Dat) : ∀ out, z_kt (z_kR S D) (F_X9_stored t a0 D) out → z_EM l M_X9_stored (30, 580, 0, 0) [.ref t, .int a0] S D out := by
  refine z_meth hl rfl kp_X9 (Nat.le_of_ble_eq_true rfl) (lv := [some (.ref t), some (.int a0)]) rfl ?_
  unfold F_X9_stored
  refine z_aload_n (i := 0) (x := t) dX9_stored_0 rfl rfl ?_
  refine z_getR (j := 0) dX9_stored_1 kl_9 hT.1 (by decide) rfl rfl kf_X9_9 ?_
  refine z_bipush (v := 40) dX9_stored_4 (by decide) ?_
  refine z_iload_n (i := 1) (x := a0) dX9_stored_6 rfl rfl ?_
  refine z_iadd dX9_stored_7 ?_
  refine z_cP (As := [.ref (t + 1), .int (40 + a0)]) (rest := []) (em_X10_at (n0 := 44) hl hT.2 (by decide) (40 + a0) D) (fun o7 h => z_runSN 28 2 h rfl kk_X9_28 kn_X9_28 kq_X10_at rfl (Nat.le_of_ble_eq_true rfl) ⟨Nat.le_of_ble_eq_true rfl, Nat.le_of_ble_eq_true rfl, Nat.le_of_ble_eq_true rfl, Nat.le_of_ble_eq_true rfl⟩ dX9_stored_8) z_gP (fun hz1 => ?_)
  exact z_ireturn dX9_stored_11 z_rP rfl (by decide) (by decide)

def F_X9_affords_J2 : Int32 :=
  1
def F_X9_affords_J2x (t : Nat) (a0 : Int32) (D : z_Dat) : Int32 :=
  if (F_X10_partOf a0 2) ≤ (F_X9_stored t 2 D) then (F_X9_affords_J2)
  else (0)
def F_X9_affords_J2xx (t : Nat) (a0 : Int32) (D : z_Dat) : Int32 :=
  if (F_X10_partOf a0 1) ≤ (F_X9_stored t 1 D) then (F_X9_affords_J2x t a0 D)
  else (0)
def F_X9_affords_J2xxx (t : Nat) (a0 : Int32) (D : z_Dat) : Int32 :=
  if (F_X10_partOf a0 0) ≤ (F_X9_stored t 0 D) then (F_X9_affords_J2xx t a0 D)
  else (0)
def F_X9_affords (t : Nat) (a0 : Int32) (D : z_Dat) : Int32 :=
  F_X9_affords_J2xxx t a0 D
set_option maxRecDepth 100000 in
set_option maxHeartbeats 4000000 in
theorem em_X9_affords {l : Launch} {S : List z_Shp} {t : Nat} (hl : l.stackTraces = false) (hT : z_isTown S t) (a0 : Int32) (D : z_Dat) : ∀ out, z_kt (z_kR S D) (F_X9_affords t a0 D) out → z_EM l M_X9_affords (40, 640, 0, 0) [.ref t, .int a0] S D out := by
  refine z_meth hl rfl kp_X9 (Nat.le_of_ble_eq_true rfl) (lv := [some (.ref t), some (.int a0), none]) rfl ?_
  unfold F_X9_affords
  have hJ_F_X9_affords_J2 : z_F l M_X9_affords (40, 640, 0, 0) 0 0 2 [some (.ref t), some (.int a0), some (.int 3)] [] S D (z_kt (z_kR S D)) (F_X9_affords_J2) := by
    unfold F_X9_affords_J2
    refine z_iload_n (i := 2) (x := 3) dX9_affords_2 rfl rfl ?_
    refine z_iconst (v := 3) dX9_affords_3 rfl ?_
    refine z_icmp_geJ 28 dX9_affords_4 (by decide) (by decide) ?_
    refine z_iconst (v := 1) dX9_affords_28 rfl ?_
    exact z_ireturn dX9_affords_29 z_rP rfl (by decide) (by decide)
  have hJ_F_X9_affords_J2x : z_F l M_X9_affords (40, 640, 0, 0) 0 0 2 [some (.ref t), some (.int a0), some (.int 2)] [] S D (z_kt (z_kR S D)) (F_X9_affords_J2x t a0 D) := by
    unfold F_X9_affords_J2x
    refine z_iload_n (i := 2) (x := 2) dX9_affords_2 rfl rfl ?_
    refine z_iconst (v := 3) dX9_affords_3 rfl ?_
    refine z_icmp_geN 28 dX9_affords_4 (by decide) (by decide) ?_
    refine z_aload_n (i := 0) (x := t) dX9_affords_7 rfl rfl ?_
    refine z_iload_n (i := 2) (x := 2) dX9_affords_8 rfl rfl ?_
    refine z_cP (As := [.ref t, .int 2]) (rest := []) (em_X9_stored hl hT 2 D) (fun o7 h => z_runV 58 1 h rfl kk_X9_58 hT.1 kl_9.1 kq_X9_stored rfl (Nat.le_of_ble_eq_true rfl) ⟨Nat.le_of_ble_eq_true rfl, Nat.le_of_ble_eq_true rfl, Nat.le_of_ble_eq_true rfl, Nat.le_of_ble_eq_true rfl⟩ dX9_affords_9) z_gP (fun hz7 => ?_)
    refine z_iload_n (i := 1) (x := a0) dX9_affords_12 rfl rfl ?_
    refine z_iload_n (i := 2) (x := 2) dX9_affords_13 rfl rfl ?_
    refine z_cP (As := [.int a0, .int 2]) (rest := [.int (F_X9_stored t 2 D)]) (em_X10_partOf hl a0 2 D) (fun o7 h => z_runSN 62 2 h rfl kk_X9_62 kn_X9_62 kq_X10_partOf rfl (Nat.le_of_ble_eq_true rfl) ⟨Nat.le_of_ble_eq_true rfl, Nat.le_of_ble_eq_true rfl, Nat.le_of_ble_eq_true rfl, Nat.le_of_ble_eq_true rfl⟩ dX9_affords_14) z_gP (fun hz8 => ?_)
    refine z_icmp_ge 22 dX9_affords_17 (by decide) (fun c9 => ?_) (fun c9 => ?_)
    · refine z_iincC (i := 2) (x := 2) (v := 3) (lv' := [some (.ref t), some (.int a0), some (.int 3)]) dX9_affords_22 rfl (by decide) (by decide) rfl rfl ?_
      refine z_goto 2 dX9_affords_25 (by decide) ?_
      exact hJ_F_X9_affords_J2
    · refine z_iconst (v := 0) dX9_affords_20 rfl ?_
      exact z_ireturn dX9_affords_21 z_rP rfl (by decide) (by decide)
  have hJ_F_X9_affords_J2xx : z_F l M_X9_affords (40, 640, 0, 0) 0 0 2 [some (.ref t), some (.int a0), some (.int 1)] [] S D (z_kt (z_kR S D)) (F_X9_affords_J2xx t a0 D) := by
    unfold F_X9_affords_J2xx
    refine z_iload_n (i := 2) (x := 1) dX9_affords_2 rfl rfl ?_
    refine z_iconst (v := 3) dX9_affords_3 rfl ?_
    refine z_icmp_geN 28 dX9_affords_4 (by decide) (by decide) ?_
    refine z_aload_n (i := 0) (x := t) dX9_affords_7 rfl rfl ?_
    refine z_iload_n (i := 2) (x := 1) dX9_affords_8 rfl rfl ?_
    refine z_cP (As := [.ref t, .int 1]) (rest := []) (em_X9_stored hl hT 1 D) (fun o7 h => z_runV 58 1 h rfl kk_X9_58 hT.1 kl_9.1 kq_X9_stored rfl (Nat.le_of_ble_eq_true rfl) ⟨Nat.le_of_ble_eq_true rfl, Nat.le_of_ble_eq_true rfl, Nat.le_of_ble_eq_true rfl, Nat.le_of_ble_eq_true rfl⟩ dX9_affords_9) z_gP (fun hz4 => ?_)
    refine z_iload_n (i := 1) (x := a0) dX9_affords_12 rfl rfl ?_
    refine z_iload_n (i := 2) (x := 1) dX9_affords_13 rfl rfl ?_
    refine z_cP (As := [.int a0, .int 1]) (rest := [.int (F_X9_stored t 1 D)]) (em_X10_partOf hl a0 1 D) (fun o7 h => z_runSN 62 2 h rfl kk_X9_62 kn_X9_62 kq_X10_partOf rfl (Nat.le_of_ble_eq_true rfl) ⟨Nat.le_of_ble_eq_true rfl, Nat.le_of_ble_eq_true rfl, Nat.le_of_ble_eq_true rfl, Nat.le_of_ble_eq_true rfl⟩ dX9_affords_14) z_gP (fun hz5 => ?_)
    refine z_icmp_ge 22 dX9_affords_17 (by decide) (fun c6 => ?_) (fun c6 => ?_)
    · refine z_iincC (i := 2) (x := 1) (v := 2) (lv' := [some (.ref t), some (.int a0), some (.int 2)]) dX9_affords_22 rfl (by decide) (by decide) rfl rfl ?_
      refine z_goto 2 dX9_affords_25 (by decide) ?_
      exact hJ_F_X9_affords_J2x
    · refine z_iconst (v := 0) dX9_affords_20 rfl ?_
      exact z_ireturn dX9_affords_21 z_rP rfl (by decide) (by decide)
  have hJ_F_X9_affords_J2xxx : z_F l M_X9_affords (40, 640, 0, 0) 0 0 2 [some (.ref t), some (.int a0), some (.int 0)] [] S D (z_kt (z_kR S D)) (F_X9_affords_J2xxx t a0 D) := by
    unfold F_X9_affords_J2xxx
    refine z_iload_n (i := 2) (x := 0) dX9_affords_2 rfl rfl ?_
    refine z_iconst (v := 3) dX9_affords_3 rfl ?_
    refine z_icmp_geN 28 dX9_affords_4 (by decide) (by decide) ?_
    refine z_aload_n (i := 0) (x := t) dX9_affords_7 rfl rfl ?_
    refine z_iload_n (i := 2) (x := 0) dX9_affords_8 rfl rfl ?_
    refine z_cP (As := [.ref t, .int 0]) (rest := []) (em_X9_stored hl hT 0 D) (fun o7 h => z_runV 58 1 h rfl kk_X9_58 hT.1 kl_9.1 kq_X9_stored rfl (Nat.le_of_ble_eq_true rfl) ⟨Nat.le_of_ble_eq_true rfl, Nat.le_of_ble_eq_true rfl, Nat.le_of_ble_eq_true rfl, Nat.le_of_ble_eq_true rfl⟩ dX9_affords_9) z_gP (fun hz1 => ?_)
    refine z_iload_n (i := 1) (x := a0) dX9_affords_12 rfl rfl ?_
    refine z_iload_n (i := 2) (x := 0) dX9_affords_13 rfl rfl ?_
    refine z_cP (As := [.int a0, .int 0]) (rest := [.int (F_X9_stored t 0 D)]) (em_X10_partOf hl a0 0 D) (fun o7 h => z_runSN 62 2 h rfl kk_X9_62 kn_X9_62 kq_X10_partOf rfl (Nat.le_of_ble_eq_true rfl) ⟨Nat.le_of_ble_eq_true rfl, Nat.le_of_ble_eq_true rfl, Nat.le_of_ble_eq_true rfl, Nat.le_of_ble_eq_true rfl⟩ dX9_affords_14) z_gP (fun hz2 => ?_)
    refine z_icmp_ge 22 dX9_affords_17 (by decide) (fun c3 => ?_) (fun c3 => ?_)
    · refine z_iincC (i := 2) (x := 0) (v := 1) (lv' := [some (.ref t), some (.int a0), some (.int 1)]) dX9_affords_22 rfl (by decide) (by decide) rfl rfl ?_
      refine z_goto 2 dX9_affords_25 (by decide) ?_
      exact hJ_F_X9_affords_J2xx
    · refine z_iconst (v := 0) dX9_affords_20 rfl ?_
      exact z_ireturn dX9_affords_21 z_rP rfl (by decide) (by decide)
  refine z_iconst (v := 0) dX9_affords_0 rfl ?_
  refine z_istore_n (i := 2) (x := 0) (lv' := [some (.ref t), some (.int a0), some (.int 0)]) dX9_affords_1 rfl (by decide) rfl rfl ?_
  exact hJ_F_X9_affords_J2xxx

def F_X9_dip_J33 (t : Nat) (a0 : Int32) (v26 : Int32) (D27 : z_Dat) : Int32 × z_Dat :=
  z_let (F_X9_set t a0 0 v26 D27) (fun a_29 => z_let (F_X9_set t a0 4 ((F_X9_has t a0 4 a_29) + 1) a_29) (fun a_32 => (1, a_32)))
def F_X9_dip_J33x (t : Nat) (a0 : Int32) (a1 : Int32) (v20 : Int32) (D21 : z_Dat) : Int32 × z_Dat :=
  z_let (F_X10_put (t + 1) 44 42 ((F_X9_stored t 2 D21) - (F_X10_partOf a1 2)) D21) (fun a_25 => F_X9_dip_J33 t a0 v20 a_25)
def F_X9_dip_J33xx (t : Nat) (a0 : Int32) (a1 : Int32) (v14 : Int32) (D15 : z_Dat) : Int32 × z_Dat :=
  z_let (F_X10_put (t + 1) 44 41 ((F_X9_stored t 1 D15) - (F_X10_partOf a1 1)) D15) (fun a_19 => F_X9_dip_J33x t a0 a1 v14 a_19)
def F_X9_dip_J33xxx (t : Nat) (a0 : Int32) (a1 : Int32) (v8 : Int32) (D9 : z_Dat) : Int32 × z_Dat :=
  z_let (F_X10_put (t + 1) 44 40 ((F_X9_stored t 0 D9) - (F_X10_partOf a1 0)) D9) (fun a_13 => F_X9_dip_J33xx t a0 a1 v8 a_13)
def F_X9_dip (t : Nat) (a0 : Int32) (a1 : Int32) (D : z_Dat) : Int32 × z_Dat :=
  z_let (F_X9_has t a0 0 D) (fun v2 => z_let (F_X10_deeper v2 a1) (fun v4 => if v4 = v2 then ((0, D))
  else (if (F_X9_affords t a1 D) = 0 then ((0, D))
  else (F_X9_dip_J33xxx t a0 a1 v4 D))))
set_option maxRecDepth 100000 in
set_option maxHeartbeats 4000000 in
theorem em_X9_dip {l : Launch} {S : List z_Shp} {t : Nat} (hl : l.stackTraces = false) (hT : z_isTown S t) (a0 : Int32) (a1 : Int32) (D : z_Dat) : ∀ out, z_kt (z_kI S) (F_X9_dip t a0 a1 D) out → z_EM l M_X9_dip (50, 700, 0, 0) [.ref t, .int a0, .int a1] S D out := by
  refine z_meth hl rfl kp_X9 (Nat.le_of_ble_eq_true rfl) (lv := [some (.ref t), some (.int a0), some (.int a1), none, none, none]) rfl ?_
  unfold F_X9_dip
  have hJ_F_X9_dip_J33 : ∀ (v26 : Int32) (D27 : z_Dat) , z_F l M_X9_dip (50, 700, 0, 0) 0 0 33 [some (.ref t), some (.int a0), some (.int a1), none, some (.int v26), some (.int 3)] [] S D27 (z_kt (z_kI S)) (F_X9_dip_J33 t a0 v26 D27) := by
    intro v26 D27
    unfold F_X9_dip_J33
    refine z_iload (i := 5) (x := 3) dX9_dip_33 rfl ?_
    refine z_iconst (v := 3) dX9_dip_35 rfl ?_
    refine z_icmp_geJ 70 dX9_dip_36 (by decide) (by decide) ?_
    refine z_aload_n (i := 0) (x := t) dX9_dip_70 rfl rfl ?_
    refine z_iload_n (i := 1) (x := a0) dX9_dip_71 rfl rfl ?_
    refine z_iconst (v := 0) dX9_dip_72 rfl ?_
    refine z_iload (i := 4) (x := v26) dX9_dip_73 rfl ?_
    refine z_cTV (As := [.ref t, .int a0, .int 0, .int v26]) (rest := []) (em_X9_set hl hT a0 0 v26 D27) (fun o7 h => z_runV 32 3 h rfl kk_X9_32 hT.1 kl_9.1 kq_X9_set rfl (Nat.le_of_ble_eq_true rfl) ⟨Nat.le_of_ble_eq_true rfl, Nat.le_of_ble_eq_true rfl, Nat.le_of_ble_eq_true rfl, Nat.le_of_ble_eq_true rfl⟩ dX9_dip_75) z_gTI (fun a_29 hz28 => ?_)
    refine z_aload_n (i := 0) (x := t) dX9_dip_78 rfl rfl ?_
    refine z_iload_n (i := 1) (x := a0) dX9_dip_79 rfl rfl ?_
    refine z_iconst (v := 4) dX9_dip_80 rfl ?_
    refine z_aload_n (i := 0) (x := t) dX9_dip_81 rfl rfl ?_
    refine z_iload_n (i := 1) (x := a0) dX9_dip_82 rfl rfl ?_
    refine z_iconst (v := 4) dX9_dip_83 rfl ?_
    refine z_cP (As := [.ref t, .int a0, .int 4]) (rest := [.int 4, .int a0, .ref t]) (em_X9_has hl hT a0 4 a_29) (fun o7 h => z_runV 47 2 h rfl kk_X9_47 hT.1 kl_9.1 kq_X9_has rfl (Nat.le_of_ble_eq_true rfl) ⟨Nat.le_of_ble_eq_true rfl, Nat.le_of_ble_eq_true rfl, Nat.le_of_ble_eq_true rfl, Nat.le_of_ble_eq_true rfl⟩ dX9_dip_84) z_gTI (fun hz30 => ?_)
    refine z_iconst (v := 1) dX9_dip_87 rfl ?_
    refine z_iadd dX9_dip_88 ?_
    refine z_cTV (As := [.ref t, .int a0, .int 4, .int ((F_X9_has t a0 4 a_29) + 1)]) (rest := []) (em_X9_set hl hT a0 4 ((F_X9_has t a0 4 a_29) + 1) a_29) (fun o7 h => z_runV 32 3 h rfl kk_X9_32 hT.1 kl_9.1 kq_X9_set rfl (Nat.le_of_ble_eq_true rfl) ⟨Nat.le_of_ble_eq_true rfl, Nat.le_of_ble_eq_true rfl, Nat.le_of_ble_eq_true rfl, Nat.le_of_ble_eq_true rfl⟩ dX9_dip_89) z_gTI (fun a_32 hz31 => ?_)
    refine z_iconst (v := 1) dX9_dip_92 rfl ?_
    exact z_ireturn dX9_dip_93 z_rTI rfl (by decide) (by decide)
  have hJ_F_X9_dip_J33x : ∀ (v20 : Int32) (D21 : z_Dat) , z_F l M_X9_dip (50, 700, 0, 0) 0 0 33 [some (.ref t), some (.int a0), some (.int a1), none, some (.int v20), some (.int 2)] [] S D21 (z_kt (z_kI S)) (F_X9_dip_J33x t a0 a1 v20 D21) := by
    intro v20 D21
    unfold F_X9_dip_J33x
    refine z_iload (i := 5) (x := 2) dX9_dip_33 rfl ?_
    refine z_iconst (v := 3) dX9_dip_35 rfl ?_
    refine z_icmp_geN 70 dX9_dip_36 (by decide) (by decide) ?_
    refine z_aload_n (i := 0) (x := t) dX9_dip_39 rfl rfl ?_
    refine z_getR (j := 0) dX9_dip_40 kl_9 hT.1 (by decide) rfl rfl kf_X9_9 ?_
    refine z_bipush (v := 40) dX9_dip_43 (by decide) ?_
    refine z_iload (i := 5) (x := 2) dX9_dip_45 rfl ?_
    refine z_iadd dX9_dip_47 ?_
    refine z_topc (y := 42) (by decide) ?_
    refine z_aload_n (i := 0) (x := t) dX9_dip_48 rfl rfl ?_
    refine z_iload (i := 5) (x := 2) dX9_dip_49 rfl ?_
    refine z_cP (As := [.ref t, .int 2]) (rest := [.int 42, .ref (t + 1)]) (em_X9_stored hl hT 2 D21) (fun o7 h => z_runV 58 1 h rfl kk_X9_58 hT.1 kl_9.1 kq_X9_stored rfl (Nat.le_of_ble_eq_true rfl) ⟨Nat.le_of_ble_eq_true rfl, Nat.le_of_ble_eq_true rfl, Nat.le_of_ble_eq_true rfl, Nat.le_of_ble_eq_true rfl⟩ dX9_dip_51) z_gTI (fun hz22 => ?_)
    refine z_iload_n (i := 2) (x := a1) dX9_dip_54 rfl rfl ?_
    refine z_iload (i := 5) (x := 2) dX9_dip_55 rfl ?_
    refine z_cP (As := [.int a1, .int 2]) (rest := [.int (F_X9_stored t 2 D21), .int 42, .ref (t + 1)]) (em_X10_partOf hl a1 2 D21) (fun o7 h => z_runSN 62 2 h rfl kk_X9_62 kn_X9_62 kq_X10_partOf rfl (Nat.le_of_ble_eq_true rfl) ⟨Nat.le_of_ble_eq_true rfl, Nat.le_of_ble_eq_true rfl, Nat.le_of_ble_eq_true rfl, Nat.le_of_ble_eq_true rfl⟩ dX9_dip_57) z_gTI (fun hz23 => ?_)
    refine z_isub dX9_dip_60 ?_
    refine z_cTV (As := [.ref (t + 1), .int 42, .int ((F_X9_stored t 2 D21) - (F_X10_partOf a1 2))]) (rest := []) (em_X10_put (n0 := 44) hl hT.2 (by decide) 42 ((F_X9_stored t 2 D21) - (F_X10_partOf a1 2)) D21) (fun o7 h => z_runSN 43 3 h rfl kk_X9_43 kn_X9_43 kq_X10_put rfl (Nat.le_of_ble_eq_true rfl) ⟨Nat.le_of_ble_eq_true rfl, Nat.le_of_ble_eq_true rfl, Nat.le_of_ble_eq_true rfl, Nat.le_of_ble_eq_true rfl⟩ dX9_dip_61) z_gTI (fun a_25 hz24 => ?_)
    refine z_iincC (i := 5) (x := 2) (v := 3) (lv' := [some (.ref t), some (.int a0), some (.int a1), none, some (.int v20), some (.int 3)]) dX9_dip_64 rfl (by decide) (by decide) rfl rfl ?_
    refine z_goto 33 dX9_dip_67 (by decide) ?_
    exact hJ_F_X9_dip_J33 v20 a_25
  have hJ_F_X9_dip_J33xx : ∀ (v14 : Int32) (D15 : z_Dat) , z_F l M_X9_dip (50, 700, 0, 0) 0 0 33 [some (.ref t), some (.int a0), some (.int a1), none, some (.int v14), some (.int 1)] [] S D15 (z_kt (z_kI S)) (F_X9_dip_J33xx t a0 a1 v14 D15) := by
    intro v14 D15
    unfold F_X9_dip_J33xx
    refine z_iload (i := 5) (x := 1) dX9_dip_33 rfl ?_
    refine z_iconst (v := 3) dX9_dip_35 rfl ?_
    refine z_icmp_geN 70 dX9_dip_36 (by decide) (by decide) ?_
    refine z_aload_n (i := 0) (x := t) dX9_dip_39 rfl rfl ?_
    refine z_getR (j := 0) dX9_dip_40 kl_9 hT.1 (by decide) rfl rfl kf_X9_9 ?_
    refine z_bipush (v := 40) dX9_dip_43 (by decide) ?_
    refine z_iload (i := 5) (x := 1) dX9_dip_45 rfl ?_
    refine z_iadd dX9_dip_47 ?_
    refine z_topc (y := 41) (by decide) ?_
    refine z_aload_n (i := 0) (x := t) dX9_dip_48 rfl rfl ?_
    refine z_iload (i := 5) (x := 1) dX9_dip_49 rfl ?_
    refine z_cP (As := [.ref t, .int 1]) (rest := [.int 41, .ref (t + 1)]) (em_X9_stored hl hT 1 D15) (fun o7 h => z_runV 58 1 h rfl kk_X9_58 hT.1 kl_9.1 kq_X9_stored rfl (Nat.le_of_ble_eq_true rfl) ⟨Nat.le_of_ble_eq_true rfl, Nat.le_of_ble_eq_true rfl, Nat.le_of_ble_eq_true rfl, Nat.le_of_ble_eq_true rfl⟩ dX9_dip_51) z_gTI (fun hz16 => ?_)
    refine z_iload_n (i := 2) (x := a1) dX9_dip_54 rfl rfl ?_
    refine z_iload (i := 5) (x := 1) dX9_dip_55 rfl ?_
    refine z_cP (As := [.int a1, .int 1]) (rest := [.int (F_X9_stored t 1 D15), .int 41, .ref (t + 1)]) (em_X10_partOf hl a1 1 D15) (fun o7 h => z_runSN 62 2 h rfl kk_X9_62 kn_X9_62 kq_X10_partOf rfl (Nat.le_of_ble_eq_true rfl) ⟨Nat.le_of_ble_eq_true rfl, Nat.le_of_ble_eq_true rfl, Nat.le_of_ble_eq_true rfl, Nat.le_of_ble_eq_true rfl⟩ dX9_dip_57) z_gTI (fun hz17 => ?_)
    refine z_isub dX9_dip_60 ?_
    refine z_cTV (As := [.ref (t + 1), .int 41, .int ((F_X9_stored t 1 D15) - (F_X10_partOf a1 1))]) (rest := []) (em_X10_put (n0 := 44) hl hT.2 (by decide) 41 ((F_X9_stored t 1 D15) - (F_X10_partOf a1 1)) D15) (fun o7 h => z_runSN 43 3 h rfl kk_X9_43 kn_X9_43 kq_X10_put rfl (Nat.le_of_ble_eq_true rfl) ⟨Nat.le_of_ble_eq_true rfl, Nat.le_of_ble_eq_true rfl, Nat.le_of_ble_eq_true rfl, Nat.le_of_ble_eq_true rfl⟩ dX9_dip_61) z_gTI (fun a_19 hz18 => ?_)
    refine z_iincC (i := 5) (x := 1) (v := 2) (lv' := [some (.ref t), some (.int a0), some (.int a1), none, some (.int v14), some (.int 2)]) dX9_dip_64 rfl (by decide) (by decide) rfl rfl ?_
    refine z_goto 33 dX9_dip_67 (by decide) ?_
    exact hJ_F_X9_dip_J33x v14 a_19
  have hJ_F_X9_dip_J33xxx : ∀ (v8 : Int32) (D9 : z_Dat) , z_F l M_X9_dip (50, 700, 0, 0) 0 0 33 [some (.ref t), some (.int a0), some (.int a1), none, some (.int v8), some (.int 0)] [] S D9 (z_kt (z_kI S)) (F_X9_dip_J33xxx t a0 a1 v8 D9) := by
    intro v8 D9
    unfold F_X9_dip_J33xxx
    refine z_iload (i := 5) (x := 0) dX9_dip_33 rfl ?_
    refine z_iconst (v := 3) dX9_dip_35 rfl ?_
    refine z_icmp_geN 70 dX9_dip_36 (by decide) (by decide) ?_
    refine z_aload_n (i := 0) (x := t) dX9_dip_39 rfl rfl ?_
    refine z_getR (j := 0) dX9_dip_40 kl_9 hT.1 (by decide) rfl rfl kf_X9_9 ?_
    refine z_bipush (v := 40) dX9_dip_43 (by decide) ?_
    refine z_iload (i := 5) (x := 0) dX9_dip_45 rfl ?_
    refine z_iadd dX9_dip_47 ?_
    refine z_topc (y := 40) (by decide) ?_
    refine z_aload_n (i := 0) (x := t) dX9_dip_48 rfl rfl ?_
    refine z_iload (i := 5) (x := 0) dX9_dip_49 rfl ?_
    refine z_cP (As := [.ref t, .int 0]) (rest := [.int 40, .ref (t + 1)]) (em_X9_stored hl hT 0 D9) (fun o7 h => z_runV 58 1 h rfl kk_X9_58 hT.1 kl_9.1 kq_X9_stored rfl (Nat.le_of_ble_eq_true rfl) ⟨Nat.le_of_ble_eq_true rfl, Nat.le_of_ble_eq_true rfl, Nat.le_of_ble_eq_true rfl, Nat.le_of_ble_eq_true rfl⟩ dX9_dip_51) z_gTI (fun hz10 => ?_)
    refine z_iload_n (i := 2) (x := a1) dX9_dip_54 rfl rfl ?_
    refine z_iload (i := 5) (x := 0) dX9_dip_55 rfl ?_
    refine z_cP (As := [.int a1, .int 0]) (rest := [.int (F_X9_stored t 0 D9), .int 40, .ref (t + 1)]) (em_X10_partOf hl a1 0 D9) (fun o7 h => z_runSN 62 2 h rfl kk_X9_62 kn_X9_62 kq_X10_partOf rfl (Nat.le_of_ble_eq_true rfl) ⟨Nat.le_of_ble_eq_true rfl, Nat.le_of_ble_eq_true rfl, Nat.le_of_ble_eq_true rfl, Nat.le_of_ble_eq_true rfl⟩ dX9_dip_57) z_gTI (fun hz11 => ?_)
    refine z_isub dX9_dip_60 ?_
    refine z_cTV (As := [.ref (t + 1), .int 40, .int ((F_X9_stored t 0 D9) - (F_X10_partOf a1 0))]) (rest := []) (em_X10_put (n0 := 44) hl hT.2 (by decide) 40 ((F_X9_stored t 0 D9) - (F_X10_partOf a1 0)) D9) (fun o7 h => z_runSN 43 3 h rfl kk_X9_43 kn_X9_43 kq_X10_put rfl (Nat.le_of_ble_eq_true rfl) ⟨Nat.le_of_ble_eq_true rfl, Nat.le_of_ble_eq_true rfl, Nat.le_of_ble_eq_true rfl, Nat.le_of_ble_eq_true rfl⟩ dX9_dip_61) z_gTI (fun a_13 hz12 => ?_)
    refine z_iincC (i := 5) (x := 0) (v := 1) (lv' := [some (.ref t), some (.int a0), some (.int a1), none, some (.int v8), some (.int 1)]) dX9_dip_64 rfl (by decide) (by decide) rfl rfl ?_
    refine z_goto 33 dX9_dip_67 (by decide) ?_
    exact hJ_F_X9_dip_J33xx v8 a_13
  refine z_aload_n (i := 0) (x := t) dX9_dip_0 rfl rfl ?_
  refine z_iload_n (i := 1) (x := a0) dX9_dip_1 rfl rfl ?_
  refine z_iconst (v := 0) dX9_dip_2 rfl ?_
  refine z_cP (As := [.ref t, .int a0, .int 0]) (rest := []) (em_X9_has hl hT a0 0 D) (fun o7 h => z_runV 47 2 h rfl kk_X9_47 hT.1 kl_9.1 kq_X9_has rfl (Nat.le_of_ble_eq_true rfl) ⟨Nat.le_of_ble_eq_true rfl, Nat.le_of_ble_eq_true rfl, Nat.le_of_ble_eq_true rfl, Nat.le_of_ble_eq_true rfl⟩ dX9_dip_3) z_gTI (fun hz1 => ?_)
  refine z_topi (fun v2 => ?_)
  refine z_istore_n (i := 3) (x := v2) (lv' := [some (.ref t), some (.int a0), some (.int a1), some (.int v2), none, none]) dX9_dip_6 rfl (by decide) rfl rfl ?_
  refine z_iload_n (i := 3) (x := v2) dX9_dip_7 rfl rfl ?_
  refine z_iload_n (i := 2) (x := a1) dX9_dip_8 rfl rfl ?_
  refine z_cP (As := [.int v2, .int a1]) (rest := []) (em_X10_deeper hl v2 a1 D) (fun o7 h => z_runSN 51 2 h rfl kk_X9_51 kn_X9_51 kq_X10_deeper rfl (Nat.le_of_ble_eq_true rfl) ⟨Nat.le_of_ble_eq_true rfl, Nat.le_of_ble_eq_true rfl, Nat.le_of_ble_eq_true rfl, Nat.le_of_ble_eq_true rfl⟩ dX9_dip_9) z_gTI (fun hz3 => ?_)
  refine z_topi (fun v4 => ?_)
  refine z_istore (i := 4) (x := v4) (lv' := [some (.ref t), some (.int a0), some (.int a1), some (.int v2), some (.int v4), none]) dX9_dip_12 (by decide) rfl rfl ?_
  refine z_iload (i := 4) (x := v4) dX9_dip_14 rfl ?_
  refine z_iload_n (i := 3) (x := v2) dX9_dip_16 rfl rfl ?_
  refine z_icmp_eq 28 dX9_dip_17 (by decide) (fun c5 => ?_) (fun c5 => ?_)
  · refine z_iconst (v := 0) dX9_dip_28 rfl ?_
    exact z_ireturn dX9_dip_29 z_rTI rfl (by decide) (by decide)
  · refine z_aload_n (i := 0) (x := t) dX9_dip_20 rfl rfl ?_
    refine z_iload_n (i := 2) (x := a1) dX9_dip_21 rfl rfl ?_
    refine z_cP (As := [.ref t, .int a1]) (rest := []) (em_X9_affords hl hT a1 D) (fun o7 h => z_runV 54 1 h rfl kk_X9_54 hT.1 kl_9.1 kq_X9_affords rfl (Nat.le_of_ble_eq_true rfl) ⟨Nat.le_of_ble_eq_true rfl, Nat.le_of_ble_eq_true rfl, Nat.le_of_ble_eq_true rfl, Nat.le_of_ble_eq_true rfl⟩ dX9_dip_22) z_gTI (fun hz6 => ?_)
    refine z_if_ne 30 dX9_dip_25 (by decide) (fun c7 => ?_) (fun c7 => ?_)
    · refine z_iconst (v := 0) dX9_dip_28 rfl ?_
      exact z_ireturn dX9_dip_29 z_rTI rfl (by decide) (by decide)
    · refine z_iconst (v := 0) dX9_dip_30 rfl ?_
      refine z_istore (i := 5) (x := 0) (lv' := [some (.ref t), some (.int a0), some (.int a1), some (.int v2), some (.int v4), some (.int 0)]) dX9_dip_31 (by decide) rfl rfl ?_
      refine z_weak (lv' := [some (.ref t), some (.int a0), some (.int a1), none, some (.int v4), some (.int 0)]) ⟨Or.inr rfl, ⟨Or.inr rfl, ⟨Or.inr rfl, ⟨Or.inl rfl, ⟨Or.inr rfl, ⟨Or.inr rfl, trivial⟩⟩⟩⟩⟩⟩ ?_
      exact hJ_F_X9_dip_J33xxx v4 D

def F_X10_paler (a0 : Int32) (a1 : Int32) : Int32 :=
  if (F_X10_partOf a0 a1) ≤ 0 then (a0)
  else (a0 - (F_X10_unitOf a1))
set_option maxRecDepth 100000 in
set_option maxHeartbeats 4000000 in
theorem em_X10_paler {l : Launch} {S : List z_Shp} (hl : l.stackTraces = false) (a0 : Int32) (a1 : Int32) (D : z_Dat) : ∀ out, z_kt (z_kR S D) (F_X10_paler a0 a1) out → z_EM l M_X10_paler (30, 580, 0, 0) [.int a0, .int a1] S D out := by
  refine z_meth hl rfl kp_X10 (Nat.le_of_ble_eq_true rfl) (lv := [some (.int a0), some (.int a1)]) rfl ?_
  unfold F_X10_paler
  refine z_iload_n (i := 0) (x := a0) dX10_paler_0 rfl rfl ?_
  refine z_iload_n (i := 1) (x := a1) dX10_paler_1 rfl rfl ?_
  refine z_cP (As := [.int a0, .int a1]) (rest := []) (em_X10_partOf hl a0 a1 D) (fun o7 h => z_runS 368 2 h rfl kk_X10_368 kq_X10_partOf rfl (Nat.le_of_ble_eq_true rfl) ⟨Nat.le_of_ble_eq_true rfl, Nat.le_of_ble_eq_true rfl, Nat.le_of_ble_eq_true rfl, Nat.le_of_ble_eq_true rfl⟩ dX10_paler_2) z_gP (fun hz1 => ?_)
  refine z_if_le 17 dX10_paler_5 (by decide) (fun c2 => ?_) (fun c2 => ?_)
  · refine z_iload_n (i := 0) (x := a0) dX10_paler_17 rfl rfl ?_
    exact z_ireturn dX10_paler_18 z_rP rfl (by decide) (by decide)
  · refine z_iload_n (i := 0) (x := a0) dX10_paler_8 rfl rfl ?_
    refine z_iload_n (i := 1) (x := a1) dX10_paler_9 rfl rfl ?_
    refine z_cP (As := [.int a1]) (rest := [.int a0]) (em_X10_unitOf hl a1 D) (fun o7 h => z_runS 387 1 h rfl kk_X10_387 kq_X10_unitOf rfl (Nat.le_of_ble_eq_true rfl) ⟨Nat.le_of_ble_eq_true rfl, Nat.le_of_ble_eq_true rfl, Nat.le_of_ble_eq_true rfl, Nat.le_of_ble_eq_true rfl⟩ dX10_paler_10) z_gP (fun hz3 => ?_)
    refine z_isub dX10_paler_13 ?_
    refine z_goto 18 dX10_paler_14 (by decide) ?_
    exact z_ireturn dX10_paler_18 z_rP rfl (by decide) (by decide)

def F_X9_wash_J15 (t : Nat) (a0 : Int32) (v16 : Int32) (D17 : z_Dat) : Int32 × z_Dat :=
  z_let (F_X9_set t a0 0 v16 D17) (fun a_19 => z_let (F_X9_set t a0 2 0 a_19) (fun a_21 => (1, a_21)))
def F_X9_wash_J15x (t : Nat) (a0 : Int32) (v12 : Int32) (D13 : z_Dat) : Int32 × z_Dat :=
  z_let (F_X10_paler v12 2) (fun v15 => F_X9_wash_J15 t a0 v15 D13)
def F_X9_wash_J15xx (t : Nat) (a0 : Int32) (v8 : Int32) (D9 : z_Dat) : Int32 × z_Dat :=
  z_let (F_X10_paler v8 1) (fun v11 => F_X9_wash_J15x t a0 v11 D9)
def F_X9_wash_J15xxx (t : Nat) (a0 : Int32) (v4 : Int32) (D5 : z_Dat) : Int32 × z_Dat :=
  z_let (F_X10_paler v4 0) (fun v7 => F_X9_wash_J15xx t a0 v7 D5)
def F_X9_wash (t : Nat) (a0 : Int32) (D : z_Dat) : Int32 × z_Dat :=
  z_let (F_X9_has t a0 0 D) (fun v2 => if v2 = 0 then ((0, D))
  else (F_X9_wash_J15xxx t a0 v2 D))
set_option maxRecDepth 100000 in
set_option maxHeartbeats 4000000 in
theorem em_X9_wash {l : Launch} {S : List z_Shp} {t : Nat} (hl : l.stackTraces = false) (hT : z_isTown S t) (a0 : Int32) (D : z_Dat) : ∀ out, z_kt (z_kI S) (F_X9_wash t a0 D) out → z_EM l M_X9_wash (40, 640, 0, 0) [.ref t, .int a0] S D out := by
  refine z_meth hl rfl kp_X9 (Nat.le_of_ble_eq_true rfl) (lv := [some (.ref t), some (.int a0), none, none]) rfl ?_
  unfold F_X9_wash
  have hJ_F_X9_wash_J15 : ∀ (v16 : Int32) (D17 : z_Dat) , z_F l M_X9_wash (40, 640, 0, 0) 0 0 15 [some (.ref t), some (.int a0), some (.int v16), some (.int 3)] [] S D17 (z_kt (z_kI S)) (F_X9_wash_J15 t a0 v16 D17) := by
    intro v16 D17
    unfold F_X9_wash_J15
    refine z_iload_n (i := 3) (x := 3) dX9_wash_15 rfl rfl ?_
    refine z_iconst (v := 3) dX9_wash_16 rfl ?_
    refine z_icmp_geJ 32 dX9_wash_17 (by decide) (by decide) ?_
    refine z_aload_n (i := 0) (x := t) dX9_wash_32 rfl rfl ?_
    refine z_iload_n (i := 1) (x := a0) dX9_wash_33 rfl rfl ?_
    refine z_iconst (v := 0) dX9_wash_34 rfl ?_
    refine z_iload_n (i := 2) (x := v16) dX9_wash_35 rfl rfl ?_
    refine z_cTV (As := [.ref t, .int a0, .int 0, .int v16]) (rest := []) (em_X9_set hl hT a0 0 v16 D17) (fun o7 h => z_runV 32 3 h rfl kk_X9_32 hT.1 kl_9.1 kq_X9_set rfl (Nat.le_of_ble_eq_true rfl) ⟨Nat.le_of_ble_eq_true rfl, Nat.le_of_ble_eq_true rfl, Nat.le_of_ble_eq_true rfl, Nat.le_of_ble_eq_true rfl⟩ dX9_wash_36) z_gTI (fun a_19 hz18 => ?_)
    refine z_aload_n (i := 0) (x := t) dX9_wash_39 rfl rfl ?_
    refine z_iload_n (i := 1) (x := a0) dX9_wash_40 rfl rfl ?_
    refine z_iconst (v := 2) dX9_wash_41 rfl ?_
    refine z_iconst (v := 0) dX9_wash_42 rfl ?_
    refine z_cTV (As := [.ref t, .int a0, .int 2, .int 0]) (rest := []) (em_X9_set hl hT a0 2 0 a_19) (fun o7 h => z_runV 32 3 h rfl kk_X9_32 hT.1 kl_9.1 kq_X9_set rfl (Nat.le_of_ble_eq_true rfl) ⟨Nat.le_of_ble_eq_true rfl, Nat.le_of_ble_eq_true rfl, Nat.le_of_ble_eq_true rfl, Nat.le_of_ble_eq_true rfl⟩ dX9_wash_43) z_gTI (fun a_21 hz20 => ?_)
    refine z_iconst (v := 1) dX9_wash_46 rfl ?_
    exact z_ireturn dX9_wash_47 z_rTI rfl (by decide) (by decide)
  have hJ_F_X9_wash_J15x : ∀ (v12 : Int32) (D13 : z_Dat) , z_F l M_X9_wash (40, 640, 0, 0) 0 0 15 [some (.ref t), some (.int a0), some (.int v12), some (.int 2)] [] S D13 (z_kt (z_kI S)) (F_X9_wash_J15x t a0 v12 D13) := by
    intro v12 D13
    unfold F_X9_wash_J15x
    refine z_iload_n (i := 3) (x := 2) dX9_wash_15 rfl rfl ?_
    refine z_iconst (v := 3) dX9_wash_16 rfl ?_
    refine z_icmp_geN 32 dX9_wash_17 (by decide) (by decide) ?_
    refine z_iload_n (i := 2) (x := v12) dX9_wash_20 rfl rfl ?_
    refine z_iload_n (i := 3) (x := 2) dX9_wash_21 rfl rfl ?_
    refine z_cP (As := [.int v12, .int 2]) (rest := []) (em_X10_paler hl v12 2 D13) (fun o7 h => z_runSN 65 2 h rfl kk_X9_65 kn_X9_65 kq_X10_paler rfl (Nat.le_of_ble_eq_true rfl) ⟨Nat.le_of_ble_eq_true rfl, Nat.le_of_ble_eq_true rfl, Nat.le_of_ble_eq_true rfl, Nat.le_of_ble_eq_true rfl⟩ dX9_wash_22) z_gTI (fun hz14 => ?_)
    refine z_topi (fun v15 => ?_)
    refine z_istore_n (i := 2) (x := v15) (lv' := [some (.ref t), some (.int a0), some (.int v15), some (.int 2)]) dX9_wash_25 rfl (by decide) rfl rfl ?_
    refine z_iincC (i := 3) (x := 2) (v := 3) (lv' := [some (.ref t), some (.int a0), some (.int v15), some (.int 3)]) dX9_wash_26 rfl (by decide) (by decide) rfl rfl ?_
    refine z_goto 15 dX9_wash_29 (by decide) ?_
    exact hJ_F_X9_wash_J15 v15 D13
  have hJ_F_X9_wash_J15xx : ∀ (v8 : Int32) (D9 : z_Dat) , z_F l M_X9_wash (40, 640, 0, 0) 0 0 15 [some (.ref t), some (.int a0), some (.int v8), some (.int 1)] [] S D9 (z_kt (z_kI S)) (F_X9_wash_J15xx t a0 v8 D9) := by
    intro v8 D9
    unfold F_X9_wash_J15xx
    refine z_iload_n (i := 3) (x := 1) dX9_wash_15 rfl rfl ?_
    refine z_iconst (v := 3) dX9_wash_16 rfl ?_
    refine z_icmp_geN 32 dX9_wash_17 (by decide) (by decide) ?_
    refine z_iload_n (i := 2) (x := v8) dX9_wash_20 rfl rfl ?_
    refine z_iload_n (i := 3) (x := 1) dX9_wash_21 rfl rfl ?_
    refine z_cP (As := [.int v8, .int 1]) (rest := []) (em_X10_paler hl v8 1 D9) (fun o7 h => z_runSN 65 2 h rfl kk_X9_65 kn_X9_65 kq_X10_paler rfl (Nat.le_of_ble_eq_true rfl) ⟨Nat.le_of_ble_eq_true rfl, Nat.le_of_ble_eq_true rfl, Nat.le_of_ble_eq_true rfl, Nat.le_of_ble_eq_true rfl⟩ dX9_wash_22) z_gTI (fun hz10 => ?_)
    refine z_topi (fun v11 => ?_)
    refine z_istore_n (i := 2) (x := v11) (lv' := [some (.ref t), some (.int a0), some (.int v11), some (.int 1)]) dX9_wash_25 rfl (by decide) rfl rfl ?_
    refine z_iincC (i := 3) (x := 1) (v := 2) (lv' := [some (.ref t), some (.int a0), some (.int v11), some (.int 2)]) dX9_wash_26 rfl (by decide) (by decide) rfl rfl ?_
    refine z_goto 15 dX9_wash_29 (by decide) ?_
    exact hJ_F_X9_wash_J15x v11 D9
  have hJ_F_X9_wash_J15xxx : ∀ (v4 : Int32) (D5 : z_Dat) , z_F l M_X9_wash (40, 640, 0, 0) 0 0 15 [some (.ref t), some (.int a0), some (.int v4), some (.int 0)] [] S D5 (z_kt (z_kI S)) (F_X9_wash_J15xxx t a0 v4 D5) := by
    intro v4 D5
    unfold F_X9_wash_J15xxx
    refine z_iload_n (i := 3) (x := 0) dX9_wash_15 rfl rfl ?_
    refine z_iconst (v := 3) dX9_wash_16 rfl ?_
    refine z_icmp_geN 32 dX9_wash_17 (by decide) (by decide) ?_
    refine z_iload_n (i := 2) (x := v4) dX9_wash_20 rfl rfl ?_
    refine z_iload_n (i := 3) (x := 0) dX9_wash_21 rfl rfl ?_
    refine z_cP (As := [.int v4, .int 0]) (rest := []) (em_X10_paler hl v4 0 D5) (fun o7 h => z_runSN 65 2 h rfl kk_X9_65 kn_X9_65 kq_X10_paler rfl (Nat.le_of_ble_eq_true rfl) ⟨Nat.le_of_ble_eq_true rfl, Nat.le_of_ble_eq_true rfl, Nat.le_of_ble_eq_true rfl, Nat.le_of_ble_eq_true rfl⟩ dX9_wash_22) z_gTI (fun hz6 => ?_)
    refine z_topi (fun v7 => ?_)
    refine z_istore_n (i := 2) (x := v7) (lv' := [some (.ref t), some (.int a0), some (.int v7), some (.int 0)]) dX9_wash_25 rfl (by decide) rfl rfl ?_
    refine z_iincC (i := 3) (x := 0) (v := 1) (lv' := [some (.ref t), some (.int a0), some (.int v7), some (.int 1)]) dX9_wash_26 rfl (by decide) (by decide) rfl rfl ?_
    refine z_goto 15 dX9_wash_29 (by decide) ?_
    exact hJ_F_X9_wash_J15xx v7 D5
  refine z_aload_n (i := 0) (x := t) dX9_wash_0 rfl rfl ?_
  refine z_iload_n (i := 1) (x := a0) dX9_wash_1 rfl rfl ?_
  refine z_iconst (v := 0) dX9_wash_2 rfl ?_
  refine z_cP (As := [.ref t, .int a0, .int 0]) (rest := []) (em_X9_has hl hT a0 0 D) (fun o7 h => z_runV 47 2 h rfl kk_X9_47 hT.1 kl_9.1 kq_X9_has rfl (Nat.le_of_ble_eq_true rfl) ⟨Nat.le_of_ble_eq_true rfl, Nat.le_of_ble_eq_true rfl, Nat.le_of_ble_eq_true rfl, Nat.le_of_ble_eq_true rfl⟩ dX9_wash_3) z_gTI (fun hz1 => ?_)
  refine z_topi (fun v2 => ?_)
  refine z_istore_n (i := 2) (x := v2) (lv' := [some (.ref t), some (.int a0), some (.int v2), none]) dX9_wash_6 rfl (by decide) rfl rfl ?_
  refine z_iload_n (i := 2) (x := v2) dX9_wash_7 rfl rfl ?_
  refine z_if_ne 13 dX9_wash_8 (by decide) (fun c3 => ?_) (fun c3 => ?_)
  · refine z_iconst (v := 0) dX9_wash_11 rfl ?_
    exact z_ireturn dX9_wash_12 z_rTI rfl (by decide) (by decide)
  · refine z_iconst (v := 0) dX9_wash_13 rfl ?_
    refine z_istore_n (i := 3) (x := 0) (lv' := [some (.ref t), some (.int a0), some (.int v2), some (.int 0)]) dX9_wash_14 rfl (by decide) rfl rfl ?_
    exact hJ_F_X9_wash_J15xxx v2 D

def F_X9_salt (t : Nat) (a0 : Int32) (D : z_Dat) : Int32 × z_Dat :=
  if (F_X9_has t a0 2 D) = 1 then ((0, D))
  else (z_let (F_X9_set t a0 2 1 D) (fun a_4 => (1, a_4)))
set_option maxRecDepth 100000 in
set_option maxHeartbeats 4000000 in
theorem em_X9_salt {l : Launch} {S : List z_Shp} {t : Nat} (hl : l.stackTraces = false) (hT : z_isTown S t) (a0 : Int32) (D : z_Dat) : ∀ out, z_kt (z_kI S) (F_X9_salt t a0 D) out → z_EM l M_X9_salt (40, 640, 0, 0) [.ref t, .int a0] S D out := by
  refine z_meth hl rfl kp_X9 (Nat.le_of_ble_eq_true rfl) (lv := [some (.ref t), some (.int a0)]) rfl ?_
  unfold F_X9_salt
  refine z_aload_n (i := 0) (x := t) dX9_salt_0 rfl rfl ?_
  refine z_iload_n (i := 1) (x := a0) dX9_salt_1 rfl rfl ?_
  refine z_iconst (v := 2) dX9_salt_2 rfl ?_
  refine z_cP (As := [.ref t, .int a0, .int 2]) (rest := []) (em_X9_has hl hT a0 2 D) (fun o7 h => z_runV 47 2 h rfl kk_X9_47 hT.1 kl_9.1 kq_X9_has rfl (Nat.le_of_ble_eq_true rfl) ⟨Nat.le_of_ble_eq_true rfl, Nat.le_of_ble_eq_true rfl, Nat.le_of_ble_eq_true rfl, Nat.le_of_ble_eq_true rfl⟩ dX9_salt_3) z_gTI (fun hz1 => ?_)
  refine z_iconst (v := 1) dX9_salt_6 rfl ?_
  refine z_icmp_ne 12 dX9_salt_7 (by decide) (fun c2 => ?_) (fun c2 => ?_)
  · refine z_iconst (v := 0) dX9_salt_10 rfl ?_
    exact z_ireturn dX9_salt_11 z_rTI rfl (by decide) (by decide)
  · refine z_aload_n (i := 0) (x := t) dX9_salt_12 rfl rfl ?_
    refine z_iload_n (i := 1) (x := a0) dX9_salt_13 rfl rfl ?_
    refine z_iconst (v := 2) dX9_salt_14 rfl ?_
    refine z_iconst (v := 1) dX9_salt_15 rfl ?_
    refine z_cTV (As := [.ref t, .int a0, .int 2, .int 1]) (rest := []) (em_X9_set hl hT a0 2 1 D) (fun o7 h => z_runV 32 3 h rfl kk_X9_32 hT.1 kl_9.1 kq_X9_set rfl (Nat.le_of_ble_eq_true rfl) ⟨Nat.le_of_ble_eq_true rfl, Nat.le_of_ble_eq_true rfl, Nat.le_of_ble_eq_true rfl, Nat.le_of_ble_eq_true rfl⟩ dX9_salt_16) z_gTI (fun a_4 hz3 => ?_)
    refine z_iconst (v := 1) dX9_salt_19 rfl ?_
    exact z_ireturn dX9_salt_20 z_rTI rfl (by decide) (by decide)

def F_X9_unsalted_L4 (t : Nat) (a0 : Int32) (D : z_Dat) (kc3 : ((Int32 × Int32) → Option Int32)) (v1 : Int32) (v2 : Int32) : Option Int32 :=
  if a0 ≤ v2 then (some v1)
  else (if (F_X9_has t v2 2 D) = 0 then (z_let (v1 + 1) (fun v7 => z_let (v2 + 1) (fun v8 => kc3 (v7, v8))))
  else (z_let (v2 + 1) (fun v9 => kc3 (v1, v9))))
def F_X9_unsalted (N : Nat) (t : Nat) (a0 : Int32) (D : z_Dat) : Option Int32 :=
  z_loop (fun kc3 s => F_X9_unsalted_L4 t a0 D kc3 s.1 s.2) N (0, 0)
set_option maxRecDepth 100000 in
set_option maxHeartbeats 4000000 in
theorem em_X9_unsalted {l : Launch} {S : List z_Shp} {t : Nat} (hl : l.stackTraces = false) (hT : z_isTown S t) (N : Nat) (a0 : Int32) (D : z_Dat) : ∀ out, z_ko (z_kR S D) (F_X9_unsalted N t a0 D) out → z_EM l M_X9_unsalted (40, 640, 0, 0) [.ref t, .int a0] S D out := by
  refine z_meth hl rfl kp_X9 (Nat.le_of_ble_eq_true rfl) (lv := [some (.ref t), some (.int a0), none, none]) rfl ?_
  unfold F_X9_unsalted
  refine z_iconst (v := 0) dX9_unsalted_0 rfl ?_
  refine z_istore_n (i := 2) (x := 0) (lv' := [some (.ref t), some (.int a0), some (.int 0), none]) dX9_unsalted_1 rfl (by decide) rfl rfl ?_
  refine z_iconst (v := 0) dX9_unsalted_2 rfl ?_
  refine z_istore_n (i := 3) (x := 0) (lv' := [some (.ref t), some (.int a0), some (.int 0), some (.int 0)]) dX9_unsalted_3 rfl (by decide) rfl rfl ?_
  refine z_loops (lvOf := fun s : Int32 × Int32 => [some (.ref t), some (.int a0), some (.int s.1), some (.int s.2)]) (dOf := fun s : Int32 × Int32 => D) (fun kc3 hkc3 s => ?_) N (0, 0)
  obtain ⟨v1, v2⟩ := s
  show z_F _ _ _ _ _ 4 [some (.ref t), some (.int a0), some (.int v1), some (.int v2)] [] S D _ (F_X9_unsalted_L4 t a0 D kc3 v1 v2)
  unfold F_X9_unsalted_L4
  refine z_iload_n (i := 3) (x := v2) dX9_unsalted_4 rfl rfl ?_
  refine z_iload_n (i := 1) (x := a0) dX9_unsalted_5 rfl rfl ?_
  refine z_icmp_ge 27 dX9_unsalted_6 (by decide) (fun c4 => ?_) (fun c4 => ?_)
  · refine z_iload_n (i := 2) (x := v1) dX9_unsalted_27 rfl rfl ?_
    exact z_ireturn dX9_unsalted_28 z_rR rfl (by decide) (by decide)
  · refine z_aload_n (i := 0) (x := t) dX9_unsalted_9 rfl rfl ?_
    refine z_iload_n (i := 3) (x := v2) dX9_unsalted_10 rfl rfl ?_
    refine z_iconst (v := 2) dX9_unsalted_11 rfl ?_
    refine z_cP (As := [.ref t, .int v2, .int 2]) (rest := []) (em_X9_has hl hT v2 2 D) (fun o7 h => z_runV 47 2 h rfl kk_X9_47 hT.1 kl_9.1 kq_X9_has rfl (Nat.le_of_ble_eq_true rfl) ⟨Nat.le_of_ble_eq_true rfl, Nat.le_of_ble_eq_true rfl, Nat.le_of_ble_eq_true rfl, Nat.le_of_ble_eq_true rfl⟩ dX9_unsalted_12) z_gR (fun hz5 => ?_)
    refine z_if_ne 21 dX9_unsalted_15 (by decide) (fun c6 => ?_) (fun c6 => ?_)
    · refine z_iinc (i := 2) (x := v1) (y := 1) dX9_unsalted_18 rfl (by decide) (by decide) rfl (fun v7 => ?_)
      refine z_iinc (i := 3) (x := v2) (y := 1) dX9_unsalted_21 rfl (by decide) (by decide) rfl (fun v8 => ?_)
      refine z_goto 4 dX9_unsalted_24 (by decide) ?_
      exact hkc3 (v7, v8)
    · refine z_iinc (i := 3) (x := v2) (y := 1) dX9_unsalted_21 rfl (by decide) (by decide) rfl (fun v9 => ?_)
      refine z_goto 4 dX9_unsalted_24 (by decide) ?_
      exact hkc3 (v1, v9)

def F_X9_rainShade_J18 (v30 : Int32) (v31 : Int32) : Option Int32 :=
  some v31
def F_X9_rainShade_L30 (t : Nat) (a0 : Int32) (v21 : Int32) (v22 : Int32) (D : z_Dat) (kc25 : ((Int32 × Int32) → Option Int32)) (v23 : Int32) (v24 : Int32) : Option Int32 :=
  if a0 ≤ v24 then (if v21 = 0 then none else (z_let (v22 + ((v23 / v21) * (F_X10_unitOf 2))) (fun v29 => F_X9_rainShade_J18 v21 v29)))
  else (if (F_X9_has t v24 2 D) = 0 then (z_let (v23 + (F_X10_partOf (F_X9_has t v24 0 D) 2)) (fun v36 => z_let (v24 + 1) (fun v37 => kc25 (v36, v37))))
  else (z_let (v23 + 0) (fun v38 => z_let (v24 + 1) (fun v39 => kc25 (v38, v39)))))
def F_X9_rainShade_J18x (N : Nat) (t : Nat) (a0 : Int32) (D : z_Dat) (v21 : Int32) (v22 : Int32) : Option Int32 :=
  z_loop (fun kc25 s => F_X9_rainShade_L30 t a0 v21 v22 D kc25 s.1 s.2) N (0, 0)
def F_X9_rainShade_L30x (N : Nat) (t : Nat) (a0 : Int32) (v12 : Int32) (v13 : Int32) (D : z_Dat) (kc16 : ((Int32 × Int32) → Option Int32)) (v14 : Int32) (v15 : Int32) : Option Int32 :=
  if a0 ≤ v15 then (if v12 = 0 then none else (z_let (v13 + ((v14 / v12) * (F_X10_unitOf 1))) (fun v20 => F_X9_rainShade_J18x N t a0 D v12 v20)))
  else (if (F_X9_has t v15 2 D) = 0 then (z_let (v14 + (F_X10_partOf (F_X9_has t v15 0 D) 1)) (fun v45 => z_let (v15 + 1) (fun v46 => kc16 (v45, v46))))
  else (z_let (v14 + 0) (fun v47 => z_let (v15 + 1) (fun v48 => kc16 (v47, v48)))))
def F_X9_rainShade_J18xx (N : Nat) (t : Nat) (a0 : Int32) (D : z_Dat) (v12 : Int32) (v13 : Int32) : Option Int32 :=
  z_loop (fun kc16 s => F_X9_rainShade_L30x N t a0 v12 v13 D kc16 s.1 s.2) N (0, 0)
def F_X9_rainShade_L30xx (N : Nat) (t : Nat) (a0 : Int32) (v4 : Int32) (D : z_Dat) (kc7 : ((Int32 × Int32) → Option Int32)) (v5 : Int32) (v6 : Int32) : Option Int32 :=
  if a0 ≤ v6 then (if v4 = 0 then none else (z_let (0 + ((v5 / v4) * (F_X10_unitOf 0))) (fun v11 => F_X9_rainShade_J18xx N t a0 D v4 v11)))
  else (if (F_X9_has t v6 2 D) = 0 then (z_let (v5 + (F_X10_partOf (F_X9_has t v6 0 D) 0)) (fun v54 => z_let (v6 + 1) (fun v55 => kc7 (v54, v55))))
  else (z_let (v5 + 0) (fun v56 => z_let (v6 + 1) (fun v57 => kc7 (v56, v57)))))
def F_X9_rainShade_J18xxx (N : Nat) (t : Nat) (a0 : Int32) (D : z_Dat) (v4 : Int32) : Option Int32 :=
  z_loop (fun kc7 s => F_X9_rainShade_L30xx N t a0 v4 D kc7 s.1 s.2) N (0, 0)
def F_X9_rainShade (N : Nat) (t : Nat) (a0 : Int32) (D : z_Dat) : Option Int32 :=
  z_bd (F_X9_unsalted N t a0 D) (fun a_2 => if 2 ≤ a_2 then (F_X9_rainShade_J18xxx N t a0 D a_2)
  else (some (-1)))
set_option maxRecDepth 100000 in
set_option maxHeartbeats 4000000 in
theorem em_X9_rainShade {l : Launch} {S : List z_Shp} {t : Nat} (hl : l.stackTraces = false) (hT : z_isTown S t) (N : Nat) (a0 : Int32) (D : z_Dat) : ∀ out, z_ko (z_kR S D) (F_X9_rainShade N t a0 D) out → z_EM l M_X9_rainShade (50, 700, 0, 0) [.ref t, .int a0] S D out := by
  refine z_meth hl rfl kp_X9 (Nat.le_of_ble_eq_true rfl) (lv := [some (.ref t), some (.int a0), none, none, none, none, none]) rfl ?_
  unfold F_X9_rainShade
  have hJ_F_X9_rainShade_J18 : ∀ (v30 : Int32) (v31 : Int32) , z_F l M_X9_rainShade (50, 700, 0, 0) 0 0 18 [some (.ref t), some (.int a0), some (.int v30), some (.int v31), some (.int 3), none, none] [] S D (z_ko (z_kR S D)) (F_X9_rainShade_J18 v30 v31) := by
    intro v30 v31
    unfold F_X9_rainShade_J18
    refine z_iload (i := 4) (x := 3) dX9_rainShade_18 rfl ?_
    refine z_iconst (v := 3) dX9_rainShade_20 rfl ?_
    refine z_icmp_geJ 92 dX9_rainShade_21 (by decide) (by decide) ?_
    refine z_iload_n (i := 3) (x := v31) dX9_rainShade_92 rfl rfl ?_
    exact z_ireturn dX9_rainShade_93 z_rR rfl (by decide) (by decide)
  have hJ_F_X9_rainShade_J18x : ∀ (v21 : Int32) (v22 : Int32) , z_F l M_X9_rainShade (50, 700, 0, 0) 0 0 18 [some (.ref t), some (.int a0), some (.int v21), some (.int v22), some (.int 2), none, none] [] S D (z_ko (z_kR S D)) (F_X9_rainShade_J18x N t a0 D v21 v22) := by
    intro v21 v22
    unfold F_X9_rainShade_J18x
    refine z_iload (i := 4) (x := 2) dX9_rainShade_18 rfl ?_
    refine z_iconst (v := 3) dX9_rainShade_20 rfl ?_
    refine z_icmp_geN 92 dX9_rainShade_21 (by decide) (by decide) ?_
    refine z_iconst (v := 0) dX9_rainShade_24 rfl ?_
    refine z_istore (i := 5) (x := 0) (lv' := [some (.ref t), some (.int a0), some (.int v21), some (.int v22), some (.int 2), some (.int 0), none]) dX9_rainShade_25 (by decide) rfl rfl ?_
    refine z_iconst (v := 0) dX9_rainShade_27 rfl ?_
    refine z_istore (i := 6) (x := 0) (lv' := [some (.ref t), some (.int a0), some (.int v21), some (.int v22), some (.int 2), some (.int 0), some (.int 0)]) dX9_rainShade_28 (by decide) rfl rfl ?_
    refine z_loops (lvOf := fun s : Int32 × Int32 => [some (.ref t), some (.int a0), some (.int v21), some (.int v22), some (.int 2), some (.int s.1), some (.int s.2)]) (dOf := fun s : Int32 × Int32 => D) (fun kc25 hkc25 s => ?_) N (0, 0)
    obtain ⟨v23, v24⟩ := s
    show z_F _ _ _ _ _ 30 [some (.ref t), some (.int a0), some (.int v21), some (.int v22), some (.int 2), some (.int v23), some (.int v24)] [] S D _ (F_X9_rainShade_L30 t a0 v21 v22 D kc25 v23 v24)
    unfold F_X9_rainShade_L30
    refine z_iload (i := 6) (x := v24) dX9_rainShade_30 rfl ?_
    refine z_iload_n (i := 1) (x := a0) dX9_rainShade_32 rfl rfl ?_
    refine z_icmp_ge 73 dX9_rainShade_33 (by decide) (fun c26 => ?_) (fun c26 => ?_)
    · refine z_iload_n (i := 3) (x := v22) dX9_rainShade_73 rfl rfl ?_
      refine z_iload (i := 5) (x := v23) dX9_rainShade_74 rfl ?_
      refine z_iload_n (i := 2) (x := v21) dX9_rainShade_76 rfl rfl ?_
      refine z_idiv dX9_rainShade_77 (fun c27 => ?_)
      refine z_iload (i := 4) (x := 2) dX9_rainShade_78 rfl ?_
      refine z_cP (As := [.int 2]) (rest := [.int (v23 / v21), .int v22]) (em_X10_unitOf hl 2 D) (fun o7 h => z_runSN 74 1 h rfl kk_X9_74 kn_X9_74 kq_X10_unitOf rfl (Nat.le_of_ble_eq_true rfl) ⟨Nat.le_of_ble_eq_true rfl, Nat.le_of_ble_eq_true rfl, Nat.le_of_ble_eq_true rfl, Nat.le_of_ble_eq_true rfl⟩ dX9_rainShade_80) z_gR (fun hz28 => ?_)
      refine z_imul dX9_rainShade_83 ?_
      refine z_iadd dX9_rainShade_84 ?_
      refine z_topi (fun v29 => ?_)
      refine z_istore_n (i := 3) (x := v29) (lv' := [some (.ref t), some (.int a0), some (.int v21), some (.int v29), some (.int 2), some (.int v23), some (.int v24)]) dX9_rainShade_85 rfl (by decide) rfl rfl ?_
      refine z_iincC (i := 4) (x := 2) (v := 3) (lv' := [some (.ref t), some (.int a0), some (.int v21), some (.int v29), some (.int 3), some (.int v23), some (.int v24)]) dX9_rainShade_86 rfl (by decide) (by decide) rfl rfl ?_
      refine z_goto 18 dX9_rainShade_89 (by decide) ?_
      refine z_weak (lv' := [some (.ref t), some (.int a0), some (.int v21), some (.int v29), some (.int 3), none, none]) ⟨Or.inr rfl, ⟨Or.inr rfl, ⟨Or.inr rfl, ⟨Or.inr rfl, ⟨Or.inr rfl, ⟨Or.inl rfl, ⟨Or.inl rfl, trivial⟩⟩⟩⟩⟩⟩⟩ ?_
      exact hJ_F_X9_rainShade_J18 v21 v29
    · refine z_iload (i := 5) (x := v23) dX9_rainShade_36 rfl ?_
      refine z_aload_n (i := 0) (x := t) dX9_rainShade_38 rfl rfl ?_
      refine z_iload (i := 6) (x := v24) dX9_rainShade_39 rfl ?_
      refine z_iconst (v := 2) dX9_rainShade_41 rfl ?_
      refine z_cP (As := [.ref t, .int v24, .int 2]) (rest := [.int v23]) (em_X9_has hl hT v24 2 D) (fun o7 h => z_runV 47 2 h rfl kk_X9_47 hT.1 kl_9.1 kq_X9_has rfl (Nat.le_of_ble_eq_true rfl) ⟨Nat.le_of_ble_eq_true rfl, Nat.le_of_ble_eq_true rfl, Nat.le_of_ble_eq_true rfl, Nat.le_of_ble_eq_true rfl⟩ dX9_rainShade_42) z_gR (fun hz32 => ?_)
      refine z_if_ne 63 dX9_rainShade_45 (by decide) (fun c33 => ?_) (fun c33 => ?_)
      · refine z_aload_n (i := 0) (x := t) dX9_rainShade_48 rfl rfl ?_
        refine z_iload (i := 6) (x := v24) dX9_rainShade_49 rfl ?_
        refine z_iconst (v := 0) dX9_rainShade_51 rfl ?_
        refine z_cP (As := [.ref t, .int v24, .int 0]) (rest := [.int v23]) (em_X9_has hl hT v24 0 D) (fun o7 h => z_runV 47 2 h rfl kk_X9_47 hT.1 kl_9.1 kq_X9_has rfl (Nat.le_of_ble_eq_true rfl) ⟨Nat.le_of_ble_eq_true rfl, Nat.le_of_ble_eq_true rfl, Nat.le_of_ble_eq_true rfl, Nat.le_of_ble_eq_true rfl⟩ dX9_rainShade_52) z_gR (fun hz34 => ?_)
        refine z_iload (i := 4) (x := 2) dX9_rainShade_55 rfl ?_
        refine z_cP (As := [.int (F_X9_has t v24 0 D), .int 2]) (rest := [.int v23]) (em_X10_partOf hl (F_X9_has t v24 0 D) 2 D) (fun o7 h => z_runSN 62 2 h rfl kk_X9_62 kn_X9_62 kq_X10_partOf rfl (Nat.le_of_ble_eq_true rfl) ⟨Nat.le_of_ble_eq_true rfl, Nat.le_of_ble_eq_true rfl, Nat.le_of_ble_eq_true rfl, Nat.le_of_ble_eq_true rfl⟩ dX9_rainShade_57) z_gR (fun hz35 => ?_)
        refine z_goto 64 dX9_rainShade_60 (by decide) ?_
        refine z_iadd dX9_rainShade_64 ?_
        refine z_topi (fun v36 => ?_)
        refine z_istore (i := 5) (x := v36) (lv' := [some (.ref t), some (.int a0), some (.int v21), some (.int v22), some (.int 2), some (.int v36), some (.int v24)]) dX9_rainShade_65 (by decide) rfl rfl ?_
        refine z_iinc (i := 6) (x := v24) (y := 1) dX9_rainShade_67 rfl (by decide) (by decide) rfl (fun v37 => ?_)
        refine z_goto 30 dX9_rainShade_70 (by decide) ?_
        exact hkc25 (v36, v37)
      · refine z_iconst (v := 0) dX9_rainShade_63 rfl ?_
        refine z_iadd dX9_rainShade_64 ?_
        refine z_topi (fun v38 => ?_)
        refine z_istore (i := 5) (x := v38) (lv' := [some (.ref t), some (.int a0), some (.int v21), some (.int v22), some (.int 2), some (.int v38), some (.int v24)]) dX9_rainShade_65 (by decide) rfl rfl ?_
        refine z_iinc (i := 6) (x := v24) (y := 1) dX9_rainShade_67 rfl (by decide) (by decide) rfl (fun v39 => ?_)
        refine z_goto 30 dX9_rainShade_70 (by decide) ?_
        exact hkc25 (v38, v39)
  have hJ_F_X9_rainShade_J18xx : ∀ (v12 : Int32) (v13 : Int32) , z_F l M_X9_rainShade (50, 700, 0, 0) 0 0 18 [some (.ref t), some (.int a0), some (.int v12), some (.int v13), some (.int 1), none, none] [] S D (z_ko (z_kR S D)) (F_X9_rainShade_J18xx N t a0 D v12 v13) := by
    intro v12 v13
    unfold F_X9_rainShade_J18xx
    refine z_iload (i := 4) (x := 1) dX9_rainShade_18 rfl ?_
    refine z_iconst (v := 3) dX9_rainShade_20 rfl ?_
    refine z_icmp_geN 92 dX9_rainShade_21 (by decide) (by decide) ?_
    refine z_iconst (v := 0) dX9_rainShade_24 rfl ?_
    refine z_istore (i := 5) (x := 0) (lv' := [some (.ref t), some (.int a0), some (.int v12), some (.int v13), some (.int 1), some (.int 0), none]) dX9_rainShade_25 (by decide) rfl rfl ?_
    refine z_iconst (v := 0) dX9_rainShade_27 rfl ?_
    refine z_istore (i := 6) (x := 0) (lv' := [some (.ref t), some (.int a0), some (.int v12), some (.int v13), some (.int 1), some (.int 0), some (.int 0)]) dX9_rainShade_28 (by decide) rfl rfl ?_
    refine z_loops (lvOf := fun s : Int32 × Int32 => [some (.ref t), some (.int a0), some (.int v12), some (.int v13), some (.int 1), some (.int s.1), some (.int s.2)]) (dOf := fun s : Int32 × Int32 => D) (fun kc16 hkc16 s => ?_) N (0, 0)
    obtain ⟨v14, v15⟩ := s
    show z_F _ _ _ _ _ 30 [some (.ref t), some (.int a0), some (.int v12), some (.int v13), some (.int 1), some (.int v14), some (.int v15)] [] S D _ (F_X9_rainShade_L30x N t a0 v12 v13 D kc16 v14 v15)
    unfold F_X9_rainShade_L30x
    refine z_iload (i := 6) (x := v15) dX9_rainShade_30 rfl ?_
    refine z_iload_n (i := 1) (x := a0) dX9_rainShade_32 rfl rfl ?_
    refine z_icmp_ge 73 dX9_rainShade_33 (by decide) (fun c17 => ?_) (fun c17 => ?_)
    · refine z_iload_n (i := 3) (x := v13) dX9_rainShade_73 rfl rfl ?_
      refine z_iload (i := 5) (x := v14) dX9_rainShade_74 rfl ?_
      refine z_iload_n (i := 2) (x := v12) dX9_rainShade_76 rfl rfl ?_
      refine z_idiv dX9_rainShade_77 (fun c18 => ?_)
      refine z_iload (i := 4) (x := 1) dX9_rainShade_78 rfl ?_
      refine z_cP (As := [.int 1]) (rest := [.int (v14 / v12), .int v13]) (em_X10_unitOf hl 1 D) (fun o7 h => z_runSN 74 1 h rfl kk_X9_74 kn_X9_74 kq_X10_unitOf rfl (Nat.le_of_ble_eq_true rfl) ⟨Nat.le_of_ble_eq_true rfl, Nat.le_of_ble_eq_true rfl, Nat.le_of_ble_eq_true rfl, Nat.le_of_ble_eq_true rfl⟩ dX9_rainShade_80) z_gR (fun hz19 => ?_)
      refine z_imul dX9_rainShade_83 ?_
      refine z_iadd dX9_rainShade_84 ?_
      refine z_topi (fun v20 => ?_)
      refine z_istore_n (i := 3) (x := v20) (lv' := [some (.ref t), some (.int a0), some (.int v12), some (.int v20), some (.int 1), some (.int v14), some (.int v15)]) dX9_rainShade_85 rfl (by decide) rfl rfl ?_
      refine z_iincC (i := 4) (x := 1) (v := 2) (lv' := [some (.ref t), some (.int a0), some (.int v12), some (.int v20), some (.int 2), some (.int v14), some (.int v15)]) dX9_rainShade_86 rfl (by decide) (by decide) rfl rfl ?_
      refine z_goto 18 dX9_rainShade_89 (by decide) ?_
      refine z_weak (lv' := [some (.ref t), some (.int a0), some (.int v12), some (.int v20), some (.int 2), none, none]) ⟨Or.inr rfl, ⟨Or.inr rfl, ⟨Or.inr rfl, ⟨Or.inr rfl, ⟨Or.inr rfl, ⟨Or.inl rfl, ⟨Or.inl rfl, trivial⟩⟩⟩⟩⟩⟩⟩ ?_
      exact hJ_F_X9_rainShade_J18x v12 v20
    · refine z_iload (i := 5) (x := v14) dX9_rainShade_36 rfl ?_
      refine z_aload_n (i := 0) (x := t) dX9_rainShade_38 rfl rfl ?_
      refine z_iload (i := 6) (x := v15) dX9_rainShade_39 rfl ?_
      refine z_iconst (v := 2) dX9_rainShade_41 rfl ?_
      refine z_cP (As := [.ref t, .int v15, .int 2]) (rest := [.int v14]) (em_X9_has hl hT v15 2 D) (fun o7 h => z_runV 47 2 h rfl kk_X9_47 hT.1 kl_9.1 kq_X9_has rfl (Nat.le_of_ble_eq_true rfl) ⟨Nat.le_of_ble_eq_true rfl, Nat.le_of_ble_eq_true rfl, Nat.le_of_ble_eq_true rfl, Nat.le_of_ble_eq_true rfl⟩ dX9_rainShade_42) z_gR (fun hz41 => ?_)
      refine z_if_ne 63 dX9_rainShade_45 (by decide) (fun c42 => ?_) (fun c42 => ?_)
      · refine z_aload_n (i := 0) (x := t) dX9_rainShade_48 rfl rfl ?_
        refine z_iload (i := 6) (x := v15) dX9_rainShade_49 rfl ?_
        refine z_iconst (v := 0) dX9_rainShade_51 rfl ?_
        refine z_cP (As := [.ref t, .int v15, .int 0]) (rest := [.int v14]) (em_X9_has hl hT v15 0 D) (fun o7 h => z_runV 47 2 h rfl kk_X9_47 hT.1 kl_9.1 kq_X9_has rfl (Nat.le_of_ble_eq_true rfl) ⟨Nat.le_of_ble_eq_true rfl, Nat.le_of_ble_eq_true rfl, Nat.le_of_ble_eq_true rfl, Nat.le_of_ble_eq_true rfl⟩ dX9_rainShade_52) z_gR (fun hz43 => ?_)
        refine z_iload (i := 4) (x := 1) dX9_rainShade_55 rfl ?_
        refine z_cP (As := [.int (F_X9_has t v15 0 D), .int 1]) (rest := [.int v14]) (em_X10_partOf hl (F_X9_has t v15 0 D) 1 D) (fun o7 h => z_runSN 62 2 h rfl kk_X9_62 kn_X9_62 kq_X10_partOf rfl (Nat.le_of_ble_eq_true rfl) ⟨Nat.le_of_ble_eq_true rfl, Nat.le_of_ble_eq_true rfl, Nat.le_of_ble_eq_true rfl, Nat.le_of_ble_eq_true rfl⟩ dX9_rainShade_57) z_gR (fun hz44 => ?_)
        refine z_goto 64 dX9_rainShade_60 (by decide) ?_
        refine z_iadd dX9_rainShade_64 ?_
        refine z_topi (fun v45 => ?_)
        refine z_istore (i := 5) (x := v45) (lv' := [some (.ref t), some (.int a0), some (.int v12), some (.int v13), some (.int 1), some (.int v45), some (.int v15)]) dX9_rainShade_65 (by decide) rfl rfl ?_
        refine z_iinc (i := 6) (x := v15) (y := 1) dX9_rainShade_67 rfl (by decide) (by decide) rfl (fun v46 => ?_)
        refine z_goto 30 dX9_rainShade_70 (by decide) ?_
        exact hkc16 (v45, v46)
      · refine z_iconst (v := 0) dX9_rainShade_63 rfl ?_
        refine z_iadd dX9_rainShade_64 ?_
        refine z_topi (fun v47 => ?_)
        refine z_istore (i := 5) (x := v47) (lv' := [some (.ref t), some (.int a0), some (.int v12), some (.int v13), some (.int 1), some (.int v47), some (.int v15)]) dX9_rainShade_65 (by decide) rfl rfl ?_
        refine z_iinc (i := 6) (x := v15) (y := 1) dX9_rainShade_67 rfl (by decide) (by decide) rfl (fun v48 => ?_)
        refine z_goto 30 dX9_rainShade_70 (by decide) ?_
        exact hkc16 (v47, v48)
  have hJ_F_X9_rainShade_J18xxx : ∀ (v4 : Int32) , z_F l M_X9_rainShade (50, 700, 0, 0) 0 0 18 [some (.ref t), some (.int a0), some (.int v4), some (.int 0), some (.int 0), none, none] [] S D (z_ko (z_kR S D)) (F_X9_rainShade_J18xxx N t a0 D v4) := by
    intro v4
    unfold F_X9_rainShade_J18xxx
    refine z_iload (i := 4) (x := 0) dX9_rainShade_18 rfl ?_
    refine z_iconst (v := 3) dX9_rainShade_20 rfl ?_
    refine z_icmp_geN 92 dX9_rainShade_21 (by decide) (by decide) ?_
    refine z_iconst (v := 0) dX9_rainShade_24 rfl ?_
    refine z_istore (i := 5) (x := 0) (lv' := [some (.ref t), some (.int a0), some (.int v4), some (.int 0), some (.int 0), some (.int 0), none]) dX9_rainShade_25 (by decide) rfl rfl ?_
    refine z_iconst (v := 0) dX9_rainShade_27 rfl ?_
    refine z_istore (i := 6) (x := 0) (lv' := [some (.ref t), some (.int a0), some (.int v4), some (.int 0), some (.int 0), some (.int 0), some (.int 0)]) dX9_rainShade_28 (by decide) rfl rfl ?_
    refine z_loops (lvOf := fun s : Int32 × Int32 => [some (.ref t), some (.int a0), some (.int v4), some (.int 0), some (.int 0), some (.int s.1), some (.int s.2)]) (dOf := fun s : Int32 × Int32 => D) (fun kc7 hkc7 s => ?_) N (0, 0)
    obtain ⟨v5, v6⟩ := s
    show z_F _ _ _ _ _ 30 [some (.ref t), some (.int a0), some (.int v4), some (.int 0), some (.int 0), some (.int v5), some (.int v6)] [] S D _ (F_X9_rainShade_L30xx N t a0 v4 D kc7 v5 v6)
    unfold F_X9_rainShade_L30xx
    refine z_iload (i := 6) (x := v6) dX9_rainShade_30 rfl ?_
    refine z_iload_n (i := 1) (x := a0) dX9_rainShade_32 rfl rfl ?_
    refine z_icmp_ge 73 dX9_rainShade_33 (by decide) (fun c8 => ?_) (fun c8 => ?_)
    · refine z_iload_n (i := 3) (x := 0) dX9_rainShade_73 rfl rfl ?_
      refine z_iload (i := 5) (x := v5) dX9_rainShade_74 rfl ?_
      refine z_iload_n (i := 2) (x := v4) dX9_rainShade_76 rfl rfl ?_
      refine z_idiv dX9_rainShade_77 (fun c9 => ?_)
      refine z_iload (i := 4) (x := 0) dX9_rainShade_78 rfl ?_
      refine z_cP (As := [.int 0]) (rest := [.int (v5 / v4), .int 0]) (em_X10_unitOf hl 0 D) (fun o7 h => z_runSN 74 1 h rfl kk_X9_74 kn_X9_74 kq_X10_unitOf rfl (Nat.le_of_ble_eq_true rfl) ⟨Nat.le_of_ble_eq_true rfl, Nat.le_of_ble_eq_true rfl, Nat.le_of_ble_eq_true rfl, Nat.le_of_ble_eq_true rfl⟩ dX9_rainShade_80) z_gR (fun hz10 => ?_)
      refine z_imul dX9_rainShade_83 ?_
      refine z_iadd dX9_rainShade_84 ?_
      refine z_topi (fun v11 => ?_)
      refine z_istore_n (i := 3) (x := v11) (lv' := [some (.ref t), some (.int a0), some (.int v4), some (.int v11), some (.int 0), some (.int v5), some (.int v6)]) dX9_rainShade_85 rfl (by decide) rfl rfl ?_
      refine z_iincC (i := 4) (x := 0) (v := 1) (lv' := [some (.ref t), some (.int a0), some (.int v4), some (.int v11), some (.int 1), some (.int v5), some (.int v6)]) dX9_rainShade_86 rfl (by decide) (by decide) rfl rfl ?_
      refine z_goto 18 dX9_rainShade_89 (by decide) ?_
      refine z_weak (lv' := [some (.ref t), some (.int a0), some (.int v4), some (.int v11), some (.int 1), none, none]) ⟨Or.inr rfl, ⟨Or.inr rfl, ⟨Or.inr rfl, ⟨Or.inr rfl, ⟨Or.inr rfl, ⟨Or.inl rfl, ⟨Or.inl rfl, trivial⟩⟩⟩⟩⟩⟩⟩ ?_
      exact hJ_F_X9_rainShade_J18xx v4 v11
    · refine z_iload (i := 5) (x := v5) dX9_rainShade_36 rfl ?_
      refine z_aload_n (i := 0) (x := t) dX9_rainShade_38 rfl rfl ?_
      refine z_iload (i := 6) (x := v6) dX9_rainShade_39 rfl ?_
      refine z_iconst (v := 2) dX9_rainShade_41 rfl ?_
      refine z_cP (As := [.ref t, .int v6, .int 2]) (rest := [.int v5]) (em_X9_has hl hT v6 2 D) (fun o7 h => z_runV 47 2 h rfl kk_X9_47 hT.1 kl_9.1 kq_X9_has rfl (Nat.le_of_ble_eq_true rfl) ⟨Nat.le_of_ble_eq_true rfl, Nat.le_of_ble_eq_true rfl, Nat.le_of_ble_eq_true rfl, Nat.le_of_ble_eq_true rfl⟩ dX9_rainShade_42) z_gR (fun hz50 => ?_)
      refine z_if_ne 63 dX9_rainShade_45 (by decide) (fun c51 => ?_) (fun c51 => ?_)
      · refine z_aload_n (i := 0) (x := t) dX9_rainShade_48 rfl rfl ?_
        refine z_iload (i := 6) (x := v6) dX9_rainShade_49 rfl ?_
        refine z_iconst (v := 0) dX9_rainShade_51 rfl ?_
        refine z_cP (As := [.ref t, .int v6, .int 0]) (rest := [.int v5]) (em_X9_has hl hT v6 0 D) (fun o7 h => z_runV 47 2 h rfl kk_X9_47 hT.1 kl_9.1 kq_X9_has rfl (Nat.le_of_ble_eq_true rfl) ⟨Nat.le_of_ble_eq_true rfl, Nat.le_of_ble_eq_true rfl, Nat.le_of_ble_eq_true rfl, Nat.le_of_ble_eq_true rfl⟩ dX9_rainShade_52) z_gR (fun hz52 => ?_)
        refine z_iload (i := 4) (x := 0) dX9_rainShade_55 rfl ?_
        refine z_cP (As := [.int (F_X9_has t v6 0 D), .int 0]) (rest := [.int v5]) (em_X10_partOf hl (F_X9_has t v6 0 D) 0 D) (fun o7 h => z_runSN 62 2 h rfl kk_X9_62 kn_X9_62 kq_X10_partOf rfl (Nat.le_of_ble_eq_true rfl) ⟨Nat.le_of_ble_eq_true rfl, Nat.le_of_ble_eq_true rfl, Nat.le_of_ble_eq_true rfl, Nat.le_of_ble_eq_true rfl⟩ dX9_rainShade_57) z_gR (fun hz53 => ?_)
        refine z_goto 64 dX9_rainShade_60 (by decide) ?_
        refine z_iadd dX9_rainShade_64 ?_
        refine z_topi (fun v54 => ?_)
        refine z_istore (i := 5) (x := v54) (lv' := [some (.ref t), some (.int a0), some (.int v4), some (.int 0), some (.int 0), some (.int v54), some (.int v6)]) dX9_rainShade_65 (by decide) rfl rfl ?_
        refine z_iinc (i := 6) (x := v6) (y := 1) dX9_rainShade_67 rfl (by decide) (by decide) rfl (fun v55 => ?_)
        refine z_goto 30 dX9_rainShade_70 (by decide) ?_
        exact hkc7 (v54, v55)
      · refine z_iconst (v := 0) dX9_rainShade_63 rfl ?_
        refine z_iadd dX9_rainShade_64 ?_
        refine z_topi (fun v56 => ?_)
        refine z_istore (i := 5) (x := v56) (lv' := [some (.ref t), some (.int a0), some (.int v4), some (.int 0), some (.int 0), some (.int v56), some (.int v6)]) dX9_rainShade_65 (by decide) rfl rfl ?_
        refine z_iinc (i := 6) (x := v6) (y := 1) dX9_rainShade_67 rfl (by decide) (by decide) rfl (fun v57 => ?_)
        refine z_goto 30 dX9_rainShade_70 (by decide) ?_
        exact hkc7 (v56, v57)
  refine z_aload_n (i := 0) (x := t) dX9_rainShade_0 rfl rfl ?_
  refine z_iload_n (i := 1) (x := a0) dX9_rainShade_1 rfl rfl ?_
  refine z_cR (As := [.ref t, .int a0]) (rest := []) (em_X9_unsalted hl hT N a0 D) (fun o7 h => z_runV 71 1 h rfl kk_X9_71 hT.1 kl_9.1 kq_X9_unsalted rfl (Nat.le_of_ble_eq_true rfl) ⟨Nat.le_of_ble_eq_true rfl, Nat.le_of_ble_eq_true rfl, Nat.le_of_ble_eq_true rfl, Nat.le_of_ble_eq_true rfl⟩ dX9_rainShade_2) z_gR (fun a_2 hz1 => ?_)
  refine z_istore_n (i := 2) (x := a_2) (lv' := [some (.ref t), some (.int a0), some (.int a_2), none, none, none, none]) dX9_rainShade_5 rfl (by decide) rfl rfl ?_
  refine z_iload_n (i := 2) (x := a_2) dX9_rainShade_6 rfl rfl ?_
  refine z_iconst (v := 2) dX9_rainShade_7 rfl ?_
  refine z_icmp_ge 13 dX9_rainShade_8 (by decide) (fun c3 => ?_) (fun c3 => ?_)
  · refine z_iconst (v := 0) dX9_rainShade_13 rfl ?_
    refine z_istore_n (i := 3) (x := 0) (lv' := [some (.ref t), some (.int a0), some (.int a_2), some (.int 0), none, none, none]) dX9_rainShade_14 rfl (by decide) rfl rfl ?_
    refine z_iconst (v := 0) dX9_rainShade_15 rfl ?_
    refine z_istore (i := 4) (x := 0) (lv' := [some (.ref t), some (.int a0), some (.int a_2), some (.int 0), some (.int 0), none, none]) dX9_rainShade_16 (by decide) rfl rfl ?_
    exact hJ_F_X9_rainShade_J18xxx a_2
  · refine z_iconst (v := (-1)) dX9_rainShade_11 rfl ?_
    exact z_ireturn dX9_rainShade_12 z_rR rfl (by decide) (by decide)

def F_X9_rain_L15 (t : Nat) (a0 : Int32) (a_2 : Int32) (kc6 : ((Int32 × z_Dat) → Option (Int32 × z_Dat))) (v4 : Int32) (D5 : z_Dat) : Option (Int32 × z_Dat) :=
  if a0 ≤ v4 then (some (1, D5))
  else (if (F_X9_has t v4 2 D5) = 0 then (z_let (F_X9_set t v4 0 a_2 D5) (fun a_11 => z_let (v4 + 1) (fun v12 => kc6 (v12, a_11))))
  else (z_let (v4 + 1) (fun v13 => kc6 (v13, D5))))
def F_X9_rain (N : Nat) (t : Nat) (a0 : Int32) (D : z_Dat) : Option (Int32 × z_Dat) :=
  z_bd (F_X9_rainShade N t a0 D) (fun a_2 => if a_2 = (-1) then (some (0, D))
  else (z_loop (fun kc6 s => F_X9_rain_L15 t a0 a_2 kc6 s.1 s.2) N (0, D)))
set_option maxRecDepth 100000 in
set_option maxHeartbeats 4000000 in
theorem em_X9_rain {l : Launch} {S : List z_Shp} {t : Nat} (hl : l.stackTraces = false) (hT : z_isTown S t) (N : Nat) (a0 : Int32) (D : z_Dat) : ∀ out, z_ko (z_kI S) (F_X9_rain N t a0 D) out → z_EM l M_X9_rain (60, 760, 0, 0) [.ref t, .int a0] S D out := by
  refine z_meth hl rfl kp_X9 (Nat.le_of_ble_eq_true rfl) (lv := [some (.ref t), some (.int a0), none, none]) rfl ?_
  unfold F_X9_rain
  refine z_aload_n (i := 0) (x := t) dX9_rain_0 rfl rfl ?_
  refine z_iload_n (i := 1) (x := a0) dX9_rain_1 rfl rfl ?_
  refine z_cR (As := [.ref t, .int a0]) (rest := []) (em_X9_rainShade hl hT N a0 D) (fun o7 h => z_runV 68 1 h rfl kk_X9_68 hT.1 kl_9.1 kq_X9_rainShade rfl (Nat.le_of_ble_eq_true rfl) ⟨Nat.le_of_ble_eq_true rfl, Nat.le_of_ble_eq_true rfl, Nat.le_of_ble_eq_true rfl, Nat.le_of_ble_eq_true rfl⟩ dX9_rain_2) z_gWI (fun a_2 hz1 => ?_)
  refine z_istore_n (i := 2) (x := a_2) (lv' := [some (.ref t), some (.int a0), some (.int a_2), none]) dX9_rain_5 rfl (by decide) rfl rfl ?_
  refine z_iload_n (i := 2) (x := a_2) dX9_rain_6 rfl rfl ?_
  refine z_iconst (v := (-1)) dX9_rain_7 rfl ?_
  refine z_icmp_ne 13 dX9_rain_8 (by decide) (fun c3 => ?_) (fun c3 => ?_)
  · refine z_iconst (v := 0) dX9_rain_11 rfl ?_
    exact z_ireturn dX9_rain_12 z_rWI rfl (by decide) (by decide)
  · refine z_iconst (v := 0) dX9_rain_13 rfl ?_
    refine z_istore_n (i := 3) (x := 0) (lv' := [some (.ref t), some (.int a0), some (.int a_2), some (.int 0)]) dX9_rain_14 rfl (by decide) rfl rfl ?_
    refine z_loops (lvOf := fun s : Int32 × z_Dat => [some (.ref t), some (.int a0), some (.int a_2), some (.int s.1)]) (dOf := fun s : Int32 × z_Dat => s.2) (fun kc6 hkc6 s => ?_) N (0, D)
    obtain ⟨v4, D5⟩ := s
    show z_F _ _ _ _ _ 15 [some (.ref t), some (.int a0), some (.int a_2), some (.int v4)] [] S D5 _ (F_X9_rain_L15 t a0 a_2 kc6 v4 D5)
    unfold F_X9_rain_L15
    refine z_iload_n (i := 3) (x := v4) dX9_rain_15 rfl rfl ?_
    refine z_iload_n (i := 1) (x := a0) dX9_rain_16 rfl rfl ?_
    refine z_icmp_ge 42 dX9_rain_17 (by decide) (fun c7 => ?_) (fun c7 => ?_)
    · refine z_iconst (v := 1) dX9_rain_42 rfl ?_
      exact z_ireturn dX9_rain_43 z_rWI rfl (by decide) (by decide)
    · refine z_aload_n (i := 0) (x := t) dX9_rain_20 rfl rfl ?_
      refine z_iload_n (i := 3) (x := v4) dX9_rain_21 rfl rfl ?_
      refine z_iconst (v := 2) dX9_rain_22 rfl ?_
      refine z_cP (As := [.ref t, .int v4, .int 2]) (rest := []) (em_X9_has hl hT v4 2 D5) (fun o7 h => z_runV 47 2 h rfl kk_X9_47 hT.1 kl_9.1 kq_X9_has rfl (Nat.le_of_ble_eq_true rfl) ⟨Nat.le_of_ble_eq_true rfl, Nat.le_of_ble_eq_true rfl, Nat.le_of_ble_eq_true rfl, Nat.le_of_ble_eq_true rfl⟩ dX9_rain_23) z_gWI (fun hz8 => ?_)
      refine z_if_ne 36 dX9_rain_26 (by decide) (fun c9 => ?_) (fun c9 => ?_)
      · refine z_aload_n (i := 0) (x := t) dX9_rain_29 rfl rfl ?_
        refine z_iload_n (i := 3) (x := v4) dX9_rain_30 rfl rfl ?_
        refine z_iconst (v := 0) dX9_rain_31 rfl ?_
        refine z_iload_n (i := 2) (x := a_2) dX9_rain_32 rfl rfl ?_
        refine z_cTV (As := [.ref t, .int v4, .int 0, .int a_2]) (rest := []) (em_X9_set hl hT v4 0 a_2 D5) (fun o7 h => z_runV 32 3 h rfl kk_X9_32 hT.1 kl_9.1 kq_X9_set rfl (Nat.le_of_ble_eq_true rfl) ⟨Nat.le_of_ble_eq_true rfl, Nat.le_of_ble_eq_true rfl, Nat.le_of_ble_eq_true rfl, Nat.le_of_ble_eq_true rfl⟩ dX9_rain_33) z_gWI (fun a_11 hz10 => ?_)
        refine z_iinc (i := 3) (x := v4) (y := 1) dX9_rain_36 rfl (by decide) (by decide) rfl (fun v12 => ?_)
        refine z_goto 15 dX9_rain_39 (by decide) ?_
        exact hkc6 (v12, a_11)
      · refine z_iinc (i := 3) (x := v4) (y := 1) dX9_rain_36 rfl (by decide) (by decide) rfl (fun v13 => ?_)
        refine z_goto 15 dX9_rain_39 (by decide) ?_
        exact hkc6 (v13, D5)

def F_X10_apart_J4 (v12 : Int32) : Int32 :=
  v12
def F_X10_apart_J4x (a0 : Int32) (a1 : Int32) (v8 : Int32) : Int32 :=
  z_let (v8 + (z_abs ((F_X10_partOf a0 2) - (F_X10_partOf a1 2)))) (fun v11 => F_X10_apart_J4 v11)
def F_X10_apart_J4xx (a0 : Int32) (a1 : Int32) (v4 : Int32) : Int32 :=
  z_let (v4 + (z_abs ((F_X10_partOf a0 1) - (F_X10_partOf a1 1)))) (fun v7 => F_X10_apart_J4x a0 a1 v7)
def F_X10_apart_J4xxx (a0 : Int32) (a1 : Int32) : Int32 :=
  z_let (0 + (z_abs ((F_X10_partOf a0 0) - (F_X10_partOf a1 0)))) (fun v3 => F_X10_apart_J4xx a0 a1 v3)
def F_X10_apart (a0 : Int32) (a1 : Int32) : Int32 :=
  F_X10_apart_J4xxx a0 a1
set_option maxRecDepth 100000 in
set_option maxHeartbeats 4000000 in
theorem em_X10_apart {l : Launch} {S : List z_Shp} (hl : l.stackTraces = false) (a0 : Int32) (a1 : Int32) (D : z_Dat) : ∀ out, z_kt (z_kR S D) (F_X10_apart a0 a1) out → z_EM l M_X10_apart (30, 580, 0, 0) [.int a0, .int a1] S D out := by
  refine z_meth hl rfl kp_X10 (Nat.le_of_ble_eq_true rfl) (lv := [some (.int a0), some (.int a1), none, none]) rfl ?_
  unfold F_X10_apart
  have hJ_F_X10_apart_J4 : ∀ (v12 : Int32) , z_F l M_X10_apart (30, 580, 0, 0) 0 0 4 [some (.int a0), some (.int a1), some (.int v12), some (.int 3)] [] S D (z_kt (z_kR S D)) (F_X10_apart_J4 v12) := by
    intro v12
    unfold F_X10_apart_J4
    refine z_iload_n (i := 3) (x := 3) dX10_apart_4 rfl rfl ?_
    refine z_iconst (v := 3) dX10_apart_5 rfl ?_
    refine z_icmp_geJ 32 dX10_apart_6 (by decide) (by decide) ?_
    refine z_iload_n (i := 2) (x := v12) dX10_apart_32 rfl rfl ?_
    exact z_ireturn dX10_apart_33 z_rP rfl (by decide) (by decide)
  have hJ_F_X10_apart_J4x : ∀ (v8 : Int32) , z_F l M_X10_apart (30, 580, 0, 0) 0 0 4 [some (.int a0), some (.int a1), some (.int v8), some (.int 2)] [] S D (z_kt (z_kR S D)) (F_X10_apart_J4x a0 a1 v8) := by
    intro v8
    unfold F_X10_apart_J4x
    refine z_iload_n (i := 3) (x := 2) dX10_apart_4 rfl rfl ?_
    refine z_iconst (v := 3) dX10_apart_5 rfl ?_
    refine z_icmp_geN 32 dX10_apart_6 (by decide) (by decide) ?_
    refine z_iload_n (i := 2) (x := v8) dX10_apart_9 rfl rfl ?_
    refine z_iload_n (i := 0) (x := a0) dX10_apart_10 rfl rfl ?_
    refine z_iload_n (i := 3) (x := 2) dX10_apart_11 rfl rfl ?_
    refine z_cP (As := [.int a0, .int 2]) (rest := [.int v8]) (em_X10_partOf hl a0 2 D) (fun o7 h => z_runS 368 2 h rfl kk_X10_368 kq_X10_partOf rfl (Nat.le_of_ble_eq_true rfl) ⟨Nat.le_of_ble_eq_true rfl, Nat.le_of_ble_eq_true rfl, Nat.le_of_ble_eq_true rfl, Nat.le_of_ble_eq_true rfl⟩ dX10_apart_12) z_gP (fun hz9 => ?_)
    refine z_iload_n (i := 1) (x := a1) dX10_apart_15 rfl rfl ?_
    refine z_iload_n (i := 3) (x := 2) dX10_apart_16 rfl rfl ?_
    refine z_cP (As := [.int a1, .int 2]) (rest := [.int (F_X10_partOf a0 2), .int v8]) (em_X10_partOf hl a1 2 D) (fun o7 h => z_runS 368 2 h rfl kk_X10_368 kq_X10_partOf rfl (Nat.le_of_ble_eq_true rfl) ⟨Nat.le_of_ble_eq_true rfl, Nat.le_of_ble_eq_true rfl, Nat.le_of_ble_eq_true rfl, Nat.le_of_ble_eq_true rfl⟩ dX10_apart_17) z_gP (fun hz10 => ?_)
    refine z_isub dX10_apart_20 ?_
    refine z_mabs dX10_apart_21 km_X10_384 ⟨Nat.le_of_ble_eq_true rfl, Nat.le_of_ble_eq_true rfl, Nat.le_of_ble_eq_true rfl, Nat.le_of_ble_eq_true rfl⟩ ?_
    refine z_iadd dX10_apart_24 ?_
    refine z_topi (fun v11 => ?_)
    refine z_istore_n (i := 2) (x := v11) (lv' := [some (.int a0), some (.int a1), some (.int v11), some (.int 2)]) dX10_apart_25 rfl (by decide) rfl rfl ?_
    refine z_iincC (i := 3) (x := 2) (v := 3) (lv' := [some (.int a0), some (.int a1), some (.int v11), some (.int 3)]) dX10_apart_26 rfl (by decide) (by decide) rfl rfl ?_
    refine z_goto 4 dX10_apart_29 (by decide) ?_
    exact hJ_F_X10_apart_J4 v11
  have hJ_F_X10_apart_J4xx : ∀ (v4 : Int32) , z_F l M_X10_apart (30, 580, 0, 0) 0 0 4 [some (.int a0), some (.int a1), some (.int v4), some (.int 1)] [] S D (z_kt (z_kR S D)) (F_X10_apart_J4xx a0 a1 v4) := by
    intro v4
    unfold F_X10_apart_J4xx
    refine z_iload_n (i := 3) (x := 1) dX10_apart_4 rfl rfl ?_
    refine z_iconst (v := 3) dX10_apart_5 rfl ?_
    refine z_icmp_geN 32 dX10_apart_6 (by decide) (by decide) ?_
    refine z_iload_n (i := 2) (x := v4) dX10_apart_9 rfl rfl ?_
    refine z_iload_n (i := 0) (x := a0) dX10_apart_10 rfl rfl ?_
    refine z_iload_n (i := 3) (x := 1) dX10_apart_11 rfl rfl ?_
    refine z_cP (As := [.int a0, .int 1]) (rest := [.int v4]) (em_X10_partOf hl a0 1 D) (fun o7 h => z_runS 368 2 h rfl kk_X10_368 kq_X10_partOf rfl (Nat.le_of_ble_eq_true rfl) ⟨Nat.le_of_ble_eq_true rfl, Nat.le_of_ble_eq_true rfl, Nat.le_of_ble_eq_true rfl, Nat.le_of_ble_eq_true rfl⟩ dX10_apart_12) z_gP (fun hz5 => ?_)
    refine z_iload_n (i := 1) (x := a1) dX10_apart_15 rfl rfl ?_
    refine z_iload_n (i := 3) (x := 1) dX10_apart_16 rfl rfl ?_
    refine z_cP (As := [.int a1, .int 1]) (rest := [.int (F_X10_partOf a0 1), .int v4]) (em_X10_partOf hl a1 1 D) (fun o7 h => z_runS 368 2 h rfl kk_X10_368 kq_X10_partOf rfl (Nat.le_of_ble_eq_true rfl) ⟨Nat.le_of_ble_eq_true rfl, Nat.le_of_ble_eq_true rfl, Nat.le_of_ble_eq_true rfl, Nat.le_of_ble_eq_true rfl⟩ dX10_apart_17) z_gP (fun hz6 => ?_)
    refine z_isub dX10_apart_20 ?_
    refine z_mabs dX10_apart_21 km_X10_384 ⟨Nat.le_of_ble_eq_true rfl, Nat.le_of_ble_eq_true rfl, Nat.le_of_ble_eq_true rfl, Nat.le_of_ble_eq_true rfl⟩ ?_
    refine z_iadd dX10_apart_24 ?_
    refine z_topi (fun v7 => ?_)
    refine z_istore_n (i := 2) (x := v7) (lv' := [some (.int a0), some (.int a1), some (.int v7), some (.int 1)]) dX10_apart_25 rfl (by decide) rfl rfl ?_
    refine z_iincC (i := 3) (x := 1) (v := 2) (lv' := [some (.int a0), some (.int a1), some (.int v7), some (.int 2)]) dX10_apart_26 rfl (by decide) (by decide) rfl rfl ?_
    refine z_goto 4 dX10_apart_29 (by decide) ?_
    exact hJ_F_X10_apart_J4x v7
  have hJ_F_X10_apart_J4xxx : z_F l M_X10_apart (30, 580, 0, 0) 0 0 4 [some (.int a0), some (.int a1), some (.int 0), some (.int 0)] [] S D (z_kt (z_kR S D)) (F_X10_apart_J4xxx a0 a1) := by
    unfold F_X10_apart_J4xxx
    refine z_iload_n (i := 3) (x := 0) dX10_apart_4 rfl rfl ?_
    refine z_iconst (v := 3) dX10_apart_5 rfl ?_
    refine z_icmp_geN 32 dX10_apart_6 (by decide) (by decide) ?_
    refine z_iload_n (i := 2) (x := 0) dX10_apart_9 rfl rfl ?_
    refine z_iload_n (i := 0) (x := a0) dX10_apart_10 rfl rfl ?_
    refine z_iload_n (i := 3) (x := 0) dX10_apart_11 rfl rfl ?_
    refine z_cP (As := [.int a0, .int 0]) (rest := [.int 0]) (em_X10_partOf hl a0 0 D) (fun o7 h => z_runS 368 2 h rfl kk_X10_368 kq_X10_partOf rfl (Nat.le_of_ble_eq_true rfl) ⟨Nat.le_of_ble_eq_true rfl, Nat.le_of_ble_eq_true rfl, Nat.le_of_ble_eq_true rfl, Nat.le_of_ble_eq_true rfl⟩ dX10_apart_12) z_gP (fun hz1 => ?_)
    refine z_iload_n (i := 1) (x := a1) dX10_apart_15 rfl rfl ?_
    refine z_iload_n (i := 3) (x := 0) dX10_apart_16 rfl rfl ?_
    refine z_cP (As := [.int a1, .int 0]) (rest := [.int (F_X10_partOf a0 0), .int 0]) (em_X10_partOf hl a1 0 D) (fun o7 h => z_runS 368 2 h rfl kk_X10_368 kq_X10_partOf rfl (Nat.le_of_ble_eq_true rfl) ⟨Nat.le_of_ble_eq_true rfl, Nat.le_of_ble_eq_true rfl, Nat.le_of_ble_eq_true rfl, Nat.le_of_ble_eq_true rfl⟩ dX10_apart_17) z_gP (fun hz2 => ?_)
    refine z_isub dX10_apart_20 ?_
    refine z_mabs dX10_apart_21 km_X10_384 ⟨Nat.le_of_ble_eq_true rfl, Nat.le_of_ble_eq_true rfl, Nat.le_of_ble_eq_true rfl, Nat.le_of_ble_eq_true rfl⟩ ?_
    refine z_iadd dX10_apart_24 ?_
    refine z_topi (fun v3 => ?_)
    refine z_istore_n (i := 2) (x := v3) (lv' := [some (.int a0), some (.int a1), some (.int v3), some (.int 0)]) dX10_apart_25 rfl (by decide) rfl rfl ?_
    refine z_iincC (i := 3) (x := 0) (v := 1) (lv' := [some (.int a0), some (.int a1), some (.int v3), some (.int 1)]) dX10_apart_26 rfl (by decide) (by decide) rfl rfl ?_
    refine z_goto 4 dX10_apart_29 (by decide) ?_
    exact hJ_F_X10_apart_J4xx v3
  refine z_iconst (v := 0) dX10_apart_0 rfl ?_
  refine z_istore_n (i := 2) (x := 0) (lv' := [some (.int a0), some (.int a1), some (.int 0), none]) dX10_apart_1 rfl (by decide) rfl rfl ?_
  refine z_iconst (v := 0) dX10_apart_2 rfl ?_
  refine z_istore_n (i := 3) (x := 0) (lv' := [some (.int a0), some (.int a1), some (.int 0), some (.int 0)]) dX10_apart_3 rfl (by decide) rfl rfl ?_
  exact hJ_F_X10_apart_J4xxx

def F_X9_marry (t : Nat) (a0 : Int32) (a1 : Int32) (D : z_Dat) : Int32 × z_Dat :=
  if (F_X9_has t a0 3 D) = (-1) then (if (F_X9_has t a1 3 D) = (-1) then (if (F_X10_apart (F_X9_has t a0 0 D) (F_X9_has t a1 0 D)) ≤ 6 then (z_let (F_X9_set t a0 3 a1 D) (fun a_10 => z_let (F_X9_set t a1 3 a0 a_10) (fun a_12 => (1, a_12))))
  else ((0, D)))
  else ((0, D)))
  else ((0, D))
set_option maxRecDepth 100000 in
set_option maxHeartbeats 4000000 in
theorem em_X9_marry {l : Launch} {S : List z_Shp} {t : Nat} (hl : l.stackTraces = false) (hT : z_isTown S t) (a0 : Int32) (a1 : Int32) (D : z_Dat) : ∀ out, z_kt (z_kI S) (F_X9_marry t a0 a1 D) out → z_EM l M_X9_marry (40, 640, 0, 0) [.ref t, .int a0, .int a1] S D out := by
  refine z_meth hl rfl kp_X9 (Nat.le_of_ble_eq_true rfl) (lv := [some (.ref t), some (.int a0), some (.int a1)]) rfl ?_
  unfold F_X9_marry
  refine z_aload_n (i := 0) (x := t) dX9_marry_0 rfl rfl ?_
  refine z_iload_n (i := 1) (x := a0) dX9_marry_1 rfl rfl ?_
  refine z_iconst (v := 3) dX9_marry_2 rfl ?_
  refine z_cP (As := [.ref t, .int a0, .int 3]) (rest := []) (em_X9_has hl hT a0 3 D) (fun o7 h => z_runV 47 2 h rfl kk_X9_47 hT.1 kl_9.1 kq_X9_has rfl (Nat.le_of_ble_eq_true rfl) ⟨Nat.le_of_ble_eq_true rfl, Nat.le_of_ble_eq_true rfl, Nat.le_of_ble_eq_true rfl, Nat.le_of_ble_eq_true rfl⟩ dX9_marry_3) z_gTI (fun hz1 => ?_)
  refine z_iconst (v := (-1)) dX9_marry_6 rfl ?_
  refine z_icmp_ne 40 dX9_marry_7 (by decide) (fun c2 => ?_) (fun c2 => ?_)
  · refine z_aload_n (i := 0) (x := t) dX9_marry_10 rfl rfl ?_
    refine z_iload_n (i := 2) (x := a1) dX9_marry_11 rfl rfl ?_
    refine z_iconst (v := 3) dX9_marry_12 rfl ?_
    refine z_cP (As := [.ref t, .int a1, .int 3]) (rest := []) (em_X9_has hl hT a1 3 D) (fun o7 h => z_runV 47 2 h rfl kk_X9_47 hT.1 kl_9.1 kq_X9_has rfl (Nat.le_of_ble_eq_true rfl) ⟨Nat.le_of_ble_eq_true rfl, Nat.le_of_ble_eq_true rfl, Nat.le_of_ble_eq_true rfl, Nat.le_of_ble_eq_true rfl⟩ dX9_marry_13) z_gTI (fun hz3 => ?_)
    refine z_iconst (v := (-1)) dX9_marry_16 rfl ?_
    refine z_icmp_ne 40 dX9_marry_17 (by decide) (fun c4 => ?_) (fun c4 => ?_)
    · refine z_aload_n (i := 0) (x := t) dX9_marry_20 rfl rfl ?_
      refine z_iload_n (i := 1) (x := a0) dX9_marry_21 rfl rfl ?_
      refine z_iconst (v := 0) dX9_marry_22 rfl ?_
      refine z_cP (As := [.ref t, .int a0, .int 0]) (rest := []) (em_X9_has hl hT a0 0 D) (fun o7 h => z_runV 47 2 h rfl kk_X9_47 hT.1 kl_9.1 kq_X9_has rfl (Nat.le_of_ble_eq_true rfl) ⟨Nat.le_of_ble_eq_true rfl, Nat.le_of_ble_eq_true rfl, Nat.le_of_ble_eq_true rfl, Nat.le_of_ble_eq_true rfl⟩ dX9_marry_23) z_gTI (fun hz5 => ?_)
      refine z_aload_n (i := 0) (x := t) dX9_marry_26 rfl rfl ?_
      refine z_iload_n (i := 2) (x := a1) dX9_marry_27 rfl rfl ?_
      refine z_iconst (v := 0) dX9_marry_28 rfl ?_
      refine z_cP (As := [.ref t, .int a1, .int 0]) (rest := [.int (F_X9_has t a0 0 D)]) (em_X9_has hl hT a1 0 D) (fun o7 h => z_runV 47 2 h rfl kk_X9_47 hT.1 kl_9.1 kq_X9_has rfl (Nat.le_of_ble_eq_true rfl) ⟨Nat.le_of_ble_eq_true rfl, Nat.le_of_ble_eq_true rfl, Nat.le_of_ble_eq_true rfl, Nat.le_of_ble_eq_true rfl⟩ dX9_marry_29) z_gTI (fun hz6 => ?_)
      refine z_cP (As := [.int (F_X9_has t a0 0 D), .int (F_X9_has t a1 0 D)]) (rest := []) (em_X10_apart hl (F_X9_has t a0 0 D) (F_X9_has t a1 0 D) D) (fun o7 h => z_runSN 77 2 h rfl kk_X9_77 kn_X9_77 kq_X10_apart rfl (Nat.le_of_ble_eq_true rfl) ⟨Nat.le_of_ble_eq_true rfl, Nat.le_of_ble_eq_true rfl, Nat.le_of_ble_eq_true rfl, Nat.le_of_ble_eq_true rfl⟩ dX9_marry_32) z_gTI (fun hz7 => ?_)
      refine z_bipush (v := 6) dX9_marry_35 (by decide) ?_
      refine z_icmp_le 42 dX9_marry_37 (by decide) (fun c8 => ?_) (fun c8 => ?_)
      · refine z_aload_n (i := 0) (x := t) dX9_marry_42 rfl rfl ?_
        refine z_iload_n (i := 1) (x := a0) dX9_marry_43 rfl rfl ?_
        refine z_iconst (v := 3) dX9_marry_44 rfl ?_
        refine z_iload_n (i := 2) (x := a1) dX9_marry_45 rfl rfl ?_
        refine z_cTV (As := [.ref t, .int a0, .int 3, .int a1]) (rest := []) (em_X9_set hl hT a0 3 a1 D) (fun o7 h => z_runV 32 3 h rfl kk_X9_32 hT.1 kl_9.1 kq_X9_set rfl (Nat.le_of_ble_eq_true rfl) ⟨Nat.le_of_ble_eq_true rfl, Nat.le_of_ble_eq_true rfl, Nat.le_of_ble_eq_true rfl, Nat.le_of_ble_eq_true rfl⟩ dX9_marry_46) z_gTI (fun a_10 hz9 => ?_)
        refine z_aload_n (i := 0) (x := t) dX9_marry_49 rfl rfl ?_
        refine z_iload_n (i := 2) (x := a1) dX9_marry_50 rfl rfl ?_
        refine z_iconst (v := 3) dX9_marry_51 rfl ?_
        refine z_iload_n (i := 1) (x := a0) dX9_marry_52 rfl rfl ?_
        refine z_cTV (As := [.ref t, .int a1, .int 3, .int a0]) (rest := []) (em_X9_set hl hT a1 3 a0 a_10) (fun o7 h => z_runV 32 3 h rfl kk_X9_32 hT.1 kl_9.1 kq_X9_set rfl (Nat.le_of_ble_eq_true rfl) ⟨Nat.le_of_ble_eq_true rfl, Nat.le_of_ble_eq_true rfl, Nat.le_of_ble_eq_true rfl, Nat.le_of_ble_eq_true rfl⟩ dX9_marry_53) z_gTI (fun a_12 hz11 => ?_)
        refine z_iconst (v := 1) dX9_marry_56 rfl ?_
        exact z_ireturn dX9_marry_57 z_rTI rfl (by decide) (by decide)
      · refine z_iconst (v := 0) dX9_marry_40 rfl ?_
        exact z_ireturn dX9_marry_41 z_rTI rfl (by decide) (by decide)
    · refine z_iconst (v := 0) dX9_marry_40 rfl ?_
      exact z_ireturn dX9_marry_41 z_rTI rfl (by decide) (by decide)
  · refine z_iconst (v := 0) dX9_marry_40 rfl ?_
    exact z_ireturn dX9_marry_41 z_rTI rfl (by decide) (by decide)

def F_X9_year (t : Nat) (D : z_Dat) : Int32 :=
  F_X10_at (t + 1) 44 43 D
set_option maxRecDepth 100000 in
set_option maxHeartbeats 4000000 in
theorem em_X9_year {l : Launch} {S : List z_Shp} {t : Nat} (hl : l.stackTraces = false) (hT : z_isTown S t) (D : z_Dat) : ∀ out, z_kt (z_kR S D) (F_X9_year t D) out → z_EM l M_X9_year (30, 580, 0, 0) [.ref t] S D out := by
  refine z_meth hl rfl kp_X9 (Nat.le_of_ble_eq_true rfl) (lv := [some (.ref t)]) rfl ?_
  unfold F_X9_year
  refine z_aload_n (i := 0) (x := t) dX9_year_0 rfl rfl ?_
  refine z_getR (j := 0) dX9_year_1 kl_9 hT.1 (by decide) rfl rfl kf_X9_9 ?_
  refine z_bipush (v := 43) dX9_year_4 (by decide) ?_
  refine z_cP (As := [.ref (t + 1), .int 43]) (rest := []) (em_X10_at (n0 := 44) hl hT.2 (by decide) 43 D) (fun o7 h => z_runSN 28 2 h rfl kk_X9_28 kn_X9_28 kq_X10_at rfl (Nat.le_of_ble_eq_true rfl) ⟨Nat.le_of_ble_eq_true rfl, Nat.le_of_ble_eq_true rfl, Nat.le_of_ble_eq_true rfl, Nat.le_of_ble_eq_true rfl⟩ dX9_year_6) z_gP (fun hz1 => ?_)
  exact z_ireturn dX9_year_9 z_rP rfl (by decide) (by decide)

def F_X9_passYear_J77 (t : Nat) (D19 : z_Dat) : Option z_Dat :=
  z_let (F_X10_put (t + 1) 44 43 ((F_X9_year t D19) + 1) D19) (fun a_22 => some a_22)
def F_X9_passYear_J77x (t : Nat) (a1 : Int32) (D15 : z_Dat) : Option z_Dat :=
  z_let (F_X10_put (t + 1) 44 42 (z_min 200 ((F_X9_stored t 2 D15) + a1)) D15) (fun a_18 => F_X9_passYear_J77 t a_18)
def F_X9_passYear_J77xx (t : Nat) (a1 : Int32) (D11 : z_Dat) : Option z_Dat :=
  z_let (F_X10_put (t + 1) 44 41 (z_min 200 ((F_X9_stored t 1 D11) + a1)) D11) (fun a_14 => F_X9_passYear_J77x t a1 a_14)
def F_X9_passYear_J77xxx (t : Nat) (a1 : Int32) (D7 : z_Dat) : Option z_Dat :=
  z_let (F_X10_put (t + 1) 44 40 (z_min 200 ((F_X9_stored t 0 D7) + a1)) D7) (fun a_10 => F_X9_passYear_J77xx t a1 a_10)
def F_X9_passYear_J44 (t : Nat) (kc5 : ((Int32 × z_Dat) → Option z_Dat)) (v29 : Int32) (D30 : z_Dat) : Option z_Dat :=
  z_let (F_X9_set t v29 2 0 D30) (fun a_32 => z_let (F_X9_set t v29 1 ((F_X9_has t v29 1 a_32) + 1) a_32) (fun a_35 => z_let (v29 + 1) (fun v36 => kc5 (v36, a_35))))
def F_X9_passYear_L10 (t : Nat) (a0 : Int32) (a1 : Int32) (v2 : Int32) (kc5 : ((Int32 × z_Dat) → Option z_Dat)) (v3 : Int32) (D4 : z_Dat) : Option z_Dat :=
  if a0 ≤ v3 then (F_X9_passYear_J77xxx t a1 D4)
  else (if (F_X9_has t v3 2 D4) = 0 then (z_let (F_X9_set t v3 0 (F_X10_paler (F_X9_has t v3 0 D4) v2) D4) (fun a_28 => F_X9_passYear_J44 t kc5 v3 a_28))
  else (F_X9_passYear_J44 t kc5 v3 D4))
def F_X9_passYear (N : Nat) (t : Nat) (a0 : Int32) (a1 : Int32) (D : z_Dat) : Option z_Dat :=
  z_let (z_rem (F_X9_year t D) 3) (fun v2 => z_loop (fun kc5 s => F_X9_passYear_L10 t a0 a1 v2 kc5 s.1 s.2) N (0, D))
set_option maxRecDepth 100000 in
set_option maxHeartbeats 4000000 in
theorem em_X9_passYear {l : Launch} {S : List z_Shp} {t : Nat} (hl : l.stackTraces = false) (hT : z_isTown S t) (N : Nat) (a0 : Int32) (a1 : Int32) (D : z_Dat) : ∀ out, z_ko (z_kV S) (F_X9_passYear N t a0 a1 D) out → z_EM l M_X9_passYear (40, 640, 0, 0) [.ref t, .int a0, .int a1] S D out := by
  refine z_meth hl rfl kp_X9 (Nat.le_of_ble_eq_true rfl) (lv := [some (.ref t), some (.int a0), some (.int a1), none, none]) rfl ?_
  unfold F_X9_passYear
  have hJ_F_X9_passYear_J77 : ∀ (D19 : z_Dat) , z_F l M_X9_passYear (40, 640, 0, 0) 0 0 77 [some (.ref t), none, some (.int a1), none, some (.int 3)] [] S D19 (z_ko (z_kV S)) (F_X9_passYear_J77 t D19) := by
    intro D19
    unfold F_X9_passYear_J77
    refine z_iload (i := 4) (x := 3) dX9_passYear_77 rfl ?_
    refine z_iconst (v := 3) dX9_passYear_79 rfl ?_
    refine z_icmp_geJ 115 dX9_passYear_80 (by decide) (by decide) ?_
    refine z_aload_n (i := 0) (x := t) dX9_passYear_115 rfl rfl ?_
    refine z_getR (j := 0) dX9_passYear_116 kl_9 hT.1 (by decide) rfl rfl kf_X9_9 ?_
    refine z_bipush (v := 43) dX9_passYear_119 (by decide) ?_
    refine z_aload_n (i := 0) (x := t) dX9_passYear_121 rfl rfl ?_
    refine z_cP (As := [.ref t]) (rest := [.int 43, .ref (t + 1)]) (em_X9_year hl hT D19) (fun o7 h => z_runV 80 0 h rfl kk_X9_80 hT.1 kl_9.1 kq_X9_year rfl (Nat.le_of_ble_eq_true rfl) ⟨Nat.le_of_ble_eq_true rfl, Nat.le_of_ble_eq_true rfl, Nat.le_of_ble_eq_true rfl, Nat.le_of_ble_eq_true rfl⟩ dX9_passYear_122) z_gWV (fun hz20 => ?_)
    refine z_iconst (v := 1) dX9_passYear_125 rfl ?_
    refine z_iadd dX9_passYear_126 ?_
    refine z_cTV (As := [.ref (t + 1), .int 43, .int ((F_X9_year t D19) + 1)]) (rest := []) (em_X10_put (n0 := 44) hl hT.2 (by decide) 43 ((F_X9_year t D19) + 1) D19) (fun o7 h => z_runSN 43 3 h rfl kk_X9_43 kn_X9_43 kq_X10_put rfl (Nat.le_of_ble_eq_true rfl) ⟨Nat.le_of_ble_eq_true rfl, Nat.le_of_ble_eq_true rfl, Nat.le_of_ble_eq_true rfl, Nat.le_of_ble_eq_true rfl⟩ dX9_passYear_127) z_gWV (fun a_22 hz21 => ?_)
    exact z_vreturn dX9_passYear_130 z_rWV trivial (by decide) (by decide)
  have hJ_F_X9_passYear_J77x : ∀ (D15 : z_Dat) , z_F l M_X9_passYear (40, 640, 0, 0) 0 0 77 [some (.ref t), none, some (.int a1), none, some (.int 2)] [] S D15 (z_ko (z_kV S)) (F_X9_passYear_J77x t a1 D15) := by
    intro D15
    unfold F_X9_passYear_J77x
    refine z_iload (i := 4) (x := 2) dX9_passYear_77 rfl ?_
    refine z_iconst (v := 3) dX9_passYear_79 rfl ?_
    refine z_icmp_geN 115 dX9_passYear_80 (by decide) (by decide) ?_
    refine z_aload_n (i := 0) (x := t) dX9_passYear_83 rfl rfl ?_
    refine z_getR (j := 0) dX9_passYear_84 kl_9 hT.1 (by decide) rfl rfl kf_X9_9 ?_
    refine z_bipush (v := 40) dX9_passYear_87 (by decide) ?_
    refine z_iload (i := 4) (x := 2) dX9_passYear_89 rfl ?_
    refine z_iadd dX9_passYear_91 ?_
    refine z_topc (y := 42) (by decide) ?_
    refine z_sipush (v := 200) dX9_passYear_92 (by decide) ?_
    refine z_aload_n (i := 0) (x := t) dX9_passYear_95 rfl rfl ?_
    refine z_iload (i := 4) (x := 2) dX9_passYear_96 rfl ?_
    refine z_cP (As := [.ref t, .int 2]) (rest := [.int 200, .int 42, .ref (t + 1)]) (em_X9_stored hl hT 2 D15) (fun o7 h => z_runV 58 1 h rfl kk_X9_58 hT.1 kl_9.1 kq_X9_stored rfl (Nat.le_of_ble_eq_true rfl) ⟨Nat.le_of_ble_eq_true rfl, Nat.le_of_ble_eq_true rfl, Nat.le_of_ble_eq_true rfl, Nat.le_of_ble_eq_true rfl⟩ dX9_passYear_98) z_gWV (fun hz16 => ?_)
    refine z_iload_n (i := 2) (x := a1) dX9_passYear_101 rfl rfl ?_
    refine z_iadd dX9_passYear_102 ?_
    refine z_mmin dX9_passYear_103 km_X9_84 ⟨Nat.le_of_ble_eq_true rfl, Nat.le_of_ble_eq_true rfl, Nat.le_of_ble_eq_true rfl, Nat.le_of_ble_eq_true rfl⟩ ?_
    refine z_cTV (As := [.ref (t + 1), .int 42, .int (z_min 200 ((F_X9_stored t 2 D15) + a1))]) (rest := []) (em_X10_put (n0 := 44) hl hT.2 (by decide) 42 (z_min 200 ((F_X9_stored t 2 D15) + a1)) D15) (fun o7 h => z_runSN 43 3 h rfl kk_X9_43 kn_X9_43 kq_X10_put rfl (Nat.le_of_ble_eq_true rfl) ⟨Nat.le_of_ble_eq_true rfl, Nat.le_of_ble_eq_true rfl, Nat.le_of_ble_eq_true rfl, Nat.le_of_ble_eq_true rfl⟩ dX9_passYear_106) z_gWV (fun a_18 hz17 => ?_)
    refine z_iincC (i := 4) (x := 2) (v := 3) (lv' := [some (.ref t), none, some (.int a1), none, some (.int 3)]) dX9_passYear_109 rfl (by decide) (by decide) rfl rfl ?_
    refine z_goto 77 dX9_passYear_112 (by decide) ?_
    exact hJ_F_X9_passYear_J77 a_18
  have hJ_F_X9_passYear_J77xx : ∀ (D11 : z_Dat) , z_F l M_X9_passYear (40, 640, 0, 0) 0 0 77 [some (.ref t), none, some (.int a1), none, some (.int 1)] [] S D11 (z_ko (z_kV S)) (F_X9_passYear_J77xx t a1 D11) := by
    intro D11
    unfold F_X9_passYear_J77xx
    refine z_iload (i := 4) (x := 1) dX9_passYear_77 rfl ?_
    refine z_iconst (v := 3) dX9_passYear_79 rfl ?_
    refine z_icmp_geN 115 dX9_passYear_80 (by decide) (by decide) ?_
    refine z_aload_n (i := 0) (x := t) dX9_passYear_83 rfl rfl ?_
    refine z_getR (j := 0) dX9_passYear_84 kl_9 hT.1 (by decide) rfl rfl kf_X9_9 ?_
    refine z_bipush (v := 40) dX9_passYear_87 (by decide) ?_
    refine z_iload (i := 4) (x := 1) dX9_passYear_89 rfl ?_
    refine z_iadd dX9_passYear_91 ?_
    refine z_topc (y := 41) (by decide) ?_
    refine z_sipush (v := 200) dX9_passYear_92 (by decide) ?_
    refine z_aload_n (i := 0) (x := t) dX9_passYear_95 rfl rfl ?_
    refine z_iload (i := 4) (x := 1) dX9_passYear_96 rfl ?_
    refine z_cP (As := [.ref t, .int 1]) (rest := [.int 200, .int 41, .ref (t + 1)]) (em_X9_stored hl hT 1 D11) (fun o7 h => z_runV 58 1 h rfl kk_X9_58 hT.1 kl_9.1 kq_X9_stored rfl (Nat.le_of_ble_eq_true rfl) ⟨Nat.le_of_ble_eq_true rfl, Nat.le_of_ble_eq_true rfl, Nat.le_of_ble_eq_true rfl, Nat.le_of_ble_eq_true rfl⟩ dX9_passYear_98) z_gWV (fun hz12 => ?_)
    refine z_iload_n (i := 2) (x := a1) dX9_passYear_101 rfl rfl ?_
    refine z_iadd dX9_passYear_102 ?_
    refine z_mmin dX9_passYear_103 km_X9_84 ⟨Nat.le_of_ble_eq_true rfl, Nat.le_of_ble_eq_true rfl, Nat.le_of_ble_eq_true rfl, Nat.le_of_ble_eq_true rfl⟩ ?_
    refine z_cTV (As := [.ref (t + 1), .int 41, .int (z_min 200 ((F_X9_stored t 1 D11) + a1))]) (rest := []) (em_X10_put (n0 := 44) hl hT.2 (by decide) 41 (z_min 200 ((F_X9_stored t 1 D11) + a1)) D11) (fun o7 h => z_runSN 43 3 h rfl kk_X9_43 kn_X9_43 kq_X10_put rfl (Nat.le_of_ble_eq_true rfl) ⟨Nat.le_of_ble_eq_true rfl, Nat.le_of_ble_eq_true rfl, Nat.le_of_ble_eq_true rfl, Nat.le_of_ble_eq_true rfl⟩ dX9_passYear_106) z_gWV (fun a_14 hz13 => ?_)
    refine z_iincC (i := 4) (x := 1) (v := 2) (lv' := [some (.ref t), none, some (.int a1), none, some (.int 2)]) dX9_passYear_109 rfl (by decide) (by decide) rfl rfl ?_
    refine z_goto 77 dX9_passYear_112 (by decide) ?_
    exact hJ_F_X9_passYear_J77x a_14
  have hJ_F_X9_passYear_J77xxx : ∀ (D7 : z_Dat) , z_F l M_X9_passYear (40, 640, 0, 0) 0 0 77 [some (.ref t), none, some (.int a1), none, some (.int 0)] [] S D7 (z_ko (z_kV S)) (F_X9_passYear_J77xxx t a1 D7) := by
    intro D7
    unfold F_X9_passYear_J77xxx
    refine z_iload (i := 4) (x := 0) dX9_passYear_77 rfl ?_
    refine z_iconst (v := 3) dX9_passYear_79 rfl ?_
    refine z_icmp_geN 115 dX9_passYear_80 (by decide) (by decide) ?_
    refine z_aload_n (i := 0) (x := t) dX9_passYear_83 rfl rfl ?_
    refine z_getR (j := 0) dX9_passYear_84 kl_9 hT.1 (by decide) rfl rfl kf_X9_9 ?_
    refine z_bipush (v := 40) dX9_passYear_87 (by decide) ?_
    refine z_iload (i := 4) (x := 0) dX9_passYear_89 rfl ?_
    refine z_iadd dX9_passYear_91 ?_
    refine z_topc (y := 40) (by decide) ?_
    refine z_sipush (v := 200) dX9_passYear_92 (by decide) ?_
    refine z_aload_n (i := 0) (x := t) dX9_passYear_95 rfl rfl ?_
    refine z_iload (i := 4) (x := 0) dX9_passYear_96 rfl ?_
    refine z_cP (As := [.ref t, .int 0]) (rest := [.int 200, .int 40, .ref (t + 1)]) (em_X9_stored hl hT 0 D7) (fun o7 h => z_runV 58 1 h rfl kk_X9_58 hT.1 kl_9.1 kq_X9_stored rfl (Nat.le_of_ble_eq_true rfl) ⟨Nat.le_of_ble_eq_true rfl, Nat.le_of_ble_eq_true rfl, Nat.le_of_ble_eq_true rfl, Nat.le_of_ble_eq_true rfl⟩ dX9_passYear_98) z_gWV (fun hz8 => ?_)
    refine z_iload_n (i := 2) (x := a1) dX9_passYear_101 rfl rfl ?_
    refine z_iadd dX9_passYear_102 ?_
    refine z_mmin dX9_passYear_103 km_X9_84 ⟨Nat.le_of_ble_eq_true rfl, Nat.le_of_ble_eq_true rfl, Nat.le_of_ble_eq_true rfl, Nat.le_of_ble_eq_true rfl⟩ ?_
    refine z_cTV (As := [.ref (t + 1), .int 40, .int (z_min 200 ((F_X9_stored t 0 D7) + a1))]) (rest := []) (em_X10_put (n0 := 44) hl hT.2 (by decide) 40 (z_min 200 ((F_X9_stored t 0 D7) + a1)) D7) (fun o7 h => z_runSN 43 3 h rfl kk_X9_43 kn_X9_43 kq_X10_put rfl (Nat.le_of_ble_eq_true rfl) ⟨Nat.le_of_ble_eq_true rfl, Nat.le_of_ble_eq_true rfl, Nat.le_of_ble_eq_true rfl, Nat.le_of_ble_eq_true rfl⟩ dX9_passYear_106) z_gWV (fun a_10 hz9 => ?_)
    refine z_iincC (i := 4) (x := 0) (v := 1) (lv' := [some (.ref t), none, some (.int a1), none, some (.int 1)]) dX9_passYear_109 rfl (by decide) (by decide) rfl rfl ?_
    refine z_goto 77 dX9_passYear_112 (by decide) ?_
    exact hJ_F_X9_passYear_J77xx a_10
  refine z_aload_n (i := 0) (x := t) dX9_passYear_0 rfl rfl ?_
  refine z_cP (As := [.ref t]) (rest := []) (em_X9_year hl hT D) (fun o7 h => z_runV 80 0 h rfl kk_X9_80 hT.1 kl_9.1 kq_X9_year rfl (Nat.le_of_ble_eq_true rfl) ⟨Nat.le_of_ble_eq_true rfl, Nat.le_of_ble_eq_true rfl, Nat.le_of_ble_eq_true rfl, Nat.le_of_ble_eq_true rfl⟩ dX9_passYear_1) z_gWV (fun hz1 => ?_)
  refine z_iconst (v := 3) dX9_passYear_4 rfl ?_
  refine z_iremC dX9_passYear_5 (by decide) ?_
  refine z_topi (fun v2 => ?_)
  refine z_istore_n (i := 3) (x := v2) (lv' := [some (.ref t), some (.int a0), some (.int a1), some (.int v2), none]) dX9_passYear_6 rfl (by decide) rfl rfl ?_
  refine z_iconst (v := 0) dX9_passYear_7 rfl ?_
  refine z_istore (i := 4) (x := 0) (lv' := [some (.ref t), some (.int a0), some (.int a1), some (.int v2), some (.int 0)]) dX9_passYear_8 (by decide) rfl rfl ?_
  refine z_loops (lvOf := fun s : Int32 × z_Dat => [some (.ref t), some (.int a0), some (.int a1), some (.int v2), some (.int s.1)]) (dOf := fun s : Int32 × z_Dat => s.2) (fun kc5 hkc5 s => ?_) N (0, D)
  obtain ⟨v3, D4⟩ := s
  show z_F _ _ _ _ _ 10 [some (.ref t), some (.int a0), some (.int a1), some (.int v2), some (.int v3)] [] S D4 _ (F_X9_passYear_L10 t a0 a1 v2 kc5 v3 D4)
  unfold F_X9_passYear_L10
  have hJ_F_X9_passYear_J44 : ∀ (v29 : Int32) (D30 : z_Dat) , z_F l M_X9_passYear (40, 640, 0, 0) 0 0 44 [some (.ref t), some (.int a0), some (.int a1), some (.int v2), some (.int v29)] [] S D30 (z_ko (z_kV S)) (F_X9_passYear_J44 t kc5 v29 D30) := by
    intro v29 D30
    unfold F_X9_passYear_J44
    refine z_aload_n (i := 0) (x := t) dX9_passYear_44 rfl rfl ?_
    refine z_iload (i := 4) (x := v29) dX9_passYear_45 rfl ?_
    refine z_iconst (v := 2) dX9_passYear_47 rfl ?_
    refine z_iconst (v := 0) dX9_passYear_48 rfl ?_
    refine z_cTV (As := [.ref t, .int v29, .int 2, .int 0]) (rest := []) (em_X9_set hl hT v29 2 0 D30) (fun o7 h => z_runV 32 3 h rfl kk_X9_32 hT.1 kl_9.1 kq_X9_set rfl (Nat.le_of_ble_eq_true rfl) ⟨Nat.le_of_ble_eq_true rfl, Nat.le_of_ble_eq_true rfl, Nat.le_of_ble_eq_true rfl, Nat.le_of_ble_eq_true rfl⟩ dX9_passYear_49) z_gWV (fun a_32 hz31 => ?_)
    refine z_aload_n (i := 0) (x := t) dX9_passYear_52 rfl rfl ?_
    refine z_iload (i := 4) (x := v29) dX9_passYear_53 rfl ?_
    refine z_iconst (v := 1) dX9_passYear_55 rfl ?_
    refine z_aload_n (i := 0) (x := t) dX9_passYear_56 rfl rfl ?_
    refine z_iload (i := 4) (x := v29) dX9_passYear_57 rfl ?_
    refine z_iconst (v := 1) dX9_passYear_59 rfl ?_
    refine z_cP (As := [.ref t, .int v29, .int 1]) (rest := [.int 1, .int v29, .ref t]) (em_X9_has hl hT v29 1 a_32) (fun o7 h => z_runV 47 2 h rfl kk_X9_47 hT.1 kl_9.1 kq_X9_has rfl (Nat.le_of_ble_eq_true rfl) ⟨Nat.le_of_ble_eq_true rfl, Nat.le_of_ble_eq_true rfl, Nat.le_of_ble_eq_true rfl, Nat.le_of_ble_eq_true rfl⟩ dX9_passYear_60) z_gWV (fun hz33 => ?_)
    refine z_iconst (v := 1) dX9_passYear_63 rfl ?_
    refine z_iadd dX9_passYear_64 ?_
    refine z_cTV (As := [.ref t, .int v29, .int 1, .int ((F_X9_has t v29 1 a_32) + 1)]) (rest := []) (em_X9_set hl hT v29 1 ((F_X9_has t v29 1 a_32) + 1) a_32) (fun o7 h => z_runV 32 3 h rfl kk_X9_32 hT.1 kl_9.1 kq_X9_set rfl (Nat.le_of_ble_eq_true rfl) ⟨Nat.le_of_ble_eq_true rfl, Nat.le_of_ble_eq_true rfl, Nat.le_of_ble_eq_true rfl, Nat.le_of_ble_eq_true rfl⟩ dX9_passYear_65) z_gWV (fun a_35 hz34 => ?_)
    refine z_iinc (i := 4) (x := v29) (y := 1) dX9_passYear_68 rfl (by decide) (by decide) rfl (fun v36 => ?_)
    refine z_goto 10 dX9_passYear_71 (by decide) ?_
    exact hkc5 (v36, a_35)
  refine z_iload (i := 4) (x := v3) dX9_passYear_10 rfl ?_
  refine z_iload_n (i := 1) (x := a0) dX9_passYear_12 rfl rfl ?_
  refine z_icmp_ge 74 dX9_passYear_13 (by decide) (fun c6 => ?_) (fun c6 => ?_)
  · refine z_iconst (v := 0) dX9_passYear_74 rfl ?_
    refine z_istore (i := 4) (x := 0) (lv' := [some (.ref t), some (.int a0), some (.int a1), some (.int v2), some (.int 0)]) dX9_passYear_75 (by decide) rfl rfl ?_
    refine z_weak (lv' := [some (.ref t), none, some (.int a1), none, some (.int 0)]) ⟨Or.inr rfl, ⟨Or.inl rfl, ⟨Or.inr rfl, ⟨Or.inl rfl, ⟨Or.inr rfl, trivial⟩⟩⟩⟩⟩ ?_
    exact hJ_F_X9_passYear_J77xxx D4
  · refine z_aload_n (i := 0) (x := t) dX9_passYear_16 rfl rfl ?_
    refine z_iload (i := 4) (x := v3) dX9_passYear_17 rfl ?_
    refine z_iconst (v := 2) dX9_passYear_19 rfl ?_
    refine z_cP (As := [.ref t, .int v3, .int 2]) (rest := []) (em_X9_has hl hT v3 2 D4) (fun o7 h => z_runV 47 2 h rfl kk_X9_47 hT.1 kl_9.1 kq_X9_has rfl (Nat.le_of_ble_eq_true rfl) ⟨Nat.le_of_ble_eq_true rfl, Nat.le_of_ble_eq_true rfl, Nat.le_of_ble_eq_true rfl, Nat.le_of_ble_eq_true rfl⟩ dX9_passYear_20) z_gWV (fun hz23 => ?_)
    refine z_if_ne 44 dX9_passYear_23 (by decide) (fun c24 => ?_) (fun c24 => ?_)
    · refine z_aload_n (i := 0) (x := t) dX9_passYear_26 rfl rfl ?_
      refine z_iload (i := 4) (x := v3) dX9_passYear_27 rfl ?_
      refine z_iconst (v := 0) dX9_passYear_29 rfl ?_
      refine z_aload_n (i := 0) (x := t) dX9_passYear_30 rfl rfl ?_
      refine z_iload (i := 4) (x := v3) dX9_passYear_31 rfl ?_
      refine z_iconst (v := 0) dX9_passYear_33 rfl ?_
      refine z_cP (As := [.ref t, .int v3, .int 0]) (rest := [.int 0, .int v3, .ref t]) (em_X9_has hl hT v3 0 D4) (fun o7 h => z_runV 47 2 h rfl kk_X9_47 hT.1 kl_9.1 kq_X9_has rfl (Nat.le_of_ble_eq_true rfl) ⟨Nat.le_of_ble_eq_true rfl, Nat.le_of_ble_eq_true rfl, Nat.le_of_ble_eq_true rfl, Nat.le_of_ble_eq_true rfl⟩ dX9_passYear_34) z_gWV (fun hz25 => ?_)
      refine z_iload_n (i := 3) (x := v2) dX9_passYear_37 rfl rfl ?_
      refine z_cP (As := [.int (F_X9_has t v3 0 D4), .int v2]) (rest := [.int 0, .int v3, .ref t]) (em_X10_paler hl (F_X9_has t v3 0 D4) v2 D4) (fun o7 h => z_runSN 65 2 h rfl kk_X9_65 kn_X9_65 kq_X10_paler rfl (Nat.le_of_ble_eq_true rfl) ⟨Nat.le_of_ble_eq_true rfl, Nat.le_of_ble_eq_true rfl, Nat.le_of_ble_eq_true rfl, Nat.le_of_ble_eq_true rfl⟩ dX9_passYear_38) z_gWV (fun hz26 => ?_)
      refine z_cTV (As := [.ref t, .int v3, .int 0, .int (F_X10_paler (F_X9_has t v3 0 D4) v2)]) (rest := []) (em_X9_set hl hT v3 0 (F_X10_paler (F_X9_has t v3 0 D4) v2) D4) (fun o7 h => z_runV 32 3 h rfl kk_X9_32 hT.1 kl_9.1 kq_X9_set rfl (Nat.le_of_ble_eq_true rfl) ⟨Nat.le_of_ble_eq_true rfl, Nat.le_of_ble_eq_true rfl, Nat.le_of_ble_eq_true rfl, Nat.le_of_ble_eq_true rfl⟩ dX9_passYear_41) z_gWV (fun a_28 hz27 => ?_)
      exact hJ_F_X9_passYear_J44 v3 a_28
    · exact hJ_F_X9_passYear_J44 v3 D4

def F_X7_lived (N : Nat) (o : Nat) (t : Nat) (D : z_Dat) : Option (Int32 × z_Dat) :=
  if (F_X9_year t D) < 300 then (z_bd (F_X9_passYear N t (D o 6) (D o 7) D) (fun a_4 => some (1, a_4)))
  else (some (0, D))
set_option maxRecDepth 100000 in
set_option maxHeartbeats 4000000 in
theorem em_X7_lived {l : Launch} {S : List z_Shp} {oW : Nat} {o : Nat} {t : Nat} (hl : l.stackTraces = false) (hW : z_W S oW) (hC : z_isCity S o) (hT : z_isTown S t) (N : Nat) (D : z_Dat) : ∀ out, z_ko (z_kI S) (F_X7_lived N o t D) out → z_EM l M_X7_lived (50, 700, 0, 0) [.ref o, .ref t] S D out := by
  refine z_meth hl rfl kp_X7 (Nat.le_of_ble_eq_true rfl) (lv := [some (.ref o), some (.ref t)]) rfl ?_
  unfold F_X7_lived
  refine z_aload_n (i := 1) (x := t) dX7_lived_0 rfl rfl ?_
  refine z_cP (As := [.ref t]) (rest := []) (em_X9_year hl hT D) (fun o7 h => z_runV 150 0 h rfl kk_X7_150 hT.1 kl_9.1 kq_X9_year rfl (Nat.le_of_ble_eq_true rfl) ⟨Nat.le_of_ble_eq_true rfl, Nat.le_of_ble_eq_true rfl, Nat.le_of_ble_eq_true rfl, Nat.le_of_ble_eq_true rfl⟩ dX7_lived_1) z_gWI (fun hz1 => ?_)
  refine z_sipush (v := 300) dX7_lived_4 (by decide) ?_
  refine z_icmp_lt 12 dX7_lived_7 (by decide) (fun c2 => ?_) (fun c2 => ?_)
  · refine z_aload_n (i := 1) (x := t) dX7_lived_12 rfl rfl ?_
    refine z_aload_n (i := 0) (x := o) dX7_lived_13 rfl rfl ?_
    refine z_getIN (j := 6) dX7_lived_14 kl_1 hC.1 (by decide) rfl rfl kf_X7_76 ?_
    refine z_aload_n (i := 0) (x := o) dX7_lived_17 rfl rfl ?_
    refine z_getIN (j := 7) dX7_lived_18 kl_1 hC.1 (by decide) rfl rfl kf_X7_153 ?_
    refine z_cWV (As := [.ref t, .int (D o 6), .int (D o 7)]) (rest := []) (em_X9_passYear hl hT N (D o 6) (D o 7) D) (fun o7 h => z_runV 156 2 h rfl kk_X7_156 hT.1 kl_9.1 kq_X9_passYear rfl (Nat.le_of_ble_eq_true rfl) ⟨Nat.le_of_ble_eq_true rfl, Nat.le_of_ble_eq_true rfl, Nat.le_of_ble_eq_true rfl, Nat.le_of_ble_eq_true rfl⟩ dX7_lived_21) z_gWI (fun a_4 hz3 => ?_)
    refine z_iconst (v := 1) dX7_lived_24 rfl ?_
    exact z_ireturn dX7_lived_25 z_rWI rfl (by decide) (by decide)
  · refine z_iconst (v := 0) dX7_lived_10 rfl ?_
    exact z_ireturn dX7_lived_11 z_rWI rfl (by decide) (by decide)

def F_X7_tried (N : Nat) (o : Nat) (t : Nat) (a0 : Int32) (D : z_Dat) : Option (Int32 × z_Dat) :=
  z_let (F_X10_at 17 37 a0 D) (fun v2 => z_let (F_X10_at 18 37 a0 D) (fun v4 => if (F_X10_at 16 37 a0 D) = 0 then (z_let (F_X9_dip t v2 (F_X1_vatOf o v4 D) D) (fun a_18 => some (a_18.1, a_18.2)))
  else (if (F_X10_at 16 37 a0 D) = 1 then (z_let (F_X9_wash t v2 D) (fun a_15 => some (a_15.1, a_15.2)))
  else (if (F_X10_at 16 37 a0 D) = 2 then (z_let (F_X9_salt t v2 D) (fun a_13 => some (a_13.1, a_13.2)))
  else (if (F_X10_at 16 37 a0 D) = 3 then (z_bd (F_X9_rain N t (D o 6) D) (fun a_11 => some (a_11.1, a_11.2)))
  else (if (F_X10_at 16 37 a0 D) = 4 then (z_let (F_X9_marry t v2 v4 D) (fun a_9 => some (a_9.1, a_9.2)))
  else (z_bd (F_X7_lived N o t D) (fun a_7 => some (a_7.1, a_7.2)))))))))
set_option maxRecDepth 100000 in
set_option maxHeartbeats 4000000 in
theorem em_X7_tried {l : Launch} {S : List z_Shp} {oW : Nat} {o : Nat} {t : Nat} (hl : l.stackTraces = false) (hW : z_W S oW) (hC : z_isCity S o) (hT : z_isTown S t) (N : Nat) (a0 : Int32) (D : z_Dat) : ∀ out, z_ko (z_kI S) (F_X7_tried N o t a0 D) out → z_EM l M_X7_tried (70, 820, 0, 0) [.ref 15, .ref o, .ref t, .int a0] S D out := by
  have hs15 : S[15]? = some (9, 9, [some (some 16), some (some 17), some (some 18), some (some 19), some (some 20), none, none, none, none]) := hW.1 15 _ rfl
  have hs16 : S[16]? = some (0, 37, []) := hW.1 16 _ rfl
  have hs17 : S[17]? = some (0, 37, []) := hW.1 17 _ rfl
  have hs18 : S[18]? = some (0, 37, []) := hW.1 18 _ rfl
  refine z_meth hl rfl kp_X7 (Nat.le_of_ble_eq_true rfl) (lv := [some (.ref 15), some (.ref o), some (.ref t), some (.int a0), none, none]) rfl ?_
  unfold F_X7_tried
  refine z_aload_n (i := 0) (x := 15) dX7_tried_0 rfl rfl ?_
  refine z_getR (j := 1) dX7_tried_1 kl_7 hs15 (by decide) rfl rfl kf_X7_15 ?_
  refine z_iload_n (i := 3) (x := a0) dX7_tried_4 rfl rfl ?_
  refine z_cP (As := [.ref 17, .int a0]) (rest := []) (em_X10_at (n0 := 37) hl hs17 (by decide) a0 D) (fun o7 h => z_runSN 99 2 h rfl kk_X7_99 kn_X7_99 kq_X10_at rfl (Nat.le_of_ble_eq_true rfl) ⟨Nat.le_of_ble_eq_true rfl, Nat.le_of_ble_eq_true rfl, Nat.le_of_ble_eq_true rfl, Nat.le_of_ble_eq_true rfl⟩ dX7_tried_5) z_gWI (fun hz1 => ?_)
  refine z_topi (fun v2 => ?_)
  refine z_istore (i := 4) (x := v2) (lv' := [some (.ref 15), some (.ref o), some (.ref t), some (.int a0), some (.int v2), none]) dX7_tried_8 (by decide) rfl rfl ?_
  refine z_aload_n (i := 0) (x := 15) dX7_tried_10 rfl rfl ?_
  refine z_getR (j := 2) dX7_tried_11 kl_7 hs15 (by decide) rfl rfl kf_X7_18 ?_
  refine z_iload_n (i := 3) (x := a0) dX7_tried_14 rfl rfl ?_
  refine z_cP (As := [.ref 18, .int a0]) (rest := []) (em_X10_at (n0 := 37) hl hs18 (by decide) a0 D) (fun o7 h => z_runSN 99 2 h rfl kk_X7_99 kn_X7_99 kq_X10_at rfl (Nat.le_of_ble_eq_true rfl) ⟨Nat.le_of_ble_eq_true rfl, Nat.le_of_ble_eq_true rfl, Nat.le_of_ble_eq_true rfl, Nat.le_of_ble_eq_true rfl⟩ dX7_tried_15) z_gWI (fun hz3 => ?_)
  refine z_topi (fun v4 => ?_)
  refine z_istore (i := 5) (x := v4) (lv' := [some (.ref 15), some (.ref o), some (.ref t), some (.int a0), some (.int v2), some (.int v4)]) dX7_tried_18 (by decide) rfl rfl ?_
  refine z_aload_n (i := 0) (x := 15) dX7_tried_20 rfl rfl ?_
  refine z_getR (j := 0) dX7_tried_21 kl_7 hs15 (by decide) rfl rfl kf_X7_11 ?_
  refine z_iload_n (i := 3) (x := a0) dX7_tried_24 rfl rfl ?_
  refine z_cP (As := [.ref 16, .int a0]) (rest := []) (em_X10_at (n0 := 37) hl hs16 (by decide) a0 D) (fun o7 h => z_runSN 99 2 h rfl kk_X7_99 kn_X7_99 kq_X10_at rfl (Nat.le_of_ble_eq_true rfl) ⟨Nat.le_of_ble_eq_true rfl, Nat.le_of_ble_eq_true rfl, Nat.le_of_ble_eq_true rfl, Nat.le_of_ble_eq_true rfl⟩ dX7_tried_25) z_gWI (fun hz5 => ?_)
  refine z_ite (fun h_0 => ?_) (fun h_0 => ?_)
  · refine z_tswC (c := 0) 64 dX7_tried_28 h_0 (by decide) (by decide) rfl (by decide) ?_
    refine z_aload_n (i := 2) (x := t) dX7_tried_64 rfl rfl ?_
    refine z_iload (i := 4) (x := v2) dX7_tried_65 rfl ?_
    refine z_aload_n (i := 1) (x := o) dX7_tried_67 rfl rfl ?_
    refine z_iload (i := 5) (x := v4) dX7_tried_68 rfl ?_
    refine z_cP (As := [.ref o, .int v4]) (rest := [.int v2, .ref t]) (em_X1_vatOf hl hC v4 D) (fun o7 h => z_runV 124 1 h rfl kk_X7_124 hC.1 kl_1.1 kq_X1_vatOf rfl (Nat.le_of_ble_eq_true rfl) ⟨Nat.le_of_ble_eq_true rfl, Nat.le_of_ble_eq_true rfl, Nat.le_of_ble_eq_true rfl, Nat.le_of_ble_eq_true rfl⟩ dX7_tried_70) z_gWI (fun hz16 => ?_)
    refine z_cTI (As := [.ref t, .int v2, .int (F_X1_vatOf o v4 D)]) (rest := []) (em_X9_dip hl hT v2 (F_X1_vatOf o v4 D) D) (fun o7 h => z_runV 127 2 h rfl kk_X7_127 hT.1 kl_9.1 kq_X9_dip rfl (Nat.le_of_ble_eq_true rfl) ⟨Nat.le_of_ble_eq_true rfl, Nat.le_of_ble_eq_true rfl, Nat.le_of_ble_eq_true rfl, Nat.le_of_ble_eq_true rfl⟩ dX7_tried_73) z_gWI (fun a_18 hz17 => ?_)
    exact z_ireturn dX7_tried_76 z_rWI hz17 (by decide) (by decide)
  · refine z_ite (fun h_1 => ?_) (fun h_1 => ?_)
    · refine z_tswC (c := 1) 77 dX7_tried_28 h_1 (by decide) (by decide) rfl (by decide) ?_
      refine z_aload_n (i := 2) (x := t) dX7_tried_77 rfl rfl ?_
      refine z_iload (i := 4) (x := v2) dX7_tried_78 rfl ?_
      refine z_cTI (As := [.ref t, .int v2]) (rest := []) (em_X9_wash hl hT v2 D) (fun o7 h => z_runV 133 1 h rfl kk_X7_133 hT.1 kl_9.1 kq_X9_wash rfl (Nat.le_of_ble_eq_true rfl) ⟨Nat.le_of_ble_eq_true rfl, Nat.le_of_ble_eq_true rfl, Nat.le_of_ble_eq_true rfl, Nat.le_of_ble_eq_true rfl⟩ dX7_tried_80) z_gWI (fun a_15 hz14 => ?_)
      exact z_ireturn dX7_tried_83 z_rWI hz14 (by decide) (by decide)
    · refine z_ite (fun h_2 => ?_) (fun h_2 => ?_)
      · refine z_tswC (c := 2) 84 dX7_tried_28 h_2 (by decide) (by decide) rfl (by decide) ?_
        refine z_aload_n (i := 2) (x := t) dX7_tried_84 rfl rfl ?_
        refine z_iload (i := 4) (x := v2) dX7_tried_85 rfl ?_
        refine z_cTI (As := [.ref t, .int v2]) (rest := []) (em_X9_salt hl hT v2 D) (fun o7 h => z_runV 137 1 h rfl kk_X7_137 hT.1 kl_9.1 kq_X9_salt rfl (Nat.le_of_ble_eq_true rfl) ⟨Nat.le_of_ble_eq_true rfl, Nat.le_of_ble_eq_true rfl, Nat.le_of_ble_eq_true rfl, Nat.le_of_ble_eq_true rfl⟩ dX7_tried_87) z_gWI (fun a_13 hz12 => ?_)
        exact z_ireturn dX7_tried_90 z_rWI hz12 (by decide) (by decide)
      · refine z_ite (fun h_3 => ?_) (fun h_3 => ?_)
        · refine z_tswC (c := 3) 91 dX7_tried_28 h_3 (by decide) (by decide) rfl (by decide) ?_
          refine z_aload_n (i := 2) (x := t) dX7_tried_91 rfl rfl ?_
          refine z_aload_n (i := 1) (x := o) dX7_tried_92 rfl rfl ?_
          refine z_getIN (j := 6) dX7_tried_93 kl_1 hC.1 (by decide) rfl rfl kf_X7_76 ?_
          refine z_cWI (As := [.ref t, .int (D o 6)]) (rest := []) (em_X9_rain hl hT N (D o 6) D) (fun o7 h => z_runV 140 1 h rfl kk_X7_140 hT.1 kl_9.1 kq_X9_rain rfl (Nat.le_of_ble_eq_true rfl) ⟨Nat.le_of_ble_eq_true rfl, Nat.le_of_ble_eq_true rfl, Nat.le_of_ble_eq_true rfl, Nat.le_of_ble_eq_true rfl⟩ dX7_tried_96) z_gWI (fun a_11 hz10 => ?_)
          exact z_ireturn dX7_tried_99 z_rWI hz10 (by decide) (by decide)
        · refine z_ite (fun h_4 => ?_) (fun h_4 => ?_)
          · refine z_tswC (c := 4) 100 dX7_tried_28 h_4 (by decide) (by decide) rfl (by decide) ?_
            refine z_aload_n (i := 2) (x := t) dX7_tried_100 rfl rfl ?_
            refine z_iload (i := 4) (x := v2) dX7_tried_101 rfl ?_
            refine z_iload (i := 5) (x := v4) dX7_tried_103 rfl ?_
            refine z_cTI (As := [.ref t, .int v2, .int v4]) (rest := []) (em_X9_marry hl hT v2 v4 D) (fun o7 h => z_runV 143 2 h rfl kk_X7_143 hT.1 kl_9.1 kq_X9_marry rfl (Nat.le_of_ble_eq_true rfl) ⟨Nat.le_of_ble_eq_true rfl, Nat.le_of_ble_eq_true rfl, Nat.le_of_ble_eq_true rfl, Nat.le_of_ble_eq_true rfl⟩ dX7_tried_105) z_gWI (fun a_9 hz8 => ?_)
            exact z_ireturn dX7_tried_108 z_rWI hz8 (by decide) (by decide)
          · refine z_tswD 109 dX7_tried_28 (by
              have q0 := z_swn h_0 (k := 0) (by decide)
              have q1 := z_swn h_1 (k := 1) (by decide)
              have q2 := z_swn h_2 (k := 2) (by decide)
              have q3 := z_swn h_3 (k := 3) (by decide)
              have q4 := z_swn h_4 (k := 4) (by decide)
              omega) (by decide) ?_
            refine z_aload_n (i := 1) (x := o) dX7_tried_109 rfl rfl ?_
            refine z_aload_n (i := 2) (x := t) dX7_tried_110 rfl rfl ?_
            refine z_cWI (As := [.ref o, .ref t]) (rest := []) (em_X7_lived hl hW hC hT N D) (fun o7 h => z_runS 146 2 h rfl kk_X7_146 kq_X7_lived rfl (Nat.le_of_ble_eq_true rfl) ⟨Nat.le_of_ble_eq_true rfl, Nat.le_of_ble_eq_true rfl, Nat.le_of_ble_eq_true rfl, Nat.le_of_ble_eq_true rfl⟩ dX7_tried_111) z_gWI (fun a_7 hz6 => ?_)
            exact z_ireturn dX7_tried_114 z_rWI hz6 (by decide) (by decide)

def F_X7_note (a0 : Int32) (D : z_Dat) : z_Dat :=
  if a0 = 0 then (z_let (z_up D 15 8 ((D 15 8) + 1)) (fun D2 => D2))
  else (z_let (z_up D 15 7 ((D 15 7) + 1)) (fun D3 => D3))
set_option maxRecDepth 100000 in
set_option maxHeartbeats 4000000 in
theorem em_X7_note {l : Launch} {S : List z_Shp} {oW : Nat} (hl : l.stackTraces = false) (hW : z_W S oW) (a0 : Int32) (D : z_Dat) : ∀ out, z_kt (z_kV S) (F_X7_note a0 D) out → z_EM l M_X7_note (20, 520, 0, 0) [.ref 15, .int a0] S D out := by
  have hs15 : S[15]? = some (9, 9, [some (some 16), some (some 17), some (some 18), some (some 19), some (some 20), none, none, none, none]) := hW.1 15 _ rfl
  refine z_meth hl rfl kp_X7 (Nat.le_of_ble_eq_true rfl) (lv := [some (.ref 15), some (.int a0)]) rfl ?_
  unfold F_X7_note
  refine z_iload_n (i := 1) (x := a0) dX7_note_0 rfl rfl ?_
  refine z_if_eq 17 dX7_note_1 (by decide) (fun c1 => ?_) (fun c1 => ?_)
  · refine z_aload_n (i := 0) (x := 15) dX7_note_17 rfl rfl ?_
    refine z_dup dX7_note_18 rfl ?_
    refine z_getI (j := 8) dX7_note_19 kl_7 hs15 (by decide) rfl rfl kf_X7_106 ?_
    refine z_iconst (v := 1) dX7_note_22 rfl ?_
    refine z_iadd dX7_note_23 ?_
    refine z_putI (j := 8) dX7_note_24 kl_7 tyX7_ok nmX7 hs15 (by decide) rfl rfl rfl rfl rfl rfl kf_X7_106 (fun D2 => ?_)
    exact z_vreturn dX7_note_27 z_rTV trivial (by decide) (by decide)
  · refine z_aload_n (i := 0) (x := 15) dX7_note_4 rfl rfl ?_
    refine z_dup dX7_note_5 rfl ?_
    refine z_getI (j := 7) dX7_note_6 kl_7 hs15 (by decide) rfl rfl kf_X7_103 ?_
    refine z_iconst (v := 1) dX7_note_9 rfl ?_
    refine z_iadd dX7_note_10 ?_
    refine z_putI (j := 7) dX7_note_11 kl_7 tyX7_ok nmX7 hs15 (by decide) rfl rfl rfl rfl rfl rfl kf_X7_103 (fun D3 => ?_)
    refine z_goto 27 dX7_note_14 (by decide) ?_
    exact z_vreturn dX7_note_27 z_rTV trivial (by decide) (by decide)

def F_X7_carryOut_L23 (N : Nat) (o : Nat) (t : Nat) (kc8 : ((Int32 × Int32 × Int32 × z_Dat) → Option z_Dat)) (v4 : Int32) (v5 : Int32) (v6 : Int32) (D7 : z_Dat) : Option z_Dat :=
  if 1000000 ≤ v6 then (some D7)
  else (if (D7 15 5) ≤ v5 then (some D7)
  else (z_let (F_X10_at 16 37 v5 D7) (fun v12 => if v12 = 7 then (z_let (F_X7_afterTurn v5 D7) (fun a_15 => z_let (v6 + 1) (fun v16 => kc8 (v4, a_15.1, v16, a_15.2))))
  else (if v4 < 200 then (z_let (v4 + 1) (fun v18 => if v12 = 6 then (z_let (F_X7_afterAgain v5 D7) (fun a_21 => z_let (v6 + 1) (fun v22 => kc8 (v18, a_21.1, v22, a_21.2))))
  else (z_bd (F_X7_tried N o t v5 D7) (fun a_24 => z_let (F_X7_note a_24.1 a_24.2) (fun a_26 => z_let (v5 + 1) (fun v27 => z_let (v6 + 1) (fun v28 => kc8 (v18, v27, v28, a_26))))))))
  else (some D7)))))
def F_X7_carryOut (N : Nat) (o : Nat) (t : Nat) (D : z_Dat) : Option z_Dat :=
  z_let (z_up D 15 7 0) (fun D1 => z_let (z_up D1 15 8 0) (fun D2 => z_let (z_up D2 15 6 0) (fun D3 => z_loop (fun kc8 s => F_X7_carryOut_L23 N o t kc8 s.1 s.2.1 s.2.2.1 s.2.2.2) N (0, 0, 0, D3))))
set_option maxRecDepth 100000 in
set_option maxHeartbeats 4000000 in
theorem em_X7_carryOut {l : Launch} {S : List z_Shp} {oW : Nat} {o : Nat} {t : Nat} (hl : l.stackTraces = false) (hW : z_W S oW) (hC : z_isCity S o) (hT : z_isTown S t) (N : Nat) (D : z_Dat) : ∀ out, z_ko (z_kV S) (F_X7_carryOut N o t D) out → z_EM l M_X7_carryOut (80, 880, 0, 0) [.ref 15, .ref o, .ref t] S D out := by
  have hs15 : S[15]? = some (9, 9, [some (some 16), some (some 17), some (some 18), some (some 19), some (some 20), none, none, none, none]) := hW.1 15 _ rfl
  have hs16 : S[16]? = some (0, 37, []) := hW.1 16 _ rfl
  refine z_meth hl rfl kp_X7 (Nat.le_of_ble_eq_true rfl) (lv := [some (.ref 15), some (.ref o), some (.ref t), none, none, none, none]) rfl ?_
  unfold F_X7_carryOut
  refine z_aload_n (i := 0) (x := 15) dX7_carryOut_0 rfl rfl ?_
  refine z_iconst (v := 0) dX7_carryOut_1 rfl ?_
  refine z_putI (j := 7) dX7_carryOut_2 kl_7 tyX7_ok nmX7 hs15 (by decide) rfl rfl rfl rfl rfl rfl kf_X7_103 (fun D1 => ?_)
  refine z_aload_n (i := 0) (x := 15) dX7_carryOut_5 rfl rfl ?_
  refine z_iconst (v := 0) dX7_carryOut_6 rfl ?_
  refine z_putI (j := 8) dX7_carryOut_7 kl_7 tyX7_ok nmX7 hs15 (by decide) rfl rfl rfl rfl rfl rfl kf_X7_106 (fun D2 => ?_)
  refine z_aload_n (i := 0) (x := 15) dX7_carryOut_10 rfl rfl ?_
  refine z_iconst (v := 0) dX7_carryOut_11 rfl ?_
  refine z_putI (j := 6) dX7_carryOut_12 kl_7 tyX7_ok nmX7 hs15 (by decide) rfl rfl rfl rfl rfl rfl kf_X7_31 (fun D3 => ?_)
  refine z_iconst (v := 0) dX7_carryOut_15 rfl ?_
  refine z_istore_n (i := 3) (x := 0) (lv' := [some (.ref 15), some (.ref o), some (.ref t), some (.int 0), none, none, none]) dX7_carryOut_16 rfl (by decide) rfl rfl ?_
  refine z_iconst (v := 0) dX7_carryOut_17 rfl ?_
  refine z_istore (i := 4) (x := 0) (lv' := [some (.ref 15), some (.ref o), some (.ref t), some (.int 0), some (.int 0), none, none]) dX7_carryOut_18 (by decide) rfl rfl ?_
  refine z_iconst (v := 0) dX7_carryOut_20 rfl ?_
  refine z_istore (i := 5) (x := 0) (lv' := [some (.ref 15), some (.ref o), some (.ref t), some (.int 0), some (.int 0), some (.int 0), none]) dX7_carryOut_21 (by decide) rfl rfl ?_
  refine z_loops (lvOf := fun s : Int32 × Int32 × Int32 × z_Dat => [some (.ref 15), some (.ref o), some (.ref t), some (.int s.1), some (.int s.2.1), some (.int s.2.2.1), none]) (dOf := fun s : Int32 × Int32 × Int32 × z_Dat => s.2.2.2) (fun kc8 hkc8 s => ?_) N (0, 0, 0, D3)
  obtain ⟨v4, v5, v6, D7⟩ := s
  show z_F _ _ _ _ _ 23 [some (.ref 15), some (.ref o), some (.ref t), some (.int v4), some (.int v5), some (.int v6), none] [] S D7 _ (F_X7_carryOut_L23 N o t kc8 v4 v5 v6 D7)
  unfold F_X7_carryOut_L23
  refine z_iload (i := 5) (x := v6) dX7_carryOut_23 rfl ?_
  refine z_ldc (v := 1000000) dX7_carryOut_25 kd_X7_109 ?_
  refine z_icmp_ge 118 dX7_carryOut_27 (by decide) (fun c9 => ?_) (fun c9 => ?_)
  · exact z_vreturn dX7_carryOut_118 z_rWV trivial (by decide) (by decide)
  · refine z_iload (i := 4) (x := v5) dX7_carryOut_30 rfl ?_
    refine z_aload_n (i := 0) (x := 15) dX7_carryOut_32 rfl rfl ?_
    refine z_getI (j := 5) dX7_carryOut_33 kl_7 hs15 (by decide) rfl rfl kf_X7_27 ?_
    refine z_icmp_ge 118 dX7_carryOut_36 (by decide) (fun c10 => ?_) (fun c10 => ?_)
    · exact z_vreturn dX7_carryOut_118 z_rWV trivial (by decide) (by decide)
    · refine z_aload_n (i := 0) (x := 15) dX7_carryOut_39 rfl rfl ?_
      refine z_getR (j := 0) dX7_carryOut_40 kl_7 hs15 (by decide) rfl rfl kf_X7_11 ?_
      refine z_iload (i := 4) (x := v5) dX7_carryOut_43 rfl ?_
      refine z_cP (As := [.ref 16, .int v5]) (rest := []) (em_X10_at (n0 := 37) hl hs16 (by decide) v5 D7) (fun o7 h => z_runSN 99 2 h rfl kk_X7_99 kn_X7_99 kq_X10_at rfl (Nat.le_of_ble_eq_true rfl) ⟨Nat.le_of_ble_eq_true rfl, Nat.le_of_ble_eq_true rfl, Nat.le_of_ble_eq_true rfl, Nat.le_of_ble_eq_true rfl⟩ dX7_carryOut_45) z_gWV (fun hz11 => ?_)
      refine z_topi (fun v12 => ?_)
      refine z_istore (i := 6) (x := v12) (lv' := [some (.ref 15), some (.ref o), some (.ref t), some (.int v4), some (.int v5), some (.int v6), some (.int v12)]) dX7_carryOut_48 (by decide) rfl rfl ?_
      refine z_iload (i := 6) (x := v12) dX7_carryOut_50 rfl ?_
      refine z_bipush (v := 7) dX7_carryOut_52 (by decide) ?_
      refine z_icmp_ne 68 dX7_carryOut_54 (by decide) (fun c13 => ?_) (fun c13 => ?_)
      · refine z_aload_n (i := 0) (x := 15) dX7_carryOut_57 rfl rfl ?_
        refine z_iload (i := 4) (x := v5) dX7_carryOut_58 rfl ?_
        refine z_cTI (As := [.ref 15, .int v5]) (rest := []) (em_X7_afterTurn hl hW v5 D7) (fun o7 h => z_runV 110 1 h rfl kk_X7_110 hs15 kl_7.1 kq_X7_afterTurn rfl (Nat.le_of_ble_eq_true rfl) ⟨Nat.le_of_ble_eq_true rfl, Nat.le_of_ble_eq_true rfl, Nat.le_of_ble_eq_true rfl, Nat.le_of_ble_eq_true rfl⟩ dX7_carryOut_60) z_gWV (fun a_15 hz14 => ?_)
        refine z_istore (i := 4) (x := a_15.1) (lv' := [some (.ref 15), some (.ref o), some (.ref t), some (.int v4), some (.int a_15.1), some (.int v6), some (.int v12)]) dX7_carryOut_63 (by decide) rfl rfl ?_
        refine z_goto 112 dX7_carryOut_65 (by decide) ?_
        refine z_iinc (i := 5) (x := v6) (y := 1) dX7_carryOut_112 rfl (by decide) (by decide) rfl (fun v16 => ?_)
        refine z_goto 23 dX7_carryOut_115 (by decide) ?_
        refine z_weak (lv' := [some (.ref 15), some (.ref o), some (.ref t), some (.int v4), some (.int a_15.1), some (.int v16), none]) ⟨Or.inr rfl, ⟨Or.inr rfl, ⟨Or.inr rfl, ⟨Or.inr rfl, ⟨Or.inr rfl, ⟨Or.inr rfl, ⟨Or.inl rfl, trivial⟩⟩⟩⟩⟩⟩⟩ ?_
        exact hkc8 (v4, a_15.1, v16, a_15.2)
      · refine z_iload_n (i := 3) (x := v4) dX7_carryOut_68 rfl rfl ?_
        refine z_sipush (v := 200) dX7_carryOut_69 (by decide) ?_
        refine z_icmp_lt 76 dX7_carryOut_72 (by decide) (fun c17 => ?_) (fun c17 => ?_)
        · refine z_iinc (i := 3) (x := v4) (y := 1) dX7_carryOut_76 rfl (by decide) (by decide) rfl (fun v18 => ?_)
          refine z_iload (i := 6) (x := v12) dX7_carryOut_79 rfl ?_
          refine z_bipush (v := 6) dX7_carryOut_81 (by decide) ?_
          refine z_icmp_ne 97 dX7_carryOut_83 (by decide) (fun c19 => ?_) (fun c19 => ?_)
          · refine z_aload_n (i := 0) (x := 15) dX7_carryOut_86 rfl rfl ?_
            refine z_iload (i := 4) (x := v5) dX7_carryOut_87 rfl ?_
            refine z_cTI (As := [.ref 15, .int v5]) (rest := []) (em_X7_afterAgain hl hW v5 D7) (fun o7 h => z_runV 113 1 h rfl kk_X7_113 hs15 kl_7.1 kq_X7_afterAgain rfl (Nat.le_of_ble_eq_true rfl) ⟨Nat.le_of_ble_eq_true rfl, Nat.le_of_ble_eq_true rfl, Nat.le_of_ble_eq_true rfl, Nat.le_of_ble_eq_true rfl⟩ dX7_carryOut_89) z_gWV (fun a_21 hz20 => ?_)
            refine z_istore (i := 4) (x := a_21.1) (lv' := [some (.ref 15), some (.ref o), some (.ref t), some (.int v18), some (.int a_21.1), some (.int v6), some (.int v12)]) dX7_carryOut_92 (by decide) rfl rfl ?_
            refine z_goto 112 dX7_carryOut_94 (by decide) ?_
            refine z_iinc (i := 5) (x := v6) (y := 1) dX7_carryOut_112 rfl (by decide) (by decide) rfl (fun v22 => ?_)
            refine z_goto 23 dX7_carryOut_115 (by decide) ?_
            refine z_weak (lv' := [some (.ref 15), some (.ref o), some (.ref t), some (.int v18), some (.int a_21.1), some (.int v22), none]) ⟨Or.inr rfl, ⟨Or.inr rfl, ⟨Or.inr rfl, ⟨Or.inr rfl, ⟨Or.inr rfl, ⟨Or.inr rfl, ⟨Or.inl rfl, trivial⟩⟩⟩⟩⟩⟩⟩ ?_
            exact hkc8 (v18, a_21.1, v22, a_21.2)
          · refine z_aload_n (i := 0) (x := 15) dX7_carryOut_97 rfl rfl ?_
            refine z_aload_n (i := 0) (x := 15) dX7_carryOut_98 rfl rfl ?_
            refine z_aload_n (i := 1) (x := o) dX7_carryOut_99 rfl rfl ?_
            refine z_aload_n (i := 2) (x := t) dX7_carryOut_100 rfl rfl ?_
            refine z_iload (i := 4) (x := v5) dX7_carryOut_101 rfl ?_
            refine z_cWI (As := [.ref 15, .ref o, .ref t, .int v5]) (rest := [.ref 15]) (em_X7_tried hl hW hC hT N v5 D7) (fun o7 h => z_runV 116 3 h rfl kk_X7_116 hs15 kl_7.1 kq_X7_tried rfl (Nat.le_of_ble_eq_true rfl) ⟨Nat.le_of_ble_eq_true rfl, Nat.le_of_ble_eq_true rfl, Nat.le_of_ble_eq_true rfl, Nat.le_of_ble_eq_true rfl⟩ dX7_carryOut_103) z_gWV (fun a_24 hz23 => ?_)
            refine z_cTV (As := [.ref 15, .int a_24.1]) (rest := []) (em_X7_note hl hW a_24.1 a_24.2) (fun o7 h => z_runV 120 1 h rfl kk_X7_120 hs15 kl_7.1 kq_X7_note rfl (Nat.le_of_ble_eq_true rfl) ⟨Nat.le_of_ble_eq_true rfl, Nat.le_of_ble_eq_true rfl, Nat.le_of_ble_eq_true rfl, Nat.le_of_ble_eq_true rfl⟩ dX7_carryOut_106) z_gWV (fun a_26 hz25 => ?_)
            refine z_iinc (i := 4) (x := v5) (y := 1) dX7_carryOut_109 rfl (by decide) (by decide) rfl (fun v27 => ?_)
            refine z_iinc (i := 5) (x := v6) (y := 1) dX7_carryOut_112 rfl (by decide) (by decide) rfl (fun v28 => ?_)
            refine z_goto 23 dX7_carryOut_115 (by decide) ?_
            refine z_weak (lv' := [some (.ref 15), some (.ref o), some (.ref t), some (.int v18), some (.int v27), some (.int v28), none]) ⟨Or.inr rfl, ⟨Or.inr rfl, ⟨Or.inr rfl, ⟨Or.inr rfl, ⟨Or.inr rfl, ⟨Or.inr rfl, ⟨Or.inl rfl, trivial⟩⟩⟩⟩⟩⟩⟩ ?_
            exact hkc8 (v18, v27, v28, a_26)
        · exact z_vreturn dX7_carryOut_75 z_rWV trivial (by decide) (by decide)
