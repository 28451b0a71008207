/-! ===== methods as functions, and their walks (by program) ===== -/
def F_X10_demand (a0 : Int32) (D : z_Dat) : Option (z_Dat ⊕ (String × z_Dat)) :=
  if a0 = 0 then (z_let (z_up D 0 14 ((D 0 14) + 1)) (fun D2 => some (.inr ("java/lang/IllegalArgumentException", D2))))
  else (some (.inl D))
set_option maxRecDepth 100000 in
set_option maxHeartbeats 4000000 in
theorem em_X10_demand {l : Launch} {S : List z_Shp} {o : Nat} (hl : l.stackTraces = false) (hW : z_W S o) (a0 : Int32) (D : z_Dat) : ∀ out, z_ko (z_kTV S) (F_X10_demand a0 D) out → z_EM l M_X10_demand (20, 460, 3, 18) [.ref 0, .int a0] S D out := by
  have hC := hW.2
  have hs0 : S[0]? = some (12, 15, [some (some 1), some (some 3), some (some 5), some (some 7), some (some 12), some (some 15), some (some 21), some (some 25), some (some 28), some (some 32), some (some 33), some (some o), none, none, none]) := hW.1 0 _ rfl
  refine z_meth hl rfl kp_X10 (Nat.le_of_ble_eq_true rfl) (lv := [some (.ref 0), some (.int a0)]) rfl ?_
  unfold F_X10_demand
  refine z_iload_n (i := 1) (x := a0) dX10_demand_0 rfl rfl ?_
  refine z_if_ne 22 dX10_demand_1 (by decide) (fun c1 => ?_) (fun c1 => ?_)
  · refine z_aload_n (i := 0) (x := 0) dX10_demand_4 rfl rfl ?_
    refine z_dup dX10_demand_5 rfl ?_
    refine z_getI (j := 14) dX10_demand_6 kl_10 hs0 (by decide) rfl rfl kf_X10_359 ?_
    refine z_iconst (v := 1) dX10_demand_9 rfl ?_
    refine z_iadd dX10_demand_10 ?_
    refine z_putI (j := 14) dX10_demand_11 kl_10 tyX10_ok nmX10 hs0 (by decide) rfl rfl rfl rfl rfl rfl kf_X10_359 (fun D2 => ?_)
    exact z_throwG ["java/lang/RuntimeException", "java/lang/Exception"] rfl (by decide +kernel) (by decide +kernel) (by decide +kernel) (by decide +kernel) (by decide +kernel) ⟨Nat.le_of_ble_eq_true rfl, Nat.le_of_ble_eq_true rfl, Nat.le_of_ble_eq_true rfl, Nat.le_of_ble_eq_true rfl⟩ dX10_demand_14 dX10_demand_17 dX10_demand_18 dX10_demand_21
  · exact z_vreturn dX10_demand_22 z_rXV trivial (by decide) (by decide)

def F_X10_demandThere (a0 : Int32) (D : z_Dat) : Option (z_Dat ⊕ (String × z_Dat)) :=
  if a0 = 0 then (z_let (z_up D 0 13 ((D 0 13) + 1)) (fun D2 => some (.inr ("java/util/NoSuchElementException", D2))))
  else (some (.inl D))
set_option maxRecDepth 100000 in
set_option maxHeartbeats 4000000 in
theorem em_X10_demandThere {l : Launch} {S : List z_Shp} {o : Nat} (hl : l.stackTraces = false) (hW : z_W S o) (a0 : Int32) (D : z_Dat) : ∀ out, z_ko (z_kTV S) (F_X10_demandThere a0 D) out → z_EM l M_X10_demandThere (20, 460, 3, 18) [.ref 0, .int a0] S D out := by
  have hC := hW.2
  have hs0 : S[0]? = some (12, 15, [some (some 1), some (some 3), some (some 5), some (some 7), some (some 12), some (some 15), some (some 21), some (some 25), some (some 28), some (some 32), some (some 33), some (some o), none, none, none]) := hW.1 0 _ rfl
  refine z_meth hl rfl kp_X10 (Nat.le_of_ble_eq_true rfl) (lv := [some (.ref 0), some (.int a0)]) rfl ?_
  unfold F_X10_demandThere
  refine z_iload_n (i := 1) (x := a0) dX10_demandThere_0 rfl rfl ?_
  refine z_if_ne 22 dX10_demandThere_1 (by decide) (fun c1 => ?_) (fun c1 => ?_)
  · refine z_aload_n (i := 0) (x := 0) dX10_demandThere_4 rfl rfl ?_
    refine z_dup dX10_demandThere_5 rfl ?_
    refine z_getI (j := 13) dX10_demandThere_6 kl_10 hs0 (by decide) rfl rfl kf_X10_356 ?_
    refine z_iconst (v := 1) dX10_demandThere_9 rfl ?_
    refine z_iadd dX10_demandThere_10 ?_
    refine z_putI (j := 13) dX10_demandThere_11 kl_10 tyX10_ok nmX10 hs0 (by decide) rfl rfl rfl rfl rfl rfl kf_X10_356 (fun D2 => ?_)
    exact z_throwG ["java/lang/RuntimeException", "java/lang/Exception"] rfl (by decide +kernel) (by decide +kernel) (by decide +kernel) (by decide +kernel) (by decide +kernel) ⟨Nat.le_of_ble_eq_true rfl, Nat.le_of_ble_eq_true rfl, Nat.le_of_ble_eq_true rfl, Nat.le_of_ble_eq_true rfl⟩ dX10_demandThere_14 dX10_demandThere_17 dX10_demandThere_18 dX10_demandThere_21
  · exact z_vreturn dX10_demandThere_22 z_rXV trivial (by decide) (by decide)
