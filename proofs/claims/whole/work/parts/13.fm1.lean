/-! ===== methods as functions, and their walks (by program) ===== -/
def F_X11_thrown (D : z_Dat) : Int32 :=
  D 40 0
set_option maxRecDepth 100000 in
set_option maxHeartbeats 4000000 in
theorem em_X11_thrown {l : Launch} {S : List z_Shp} {oW : Nat} (hl : l.stackTraces = false) (hW : z_W S oW) (D : z_Dat) : ∀ out, z_kt (z_kR S D) (F_X11_thrown D) out → z_EM l M_X11_thrown (20, 520, 0, 0) [.ref 40] S D out := by
  have hs40 : S[40]? = some (13, 55, [none, some (some 41), none, none, none, none, none, none, none, some (some 42), some (some 43), some (some 44), some (some 45), some (some 46), some (some 47), some (some 48), none, none, none, none, none, none, some (some 49), some (some 50), some (some 51), some (some 52), some (some 53), none, none, some (some 54), some (some 55), some (some 56), none, none, none, none, none, none, some (some 57), some (some 58), some (some 59), some (some 60), some (some 61), none, some (some 62), some (some 63), none, none, some (some 64), some (some 65), none, none, none, some (some 66), none]) := hW.1 40 _ rfl
  refine z_meth hl rfl kp_X11 (Nat.le_of_ble_eq_true rfl) (lv := [some (.ref 40)]) rfl ?_
  unfold F_X11_thrown
  refine z_aload_n (i := 0) (x := 40) dX11_thrown_0 rfl rfl ?_
  refine z_getI (j := 0) dX11_thrown_1 kl_11 hs40 (by decide) rfl rfl kf_X11_3 ?_
  exact z_ireturn dX11_thrown_4 z_rP rfl (by decide) (by decide)

def F_X11_may (a0 : Int32) (a1 : Int32) (a2 : Int32) (D : z_Dat) : Option (Int32 × z_Dat) :=
  if a0 = 0 then (if (D 40 0) = 0 then (z_let (z_up D 40 0 a1) (fun D3 => if z_inb a2 2 then (if z_inb a2 2 then z_let (z_up D3 41 (z_ix a2) ((D3 41 (z_ix a2)) + 1)) (fun D4 => if (D4 40 0) = 0 then (some (1, D4))
  else (some (0, D4))) else none) else none))
  else (if (D 40 0) = 0 then (some (1, D))
  else (some (0, D))))
  else (if (D 40 0) = 0 then (some (1, D))
  else (some (0, D)))
set_option maxRecDepth 100000 in
set_option maxHeartbeats 4000000 in
theorem em_X11_may {l : Launch} {S : List z_Shp} {oW : Nat} (hl : l.stackTraces = false) (hW : z_W S oW) (a0 : Int32) (a1 : Int32) (a2 : Int32) (D : z_Dat) : ∀ out, z_ko (z_kI S) (F_X11_may a0 a1 a2 D) out → z_EM l M_X11_may (20, 520, 0, 0) [.ref 40, .int a0, .int a1, .int a2] S D out := by
  have hs40 : S[40]? = some (13, 55, [none, some (some 41), none, none, none, none, none, none, none, some (some 42), some (some 43), some (some 44), some (some 45), some (some 46), some (some 47), some (some 48), none, none, none, none, none, none, some (some 49), some (some 50), some (some 51), some (some 52), some (some 53), none, none, some (some 54), some (some 55), some (some 56), none, none, none, none, none, none, some (some 57), some (some 58), some (some 59), some (some 60), some (some 61), none, some (some 62), some (some 63), none, none, some (some 64), some (some 65), none, none, none, some (some 66), none]) := hW.1 40 _ rfl
  have hs41 : S[41]? = some (0, 2, []) := hW.1 41 _ rfl
  refine z_meth hl rfl kp_X11 (Nat.le_of_ble_eq_true rfl) (lv := [some (.ref 40), some (.int a0), some (.int a1), some (.int a2)]) rfl ?_
  unfold F_X11_may
  refine z_iload_n (i := 1) (x := a0) dX11_may_0 rfl rfl ?_
  refine z_if_ne 26 dX11_may_1 (by decide) (fun c1 => ?_) (fun c1 => ?_)
  · refine z_aload_n (i := 0) (x := 40) dX11_may_4 rfl rfl ?_
    refine z_getI (j := 0) dX11_may_5 kl_11 hs40 (by decide) rfl rfl kf_X11_3 ?_
    refine z_if_ne 26 dX11_may_8 (by decide) (fun c2 => ?_) (fun c2 => ?_)
    · refine z_aload_n (i := 0) (x := 40) dX11_may_11 rfl rfl ?_
      refine z_iload_n (i := 2) (x := a1) dX11_may_12 rfl rfl ?_
      refine z_putI (j := 0) dX11_may_13 kl_11 tyX11_ok nmX11 hs40 (by decide) rfl rfl rfl rfl rfl rfl kf_X11_3 (fun D3 => ?_)
      refine z_aload_n (i := 0) (x := 40) dX11_may_16 rfl rfl ?_
      refine z_getR (j := 1) dX11_may_17 kl_11 hs40 (by decide) rfl rfl kf_X11_7 ?_
      refine z_iload_n (i := 3) (x := a2) dX11_may_20 rfl rfl ?_
      refine z_dup2 dX11_may_21 rfl rfl ?_
      refine z_iald dX11_may_22 hs41 ?_
      refine z_iconst (v := 1) dX11_may_23 rfl ?_
      refine z_iadd dX11_may_24 ?_
      refine z_iast dX11_may_25 hs41 (fun D4 => ?_)
      refine z_aload_n (i := 0) (x := 40) dX11_may_26 rfl rfl ?_
      refine z_getI (j := 0) dX11_may_27 kl_11 hs40 (by decide) rfl rfl kf_X11_3 ?_
      refine z_if_ne 37 dX11_may_30 (by decide) (fun c5 => ?_) (fun c5 => ?_)
      · refine z_iconst (v := 1) dX11_may_33 rfl ?_
        refine z_goto 38 dX11_may_34 (by decide) ?_
        exact z_ireturn dX11_may_38 z_rWI rfl (by decide) (by decide)
      · refine z_iconst (v := 0) dX11_may_37 rfl ?_
        exact z_ireturn dX11_may_38 z_rWI rfl (by decide) (by decide)
    · refine z_aload_n (i := 0) (x := 40) dX11_may_26 rfl rfl ?_
      refine z_getI (j := 0) dX11_may_27 kl_11 hs40 (by decide) rfl rfl kf_X11_3 ?_
      refine z_if_ne 37 dX11_may_30 (by decide) (fun c6 => ?_) (fun c6 => ?_)
      · refine z_iconst (v := 1) dX11_may_33 rfl ?_
        refine z_goto 38 dX11_may_34 (by decide) ?_
        exact z_ireturn dX11_may_38 z_rWI rfl (by decide) (by decide)
      · refine z_iconst (v := 0) dX11_may_37 rfl ?_
        exact z_ireturn dX11_may_38 z_rWI rfl (by decide) (by decide)
  · refine z_aload_n (i := 0) (x := 40) dX11_may_26 rfl rfl ?_
    refine z_getI (j := 0) dX11_may_27 kl_11 hs40 (by decide) rfl rfl kf_X11_3 ?_
    refine z_if_ne 37 dX11_may_30 (by decide) (fun c7 => ?_) (fun c7 => ?_)
    · refine z_iconst (v := 1) dX11_may_33 rfl ?_
      refine z_goto 38 dX11_may_34 (by decide) ?_
      exact z_ireturn dX11_may_38 z_rWI rfl (by decide) (by decide)
    · refine z_iconst (v := 0) dX11_may_37 rfl ?_
      exact z_ireturn dX11_may_38 z_rWI rfl (by decide) (by decide)

def F_X11_within (a0 : Int32) (a1 : Int32) (a2 : Int32) : Int32 :=
  if a0 < a1 then (0)
  else (if a2 < a0 then (0)
  else (1))
set_option maxRecDepth 100000 in
set_option maxHeartbeats 4000000 in
theorem em_X11_within {l : Launch} {S : List z_Shp} (hl : l.stackTraces = false) (a0 : Int32) (a1 : Int32) (a2 : Int32) (D : z_Dat) : ∀ out, z_kt (z_kR S D) (F_X11_within a0 a1 a2) out → z_EM l M_X11_within (20, 520, 0, 0) [.int a0, .int a1, .int a2] S D out := by
  refine z_meth hl rfl kp_X11 (Nat.le_of_ble_eq_true rfl) (lv := [some (.int a0), some (.int a1), some (.int a2)]) rfl ?_
  unfold F_X11_within
  refine z_iload_n (i := 0) (x := a0) dX11_within_0 rfl rfl ?_
  refine z_iload_n (i := 1) (x := a1) dX11_within_1 rfl rfl ?_
  refine z_icmp_lt 14 dX11_within_2 (by decide) (fun c1 => ?_) (fun c1 => ?_)
  · refine z_iconst (v := 0) dX11_within_14 rfl ?_
    exact z_ireturn dX11_within_15 z_rP rfl (by decide) (by decide)
  · refine z_iload_n (i := 0) (x := a0) dX11_within_5 rfl rfl ?_
    refine z_iload_n (i := 2) (x := a2) dX11_within_6 rfl rfl ?_
    refine z_icmp_gt 14 dX11_within_7 (by decide) (fun c2 => ?_) (fun c2 => ?_)
    · refine z_iconst (v := 0) dX11_within_14 rfl ?_
      exact z_ireturn dX11_within_15 z_rP rfl (by decide) (by decide)
    · refine z_iconst (v := 1) dX11_within_10 rfl ?_
      refine z_goto 15 dX11_within_11 (by decide) ?_
      exact z_ireturn dX11_within_15 z_rP rfl (by decide) (by decide)

def F_X11_clears_J17 (D10 : z_Dat) : Option z_Dat :=
  some D10
def F_X11_clears_J17x (D8 : z_Dat) : Option z_Dat :=
  z_let (z_up D8 46 (z_ix 2) 50) (fun D9 => F_X11_clears_J17 D9)
def F_X11_clears_J17xx (D6 : z_Dat) : Option z_Dat :=
  z_let (z_up D6 46 (z_ix 1) 50) (fun D7 => F_X11_clears_J17x D7)
def F_X11_clears_J17xxx (D4 : z_Dat) : Option z_Dat :=
  z_let (z_up D4 46 (z_ix 0) 50) (fun D5 => F_X11_clears_J17xx D5)
def F_X11_clears (D : z_Dat) : Option z_Dat :=
  z_let (z_up D 40 16 0) (fun D1 => z_let (z_up D1 40 17 0) (fun D2 => z_let (z_up D2 40 18 5) (fun D3 => F_X11_clears_J17xxx D3)))
set_option maxRecDepth 100000 in
set_option maxHeartbeats 4000000 in
theorem em_X11_clears {l : Launch} {S : List z_Shp} {oW : Nat} (hl : l.stackTraces = false) (hW : z_W S oW) (D : z_Dat) : ∀ out, z_ko (z_kV S) (F_X11_clears D) out → z_EM l M_X11_clears (20, 520, 0, 0) [.ref 40] S D out := by
  have hs40 : S[40]? = some (13, 55, [none, some (some 41), none, none, none, none, none, none, none, some (some 42), some (some 43), some (some 44), some (some 45), some (some 46), some (some 47), some (some 48), none, none, none, none, none, none, some (some 49), some (some 50), some (some 51), some (some 52), some (some 53), none, none, some (some 54), some (some 55), some (some 56), none, none, none, none, none, none, some (some 57), some (some 58), some (some 59), some (some 60), some (some 61), none, some (some 62), some (some 63), none, none, some (some 64), some (some 65), none, none, none, some (some 66), none]) := hW.1 40 _ rfl
  have hs46 : S[46]? = some (0, 3, []) := hW.1 46 _ rfl
  refine z_meth hl rfl kp_X11 (Nat.le_of_ble_eq_true rfl) (lv := [some (.ref 40), none]) rfl ?_
  unfold F_X11_clears
  have hJ_F_X11_clears_J17 : ∀ (D10 : z_Dat) , z_F l M_X11_clears (20, 520, 0, 0) 0 0 17 [some (.ref 40), some (.int 3)] [] S D10 (z_ko (z_kV S)) (F_X11_clears_J17 D10) := by
    intro D10
    unfold F_X11_clears_J17
    refine z_iload_n (i := 1) (x := 3) dX11_clears_17 rfl rfl ?_
    refine z_iconst (v := 3) dX11_clears_18 rfl ?_
    refine z_icmp_geJ 36 dX11_clears_19 (by decide) (by decide) ?_
    exact z_vreturn dX11_clears_36 z_rWV trivial (by decide) (by decide)
  have hJ_F_X11_clears_J17x : ∀ (D8 : z_Dat) , z_F l M_X11_clears (20, 520, 0, 0) 0 0 17 [some (.ref 40), some (.int 2)] [] S D8 (z_ko (z_kV S)) (F_X11_clears_J17x D8) := by
    intro D8
    unfold F_X11_clears_J17x
    refine z_iload_n (i := 1) (x := 2) dX11_clears_17 rfl rfl ?_
    refine z_iconst (v := 3) dX11_clears_18 rfl ?_
    refine z_icmp_geN 36 dX11_clears_19 (by decide) (by decide) ?_
    refine z_aload_n (i := 0) (x := 40) dX11_clears_22 rfl rfl ?_
    refine z_getR (j := 13) dX11_clears_23 kl_11 hs40 (by decide) rfl rfl kf_X11_32 ?_
    refine z_iload_n (i := 1) (x := 2) dX11_clears_26 rfl rfl ?_
    refine z_bipush (v := 50) dX11_clears_27 (by decide) ?_
    refine z_iastL dX11_clears_29 hs46 (vp_in_iff.mpr (by decide)) (fun D9 => ?_)
    refine z_iincC (i := 1) (x := 2) (v := 3) (lv' := [some (.ref 40), some (.int 3)]) dX11_clears_30 rfl (by decide) (by decide) rfl rfl ?_
    refine z_goto 17 dX11_clears_33 (by decide) ?_
    exact hJ_F_X11_clears_J17 D9
  have hJ_F_X11_clears_J17xx : ∀ (D6 : z_Dat) , z_F l M_X11_clears (20, 520, 0, 0) 0 0 17 [some (.ref 40), some (.int 1)] [] S D6 (z_ko (z_kV S)) (F_X11_clears_J17xx D6) := by
    intro D6
    unfold F_X11_clears_J17xx
    refine z_iload_n (i := 1) (x := 1) dX11_clears_17 rfl rfl ?_
    refine z_iconst (v := 3) dX11_clears_18 rfl ?_
    refine z_icmp_geN 36 dX11_clears_19 (by decide) (by decide) ?_
    refine z_aload_n (i := 0) (x := 40) dX11_clears_22 rfl rfl ?_
    refine z_getR (j := 13) dX11_clears_23 kl_11 hs40 (by decide) rfl rfl kf_X11_32 ?_
    refine z_iload_n (i := 1) (x := 1) dX11_clears_26 rfl rfl ?_
    refine z_bipush (v := 50) dX11_clears_27 (by decide) ?_
    refine z_iastL dX11_clears_29 hs46 (vp_in_iff.mpr (by decide)) (fun D7 => ?_)
    refine z_iincC (i := 1) (x := 1) (v := 2) (lv' := [some (.ref 40), some (.int 2)]) dX11_clears_30 rfl (by decide) (by decide) rfl rfl ?_
    refine z_goto 17 dX11_clears_33 (by decide) ?_
    exact hJ_F_X11_clears_J17x D7
  have hJ_F_X11_clears_J17xxx : ∀ (D4 : z_Dat) , z_F l M_X11_clears (20, 520, 0, 0) 0 0 17 [some (.ref 40), some (.int 0)] [] S D4 (z_ko (z_kV S)) (F_X11_clears_J17xxx D4) := by
    intro D4
    unfold F_X11_clears_J17xxx
    refine z_iload_n (i := 1) (x := 0) dX11_clears_17 rfl rfl ?_
    refine z_iconst (v := 3) dX11_clears_18 rfl ?_
    refine z_icmp_geN 36 dX11_clears_19 (by decide) (by decide) ?_
    refine z_aload_n (i := 0) (x := 40) dX11_clears_22 rfl rfl ?_
    refine z_getR (j := 13) dX11_clears_23 kl_11 hs40 (by decide) rfl rfl kf_X11_32 ?_
    refine z_iload_n (i := 1) (x := 0) dX11_clears_26 rfl rfl ?_
    refine z_bipush (v := 50) dX11_clears_27 (by decide) ?_
    refine z_iastL dX11_clears_29 hs46 (vp_in_iff.mpr (by decide)) (fun D5 => ?_)
    refine z_iincC (i := 1) (x := 0) (v := 1) (lv' := [some (.ref 40), some (.int 1)]) dX11_clears_30 rfl (by decide) (by decide) rfl rfl ?_
    refine z_goto 17 dX11_clears_33 (by decide) ?_
    exact hJ_F_X11_clears_J17xx D5
  refine z_aload_n (i := 0) (x := 40) dX11_clears_0 rfl rfl ?_
  refine z_iconst (v := 0) dX11_clears_1 rfl ?_
  refine z_putI (j := 16) dX11_clears_2 kl_11 tyX11_ok nmX11 hs40 (by decide) rfl rfl rfl rfl rfl rfl kf_X11_147 (fun D1 => ?_)
  refine z_aload_n (i := 0) (x := 40) dX11_clears_5 rfl rfl ?_
  refine z_iconst (v := 0) dX11_clears_6 rfl ?_
  refine z_putI (j := 17) dX11_clears_7 kl_11 tyX11_ok nmX11 hs40 (by decide) rfl rfl rfl rfl rfl rfl kf_X11_150 (fun D2 => ?_)
  refine z_aload_n (i := 0) (x := 40) dX11_clears_10 rfl rfl ?_
  refine z_iconst (v := 5) dX11_clears_11 rfl ?_
  refine z_putI (j := 18) dX11_clears_12 kl_11 tyX11_ok nmX11 hs40 (by decide) rfl rfl rfl rfl rfl rfl kf_X11_153 (fun D3 => ?_)
  refine z_iconst (v := 0) dX11_clears_15 rfl ?_
  refine z_istore_n (i := 1) (x := 0) (lv' := [some (.ref 40), some (.int 0)]) dX11_clears_16 rfl (by decide) rfl rfl ?_
  exact hJ_F_X11_clears_J17xxx D3

def F_X11_copies_L3 (r0 : Nat) (n0 : Nat) (r1 : Nat) (n1 : Nat) (a0 : Int32) (kc3 : ((Int32 × z_Dat) → Option z_Dat)) (v1 : Int32) (D2 : z_Dat) : Option z_Dat :=
  if a0 ≤ v1 then (some D2)
  else (if z_inb v1 n0 then (if z_inb v1 n1 then z_let (z_up D2 r1 (z_ix v1) (D2 r0 (z_ix v1))) (fun D5 => z_let (v1 + 1) (fun v6 => kc3 (v6, D5))) else none) else none)
def F_X11_copies (N : Nat) (r0 : Nat) (n0 : Nat) (r1 : Nat) (n1 : Nat) (a0 : Int32) (D : z_Dat) : Option z_Dat :=
  z_loop (fun kc3 s => F_X11_copies_L3 r0 n0 r1 n1 a0 kc3 s.1 s.2) N (0, D)
set_option maxRecDepth 100000 in
set_option maxHeartbeats 4000000 in
theorem em_X11_copies {l : Launch} {S : List z_Shp} {oW : Nat} {r0 : Nat} {n0 : Nat} {r1 : Nat} {n1 : Nat} (hl : l.stackTraces = false) (hW : z_W S oW) (hr0 : S[r0]? = some (0, n0, [])) (hn0 : n0 < 2147483648) (hr1 : S[r1]? = some (0, n1, [])) (hn1 : n1 < 2147483648) (N : Nat) (a0 : Int32) (D : z_Dat) : ∀ out, z_ko (z_kV S) (F_X11_copies N r0 n0 r1 n1 a0 D) out → z_EM l M_X11_copies (20, 520, 0, 0) [.ref 40, .ref r0, .ref r1, .int a0] S D out := by
  refine z_meth hl rfl kp_X11 (Nat.le_of_ble_eq_true rfl) (lv := [some (.ref 40), some (.ref r0), some (.ref r1), some (.int a0), none]) rfl ?_
  unfold F_X11_copies
  refine z_iconst (v := 0) dX11_copies_0 rfl ?_
  refine z_istore (i := 4) (x := 0) (lv' := [some (.ref 40), some (.ref r0), some (.ref r1), some (.int a0), some (.int 0)]) dX11_copies_1 (by decide) rfl rfl ?_
  refine z_weak (lv' := [none, some (.ref r0), some (.ref r1), some (.int a0), some (.int 0)]) ⟨Or.inl rfl, ⟨Or.inr rfl, ⟨Or.inr rfl, ⟨Or.inr rfl, ⟨Or.inr rfl, trivial⟩⟩⟩⟩⟩ ?_
  refine z_loops (lvOf := fun s : Int32 × z_Dat => [none, some (.ref r0), some (.ref r1), some (.int a0), some (.int s.1)]) (dOf := fun s : Int32 × z_Dat => s.2) (fun kc3 hkc3 s => ?_) N (0, D)
  obtain ⟨v1, D2⟩ := s
  show z_F _ _ _ _ _ 3 [none, some (.ref r0), some (.ref r1), some (.int a0), some (.int v1)] [] S D2 _ (F_X11_copies_L3 r0 n0 r1 n1 a0 kc3 v1 D2)
  unfold F_X11_copies_L3
  refine z_iload (i := 4) (x := v1) dX11_copies_3 rfl ?_
  refine z_iload_n (i := 3) (x := a0) dX11_copies_5 rfl rfl ?_
  refine z_icmp_ge 23 dX11_copies_6 (by decide) (fun c4 => ?_) (fun c4 => ?_)
  · exact z_vreturn dX11_copies_23 z_rWV trivial (by decide) (by decide)
  · refine z_aload_n (i := 2) (x := r1) dX11_copies_9 rfl rfl ?_
    refine z_iload (i := 4) (x := v1) dX11_copies_10 rfl ?_
    refine z_aload_n (i := 1) (x := r0) dX11_copies_12 rfl rfl ?_
    refine z_iload (i := 4) (x := v1) dX11_copies_13 rfl ?_
    refine z_iald dX11_copies_15 hr0 ?_
    refine z_iast dX11_copies_16 hr1 (fun D5 => ?_)
    refine z_iinc (i := 4) (x := v1) (y := 1) dX11_copies_17 rfl (by decide) (by decide) rfl (fun v6 => ?_)
    refine z_goto 3 dX11_copies_20 (by decide) ?_
    exact hkc3 (v6, D5)

def F_X11_sets_J179 (D34 : z_Dat) : Option z_Dat :=
  some D34
def F_X11_sets_J179x (D32 : z_Dat) : Option z_Dat :=
  z_let (z_up D32 61 (z_ix 2) (-1)) (fun D33 => F_X11_sets_J179 D33)
def F_X11_sets_J179xx (D30 : z_Dat) : Option z_Dat :=
  z_let (z_up D30 61 (z_ix 1) (-1)) (fun D31 => F_X11_sets_J179x D31)
def F_X11_sets_J179xxx (D28 : z_Dat) : Option z_Dat :=
  z_let (z_up D28 61 (z_ix 0) (-1)) (fun D29 => F_X11_sets_J179xx D29)
def F_X11_sets_J151 (D27 : z_Dat) : Option z_Dat :=
  F_X11_sets_J179xxx D27
def F_X11_sets_J151x (D25 : z_Dat) : Option z_Dat :=
  z_let (z_up D25 57 (z_ix 58) (D25 46 (z_ix 2))) (fun D26 => F_X11_sets_J151 D26)
def F_X11_sets_J151xx (D23 : z_Dat) : Option z_Dat :=
  z_let (z_up D23 57 (z_ix 57) (D23 46 (z_ix 1))) (fun D24 => F_X11_sets_J151x D24)
def F_X11_sets_J151xxx (D21 : z_Dat) : Option z_Dat :=
  z_let (z_up D21 57 (z_ix 56) (D21 46 (z_ix 0))) (fun D22 => F_X11_sets_J151xx D22)
def F_X11_sets_L100 (kc19 : ((Int32 × z_Dat) → Option z_Dat)) (v17 : Int32) (D18 : z_Dat) : Option z_Dat :=
  if 8 ≤ v17 then (F_X11_sets_J151xxx D18)
  else (if z_inb (32 + v17) 60 then z_let (z_up D18 57 (z_ix (32 + v17)) (-1)) (fun D35 => if (D35 40 20) ≤ v17 then (if z_inb (48 + v17) 60 then z_let (z_up D35 57 (z_ix (48 + v17)) 0) (fun D37 => z_let (v17 + 1) (fun v38 => kc19 (v38, D37))) else none)
  else (if z_inb v17 8 then (if z_inb (48 + v17) 60 then z_let (z_up D35 57 (z_ix (48 + v17)) (D35 45 (z_ix v17))) (fun D39 => z_let (v17 + 1) (fun v40 => kc19 (v40, D39))) else none) else none)) else none)
def F_X11_sets_L79 (N : Nat) (kc15 : ((Int32 × z_Dat) → Option z_Dat)) (v13 : Int32) (D14 : z_Dat) : Option z_Dat :=
  if 60 ≤ v13 then (z_loop (fun kc19 s => F_X11_sets_L100 kc19 s.1 s.2) N (0, D14))
  else (if z_inb v13 60 then z_let (z_up D14 57 (z_ix v13) 0) (fun D42 => z_let (v13 + 1) (fun v43 => kc15 (v43, D42))) else none)
def F_X11_sets (N : Nat) (D : z_Dat) : Option z_Dat :=
  z_let (z_up D 40 19 (D 40 16)) (fun D1 => z_let (z_up D1 40 20 (D1 40 17)) (fun D2 => z_let (z_up D2 40 21 (D2 40 18)) (fun D3 => z_bd (F_X11_copies N 43 24 47 24 24 D3) (fun a_5 => z_bd (F_X11_copies N 44 8 48 8 8 a_5) (fun a_7 => z_let (z_up a_7 40 28 0) (fun D8 => z_let (z_up D8 40 43 0) (fun D9 => z_let (z_up D9 40 33 0) (fun D10 => z_let (z_up D10 40 54 0) (fun D11 => z_let (z_up D11 40 34 0) (fun D12 => z_loop (fun kc15 s => F_X11_sets_L79 N kc15 s.1 s.2) N (0, D12)))))))))))
set_option maxRecDepth 100000 in
set_option maxHeartbeats 4000000 in
theorem em_X11_sets {l : Launch} {S : List z_Shp} {oW : Nat} (hl : l.stackTraces = false) (hW : z_W S oW) (N : Nat) (D : z_Dat) : ∀ out, z_ko (z_kV S) (F_X11_sets N D) out → z_EM l M_X11_sets (30, 580, 0, 0) [.ref 40] S D out := by
  have hs40 : S[40]? = some (13, 55, [none, some (some 41), none, none, none, none, none, none, none, some (some 42), some (some 43), some (some 44), some (some 45), some (some 46), some (some 47), some (some 48), none, none, none, none, none, none, some (some 49), some (some 50), some (some 51), some (some 52), some (some 53), none, none, some (some 54), some (some 55), some (some 56), none, none, none, none, none, none, some (some 57), some (some 58), some (some 59), some (some 60), some (some 61), none, some (some 62), some (some 63), none, none, some (some 64), some (some 65), none, none, none, some (some 66), none]) := hW.1 40 _ rfl
  have hs43 : S[43]? = some (0, 24, []) := hW.1 43 _ rfl
  have hs44 : S[44]? = some (0, 8, []) := hW.1 44 _ rfl
  have hs45 : S[45]? = some (0, 8, []) := hW.1 45 _ rfl
  have hs46 : S[46]? = some (0, 3, []) := hW.1 46 _ rfl
  have hs47 : S[47]? = some (0, 24, []) := hW.1 47 _ rfl
  have hs48 : S[48]? = some (0, 8, []) := hW.1 48 _ rfl
  have hs57 : S[57]? = some (0, 60, []) := hW.1 57 _ rfl
  have hs61 : S[61]? = some (0, 3, []) := hW.1 61 _ rfl
  refine z_meth hl rfl kp_X11 (Nat.le_of_ble_eq_true rfl) (lv := [some (.ref 40), none]) rfl ?_
  unfold F_X11_sets
  have hJ_F_X11_sets_J179 : ∀ (D34 : z_Dat) , z_F l M_X11_sets (30, 580, 0, 0) 0 0 179 [some (.ref 40), some (.int 3)] [] S D34 (z_ko (z_kV S)) (F_X11_sets_J179 D34) := by
    intro D34
    unfold F_X11_sets_J179
    refine z_iload_n (i := 1) (x := 3) dX11_sets_179 rfl rfl ?_
    refine z_iconst (v := 3) dX11_sets_180 rfl ?_
    refine z_icmp_geJ 197 dX11_sets_181 (by decide) (by decide) ?_
    exact z_vreturn dX11_sets_197 z_rWV trivial (by decide) (by decide)
  have hJ_F_X11_sets_J179x : ∀ (D32 : z_Dat) , z_F l M_X11_sets (30, 580, 0, 0) 0 0 179 [some (.ref 40), some (.int 2)] [] S D32 (z_ko (z_kV S)) (F_X11_sets_J179x D32) := by
    intro D32
    unfold F_X11_sets_J179x
    refine z_iload_n (i := 1) (x := 2) dX11_sets_179 rfl rfl ?_
    refine z_iconst (v := 3) dX11_sets_180 rfl ?_
    refine z_icmp_geN 197 dX11_sets_181 (by decide) (by decide) ?_
    refine z_aload_n (i := 0) (x := 40) dX11_sets_184 rfl rfl ?_
    refine z_getR (j := 42) dX11_sets_185 kl_11 hs40 (by decide) rfl rfl kf_X11_77 ?_
    refine z_iload_n (i := 1) (x := 2) dX11_sets_188 rfl rfl ?_
    refine z_iconst (v := (-1)) dX11_sets_189 rfl ?_
    refine z_iastL dX11_sets_190 hs61 (vp_in_iff.mpr (by decide)) (fun D33 => ?_)
    refine z_iincC (i := 1) (x := 2) (v := 3) (lv' := [some (.ref 40), some (.int 3)]) dX11_sets_191 rfl (by decide) (by decide) rfl rfl ?_
    refine z_goto 179 dX11_sets_194 (by decide) ?_
    exact hJ_F_X11_sets_J179 D33
  have hJ_F_X11_sets_J179xx : ∀ (D30 : z_Dat) , z_F l M_X11_sets (30, 580, 0, 0) 0 0 179 [some (.ref 40), some (.int 1)] [] S D30 (z_ko (z_kV S)) (F_X11_sets_J179xx D30) := by
    intro D30
    unfold F_X11_sets_J179xx
    refine z_iload_n (i := 1) (x := 1) dX11_sets_179 rfl rfl ?_
    refine z_iconst (v := 3) dX11_sets_180 rfl ?_
    refine z_icmp_geN 197 dX11_sets_181 (by decide) (by decide) ?_
    refine z_aload_n (i := 0) (x := 40) dX11_sets_184 rfl rfl ?_
    refine z_getR (j := 42) dX11_sets_185 kl_11 hs40 (by decide) rfl rfl kf_X11_77 ?_
    refine z_iload_n (i := 1) (x := 1) dX11_sets_188 rfl rfl ?_
    refine z_iconst (v := (-1)) dX11_sets_189 rfl ?_
    refine z_iastL dX11_sets_190 hs61 (vp_in_iff.mpr (by decide)) (fun D31 => ?_)
    refine z_iincC (i := 1) (x := 1) (v := 2) (lv' := [some (.ref 40), some (.int 2)]) dX11_sets_191 rfl (by decide) (by decide) rfl rfl ?_
    refine z_goto 179 dX11_sets_194 (by decide) ?_
    exact hJ_F_X11_sets_J179x D31
  have hJ_F_X11_sets_J179xxx : ∀ (D28 : z_Dat) , z_F l M_X11_sets (30, 580, 0, 0) 0 0 179 [some (.ref 40), some (.int 0)] [] S D28 (z_ko (z_kV S)) (F_X11_sets_J179xxx D28) := by
    intro D28
    unfold F_X11_sets_J179xxx
    refine z_iload_n (i := 1) (x := 0) dX11_sets_179 rfl rfl ?_
    refine z_iconst (v := 3) dX11_sets_180 rfl ?_
    refine z_icmp_geN 197 dX11_sets_181 (by decide) (by decide) ?_
    refine z_aload_n (i := 0) (x := 40) dX11_sets_184 rfl rfl ?_
    refine z_getR (j := 42) dX11_sets_185 kl_11 hs40 (by decide) rfl rfl kf_X11_77 ?_
    refine z_iload_n (i := 1) (x := 0) dX11_sets_188 rfl rfl ?_
    refine z_iconst (v := (-1)) dX11_sets_189 rfl ?_
    refine z_iastL dX11_sets_190 hs61 (vp_in_iff.mpr (by decide)) (fun D29 => ?_)
    refine z_iincC (i := 1) (x := 0) (v := 1) (lv' := [some (.ref 40), some (.int 1)]) dX11_sets_191 rfl (by decide) (by decide) rfl rfl ?_
    refine z_goto 179 dX11_sets_194 (by decide) ?_
    exact hJ_F_X11_sets_J179xx D29
  have hJ_F_X11_sets_J151 : ∀ (D27 : z_Dat) , z_F l M_X11_sets (30, 580, 0, 0) 0 0 151 [some (.ref 40), some (.int 3)] [] S D27 (z_ko (z_kV S)) (F_X11_sets_J151 D27) := by
    intro D27
    unfold F_X11_sets_J151
    refine z_iload_n (i := 1) (x := 3) dX11_sets_151 rfl rfl ?_
    refine z_iconst (v := 3) dX11_sets_152 rfl ?_
    refine z_icmp_geJ 177 dX11_sets_153 (by decide) (by decide) ?_
    refine z_iconst (v := 0) dX11_sets_177 rfl ?_
    refine z_istore_n (i := 1) (x := 0) (lv' := [some (.ref 40), some (.int 0)]) dX11_sets_178 rfl (by decide) rfl rfl ?_
    exact hJ_F_X11_sets_J179xxx D27
  have hJ_F_X11_sets_J151x : ∀ (D25 : z_Dat) , z_F l M_X11_sets (30, 580, 0, 0) 0 0 151 [some (.ref 40), some (.int 2)] [] S D25 (z_ko (z_kV S)) (F_X11_sets_J151x D25) := by
    intro D25
    unfold F_X11_sets_J151x
    refine z_iload_n (i := 1) (x := 2) dX11_sets_151 rfl rfl ?_
    refine z_iconst (v := 3) dX11_sets_152 rfl ?_
    refine z_icmp_geN 177 dX11_sets_153 (by decide) (by decide) ?_
    refine z_aload_n (i := 0) (x := 40) dX11_sets_156 rfl rfl ?_
    refine z_getR (j := 38) dX11_sets_157 kl_11 hs40 (by decide) rfl rfl kf_X11_65 ?_
    refine z_bipush (v := 56) dX11_sets_160 (by decide) ?_
    refine z_iload_n (i := 1) (x := 2) dX11_sets_162 rfl rfl ?_
    refine z_iadd dX11_sets_163 ?_
    refine z_topc (y := 58) (by decide) ?_
    refine z_aload_n (i := 0) (x := 40) dX11_sets_164 rfl rfl ?_
    refine z_getR (j := 13) dX11_sets_165 kl_11 hs40 (by decide) rfl rfl kf_X11_32 ?_
    refine z_iload_n (i := 1) (x := 2) dX11_sets_168 rfl rfl ?_
    refine z_ialdC dX11_sets_169 hs46 (vp_in_iff.mpr (by decide)) ?_
    refine z_iastL dX11_sets_170 hs57 (vp_in_iff.mpr (by decide)) (fun D26 => ?_)
    refine z_iincC (i := 1) (x := 2) (v := 3) (lv' := [some (.ref 40), some (.int 3)]) dX11_sets_171 rfl (by decide) (by decide) rfl rfl ?_
    refine z_goto 151 dX11_sets_174 (by decide) ?_
    exact hJ_F_X11_sets_J151 D26
  have hJ_F_X11_sets_J151xx : ∀ (D23 : z_Dat) , z_F l M_X11_sets (30, 580, 0, 0) 0 0 151 [some (.ref 40), some (.int 1)] [] S D23 (z_ko (z_kV S)) (F_X11_sets_J151xx D23) := by
    intro D23
    unfold F_X11_sets_J151xx
    refine z_iload_n (i := 1) (x := 1) dX11_sets_151 rfl rfl ?_
    refine z_iconst (v := 3) dX11_sets_152 rfl ?_
    refine z_icmp_geN 177 dX11_sets_153 (by decide) (by decide) ?_
    refine z_aload_n (i := 0) (x := 40) dX11_sets_156 rfl rfl ?_
    refine z_getR (j := 38) dX11_sets_157 kl_11 hs40 (by decide) rfl rfl kf_X11_65 ?_
    refine z_bipush (v := 56) dX11_sets_160 (by decide) ?_
    refine z_iload_n (i := 1) (x := 1) dX11_sets_162 rfl rfl ?_
    refine z_iadd dX11_sets_163 ?_
    refine z_topc (y := 57) (by decide) ?_
    refine z_aload_n (i := 0) (x := 40) dX11_sets_164 rfl rfl ?_
    refine z_getR (j := 13) dX11_sets_165 kl_11 hs40 (by decide) rfl rfl kf_X11_32 ?_
    refine z_iload_n (i := 1) (x := 1) dX11_sets_168 rfl rfl ?_
    refine z_ialdC dX11_sets_169 hs46 (vp_in_iff.mpr (by decide)) ?_
    refine z_iastL dX11_sets_170 hs57 (vp_in_iff.mpr (by decide)) (fun D24 => ?_)
    refine z_iincC (i := 1) (x := 1) (v := 2) (lv' := [some (.ref 40), some (.int 2)]) dX11_sets_171 rfl (by decide) (by decide) rfl rfl ?_
    refine z_goto 151 dX11_sets_174 (by decide) ?_
    exact hJ_F_X11_sets_J151x D24
  have hJ_F_X11_sets_J151xxx : ∀ (D21 : z_Dat) , z_F l M_X11_sets (30, 580, 0, 0) 0 0 151 [some (.ref 40), some (.int 0)] [] S D21 (z_ko (z_kV S)) (F_X11_sets_J151xxx D21) := by
    intro D21
    unfold F_X11_sets_J151xxx
    refine z_iload_n (i := 1) (x := 0) dX11_sets_151 rfl rfl ?_
    refine z_iconst (v := 3) dX11_sets_152 rfl ?_
    refine z_icmp_geN 177 dX11_sets_153 (by decide) (by decide) ?_
    refine z_aload_n (i := 0) (x := 40) dX11_sets_156 rfl rfl ?_
    refine z_getR (j := 38) dX11_sets_157 kl_11 hs40 (by decide) rfl rfl kf_X11_65 ?_
    refine z_bipush (v := 56) dX11_sets_160 (by decide) ?_
    refine z_iload_n (i := 1) (x := 0) dX11_sets_162 rfl rfl ?_
    refine z_iadd dX11_sets_163 ?_
    refine z_topc (y := 56) (by decide) ?_
    refine z_aload_n (i := 0) (x := 40) dX11_sets_164 rfl rfl ?_
    refine z_getR (j := 13) dX11_sets_165 kl_11 hs40 (by decide) rfl rfl kf_X11_32 ?_
    refine z_iload_n (i := 1) (x := 0) dX11_sets_168 rfl rfl ?_
    refine z_ialdC dX11_sets_169 hs46 (vp_in_iff.mpr (by decide)) ?_
    refine z_iastL dX11_sets_170 hs57 (vp_in_iff.mpr (by decide)) (fun D22 => ?_)
    refine z_iincC (i := 1) (x := 0) (v := 1) (lv' := [some (.ref 40), some (.int 1)]) dX11_sets_171 rfl (by decide) (by decide) rfl rfl ?_
    refine z_goto 151 dX11_sets_174 (by decide) ?_
    exact hJ_F_X11_sets_J151xx D22
  refine z_aload_n (i := 0) (x := 40) dX11_sets_0 rfl rfl ?_
  refine z_aload_n (i := 0) (x := 40) dX11_sets_1 rfl rfl ?_
  refine z_getI (j := 16) dX11_sets_2 kl_11 hs40 (by decide) rfl rfl kf_X11_147 ?_
  refine z_putI (j := 19) dX11_sets_5 kl_11 tyX11_ok nmX11 hs40 (by decide) rfl rfl rfl rfl rfl rfl kf_X11_156 (fun D1 => ?_)
  refine z_aload_n (i := 0) (x := 40) dX11_sets_8 rfl rfl ?_
  refine z_aload_n (i := 0) (x := 40) dX11_sets_9 rfl rfl ?_
  refine z_getI (j := 17) dX11_sets_10 kl_11 hs40 (by decide) rfl rfl kf_X11_150 ?_
  refine z_putI (j := 20) dX11_sets_13 kl_11 tyX11_ok nmX11 hs40 (by decide) rfl rfl rfl rfl rfl rfl kf_X11_159 (fun D2 => ?_)
  refine z_aload_n (i := 0) (x := 40) dX11_sets_16 rfl rfl ?_
  refine z_aload_n (i := 0) (x := 40) dX11_sets_17 rfl rfl ?_
  refine z_getI (j := 18) dX11_sets_18 kl_11 hs40 (by decide) rfl rfl kf_X11_153 ?_
  refine z_putI (j := 21) dX11_sets_21 kl_11 tyX11_ok nmX11 hs40 (by decide) rfl rfl rfl rfl rfl rfl kf_X11_162 (fun D3 => ?_)
  refine z_aload_n (i := 0) (x := 40) dX11_sets_24 rfl rfl ?_
  refine z_aload_n (i := 0) (x := 40) dX11_sets_25 rfl rfl ?_
  refine z_getR (j := 10) dX11_sets_26 kl_11 hs40 (by decide) rfl rfl kf_X11_23 ?_
  refine z_aload_n (i := 0) (x := 40) dX11_sets_29 rfl rfl ?_
  refine z_getR (j := 14) dX11_sets_30 kl_11 hs40 (by decide) rfl rfl kf_X11_35 ?_
  refine z_bipush (v := 24) dX11_sets_33 (by decide) ?_
  refine z_cWV (As := [.ref 40, .ref 43, .ref 47, .int 24]) (rest := []) (em_X11_copies (n0 := 24) (n1 := 24) hl hW hs43 (by decide) hs47 (by decide) N 24 D3) (fun o7 h => z_runV 165 3 h rfl kk_X11_165 hs40 kl_11.1 kq_X11_copies rfl (Nat.le_of_ble_eq_true rfl) ⟨Nat.le_of_ble_eq_true rfl, Nat.le_of_ble_eq_true rfl, Nat.le_of_ble_eq_true rfl, Nat.le_of_ble_eq_true rfl⟩ dX11_sets_35) z_gWV (fun a_5 hz4 => ?_)
  refine z_aload_n (i := 0) (x := 40) dX11_sets_38 rfl rfl ?_
  refine z_aload_n (i := 0) (x := 40) dX11_sets_39 rfl rfl ?_
  refine z_getR (j := 11) dX11_sets_40 kl_11 hs40 (by decide) rfl rfl kf_X11_26 ?_
  refine z_aload_n (i := 0) (x := 40) dX11_sets_43 rfl rfl ?_
  refine z_getR (j := 15) dX11_sets_44 kl_11 hs40 (by decide) rfl rfl kf_X11_38 ?_
  refine z_bipush (v := 8) dX11_sets_47 (by decide) ?_
  refine z_cWV (As := [.ref 40, .ref 44, .ref 48, .int 8]) (rest := []) (em_X11_copies (n0 := 8) (n1 := 8) hl hW hs44 (by decide) hs48 (by decide) N 8 a_5) (fun o7 h => z_runV 165 3 h rfl kk_X11_165 hs40 kl_11.1 kq_X11_copies rfl (Nat.le_of_ble_eq_true rfl) ⟨Nat.le_of_ble_eq_true rfl, Nat.le_of_ble_eq_true rfl, Nat.le_of_ble_eq_true rfl, Nat.le_of_ble_eq_true rfl⟩ dX11_sets_49) z_gWV (fun a_7 hz6 => ?_)
  refine z_aload_n (i := 0) (x := 40) dX11_sets_52 rfl rfl ?_
  refine z_iconst (v := 0) dX11_sets_53 rfl ?_
  refine z_putI (j := 28) dX11_sets_54 kl_11 tyX11_ok nmX11 hs40 (by decide) rfl rfl rfl rfl rfl rfl kf_X11_169 (fun D8 => ?_)
  refine z_aload_n (i := 0) (x := 40) dX11_sets_57 rfl rfl ?_
  refine z_iconst (v := 0) dX11_sets_58 rfl ?_
  refine z_putI (j := 43) dX11_sets_59 kl_11 tyX11_ok nmX11 hs40 (by decide) rfl rfl rfl rfl rfl rfl kf_X11_172 (fun D9 => ?_)
  refine z_aload_n (i := 0) (x := 40) dX11_sets_62 rfl rfl ?_
  refine z_iconst (v := 0) dX11_sets_63 rfl ?_
  refine z_putI (j := 33) dX11_sets_64 kl_11 tyX11_ok nmX11 hs40 (by decide) rfl rfl rfl rfl rfl rfl kf_X11_175 (fun D10 => ?_)
  refine z_aload_n (i := 0) (x := 40) dX11_sets_67 rfl rfl ?_
  refine z_iconst (v := 0) dX11_sets_68 rfl ?_
  refine z_putI (j := 54) dX11_sets_69 kl_11 tyX11_ok nmX11 hs40 (by decide) rfl rfl rfl rfl rfl rfl kf_X11_178 (fun D11 => ?_)
  refine z_aload_n (i := 0) (x := 40) dX11_sets_72 rfl rfl ?_
  refine z_iconst (v := 0) dX11_sets_73 rfl ?_
  refine z_putI (j := 34) dX11_sets_74 kl_11 tyX11_ok nmX11 hs40 (by decide) rfl rfl rfl rfl rfl rfl kf_X11_181 (fun D12 => ?_)
  refine z_iconst (v := 0) dX11_sets_77 rfl ?_
  refine z_istore_n (i := 1) (x := 0) (lv' := [some (.ref 40), some (.int 0)]) dX11_sets_78 rfl (by decide) rfl rfl ?_
  refine z_loops (lvOf := fun s : Int32 × z_Dat => [some (.ref 40), some (.int s.1)]) (dOf := fun s : Int32 × z_Dat => s.2) (fun kc15 hkc15 s => ?_) N (0, D12)
  obtain ⟨v13, D14⟩ := s
  show z_F _ _ _ _ _ 79 [some (.ref 40), some (.int v13)] [] S D14 _ (F_X11_sets_L79 N kc15 v13 D14)
  unfold F_X11_sets_L79
  refine z_iload_n (i := 1) (x := v13) dX11_sets_79 rfl rfl ?_
  refine z_bipush (v := 60) dX11_sets_80 (by decide) ?_
  refine z_icmp_ge 98 dX11_sets_82 (by decide) (fun c16 => ?_) (fun c16 => ?_)
  · refine z_iconst (v := 0) dX11_sets_98 rfl ?_
    refine z_istore_n (i := 1) (x := 0) (lv' := [some (.ref 40), some (.int 0)]) dX11_sets_99 rfl (by decide) rfl rfl ?_
    refine z_loops (lvOf := fun s : Int32 × z_Dat => [some (.ref 40), some (.int s.1)]) (dOf := fun s : Int32 × z_Dat => s.2) (fun kc19 hkc19 s => ?_) N (0, D14)
    obtain ⟨v17, D18⟩ := s
    show z_F _ _ _ _ _ 100 [some (.ref 40), some (.int v17)] [] S D18 _ (F_X11_sets_L100 kc19 v17 D18)
    unfold F_X11_sets_L100
    refine z_iload_n (i := 1) (x := v17) dX11_sets_100 rfl rfl ?_
    refine z_bipush (v := 8) dX11_sets_101 (by decide) ?_
    refine z_icmp_ge 149 dX11_sets_103 (by decide) (fun c20 => ?_) (fun c20 => ?_)
    · refine z_iconst (v := 0) dX11_sets_149 rfl ?_
      refine z_istore_n (i := 1) (x := 0) (lv' := [some (.ref 40), some (.int 0)]) dX11_sets_150 rfl (by decide) rfl rfl ?_
      exact hJ_F_X11_sets_J151xxx D18
    · refine z_aload_n (i := 0) (x := 40) dX11_sets_106 rfl rfl ?_
      refine z_getR (j := 38) dX11_sets_107 kl_11 hs40 (by decide) rfl rfl kf_X11_65 ?_
      refine z_bipush (v := 32) dX11_sets_110 (by decide) ?_
      refine z_iload_n (i := 1) (x := v17) dX11_sets_112 rfl rfl ?_
      refine z_iadd dX11_sets_113 ?_
      refine z_iconst (v := (-1)) dX11_sets_114 rfl ?_
      refine z_iast dX11_sets_115 hs57 (fun D35 => ?_)
      refine z_aload_n (i := 0) (x := 40) dX11_sets_116 rfl rfl ?_
      refine z_getR (j := 38) dX11_sets_117 kl_11 hs40 (by decide) rfl rfl kf_X11_65 ?_
      refine z_bipush (v := 48) dX11_sets_120 (by decide) ?_
      refine z_iload_n (i := 1) (x := v17) dX11_sets_122 rfl rfl ?_
      refine z_iadd dX11_sets_123 ?_
      refine z_iload_n (i := 1) (x := v17) dX11_sets_124 rfl rfl ?_
      refine z_aload_n (i := 0) (x := 40) dX11_sets_125 rfl rfl ?_
      refine z_getI (j := 20) dX11_sets_126 kl_11 hs40 (by decide) rfl rfl kf_X11_159 ?_
      refine z_icmp_ge 141 dX11_sets_129 (by decide) (fun c36 => ?_) (fun c36 => ?_)
      · refine z_iconst (v := 0) dX11_sets_141 rfl ?_
        refine z_iast dX11_sets_142 hs57 (fun D37 => ?_)
        refine z_iinc (i := 1) (x := v17) (y := 1) dX11_sets_143 rfl (by decide) (by decide) rfl (fun v38 => ?_)
        refine z_goto 100 dX11_sets_146 (by decide) ?_
        exact hkc19 (v38, D37)
      · refine z_aload_n (i := 0) (x := 40) dX11_sets_132 rfl rfl ?_
        refine z_getR (j := 12) dX11_sets_133 kl_11 hs40 (by decide) rfl rfl kf_X11_29 ?_
        refine z_iload_n (i := 1) (x := v17) dX11_sets_136 rfl rfl ?_
        refine z_iald dX11_sets_137 hs45 ?_
        refine z_goto 142 dX11_sets_138 (by decide) ?_
        refine z_iast dX11_sets_142 hs57 (fun D39 => ?_)
        refine z_iinc (i := 1) (x := v17) (y := 1) dX11_sets_143 rfl (by decide) (by decide) rfl (fun v40 => ?_)
        refine z_goto 100 dX11_sets_146 (by decide) ?_
        exact hkc19 (v40, D39)
  · refine z_aload_n (i := 0) (x := 40) dX11_sets_85 rfl rfl ?_
    refine z_getR (j := 38) dX11_sets_86 kl_11 hs40 (by decide) rfl rfl kf_X11_65 ?_
    refine z_iload_n (i := 1) (x := v13) dX11_sets_89 rfl rfl ?_
    refine z_iconst (v := 0) dX11_sets_90 rfl ?_
    refine z_iast dX11_sets_91 hs57 (fun D42 => ?_)
    refine z_iinc (i := 1) (x := v13) (y := 1) dX11_sets_92 rfl (by decide) (by decide) rfl (fun v43 => ?_)
    refine z_goto 79 dX11_sets_95 (by decide) ?_
    exact hkc15 (v43, D42)

def F_X11_feed_J23 (D103 : z_Dat) : Option (Int32 × z_Dat) :=
  some (D103 40 2, D103)
def F_X11_feed_J76 (v99 : Int32) (D100 : z_Dat) : Option (Int32 × z_Dat) :=
  if z_inb (D100 40 2) 600 then z_let (z_up D100 42 (z_ix (D100 40 2)) ((z_shr v99 (24 - (8 * (z_rem 19 4)))) &&& 255)) (fun D101 => z_let (z_up D101 40 2 ((D101 40 2) + 1)) (fun D102 => F_X11_feed_J23 D102)) else none
def F_X11_feed_J23x (a4 : Int32) (D98 : z_Dat) : Option (Int32 × z_Dat) :=
  F_X11_feed_J76 a4 D98
def F_X11_feed_J76x (a4 : Int32) (v94 : Int32) (D95 : z_Dat) : Option (Int32 × z_Dat) :=
  if z_inb (D95 40 2) 600 then z_let (z_up D95 42 (z_ix (D95 40 2)) ((z_shr v94 (24 - (8 * (z_rem 18 4)))) &&& 255)) (fun D96 => z_let (z_up D96 40 2 ((D96 40 2) + 1)) (fun D97 => F_X11_feed_J23x a4 D97)) else none
def F_X11_feed_J23xx (a4 : Int32) (D93 : z_Dat) : Option (Int32 × z_Dat) :=
  F_X11_feed_J76x a4 a4 D93
def F_X11_feed_J76xx (a4 : Int32) (v89 : Int32) (D90 : z_Dat) : Option (Int32 × z_Dat) :=
  if z_inb (D90 40 2) 600 then z_let (z_up D90 42 (z_ix (D90 40 2)) ((z_shr v89 (24 - (8 * (z_rem 17 4)))) &&& 255)) (fun D91 => z_let (z_up D91 40 2 ((D91 40 2) + 1)) (fun D92 => F_X11_feed_J23xx a4 D92)) else none
def F_X11_feed_J23xxx (a4 : Int32) (D88 : z_Dat) : Option (Int32 × z_Dat) :=
  F_X11_feed_J76xx a4 a4 D88
def F_X11_feed_J76xxx (a4 : Int32) (v84 : Int32) (D85 : z_Dat) : Option (Int32 × z_Dat) :=
  if z_inb (D85 40 2) 600 then z_let (z_up D85 42 (z_ix (D85 40 2)) ((z_shr v84 (24 - (8 * (z_rem 16 4)))) &&& 255)) (fun D86 => z_let (z_up D86 40 2 ((D86 40 2) + 1)) (fun D87 => F_X11_feed_J23xxx a4 D87)) else none
def F_X11_feed_J23xxxx (a4 : Int32) (D83 : z_Dat) : Option (Int32 × z_Dat) :=
  F_X11_feed_J76xxx a4 a4 D83
def F_X11_feed_J76xxxx (a4 : Int32) (v79 : Int32) (D80 : z_Dat) : Option (Int32 × z_Dat) :=
  if z_inb (D80 40 2) 600 then z_let (z_up D80 42 (z_ix (D80 40 2)) ((z_shr v79 (24 - (8 * (z_rem 15 4)))) &&& 255)) (fun D81 => z_let (z_up D81 40 2 ((D81 40 2) + 1)) (fun D82 => F_X11_feed_J23xxxx a4 D82)) else none
def F_X11_feed_J23xxxxx (a3 : Int32) (a4 : Int32) (D78 : z_Dat) : Option (Int32 × z_Dat) :=
  F_X11_feed_J76xxxx a4 a3 D78
def F_X11_feed_J76xxxxx (a3 : Int32) (a4 : Int32) (v74 : Int32) (D75 : z_Dat) : Option (Int32 × z_Dat) :=
  if z_inb (D75 40 2) 600 then z_let (z_up D75 42 (z_ix (D75 40 2)) ((z_shr v74 (24 - (8 * (z_rem 14 4)))) &&& 255)) (fun D76 => z_let (z_up D76 40 2 ((D76 40 2) + 1)) (fun D77 => F_X11_feed_J23xxxxx a3 a4 D77)) else none
def F_X11_feed_J23xxxxxx (a3 : Int32) (a4 : Int32) (D73 : z_Dat) : Option (Int32 × z_Dat) :=
  F_X11_feed_J76xxxxx a3 a4 a3 D73
def F_X11_feed_J76xxxxxx (a3 : Int32) (a4 : Int32) (v69 : Int32) (D70 : z_Dat) : Option (Int32 × z_Dat) :=
  if z_inb (D70 40 2) 600 then z_let (z_up D70 42 (z_ix (D70 40 2)) ((z_shr v69 (24 - (8 * (z_rem 13 4)))) &&& 255)) (fun D71 => z_let (z_up D71 40 2 ((D71 40 2) + 1)) (fun D72 => F_X11_feed_J23xxxxxx a3 a4 D72)) else none
def F_X11_feed_J23xxxxxxx (a3 : Int32) (a4 : Int32) (D68 : z_Dat) : Option (Int32 × z_Dat) :=
  F_X11_feed_J76xxxxxx a3 a4 a3 D68
def F_X11_feed_J76xxxxxxx (a3 : Int32) (a4 : Int32) (v64 : Int32) (D65 : z_Dat) : Option (Int32 × z_Dat) :=
  if z_inb (D65 40 2) 600 then z_let (z_up D65 42 (z_ix (D65 40 2)) ((z_shr v64 (24 - (8 * (z_rem 12 4)))) &&& 255)) (fun D66 => z_let (z_up D66 40 2 ((D66 40 2) + 1)) (fun D67 => F_X11_feed_J23xxxxxxx a3 a4 D67)) else none
def F_X11_feed_J23xxxxxxxx (a3 : Int32) (a4 : Int32) (D63 : z_Dat) : Option (Int32 × z_Dat) :=
  F_X11_feed_J76xxxxxxx a3 a4 a3 D63
def F_X11_feed_J76xxxxxxxx (a3 : Int32) (a4 : Int32) (v59 : Int32) (D60 : z_Dat) : Option (Int32 × z_Dat) :=
  if z_inb (D60 40 2) 600 then z_let (z_up D60 42 (z_ix (D60 40 2)) ((z_shr v59 (24 - (8 * (z_rem 11 4)))) &&& 255)) (fun D61 => z_let (z_up D61 40 2 ((D61 40 2) + 1)) (fun D62 => F_X11_feed_J23xxxxxxxx a3 a4 D62)) else none
def F_X11_feed_J23xxxxxxxxx (a2 : Int32) (a3 : Int32) (a4 : Int32) (D58 : z_Dat) : Option (Int32 × z_Dat) :=
  F_X11_feed_J76xxxxxxxx a3 a4 a2 D58
def F_X11_feed_J76xxxxxxxxx (a2 : Int32) (a3 : Int32) (a4 : Int32) (v54 : Int32) (D55 : z_Dat) : Option (Int32 × z_Dat) :=
  if z_inb (D55 40 2) 600 then z_let (z_up D55 42 (z_ix (D55 40 2)) ((z_shr v54 (24 - (8 * (z_rem 10 4)))) &&& 255)) (fun D56 => z_let (z_up D56 40 2 ((D56 40 2) + 1)) (fun D57 => F_X11_feed_J23xxxxxxxxx a2 a3 a4 D57)) else none
def F_X11_feed_J23xxxxxxxxxx (a2 : Int32) (a3 : Int32) (a4 : Int32) (D53 : z_Dat) : Option (Int32 × z_Dat) :=
  F_X11_feed_J76xxxxxxxxx a2 a3 a4 a2 D53
def F_X11_feed_J76xxxxxxxxxx (a2 : Int32) (a3 : Int32) (a4 : Int32) (v49 : Int32) (D50 : z_Dat) : Option (Int32 × z_Dat) :=
  if z_inb (D50 40 2) 600 then z_let (z_up D50 42 (z_ix (D50 40 2)) ((z_shr v49 (24 - (8 * (z_rem 9 4)))) &&& 255)) (fun D51 => z_let (z_up D51 40 2 ((D51 40 2) + 1)) (fun D52 => F_X11_feed_J23xxxxxxxxxx a2 a3 a4 D52)) else none
def F_X11_feed_J23xxxxxxxxxxx (a2 : Int32) (a3 : Int32) (a4 : Int32) (D48 : z_Dat) : Option (Int32 × z_Dat) :=
  F_X11_feed_J76xxxxxxxxxx a2 a3 a4 a2 D48
def F_X11_feed_J76xxxxxxxxxxx (a2 : Int32) (a3 : Int32) (a4 : Int32) (v44 : Int32) (D45 : z_Dat) : Option (Int32 × z_Dat) :=
  if z_inb (D45 40 2) 600 then z_let (z_up D45 42 (z_ix (D45 40 2)) ((z_shr v44 (24 - (8 * (z_rem 8 4)))) &&& 255)) (fun D46 => z_let (z_up D46 40 2 ((D46 40 2) + 1)) (fun D47 => F_X11_feed_J23xxxxxxxxxxx a2 a3 a4 D47)) else none
def F_X11_feed_J23xxxxxxxxxxxx (a2 : Int32) (a3 : Int32) (a4 : Int32) (D43 : z_Dat) : Option (Int32 × z_Dat) :=
  F_X11_feed_J76xxxxxxxxxxx a2 a3 a4 a2 D43
def F_X11_feed_J76xxxxxxxxxxxx (a2 : Int32) (a3 : Int32) (a4 : Int32) (v39 : Int32) (D40 : z_Dat) : Option (Int32 × z_Dat) :=
  if z_inb (D40 40 2) 600 then z_let (z_up D40 42 (z_ix (D40 40 2)) ((z_shr v39 (24 - (8 * (z_rem 7 4)))) &&& 255)) (fun D41 => z_let (z_up D41 40 2 ((D41 40 2) + 1)) (fun D42 => F_X11_feed_J23xxxxxxxxxxxx a2 a3 a4 D42)) else none
def F_X11_feed_J23xxxxxxxxxxxxx (a1 : Int32) (a2 : Int32) (a3 : Int32) (a4 : Int32) (D38 : z_Dat) : Option (Int32 × z_Dat) :=
  F_X11_feed_J76xxxxxxxxxxxx a2 a3 a4 a1 D38
def F_X11_feed_J76xxxxxxxxxxxxx (a1 : Int32) (a2 : Int32) (a3 : Int32) (a4 : Int32) (v34 : Int32) (D35 : z_Dat) : Option (Int32 × z_Dat) :=
  if z_inb (D35 40 2) 600 then z_let (z_up D35 42 (z_ix (D35 40 2)) ((z_shr v34 (24 - (8 * (z_rem 6 4)))) &&& 255)) (fun D36 => z_let (z_up D36 40 2 ((D36 40 2) + 1)) (fun D37 => F_X11_feed_J23xxxxxxxxxxxxx a1 a2 a3 a4 D37)) else none
def F_X11_feed_J23xxxxxxxxxxxxxx (a1 : Int32) (a2 : Int32) (a3 : Int32) (a4 : Int32) (D33 : z_Dat) : Option (Int32 × z_Dat) :=
  F_X11_feed_J76xxxxxxxxxxxxx a1 a2 a3 a4 a1 D33
def F_X11_feed_J76xxxxxxxxxxxxxx (a1 : Int32) (a2 : Int32) (a3 : Int32) (a4 : Int32) (v29 : Int32) (D30 : z_Dat) : Option (Int32 × z_Dat) :=
  if z_inb (D30 40 2) 600 then z_let (z_up D30 42 (z_ix (D30 40 2)) ((z_shr v29 (24 - (8 * (z_rem 5 4)))) &&& 255)) (fun D31 => z_let (z_up D31 40 2 ((D31 40 2) + 1)) (fun D32 => F_X11_feed_J23xxxxxxxxxxxxxx a1 a2 a3 a4 D32)) else none
def F_X11_feed_J23xxxxxxxxxxxxxxx (a1 : Int32) (a2 : Int32) (a3 : Int32) (a4 : Int32) (D28 : z_Dat) : Option (Int32 × z_Dat) :=
  F_X11_feed_J76xxxxxxxxxxxxxx a1 a2 a3 a4 a1 D28
def F_X11_feed_J76xxxxxxxxxxxxxxx (a1 : Int32) (a2 : Int32) (a3 : Int32) (a4 : Int32) (v24 : Int32) (D25 : z_Dat) : Option (Int32 × z_Dat) :=
  if z_inb (D25 40 2) 600 then z_let (z_up D25 42 (z_ix (D25 40 2)) ((z_shr v24 (24 - (8 * (z_rem 4 4)))) &&& 255)) (fun D26 => z_let (z_up D26 40 2 ((D26 40 2) + 1)) (fun D27 => F_X11_feed_J23xxxxxxxxxxxxxxx a1 a2 a3 a4 D27)) else none
def F_X11_feed_J23xxxxxxxxxxxxxxxx (a1 : Int32) (a2 : Int32) (a3 : Int32) (a4 : Int32) (D23 : z_Dat) : Option (Int32 × z_Dat) :=
  F_X11_feed_J76xxxxxxxxxxxxxxx a1 a2 a3 a4 a1 D23
def F_X11_feed_J76xxxxxxxxxxxxxxxx (a1 : Int32) (a2 : Int32) (a3 : Int32) (a4 : Int32) (v19 : Int32) (D20 : z_Dat) : Option (Int32 × z_Dat) :=
  if z_inb (D20 40 2) 600 then z_let (z_up D20 42 (z_ix (D20 40 2)) ((z_shr v19 (24 - (8 * (z_rem 3 4)))) &&& 255)) (fun D21 => z_let (z_up D21 40 2 ((D21 40 2) + 1)) (fun D22 => F_X11_feed_J23xxxxxxxxxxxxxxxx a1 a2 a3 a4 D22)) else none
def F_X11_feed_J23xxxxxxxxxxxxxxxxx (a0 : Int32) (a1 : Int32) (a2 : Int32) (a3 : Int32) (a4 : Int32) (D18 : z_Dat) : Option (Int32 × z_Dat) :=
  F_X11_feed_J76xxxxxxxxxxxxxxxx a1 a2 a3 a4 a0 D18
def F_X11_feed_J76xxxxxxxxxxxxxxxxx (a0 : Int32) (a1 : Int32) (a2 : Int32) (a3 : Int32) (a4 : Int32) (v14 : Int32) (D15 : z_Dat) : Option (Int32 × z_Dat) :=
  if z_inb (D15 40 2) 600 then z_let (z_up D15 42 (z_ix (D15 40 2)) ((z_shr v14 (24 - (8 * (z_rem 2 4)))) &&& 255)) (fun D16 => z_let (z_up D16 40 2 ((D16 40 2) + 1)) (fun D17 => F_X11_feed_J23xxxxxxxxxxxxxxxxx a0 a1 a2 a3 a4 D17)) else none
def F_X11_feed_J23xxxxxxxxxxxxxxxxxx (a0 : Int32) (a1 : Int32) (a2 : Int32) (a3 : Int32) (a4 : Int32) (D13 : z_Dat) : Option (Int32 × z_Dat) :=
  F_X11_feed_J76xxxxxxxxxxxxxxxxx a0 a1 a2 a3 a4 a0 D13
def F_X11_feed_J76xxxxxxxxxxxxxxxxxx (a0 : Int32) (a1 : Int32) (a2 : Int32) (a3 : Int32) (a4 : Int32) (v9 : Int32) (D10 : z_Dat) : Option (Int32 × z_Dat) :=
  if z_inb (D10 40 2) 600 then z_let (z_up D10 42 (z_ix (D10 40 2)) ((z_shr v9 (24 - (8 * (z_rem 1 4)))) &&& 255)) (fun D11 => z_let (z_up D11 40 2 ((D11 40 2) + 1)) (fun D12 => F_X11_feed_J23xxxxxxxxxxxxxxxxxx a0 a1 a2 a3 a4 D12)) else none
def F_X11_feed_J23xxxxxxxxxxxxxxxxxxx (a0 : Int32) (a1 : Int32) (a2 : Int32) (a3 : Int32) (a4 : Int32) (D8 : z_Dat) : Option (Int32 × z_Dat) :=
  F_X11_feed_J76xxxxxxxxxxxxxxxxxx a0 a1 a2 a3 a4 a0 D8
def F_X11_feed_J76xxxxxxxxxxxxxxxxxxx (a0 : Int32) (a1 : Int32) (a2 : Int32) (a3 : Int32) (a4 : Int32) (v4 : Int32) (D5 : z_Dat) : Option (Int32 × z_Dat) :=
  if z_inb (D5 40 2) 600 then z_let (z_up D5 42 (z_ix (D5 40 2)) ((z_shr v4 (24 - (8 * (z_rem 0 4)))) &&& 255)) (fun D6 => z_let (z_up D6 40 2 ((D6 40 2) + 1)) (fun D7 => F_X11_feed_J23xxxxxxxxxxxxxxxxxxx a0 a1 a2 a3 a4 D7)) else none
def F_X11_feed_J23xxxxxxxxxxxxxxxxxxxx (a0 : Int32) (a1 : Int32) (a2 : Int32) (a3 : Int32) (a4 : Int32) (D3 : z_Dat) : Option (Int32 × z_Dat) :=
  F_X11_feed_J76xxxxxxxxxxxxxxxxxxx a0 a1 a2 a3 a4 a0 D3
def F_X11_feed (a0 : Int32) (a1 : Int32) (a2 : Int32) (a3 : Int32) (a4 : Int32) (D : z_Dat) : Option (Int32 × z_Dat) :=
  z_let (z_up D 40 0 0) (fun D1 => if ((D1 40 2) + 20) ≤ 600 then (F_X11_feed_J23xxxxxxxxxxxxxxxxxxxx a0 a1 a2 a3 a4 D1)
  else (some ((-1), D1)))
set_option maxRecDepth 100000 in
set_option maxHeartbeats 4000000 in
theorem em_X11_feed {l : Launch} {S : List z_Shp} {oW : Nat} (hl : l.stackTraces = false) (hW : z_W S oW) (a0 : Int32) (a1 : Int32) (a2 : Int32) (a3 : Int32) (a4 : Int32) (D : z_Dat) : ∀ out, z_ko (z_kI S) (F_X11_feed a0 a1 a2 a3 a4 D) out → z_EM l M_X11_feed (20, 520, 0, 0) [.ref 40, .int a0, .int a1, .int a2, .int a3, .int a4] S D out := by
  have hs40 : S[40]? = some (13, 55, [none, some (some 41), none, none, none, none, none, none, none, some (some 42), some (some 43), some (some 44), some (some 45), some (some 46), some (some 47), some (some 48), none, none, none, none, none, none, some (some 49), some (some 50), some (some 51), some (some 52), some (some 53), none, none, some (some 54), some (some 55), some (some 56), none, none, none, none, none, none, some (some 57), some (some 58), some (some 59), some (some 60), some (some 61), none, some (some 62), some (some 63), none, none, some (some 64), some (some 65), none, none, none, some (some 66), none]) := hW.1 40 _ rfl
  have hs42 : S[42]? = some (0, 600, []) := hW.1 42 _ rfl
  refine z_meth hl rfl kp_X11 (Nat.le_of_ble_eq_true rfl) (lv := [some (.ref 40), some (.int a0), some (.int a1), some (.int a2), some (.int a3), some (.int a4), none, none]) rfl ?_
  unfold F_X11_feed
  have hJ_F_X11_feed_J23 : ∀ (D103 : z_Dat) , z_F l M_X11_feed (20, 520, 0, 0) 0 0 23 [some (.ref 40), some (.int a0), some (.int a1), some (.int a2), some (.int a3), some (.int a4), some (.int 20), none] [] S D103 (z_ko (z_kI S)) (F_X11_feed_J23 D103) := by
    intro D103
    unfold F_X11_feed_J23
    refine z_iload (i := 6) (x := 20) dX11_feed_23 rfl ?_
    refine z_bipush (v := 20) dX11_feed_25 (by decide) ?_
    refine z_icmp_geJ 120 dX11_feed_27 (by decide) (by decide) ?_
    refine z_aload_n (i := 0) (x := 40) dX11_feed_120 rfl rfl ?_
    refine z_getI (j := 2) dX11_feed_121 kl_11 hs40 (by decide) rfl rfl kf_X11_101 ?_
    exact z_ireturn dX11_feed_124 z_rWI rfl (by decide) (by decide)
  have hJ_F_X11_feed_J76 : ∀ (v99 : Int32) (D100 : z_Dat) , z_F l M_X11_feed (20, 520, 0, 0) 0 0 76 [some (.ref 40), some (.int a0), some (.int a1), some (.int a2), some (.int a3), some (.int a4), some (.int 19), none] [.int v99] S D100 (z_ko (z_kI S)) (F_X11_feed_J76 v99 D100) := by
    intro v99 D100
    unfold F_X11_feed_J76
    refine z_istore (i := 7) (x := v99) (lv' := [some (.ref 40), some (.int a0), some (.int a1), some (.int a2), some (.int a3), some (.int a4), some (.int 19), some (.int v99)]) dX11_feed_76 (by decide) rfl rfl ?_
    refine z_aload_n (i := 0) (x := 40) dX11_feed_78 rfl rfl ?_
    refine z_getR (j := 9) dX11_feed_79 kl_11 hs40 (by decide) rfl rfl kf_X11_20 ?_
    refine z_aload_n (i := 0) (x := 40) dX11_feed_82 rfl rfl ?_
    refine z_getI (j := 2) dX11_feed_83 kl_11 hs40 (by decide) rfl rfl kf_X11_101 ?_
    refine z_iload (i := 7) (x := v99) dX11_feed_86 rfl ?_
    refine z_bipush (v := 24) dX11_feed_88 (by decide) ?_
    refine z_bipush (v := 8) dX11_feed_90 (by decide) ?_
    refine z_iload (i := 6) (x := 19) dX11_feed_92 rfl ?_
    refine z_iconst (v := 4) dX11_feed_94 rfl ?_
    refine z_iremC dX11_feed_95 (by decide) ?_
    refine z_imul dX11_feed_96 ?_
    refine z_isub dX11_feed_97 ?_
    refine z_ishr dX11_feed_98 ?_
    refine z_sipush (v := 255) dX11_feed_99 (by decide) ?_
    refine z_iand dX11_feed_102 ?_
    refine z_iast dX11_feed_103 hs42 (fun D101 => ?_)
    refine z_aload_n (i := 0) (x := 40) dX11_feed_104 rfl rfl ?_
    refine z_dup dX11_feed_105 rfl ?_
    refine z_getI (j := 2) dX11_feed_106 kl_11 hs40 (by decide) rfl rfl kf_X11_101 ?_
    refine z_iconst (v := 1) dX11_feed_109 rfl ?_
    refine z_iadd dX11_feed_110 ?_
    refine z_putI (j := 2) dX11_feed_111 kl_11 tyX11_ok nmX11 hs40 (by decide) rfl rfl rfl rfl rfl rfl kf_X11_101 (fun D102 => ?_)
    refine z_iincC (i := 6) (x := 19) (v := 20) (lv' := [some (.ref 40), some (.int a0), some (.int a1), some (.int a2), some (.int a3), some (.int a4), some (.int 20), some (.int v99)]) dX11_feed_114 rfl (by decide) (by decide) rfl rfl ?_
    refine z_goto 23 dX11_feed_117 (by decide) ?_
    refine z_weak (lv' := [some (.ref 40), some (.int a0), some (.int a1), some (.int a2), some (.int a3), some (.int a4), some (.int 20), none]) ⟨Or.inr rfl, ⟨Or.inr rfl, ⟨Or.inr rfl, ⟨Or.inr rfl, ⟨Or.inr rfl, ⟨Or.inr rfl, ⟨Or.inr rfl, ⟨Or.inl rfl, trivial⟩⟩⟩⟩⟩⟩⟩⟩ ?_
    exact hJ_F_X11_feed_J23 D102
  have hJ_F_X11_feed_J23x : ∀ (D98 : z_Dat) , z_F l M_X11_feed (20, 520, 0, 0) 0 0 23 [some (.ref 40), some (.int a0), some (.int a1), some (.int a2), some (.int a3), some (.int a4), some (.int 19), none] [] S D98 (z_ko (z_kI S)) (F_X11_feed_J23x a4 D98) := by
    intro D98
    unfold F_X11_feed_J23x
    refine z_iload (i := 6) (x := 19) dX11_feed_23 rfl ?_
    refine z_bipush (v := 20) dX11_feed_25 (by decide) ?_
    refine z_icmp_geN 120 dX11_feed_27 (by decide) (by decide) ?_
    refine z_iload (i := 6) (x := 19) dX11_feed_30 rfl ?_
    refine z_iconst (v := 4) dX11_feed_32 rfl ?_
    refine z_icmp_geJ 40 dX11_feed_33 (by decide) (by decide) ?_
    refine z_iload (i := 6) (x := 19) dX11_feed_40 rfl ?_
    refine z_bipush (v := 8) dX11_feed_42 (by decide) ?_
    refine z_icmp_geJ 51 dX11_feed_44 (by decide) (by decide) ?_
    refine z_iload (i := 6) (x := 19) dX11_feed_51 rfl ?_
    refine z_bipush (v := 12) dX11_feed_53 (by decide) ?_
    refine z_icmp_geJ 62 dX11_feed_55 (by decide) (by decide) ?_
    refine z_iload (i := 6) (x := 19) dX11_feed_62 rfl ?_
    refine z_bipush (v := 16) dX11_feed_64 (by decide) ?_
    refine z_icmp_geJ 74 dX11_feed_66 (by decide) (by decide) ?_
    refine z_iload (i := 5) (x := a4) dX11_feed_74 rfl ?_
    exact hJ_F_X11_feed_J76 a4 D98
  have hJ_F_X11_feed_J76x : ∀ (v94 : Int32) (D95 : z_Dat) , z_F l M_X11_feed (20, 520, 0, 0) 0 0 76 [some (.ref 40), some (.int a0), some (.int a1), some (.int a2), some (.int a3), some (.int a4), some (.int 18), none] [.int v94] S D95 (z_ko (z_kI S)) (F_X11_feed_J76x a4 v94 D95) := by
    intro v94 D95
    unfold F_X11_feed_J76x
    refine z_istore (i := 7) (x := v94) (lv' := [some (.ref 40), some (.int a0), some (.int a1), some (.int a2), some (.int a3), some (.int a4), some (.int 18), some (.int v94)]) dX11_feed_76 (by decide) rfl rfl ?_
    refine z_aload_n (i := 0) (x := 40) dX11_feed_78 rfl rfl ?_
    refine z_getR (j := 9) dX11_feed_79 kl_11 hs40 (by decide) rfl rfl kf_X11_20 ?_
    refine z_aload_n (i := 0) (x := 40) dX11_feed_82 rfl rfl ?_
    refine z_getI (j := 2) dX11_feed_83 kl_11 hs40 (by decide) rfl rfl kf_X11_101 ?_
    refine z_iload (i := 7) (x := v94) dX11_feed_86 rfl ?_
    refine z_bipush (v := 24) dX11_feed_88 (by decide) ?_
    refine z_bipush (v := 8) dX11_feed_90 (by decide) ?_
    refine z_iload (i := 6) (x := 18) dX11_feed_92 rfl ?_
    refine z_iconst (v := 4) dX11_feed_94 rfl ?_
    refine z_iremC dX11_feed_95 (by decide) ?_
    refine z_imul dX11_feed_96 ?_
    refine z_isub dX11_feed_97 ?_
    refine z_ishr dX11_feed_98 ?_
    refine z_sipush (v := 255) dX11_feed_99 (by decide) ?_
    refine z_iand dX11_feed_102 ?_
    refine z_iast dX11_feed_103 hs42 (fun D96 => ?_)
    refine z_aload_n (i := 0) (x := 40) dX11_feed_104 rfl rfl ?_
    refine z_dup dX11_feed_105 rfl ?_
    refine z_getI (j := 2) dX11_feed_106 kl_11 hs40 (by decide) rfl rfl kf_X11_101 ?_
    refine z_iconst (v := 1) dX11_feed_109 rfl ?_
    refine z_iadd dX11_feed_110 ?_
    refine z_putI (j := 2) dX11_feed_111 kl_11 tyX11_ok nmX11 hs40 (by decide) rfl rfl rfl rfl rfl rfl kf_X11_101 (fun D97 => ?_)
    refine z_iincC (i := 6) (x := 18) (v := 19) (lv' := [some (.ref 40), some (.int a0), some (.int a1), some (.int a2), some (.int a3), some (.int a4), some (.int 19), some (.int v94)]) dX11_feed_114 rfl (by decide) (by decide) rfl rfl ?_
    refine z_goto 23 dX11_feed_117 (by decide) ?_
    refine z_weak (lv' := [some (.ref 40), some (.int a0), some (.int a1), some (.int a2), some (.int a3), some (.int a4), some (.int 19), none]) ⟨Or.inr rfl, ⟨Or.inr rfl, ⟨Or.inr rfl, ⟨Or.inr rfl, ⟨Or.inr rfl, ⟨Or.inr rfl, ⟨Or.inr rfl, ⟨Or.inl rfl, trivial⟩⟩⟩⟩⟩⟩⟩⟩ ?_
    exact hJ_F_X11_feed_J23x D97
  have hJ_F_X11_feed_J23xx : ∀ (D93 : z_Dat) , z_F l M_X11_feed (20, 520, 0, 0) 0 0 23 [some (.ref 40), some (.int a0), some (.int a1), some (.int a2), some (.int a3), some (.int a4), some (.int 18), none] [] S D93 (z_ko (z_kI S)) (F_X11_feed_J23xx a4 D93) := by
    intro D93
    unfold F_X11_feed_J23xx
    refine z_iload (i := 6) (x := 18) dX11_feed_23 rfl ?_
    refine z_bipush (v := 20) dX11_feed_25 (by decide) ?_
    refine z_icmp_geN 120 dX11_feed_27 (by decide) (by decide) ?_
    refine z_iload (i := 6) (x := 18) dX11_feed_30 rfl ?_
    refine z_iconst (v := 4) dX11_feed_32 rfl ?_
    refine z_icmp_geJ 40 dX11_feed_33 (by decide) (by decide) ?_
    refine z_iload (i := 6) (x := 18) dX11_feed_40 rfl ?_
    refine z_bipush (v := 8) dX11_feed_42 (by decide) ?_
    refine z_icmp_geJ 51 dX11_feed_44 (by decide) (by decide) ?_
    refine z_iload (i := 6) (x := 18) dX11_feed_51 rfl ?_
    refine z_bipush (v := 12) dX11_feed_53 (by decide) ?_
    refine z_icmp_geJ 62 dX11_feed_55 (by decide) (by decide) ?_
    refine z_iload (i := 6) (x := 18) dX11_feed_62 rfl ?_
    refine z_bipush (v := 16) dX11_feed_64 (by decide) ?_
    refine z_icmp_geJ 74 dX11_feed_66 (by decide) (by decide) ?_
    refine z_iload (i := 5) (x := a4) dX11_feed_74 rfl ?_
    exact hJ_F_X11_feed_J76x a4 D93
  have hJ_F_X11_feed_J76xx : ∀ (v89 : Int32) (D90 : z_Dat) , z_F l M_X11_feed (20, 520, 0, 0) 0 0 76 [some (.ref 40), some (.int a0), some (.int a1), some (.int a2), some (.int a3), some (.int a4), some (.int 17), none] [.int v89] S D90 (z_ko (z_kI S)) (F_X11_feed_J76xx a4 v89 D90) := by
    intro v89 D90
    unfold F_X11_feed_J76xx
    refine z_istore (i := 7) (x := v89) (lv' := [some (.ref 40), some (.int a0), some (.int a1), some (.int a2), some (.int a3), some (.int a4), some (.int 17), some (.int v89)]) dX11_feed_76 (by decide) rfl rfl ?_
    refine z_aload_n (i := 0) (x := 40) dX11_feed_78 rfl rfl ?_
    refine z_getR (j := 9) dX11_feed_79 kl_11 hs40 (by decide) rfl rfl kf_X11_20 ?_
    refine z_aload_n (i := 0) (x := 40) dX11_feed_82 rfl rfl ?_
    refine z_getI (j := 2) dX11_feed_83 kl_11 hs40 (by decide) rfl rfl kf_X11_101 ?_
    refine z_iload (i := 7) (x := v89) dX11_feed_86 rfl ?_
    refine z_bipush (v := 24) dX11_feed_88 (by decide) ?_
    refine z_bipush (v := 8) dX11_feed_90 (by decide) ?_
    refine z_iload (i := 6) (x := 17) dX11_feed_92 rfl ?_
    refine z_iconst (v := 4) dX11_feed_94 rfl ?_
    refine z_iremC dX11_feed_95 (by decide) ?_
    refine z_imul dX11_feed_96 ?_
    refine z_isub dX11_feed_97 ?_
    refine z_ishr dX11_feed_98 ?_
    refine z_sipush (v := 255) dX11_feed_99 (by decide) ?_
    refine z_iand dX11_feed_102 ?_
    refine z_iast dX11_feed_103 hs42 (fun D91 => ?_)
    refine z_aload_n (i := 0) (x := 40) dX11_feed_104 rfl rfl ?_
    refine z_dup dX11_feed_105 rfl ?_
    refine z_getI (j := 2) dX11_feed_106 kl_11 hs40 (by decide) rfl rfl kf_X11_101 ?_
    refine z_iconst (v := 1) dX11_feed_109 rfl ?_
    refine z_iadd dX11_feed_110 ?_
    refine z_putI (j := 2) dX11_feed_111 kl_11 tyX11_ok nmX11 hs40 (by decide) rfl rfl rfl rfl rfl rfl kf_X11_101 (fun D92 => ?_)
    refine z_iincC (i := 6) (x := 17) (v := 18) (lv' := [some (.ref 40), some (.int a0), some (.int a1), some (.int a2), some (.int a3), some (.int a4), some (.int 18), some (.int v89)]) dX11_feed_114 rfl (by decide) (by decide) rfl rfl ?_
    refine z_goto 23 dX11_feed_117 (by decide) ?_
    refine z_weak (lv' := [some (.ref 40), some (.int a0), some (.int a1), some (.int a2), some (.int a3), some (.int a4), some (.int 18), none]) ⟨Or.inr rfl, ⟨Or.inr rfl, ⟨Or.inr rfl, ⟨Or.inr rfl, ⟨Or.inr rfl, ⟨Or.inr rfl, ⟨Or.inr rfl, ⟨Or.inl rfl, trivial⟩⟩⟩⟩⟩⟩⟩⟩ ?_
    exact hJ_F_X11_feed_J23xx D92
  have hJ_F_X11_feed_J23xxx : ∀ (D88 : z_Dat) , z_F l M_X11_feed (20, 520, 0, 0) 0 0 23 [some (.ref 40), some (.int a0), some (.int a1), some (.int a2), some (.int a3), some (.int a4), some (.int 17), none] [] S D88 (z_ko (z_kI S)) (F_X11_feed_J23xxx a4 D88) := by
    intro D88
    unfold F_X11_feed_J23xxx
    refine z_iload (i := 6) (x := 17) dX11_feed_23 rfl ?_
    refine z_bipush (v := 20) dX11_feed_25 (by decide) ?_
    refine z_icmp_geN 120 dX11_feed_27 (by decide) (by decide) ?_
    refine z_iload (i := 6) (x := 17) dX11_feed_30 rfl ?_
    refine z_iconst (v := 4) dX11_feed_32 rfl ?_
    refine z_icmp_geJ 40 dX11_feed_33 (by decide) (by decide) ?_
    refine z_iload (i := 6) (x := 17) dX11_feed_40 rfl ?_
    refine z_bipush (v := 8) dX11_feed_42 (by decide) ?_
    refine z_icmp_geJ 51 dX11_feed_44 (by decide) (by decide) ?_
    refine z_iload (i := 6) (x := 17) dX11_feed_51 rfl ?_
    refine z_bipush (v := 12) dX11_feed_53 (by decide) ?_
    refine z_icmp_geJ 62 dX11_feed_55 (by decide) (by decide) ?_
    refine z_iload (i := 6) (x := 17) dX11_feed_62 rfl ?_
    refine z_bipush (v := 16) dX11_feed_64 (by decide) ?_
    refine z_icmp_geJ 74 dX11_feed_66 (by decide) (by decide) ?_
    refine z_iload (i := 5) (x := a4) dX11_feed_74 rfl ?_
    exact hJ_F_X11_feed_J76xx a4 D88
  have hJ_F_X11_feed_J76xxx : ∀ (v84 : Int32) (D85 : z_Dat) , z_F l M_X11_feed (20, 520, 0, 0) 0 0 76 [some (.ref 40), some (.int a0), some (.int a1), some (.int a2), some (.int a3), some (.int a4), some (.int 16), none] [.int v84] S D85 (z_ko (z_kI S)) (F_X11_feed_J76xxx a4 v84 D85) := by
    intro v84 D85
    unfold F_X11_feed_J76xxx
    refine z_istore (i := 7) (x := v84) (lv' := [some (.ref 40), some (.int a0), some (.int a1), some (.int a2), some (.int a3), some (.int a4), some (.int 16), some (.int v84)]) dX11_feed_76 (by decide) rfl rfl ?_
    refine z_aload_n (i := 0) (x := 40) dX11_feed_78 rfl rfl ?_
    refine z_getR (j := 9) dX11_feed_79 kl_11 hs40 (by decide) rfl rfl kf_X11_20 ?_
    refine z_aload_n (i := 0) (x := 40) dX11_feed_82 rfl rfl ?_
    refine z_getI (j := 2) dX11_feed_83 kl_11 hs40 (by decide) rfl rfl kf_X11_101 ?_
    refine z_iload (i := 7) (x := v84) dX11_feed_86 rfl ?_
    refine z_bipush (v := 24) dX11_feed_88 (by decide) ?_
    refine z_bipush (v := 8) dX11_feed_90 (by decide) ?_
    refine z_iload (i := 6) (x := 16) dX11_feed_92 rfl ?_
    refine z_iconst (v := 4) dX11_feed_94 rfl ?_
    refine z_iremC dX11_feed_95 (by decide) ?_
    refine z_imul dX11_feed_96 ?_
    refine z_isub dX11_feed_97 ?_
    refine z_ishr dX11_feed_98 ?_
    refine z_sipush (v := 255) dX11_feed_99 (by decide) ?_
    refine z_iand dX11_feed_102 ?_
    refine z_iast dX11_feed_103 hs42 (fun D86 => ?_)
    refine z_aload_n (i := 0) (x := 40) dX11_feed_104 rfl rfl ?_
    refine z_dup dX11_feed_105 rfl ?_
    refine z_getI (j := 2) dX11_feed_106 kl_11 hs40 (by decide) rfl rfl kf_X11_101 ?_
    refine z_iconst (v := 1) dX11_feed_109 rfl ?_
    refine z_iadd dX11_feed_110 ?_
    refine z_putI (j := 2) dX11_feed_111 kl_11 tyX11_ok nmX11 hs40 (by decide) rfl rfl rfl rfl rfl rfl kf_X11_101 (fun D87 => ?_)
    refine z_iincC (i := 6) (x := 16) (v := 17) (lv' := [some (.ref 40), some (.int a0), some (.int a1), some (.int a2), some (.int a3), some (.int a4), some (.int 17), some (.int v84)]) dX11_feed_114 rfl (by decide) (by decide) rfl rfl ?_
    refine z_goto 23 dX11_feed_117 (by decide) ?_
    refine z_weak (lv' := [some (.ref 40), some (.int a0), some (.int a1), some (.int a2), some (.int a3), some (.int a4), some (.int 17), none]) ⟨Or.inr rfl, ⟨Or.inr rfl, ⟨Or.inr rfl, ⟨Or.inr rfl, ⟨Or.inr rfl, ⟨Or.inr rfl, ⟨Or.inr rfl, ⟨Or.inl rfl, trivial⟩⟩⟩⟩⟩⟩⟩⟩ ?_
    exact hJ_F_X11_feed_J23xxx D87
  have hJ_F_X11_feed_J23xxxx : ∀ (D83 : z_Dat) , z_F l M_X11_feed (20, 520, 0, 0) 0 0 23 [some (.ref 40), some (.int a0), some (.int a1), some (.int a2), some (.int a3), some (.int a4), some (.int 16), none] [] S D83 (z_ko (z_kI S)) (F_X11_feed_J23xxxx a4 D83) := by
    intro D83
    unfold F_X11_feed_J23xxxx
    refine z_iload (i := 6) (x := 16) dX11_feed_23 rfl ?_
    refine z_bipush (v := 20) dX11_feed_25 (by decide) ?_
    refine z_icmp_geN 120 dX11_feed_27 (by decide) (by decide) ?_
    refine z_iload (i := 6) (x := 16) dX11_feed_30 rfl ?_
    refine z_iconst (v := 4) dX11_feed_32 rfl ?_
    refine z_icmp_geJ 40 dX11_feed_33 (by decide) (by decide) ?_
    refine z_iload (i := 6) (x := 16) dX11_feed_40 rfl ?_
    refine z_bipush (v := 8) dX11_feed_42 (by decide) ?_
    refine z_icmp_geJ 51 dX11_feed_44 (by decide) (by decide) ?_
    refine z_iload (i := 6) (x := 16) dX11_feed_51 rfl ?_
    refine z_bipush (v := 12) dX11_feed_53 (by decide) ?_
    refine z_icmp_geJ 62 dX11_feed_55 (by decide) (by decide) ?_
    refine z_iload (i := 6) (x := 16) dX11_feed_62 rfl ?_
    refine z_bipush (v := 16) dX11_feed_64 (by decide) ?_
    refine z_icmp_geJ 74 dX11_feed_66 (by decide) (by decide) ?_
    refine z_iload (i := 5) (x := a4) dX11_feed_74 rfl ?_
    exact hJ_F_X11_feed_J76xxx a4 D83
  have hJ_F_X11_feed_J76xxxx : ∀ (v79 : Int32) (D80 : z_Dat) , z_F l M_X11_feed (20, 520, 0, 0) 0 0 76 [some (.ref 40), some (.int a0), some (.int a1), some (.int a2), some (.int a3), some (.int a4), some (.int 15), none] [.int v79] S D80 (z_ko (z_kI S)) (F_X11_feed_J76xxxx a4 v79 D80) := by
    intro v79 D80
    unfold F_X11_feed_J76xxxx
    refine z_istore (i := 7) (x := v79) (lv' := [some (.ref 40), some (.int a0), some (.int a1), some (.int a2), some (.int a3), some (.int a4), some (.int 15), some (.int v79)]) dX11_feed_76 (by decide) rfl rfl ?_
    refine z_aload_n (i := 0) (x := 40) dX11_feed_78 rfl rfl ?_
    refine z_getR (j := 9) dX11_feed_79 kl_11 hs40 (by decide) rfl rfl kf_X11_20 ?_
    refine z_aload_n (i := 0) (x := 40) dX11_feed_82 rfl rfl ?_
    refine z_getI (j := 2) dX11_feed_83 kl_11 hs40 (by decide) rfl rfl kf_X11_101 ?_
    refine z_iload (i := 7) (x := v79) dX11_feed_86 rfl ?_
    refine z_bipush (v := 24) dX11_feed_88 (by decide) ?_
    refine z_bipush (v := 8) dX11_feed_90 (by decide) ?_
    refine z_iload (i := 6) (x := 15) dX11_feed_92 rfl ?_
    refine z_iconst (v := 4) dX11_feed_94 rfl ?_
    refine z_iremC dX11_feed_95 (by decide) ?_
    refine z_imul dX11_feed_96 ?_
    refine z_isub dX11_feed_97 ?_
    refine z_ishr dX11_feed_98 ?_
    refine z_sipush (v := 255) dX11_feed_99 (by decide) ?_
    refine z_iand dX11_feed_102 ?_
    refine z_iast dX11_feed_103 hs42 (fun D81 => ?_)
    refine z_aload_n (i := 0) (x := 40) dX11_feed_104 rfl rfl ?_
    refine z_dup dX11_feed_105 rfl ?_
    refine z_getI (j := 2) dX11_feed_106 kl_11 hs40 (by decide) rfl rfl kf_X11_101 ?_
    refine z_iconst (v := 1) dX11_feed_109 rfl ?_
    refine z_iadd dX11_feed_110 ?_
    refine z_putI (j := 2) dX11_feed_111 kl_11 tyX11_ok nmX11 hs40 (by decide) rfl rfl rfl rfl rfl rfl kf_X11_101 (fun D82 => ?_)
    refine z_iincC (i := 6) (x := 15) (v := 16) (lv' := [some (.ref 40), some (.int a0), some (.int a1), some (.int a2), some (.int a3), some (.int a4), some (.int 16), some (.int v79)]) dX11_feed_114 rfl (by decide) (by decide) rfl rfl ?_
    refine z_goto 23 dX11_feed_117 (by decide) ?_
    refine z_weak (lv' := [some (.ref 40), some (.int a0), some (.int a1), some (.int a2), some (.int a3), some (.int a4), some (.int 16), none]) ⟨Or.inr rfl, ⟨Or.inr rfl, ⟨Or.inr rfl, ⟨Or.inr rfl, ⟨Or.inr rfl, ⟨Or.inr rfl, ⟨Or.inr rfl, ⟨Or.inl rfl, trivial⟩⟩⟩⟩⟩⟩⟩⟩ ?_
    exact hJ_F_X11_feed_J23xxxx D82
  have hJ_F_X11_feed_J23xxxxx : ∀ (D78 : z_Dat) , z_F l M_X11_feed (20, 520, 0, 0) 0 0 23 [some (.ref 40), some (.int a0), some (.int a1), some (.int a2), some (.int a3), some (.int a4), some (.int 15), none] [] S D78 (z_ko (z_kI S)) (F_X11_feed_J23xxxxx a3 a4 D78) := by
    intro D78
    unfold F_X11_feed_J23xxxxx
    refine z_iload (i := 6) (x := 15) dX11_feed_23 rfl ?_
    refine z_bipush (v := 20) dX11_feed_25 (by decide) ?_
    refine z_icmp_geN 120 dX11_feed_27 (by decide) (by decide) ?_
    refine z_iload (i := 6) (x := 15) dX11_feed_30 rfl ?_
    refine z_iconst (v := 4) dX11_feed_32 rfl ?_
    refine z_icmp_geJ 40 dX11_feed_33 (by decide) (by decide) ?_
    refine z_iload (i := 6) (x := 15) dX11_feed_40 rfl ?_
    refine z_bipush (v := 8) dX11_feed_42 (by decide) ?_
    refine z_icmp_geJ 51 dX11_feed_44 (by decide) (by decide) ?_
    refine z_iload (i := 6) (x := 15) dX11_feed_51 rfl ?_
    refine z_bipush (v := 12) dX11_feed_53 (by decide) ?_
    refine z_icmp_geJ 62 dX11_feed_55 (by decide) (by decide) ?_
    refine z_iload (i := 6) (x := 15) dX11_feed_62 rfl ?_
    refine z_bipush (v := 16) dX11_feed_64 (by decide) ?_
    refine z_icmp_geN 74 dX11_feed_66 (by decide) (by decide) ?_
    refine z_iload (i := 4) (x := a3) dX11_feed_69 rfl ?_
    refine z_goto 76 dX11_feed_71 (by decide) ?_
    exact hJ_F_X11_feed_J76xxxx a3 D78
  have hJ_F_X11_feed_J76xxxxx : ∀ (v74 : Int32) (D75 : z_Dat) , z_F l M_X11_feed (20, 520, 0, 0) 0 0 76 [some (.ref 40), some (.int a0), some (.int a1), some (.int a2), some (.int a3), some (.int a4), some (.int 14), none] [.int v74] S D75 (z_ko (z_kI S)) (F_X11_feed_J76xxxxx a3 a4 v74 D75) := by
    intro v74 D75
    unfold F_X11_feed_J76xxxxx
    refine z_istore (i := 7) (x := v74) (lv' := [some (.ref 40), some (.int a0), some (.int a1), some (.int a2), some (.int a3), some (.int a4), some (.int 14), some (.int v74)]) dX11_feed_76 (by decide) rfl rfl ?_
    refine z_aload_n (i := 0) (x := 40) dX11_feed_78 rfl rfl ?_
    refine z_getR (j := 9) dX11_feed_79 kl_11 hs40 (by decide) rfl rfl kf_X11_20 ?_
    refine z_aload_n (i := 0) (x := 40) dX11_feed_82 rfl rfl ?_
    refine z_getI (j := 2) dX11_feed_83 kl_11 hs40 (by decide) rfl rfl kf_X11_101 ?_
    refine z_iload (i := 7) (x := v74) dX11_feed_86 rfl ?_
    refine z_bipush (v := 24) dX11_feed_88 (by decide) ?_
    refine z_bipush (v := 8) dX11_feed_90 (by decide) ?_
    refine z_iload (i := 6) (x := 14) dX11_feed_92 rfl ?_
    refine z_iconst (v := 4) dX11_feed_94 rfl ?_
    refine z_iremC dX11_feed_95 (by decide) ?_
    refine z_imul dX11_feed_96 ?_
    refine z_isub dX11_feed_97 ?_
    refine z_ishr dX11_feed_98 ?_
    refine z_sipush (v := 255) dX11_feed_99 (by decide) ?_
    refine z_iand dX11_feed_102 ?_
    refine z_iast dX11_feed_103 hs42 (fun D76 => ?_)
    refine z_aload_n (i := 0) (x := 40) dX11_feed_104 rfl rfl ?_
    refine z_dup dX11_feed_105 rfl ?_
    refine z_getI (j := 2) dX11_feed_106 kl_11 hs40 (by decide) rfl rfl kf_X11_101 ?_
    refine z_iconst (v := 1) dX11_feed_109 rfl ?_
    refine z_iadd dX11_feed_110 ?_
    refine z_putI (j := 2) dX11_feed_111 kl_11 tyX11_ok nmX11 hs40 (by decide) rfl rfl rfl rfl rfl rfl kf_X11_101 (fun D77 => ?_)
    refine z_iincC (i := 6) (x := 14) (v := 15) (lv' := [some (.ref 40), some (.int a0), some (.int a1), some (.int a2), some (.int a3), some (.int a4), some (.int 15), some (.int v74)]) dX11_feed_114 rfl (by decide) (by decide) rfl rfl ?_
    refine z_goto 23 dX11_feed_117 (by decide) ?_
    refine z_weak (lv' := [some (.ref 40), some (.int a0), some (.int a1), some (.int a2), some (.int a3), some (.int a4), some (.int 15), none]) ⟨Or.inr rfl, ⟨Or.inr rfl, ⟨Or.inr rfl, ⟨Or.inr rfl, ⟨Or.inr rfl, ⟨Or.inr rfl, ⟨Or.inr rfl, ⟨Or.inl rfl, trivial⟩⟩⟩⟩⟩⟩⟩⟩ ?_
    exact hJ_F_X11_feed_J23xxxxx D77
  have hJ_F_X11_feed_J23xxxxxx : ∀ (D73 : z_Dat) , z_F l M_X11_feed (20, 520, 0, 0) 0 0 23 [some (.ref 40), some (.int a0), some (.int a1), some (.int a2), some (.int a3), some (.int a4), some (.int 14), none] [] S D73 (z_ko (z_kI S)) (F_X11_feed_J23xxxxxx a3 a4 D73) := by
    intro D73
    unfold F_X11_feed_J23xxxxxx
    refine z_iload (i := 6) (x := 14) dX11_feed_23 rfl ?_
    refine z_bipush (v := 20) dX11_feed_25 (by decide) ?_
    refine z_icmp_geN 120 dX11_feed_27 (by decide) (by decide) ?_
    refine z_iload (i := 6) (x := 14) dX11_feed_30 rfl ?_
    refine z_iconst (v := 4) dX11_feed_32 rfl ?_
    refine z_icmp_geJ 40 dX11_feed_33 (by decide) (by decide) ?_
    refine z_iload (i := 6) (x := 14) dX11_feed_40 rfl ?_
    refine z_bipush (v := 8) dX11_feed_42 (by decide) ?_
    refine z_icmp_geJ 51 dX11_feed_44 (by decide) (by decide) ?_
    refine z_iload (i := 6) (x := 14) dX11_feed_51 rfl ?_
    refine z_bipush (v := 12) dX11_feed_53 (by decide) ?_
    refine z_icmp_geJ 62 dX11_feed_55 (by decide) (by decide) ?_
    refine z_iload (i := 6) (x := 14) dX11_feed_62 rfl ?_
    refine z_bipush (v := 16) dX11_feed_64 (by decide) ?_
    refine z_icmp_geN 74 dX11_feed_66 (by decide) (by decide) ?_
    refine z_iload (i := 4) (x := a3) dX11_feed_69 rfl ?_
    refine z_goto 76 dX11_feed_71 (by decide) ?_
    exact hJ_F_X11_feed_J76xxxxx a3 D73
  have hJ_F_X11_feed_J76xxxxxx : ∀ (v69 : Int32) (D70 : z_Dat) , z_F l M_X11_feed (20, 520, 0, 0) 0 0 76 [some (.ref 40), some (.int a0), some (.int a1), some (.int a2), some (.int a3), some (.int a4), some (.int 13), none] [.int v69] S D70 (z_ko (z_kI S)) (F_X11_feed_J76xxxxxx a3 a4 v69 D70) := by
    intro v69 D70
    unfold F_X11_feed_J76xxxxxx
    refine z_istore (i := 7) (x := v69) (lv' := [some (.ref 40), some (.int a0), some (.int a1), some (.int a2), some (.int a3), some (.int a4), some (.int 13), some (.int v69)]) dX11_feed_76 (by decide) rfl rfl ?_
    refine z_aload_n (i := 0) (x := 40) dX11_feed_78 rfl rfl ?_
    refine z_getR (j := 9) dX11_feed_79 kl_11 hs40 (by decide) rfl rfl kf_X11_20 ?_
    refine z_aload_n (i := 0) (x := 40) dX11_feed_82 rfl rfl ?_
    refine z_getI (j := 2) dX11_feed_83 kl_11 hs40 (by decide) rfl rfl kf_X11_101 ?_
    refine z_iload (i := 7) (x := v69) dX11_feed_86 rfl ?_
    refine z_bipush (v := 24) dX11_feed_88 (by decide) ?_
    refine z_bipush (v := 8) dX11_feed_90 (by decide) ?_
    refine z_iload (i := 6) (x := 13) dX11_feed_92 rfl ?_
    refine z_iconst (v := 4) dX11_feed_94 rfl ?_
    refine z_iremC dX11_feed_95 (by decide) ?_
    refine z_imul dX11_feed_96 ?_
    refine z_isub dX11_feed_97 ?_
    refine z_ishr dX11_feed_98 ?_
    refine z_sipush (v := 255) dX11_feed_99 (by decide) ?_
    refine z_iand dX11_feed_102 ?_
    refine z_iast dX11_feed_103 hs42 (fun D71 => ?_)
    refine z_aload_n (i := 0) (x := 40) dX11_feed_104 rfl rfl ?_
    refine z_dup dX11_feed_105 rfl ?_
    refine z_getI (j := 2) dX11_feed_106 kl_11 hs40 (by decide) rfl rfl kf_X11_101 ?_
    refine z_iconst (v := 1) dX11_feed_109 rfl ?_
    refine z_iadd dX11_feed_110 ?_
    refine z_putI (j := 2) dX11_feed_111 kl_11 tyX11_ok nmX11 hs40 (by decide) rfl rfl rfl rfl rfl rfl kf_X11_101 (fun D72 => ?_)
    refine z_iincC (i := 6) (x := 13) (v := 14) (lv' := [some (.ref 40), some (.int a0), some (.int a1), some (.int a2), some (.int a3), some (.int a4), some (.int 14), some (.int v69)]) dX11_feed_114 rfl (by decide) (by decide) rfl rfl ?_
    refine z_goto 23 dX11_feed_117 (by decide) ?_
    refine z_weak (lv' := [some (.ref 40), some (.int a0), some (.int a1), some (.int a2), some (.int a3), some (.int a4), some (.int 14), none]) ⟨Or.inr rfl, ⟨Or.inr rfl, ⟨Or.inr rfl, ⟨Or.inr rfl, ⟨Or.inr rfl, ⟨Or.inr rfl, ⟨Or.inr rfl, ⟨Or.inl rfl, trivial⟩⟩⟩⟩⟩⟩⟩⟩ ?_
    exact hJ_F_X11_feed_J23xxxxxx D72
  have hJ_F_X11_feed_J23xxxxxxx : ∀ (D68 : z_Dat) , z_F l M_X11_feed (20, 520, 0, 0) 0 0 23 [some (.ref 40), some (.int a0), some (.int a1), some (.int a2), some (.int a3), some (.int a4), some (.int 13), none] [] S D68 (z_ko (z_kI S)) (F_X11_feed_J23xxxxxxx a3 a4 D68) := by
    intro D68
    unfold F_X11_feed_J23xxxxxxx
    refine z_iload (i := 6) (x := 13) dX11_feed_23 rfl ?_
    refine z_bipush (v := 20) dX11_feed_25 (by decide) ?_
    refine z_icmp_geN 120 dX11_feed_27 (by decide) (by decide) ?_
    refine z_iload (i := 6) (x := 13) dX11_feed_30 rfl ?_
    refine z_iconst (v := 4) dX11_feed_32 rfl ?_
    refine z_icmp_geJ 40 dX11_feed_33 (by decide) (by decide) ?_
    refine z_iload (i := 6) (x := 13) dX11_feed_40 rfl ?_
    refine z_bipush (v := 8) dX11_feed_42 (by decide) ?_
    refine z_icmp_geJ 51 dX11_feed_44 (by decide) (by decide) ?_
    refine z_iload (i := 6) (x := 13) dX11_feed_51 rfl ?_
    refine z_bipush (v := 12) dX11_feed_53 (by decide) ?_
    refine z_icmp_geJ 62 dX11_feed_55 (by decide) (by decide) ?_
    refine z_iload (i := 6) (x := 13) dX11_feed_62 rfl ?_
    refine z_bipush (v := 16) dX11_feed_64 (by decide) ?_
    refine z_icmp_geN 74 dX11_feed_66 (by decide) (by decide) ?_
    refine z_iload (i := 4) (x := a3) dX11_feed_69 rfl ?_
    refine z_goto 76 dX11_feed_71 (by decide) ?_
    exact hJ_F_X11_feed_J76xxxxxx a3 D68
  have hJ_F_X11_feed_J76xxxxxxx : ∀ (v64 : Int32) (D65 : z_Dat) , z_F l M_X11_feed (20, 520, 0, 0) 0 0 76 [some (.ref 40), some (.int a0), some (.int a1), some (.int a2), some (.int a3), some (.int a4), some (.int 12), none] [.int v64] S D65 (z_ko (z_kI S)) (F_X11_feed_J76xxxxxxx a3 a4 v64 D65) := by
    intro v64 D65
    unfold F_X11_feed_J76xxxxxxx
    refine z_istore (i := 7) (x := v64) (lv' := [some (.ref 40), some (.int a0), some (.int a1), some (.int a2), some (.int a3), some (.int a4), some (.int 12), some (.int v64)]) dX11_feed_76 (by decide) rfl rfl ?_
    refine z_aload_n (i := 0) (x := 40) dX11_feed_78 rfl rfl ?_
    refine z_getR (j := 9) dX11_feed_79 kl_11 hs40 (by decide) rfl rfl kf_X11_20 ?_
    refine z_aload_n (i := 0) (x := 40) dX11_feed_82 rfl rfl ?_
    refine z_getI (j := 2) dX11_feed_83 kl_11 hs40 (by decide) rfl rfl kf_X11_101 ?_
    refine z_iload (i := 7) (x := v64) dX11_feed_86 rfl ?_
    refine z_bipush (v := 24) dX11_feed_88 (by decide) ?_
    refine z_bipush (v := 8) dX11_feed_90 (by decide) ?_
    refine z_iload (i := 6) (x := 12) dX11_feed_92 rfl ?_
    refine z_iconst (v := 4) dX11_feed_94 rfl ?_
    refine z_iremC dX11_feed_95 (by decide) ?_
    refine z_imul dX11_feed_96 ?_
    refine z_isub dX11_feed_97 ?_
    refine z_ishr dX11_feed_98 ?_
    refine z_sipush (v := 255) dX11_feed_99 (by decide) ?_
    refine z_iand dX11_feed_102 ?_
    refine z_iast dX11_feed_103 hs42 (fun D66 => ?_)
    refine z_aload_n (i := 0) (x := 40) dX11_feed_104 rfl rfl ?_
    refine z_dup dX11_feed_105 rfl ?_
    refine z_getI (j := 2) dX11_feed_106 kl_11 hs40 (by decide) rfl rfl kf_X11_101 ?_
    refine z_iconst (v := 1) dX11_feed_109 rfl ?_
    refine z_iadd dX11_feed_110 ?_
    refine z_putI (j := 2) dX11_feed_111 kl_11 tyX11_ok nmX11 hs40 (by decide) rfl rfl rfl rfl rfl rfl kf_X11_101 (fun D67 => ?_)
    refine z_iincC (i := 6) (x := 12) (v := 13) (lv' := [some (.ref 40), some (.int a0), some (.int a1), some (.int a2), some (.int a3), some (.int a4), some (.int 13), some (.int v64)]) dX11_feed_114 rfl (by decide) (by decide) rfl rfl ?_
    refine z_goto 23 dX11_feed_117 (by decide) ?_
    refine z_weak (lv' := [some (.ref 40), some (.int a0), some (.int a1), some (.int a2), some (.int a3), some (.int a4), some (.int 13), none]) ⟨Or.inr rfl, ⟨Or.inr rfl, ⟨Or.inr rfl, ⟨Or.inr rfl, ⟨Or.inr rfl, ⟨Or.inr rfl, ⟨Or.inr rfl, ⟨Or.inl rfl, trivial⟩⟩⟩⟩⟩⟩⟩⟩ ?_
    exact hJ_F_X11_feed_J23xxxxxxx D67
  have hJ_F_X11_feed_J23xxxxxxxx : ∀ (D63 : z_Dat) , z_F l M_X11_feed (20, 520, 0, 0) 0 0 23 [some (.ref 40), some (.int a0), some (.int a1), some (.int a2), some (.int a3), some (.int a4), some (.int 12), none] [] S D63 (z_ko (z_kI S)) (F_X11_feed_J23xxxxxxxx a3 a4 D63) := by
    intro D63
    unfold F_X11_feed_J23xxxxxxxx
    refine z_iload (i := 6) (x := 12) dX11_feed_23 rfl ?_
    refine z_bipush (v := 20) dX11_feed_25 (by decide) ?_
    refine z_icmp_geN 120 dX11_feed_27 (by decide) (by decide) ?_
    refine z_iload (i := 6) (x := 12) dX11_feed_30 rfl ?_
    refine z_iconst (v := 4) dX11_feed_32 rfl ?_
    refine z_icmp_geJ 40 dX11_feed_33 (by decide) (by decide) ?_
    refine z_iload (i := 6) (x := 12) dX11_feed_40 rfl ?_
    refine z_bipush (v := 8) dX11_feed_42 (by decide) ?_
    refine z_icmp_geJ 51 dX11_feed_44 (by decide) (by decide) ?_
    refine z_iload (i := 6) (x := 12) dX11_feed_51 rfl ?_
    refine z_bipush (v := 12) dX11_feed_53 (by decide) ?_
    refine z_icmp_geJ 62 dX11_feed_55 (by decide) (by decide) ?_
    refine z_iload (i := 6) (x := 12) dX11_feed_62 rfl ?_
    refine z_bipush (v := 16) dX11_feed_64 (by decide) ?_
    refine z_icmp_geN 74 dX11_feed_66 (by decide) (by decide) ?_
    refine z_iload (i := 4) (x := a3) dX11_feed_69 rfl ?_
    refine z_goto 76 dX11_feed_71 (by decide) ?_
    exact hJ_F_X11_feed_J76xxxxxxx a3 D63
  have hJ_F_X11_feed_J76xxxxxxxx : ∀ (v59 : Int32) (D60 : z_Dat) , z_F l M_X11_feed (20, 520, 0, 0) 0 0 76 [some (.ref 40), some (.int a0), some (.int a1), some (.int a2), some (.int a3), some (.int a4), some (.int 11), none] [.int v59] S D60 (z_ko (z_kI S)) (F_X11_feed_J76xxxxxxxx a3 a4 v59 D60) := by
    intro v59 D60
    unfold F_X11_feed_J76xxxxxxxx
    refine z_istore (i := 7) (x := v59) (lv' := [some (.ref 40), some (.int a0), some (.int a1), some (.int a2), some (.int a3), some (.int a4), some (.int 11), some (.int v59)]) dX11_feed_76 (by decide) rfl rfl ?_
    refine z_aload_n (i := 0) (x := 40) dX11_feed_78 rfl rfl ?_
    refine z_getR (j := 9) dX11_feed_79 kl_11 hs40 (by decide) rfl rfl kf_X11_20 ?_
    refine z_aload_n (i := 0) (x := 40) dX11_feed_82 rfl rfl ?_
    refine z_getI (j := 2) dX11_feed_83 kl_11 hs40 (by decide) rfl rfl kf_X11_101 ?_
    refine z_iload (i := 7) (x := v59) dX11_feed_86 rfl ?_
    refine z_bipush (v := 24) dX11_feed_88 (by decide) ?_
    refine z_bipush (v := 8) dX11_feed_90 (by decide) ?_
    refine z_iload (i := 6) (x := 11) dX11_feed_92 rfl ?_
    refine z_iconst (v := 4) dX11_feed_94 rfl ?_
    refine z_iremC dX11_feed_95 (by decide) ?_
    refine z_imul dX11_feed_96 ?_
    refine z_isub dX11_feed_97 ?_
    refine z_ishr dX11_feed_98 ?_
    refine z_sipush (v := 255) dX11_feed_99 (by decide) ?_
    refine z_iand dX11_feed_102 ?_
    refine z_iast dX11_feed_103 hs42 (fun D61 => ?_)
    refine z_aload_n (i := 0) (x := 40) dX11_feed_104 rfl rfl ?_
    refine z_dup dX11_feed_105 rfl ?_
    refine z_getI (j := 2) dX11_feed_106 kl_11 hs40 (by decide) rfl rfl kf_X11_101 ?_
    refine z_iconst (v := 1) dX11_feed_109 rfl ?_
    refine z_iadd dX11_feed_110 ?_
    refine z_putI (j := 2) dX11_feed_111 kl_11 tyX11_ok nmX11 hs40 (by decide) rfl rfl rfl rfl rfl rfl kf_X11_101 (fun D62 => ?_)
    refine z_iincC (i := 6) (x := 11) (v := 12) (lv' := [some (.ref 40), some (.int a0), some (.int a1), some (.int a2), some (.int a3), some (.int a4), some (.int 12), some (.int v59)]) dX11_feed_114 rfl (by decide) (by decide) rfl rfl ?_
    refine z_goto 23 dX11_feed_117 (by decide) ?_
    refine z_weak (lv' := [some (.ref 40), some (.int a0), some (.int a1), some (.int a2), some (.int a3), some (.int a4), some (.int 12), none]) ⟨Or.inr rfl, ⟨Or.inr rfl, ⟨Or.inr rfl, ⟨Or.inr rfl, ⟨Or.inr rfl, ⟨Or.inr rfl, ⟨Or.inr rfl, ⟨Or.inl rfl, trivial⟩⟩⟩⟩⟩⟩⟩⟩ ?_
    exact hJ_F_X11_feed_J23xxxxxxxx D62
  have hJ_F_X11_feed_J23xxxxxxxxx : ∀ (D58 : z_Dat) , z_F l M_X11_feed (20, 520, 0, 0) 0 0 23 [some (.ref 40), some (.int a0), some (.int a1), some (.int a2), some (.int a3), some (.int a4), some (.int 11), none] [] S D58 (z_ko (z_kI S)) (F_X11_feed_J23xxxxxxxxx a2 a3 a4 D58) := by
    intro D58
    unfold F_X11_feed_J23xxxxxxxxx
    refine z_iload (i := 6) (x := 11) dX11_feed_23 rfl ?_
    refine z_bipush (v := 20) dX11_feed_25 (by decide) ?_
    refine z_icmp_geN 120 dX11_feed_27 (by decide) (by decide) ?_
    refine z_iload (i := 6) (x := 11) dX11_feed_30 rfl ?_
    refine z_iconst (v := 4) dX11_feed_32 rfl ?_
    refine z_icmp_geJ 40 dX11_feed_33 (by decide) (by decide) ?_
    refine z_iload (i := 6) (x := 11) dX11_feed_40 rfl ?_
    refine z_bipush (v := 8) dX11_feed_42 (by decide) ?_
    refine z_icmp_geJ 51 dX11_feed_44 (by decide) (by decide) ?_
    refine z_iload (i := 6) (x := 11) dX11_feed_51 rfl ?_
    refine z_bipush (v := 12) dX11_feed_53 (by decide) ?_
    refine z_icmp_geN 62 dX11_feed_55 (by decide) (by decide) ?_
    refine z_iload_n (i := 3) (x := a2) dX11_feed_58 rfl rfl ?_
    refine z_goto 76 dX11_feed_59 (by decide) ?_
    exact hJ_F_X11_feed_J76xxxxxxxx a2 D58
  have hJ_F_X11_feed_J76xxxxxxxxx : ∀ (v54 : Int32) (D55 : z_Dat) , z_F l M_X11_feed (20, 520, 0, 0) 0 0 76 [some (.ref 40), some (.int a0), some (.int a1), some (.int a2), some (.int a3), some (.int a4), some (.int 10), none] [.int v54] S D55 (z_ko (z_kI S)) (F_X11_feed_J76xxxxxxxxx a2 a3 a4 v54 D55) := by
    intro v54 D55
    unfold F_X11_feed_J76xxxxxxxxx
    refine z_istore (i := 7) (x := v54) (lv' := [some (.ref 40), some (.int a0), some (.int a1), some (.int a2), some (.int a3), some (.int a4), some (.int 10), some (.int v54)]) dX11_feed_76 (by decide) rfl rfl ?_
    refine z_aload_n (i := 0) (x := 40) dX11_feed_78 rfl rfl ?_
    refine z_getR (j := 9) dX11_feed_79 kl_11 hs40 (by decide) rfl rfl kf_X11_20 ?_
    refine z_aload_n (i := 0) (x := 40) dX11_feed_82 rfl rfl ?_
    refine z_getI (j := 2) dX11_feed_83 kl_11 hs40 (by decide) rfl rfl kf_X11_101 ?_
    refine z_iload (i := 7) (x := v54) dX11_feed_86 rfl ?_
    refine z_bipush (v := 24) dX11_feed_88 (by decide) ?_
    refine z_bipush (v := 8) dX11_feed_90 (by decide) ?_
    refine z_iload (i := 6) (x := 10) dX11_feed_92 rfl ?_
    refine z_iconst (v := 4) dX11_feed_94 rfl ?_
    refine z_iremC dX11_feed_95 (by decide) ?_
    refine z_imul dX11_feed_96 ?_
    refine z_isub dX11_feed_97 ?_
    refine z_ishr dX11_feed_98 ?_
    refine z_sipush (v := 255) dX11_feed_99 (by decide) ?_
    refine z_iand dX11_feed_102 ?_
    refine z_iast dX11_feed_103 hs42 (fun D56 => ?_)
    refine z_aload_n (i := 0) (x := 40) dX11_feed_104 rfl rfl ?_
    refine z_dup dX11_feed_105 rfl ?_
    refine z_getI (j := 2) dX11_feed_106 kl_11 hs40 (by decide) rfl rfl kf_X11_101 ?_
    refine z_iconst (v := 1) dX11_feed_109 rfl ?_
    refine z_iadd dX11_feed_110 ?_
    refine z_putI (j := 2) dX11_feed_111 kl_11 tyX11_ok nmX11 hs40 (by decide) rfl rfl rfl rfl rfl rfl kf_X11_101 (fun D57 => ?_)
    refine z_iincC (i := 6) (x := 10) (v := 11) (lv' := [some (.ref 40), some (.int a0), some (.int a1), some (.int a2), some (.int a3), some (.int a4), some (.int 11), some (.int v54)]) dX11_feed_114 rfl (by decide) (by decide) rfl rfl ?_
    refine z_goto 23 dX11_feed_117 (by decide) ?_
    refine z_weak (lv' := [some (.ref 40), some (.int a0), some (.int a1), some (.int a2), some (.int a3), some (.int a4), some (.int 11), none]) ⟨Or.inr rfl, ⟨Or.inr rfl, ⟨Or.inr rfl, ⟨Or.inr rfl, ⟨Or.inr rfl, ⟨Or.inr rfl, ⟨Or.inr rfl, ⟨Or.inl rfl, trivial⟩⟩⟩⟩⟩⟩⟩⟩ ?_
    exact hJ_F_X11_feed_J23xxxxxxxxx D57
  have hJ_F_X11_feed_J23xxxxxxxxxx : ∀ (D53 : z_Dat) , z_F l M_X11_feed (20, 520, 0, 0) 0 0 23 [some (.ref 40), some (.int a0), some (.int a1), some (.int a2), some (.int a3), some (.int a4), some (.int 10), none] [] S D53 (z_ko (z_kI S)) (F_X11_feed_J23xxxxxxxxxx a2 a3 a4 D53) := by
    intro D53
    unfold F_X11_feed_J23xxxxxxxxxx
    refine z_iload (i := 6) (x := 10) dX11_feed_23 rfl ?_
    refine z_bipush (v := 20) dX11_feed_25 (by decide) ?_
    refine z_icmp_geN 120 dX11_feed_27 (by decide) (by decide) ?_
    refine z_iload (i := 6) (x := 10) dX11_feed_30 rfl ?_
    refine z_iconst (v := 4) dX11_feed_32 rfl ?_
    refine z_icmp_geJ 40 dX11_feed_33 (by decide) (by decide) ?_
    refine z_iload (i := 6) (x := 10) dX11_feed_40 rfl ?_
    refine z_bipush (v := 8) dX11_feed_42 (by decide) ?_
    refine z_icmp_geJ 51 dX11_feed_44 (by decide) (by decide) ?_
    refine z_iload (i := 6) (x := 10) dX11_feed_51 rfl ?_
    refine z_bipush (v := 12) dX11_feed_53 (by decide) ?_
    refine z_icmp_geN 62 dX11_feed_55 (by decide) (by decide) ?_
    refine z_iload_n (i := 3) (x := a2) dX11_feed_58 rfl rfl ?_
    refine z_goto 76 dX11_feed_59 (by decide) ?_
    exact hJ_F_X11_feed_J76xxxxxxxxx a2 D53
  have hJ_F_X11_feed_J76xxxxxxxxxx : ∀ (v49 : Int32) (D50 : z_Dat) , z_F l M_X11_feed (20, 520, 0, 0) 0 0 76 [some (.ref 40), some (.int a0), some (.int a1), some (.int a2), some (.int a3), some (.int a4), some (.int 9), none] [.int v49] S D50 (z_ko (z_kI S)) (F_X11_feed_J76xxxxxxxxxx a2 a3 a4 v49 D50) := by
    intro v49 D50
    unfold F_X11_feed_J76xxxxxxxxxx
    refine z_istore (i := 7) (x := v49) (lv' := [some (.ref 40), some (.int a0), some (.int a1), some (.int a2), some (.int a3), some (.int a4), some (.int 9), some (.int v49)]) dX11_feed_76 (by decide) rfl rfl ?_
    refine z_aload_n (i := 0) (x := 40) dX11_feed_78 rfl rfl ?_
    refine z_getR (j := 9) dX11_feed_79 kl_11 hs40 (by decide) rfl rfl kf_X11_20 ?_
    refine z_aload_n (i := 0) (x := 40) dX11_feed_82 rfl rfl ?_
    refine z_getI (j := 2) dX11_feed_83 kl_11 hs40 (by decide) rfl rfl kf_X11_101 ?_
    refine z_iload (i := 7) (x := v49) dX11_feed_86 rfl ?_
    refine z_bipush (v := 24) dX11_feed_88 (by decide) ?_
    refine z_bipush (v := 8) dX11_feed_90 (by decide) ?_
    refine z_iload (i := 6) (x := 9) dX11_feed_92 rfl ?_
    refine z_iconst (v := 4) dX11_feed_94 rfl ?_
    refine z_iremC dX11_feed_95 (by decide) ?_
    refine z_imul dX11_feed_96 ?_
    refine z_isub dX11_feed_97 ?_
    refine z_ishr dX11_feed_98 ?_
    refine z_sipush (v := 255) dX11_feed_99 (by decide) ?_
    refine z_iand dX11_feed_102 ?_
    refine z_iast dX11_feed_103 hs42 (fun D51 => ?_)
    refine z_aload_n (i := 0) (x := 40) dX11_feed_104 rfl rfl ?_
    refine z_dup dX11_feed_105 rfl ?_
    refine z_getI (j := 2) dX11_feed_106 kl_11 hs40 (by decide) rfl rfl kf_X11_101 ?_
    refine z_iconst (v := 1) dX11_feed_109 rfl ?_
    refine z_iadd dX11_feed_110 ?_
    refine z_putI (j := 2) dX11_feed_111 kl_11 tyX11_ok nmX11 hs40 (by decide) rfl rfl rfl rfl rfl rfl kf_X11_101 (fun D52 => ?_)
    refine z_iincC (i := 6) (x := 9) (v := 10) (lv' := [some (.ref 40), some (.int a0), some (.int a1), some (.int a2), some (.int a3), some (.int a4), some (.int 10), some (.int v49)]) dX11_feed_114 rfl (by decide) (by decide) rfl rfl ?_
    refine z_goto 23 dX11_feed_117 (by decide) ?_
    refine z_weak (lv' := [some (.ref 40), some (.int a0), some (.int a1), some (.int a2), some (.int a3), some (.int a4), some (.int 10), none]) ⟨Or.inr rfl, ⟨Or.inr rfl, ⟨Or.inr rfl, ⟨Or.inr rfl, ⟨Or.inr rfl, ⟨Or.inr rfl, ⟨Or.inr rfl, ⟨Or.inl rfl, trivial⟩⟩⟩⟩⟩⟩⟩⟩ ?_
    exact hJ_F_X11_feed_J23xxxxxxxxxx D52
  have hJ_F_X11_feed_J23xxxxxxxxxxx : ∀ (D48 : z_Dat) , z_F l M_X11_feed (20, 520, 0, 0) 0 0 23 [some (.ref 40), some (.int a0), some (.int a1), some (.int a2), some (.int a3), some (.int a4), some (.int 9), none] [] S D48 (z_ko (z_kI S)) (F_X11_feed_J23xxxxxxxxxxx a2 a3 a4 D48) := by
    intro D48
    unfold F_X11_feed_J23xxxxxxxxxxx
    refine z_iload (i := 6) (x := 9) dX11_feed_23 rfl ?_
    refine z_bipush (v := 20) dX11_feed_25 (by decide) ?_
    refine z_icmp_geN 120 dX11_feed_27 (by decide) (by decide) ?_
    refine z_iload (i := 6) (x := 9) dX11_feed_30 rfl ?_
    refine z_iconst (v := 4) dX11_feed_32 rfl ?_
    refine z_icmp_geJ 40 dX11_feed_33 (by decide) (by decide) ?_
    refine z_iload (i := 6) (x := 9) dX11_feed_40 rfl ?_
    refine z_bipush (v := 8) dX11_feed_42 (by decide) ?_
    refine z_icmp_geJ 51 dX11_feed_44 (by decide) (by decide) ?_
    refine z_iload (i := 6) (x := 9) dX11_feed_51 rfl ?_
    refine z_bipush (v := 12) dX11_feed_53 (by decide) ?_
    refine z_icmp_geN 62 dX11_feed_55 (by decide) (by decide) ?_
    refine z_iload_n (i := 3) (x := a2) dX11_feed_58 rfl rfl ?_
    refine z_goto 76 dX11_feed_59 (by decide) ?_
    exact hJ_F_X11_feed_J76xxxxxxxxxx a2 D48
  have hJ_F_X11_feed_J76xxxxxxxxxxx : ∀ (v44 : Int32) (D45 : z_Dat) , z_F l M_X11_feed (20, 520, 0, 0) 0 0 76 [some (.ref 40), some (.int a0), some (.int a1), some (.int a2), some (.int a3), some (.int a4), some (.int 8), none] [.int v44] S D45 (z_ko (z_kI S)) (F_X11_feed_J76xxxxxxxxxxx a2 a3 a4 v44 D45) := by
    intro v44 D45
    unfold F_X11_feed_J76xxxxxxxxxxx
    refine z_istore (i := 7) (x := v44) (lv' := [some (.ref 40), some (.int a0), some (.int a1), some (.int a2), some (.int a3), some (.int a4), some (.int 8), some (.int v44)]) dX11_feed_76 (by decide) rfl rfl ?_
    refine z_aload_n (i := 0) (x := 40) dX11_feed_78 rfl rfl ?_
    refine z_getR (j := 9) dX11_feed_79 kl_11 hs40 (by decide) rfl rfl kf_X11_20 ?_
    refine z_aload_n (i := 0) (x := 40) dX11_feed_82 rfl rfl ?_
    refine z_getI (j := 2) dX11_feed_83 kl_11 hs40 (by decide) rfl rfl kf_X11_101 ?_
    refine z_iload (i := 7) (x := v44) dX11_feed_86 rfl ?_
    refine z_bipush (v := 24) dX11_feed_88 (by decide) ?_
    refine z_bipush (v := 8) dX11_feed_90 (by decide) ?_
    refine z_iload (i := 6) (x := 8) dX11_feed_92 rfl ?_
    refine z_iconst (v := 4) dX11_feed_94 rfl ?_
    refine z_iremC dX11_feed_95 (by decide) ?_
    refine z_imul dX11_feed_96 ?_
    refine z_isub dX11_feed_97 ?_
    refine z_ishr dX11_feed_98 ?_
    refine z_sipush (v := 255) dX11_feed_99 (by decide) ?_
    refine z_iand dX11_feed_102 ?_
    refine z_iast dX11_feed_103 hs42 (fun D46 => ?_)
    refine z_aload_n (i := 0) (x := 40) dX11_feed_104 rfl rfl ?_
    refine z_dup dX11_feed_105 rfl ?_
    refine z_getI (j := 2) dX11_feed_106 kl_11 hs40 (by decide) rfl rfl kf_X11_101 ?_
    refine z_iconst (v := 1) dX11_feed_109 rfl ?_
    refine z_iadd dX11_feed_110 ?_
    refine z_putI (j := 2) dX11_feed_111 kl_11 tyX11_ok nmX11 hs40 (by decide) rfl rfl rfl rfl rfl rfl kf_X11_101 (fun D47 => ?_)
    refine z_iincC (i := 6) (x := 8) (v := 9) (lv' := [some (.ref 40), some (.int a0), some (.int a1), some (.int a2), some (.int a3), some (.int a4), some (.int 9), some (.int v44)]) dX11_feed_114 rfl (by decide) (by decide) rfl rfl ?_
    refine z_goto 23 dX11_feed_117 (by decide) ?_
    refine z_weak (lv' := [some (.ref 40), some (.int a0), some (.int a1), some (.int a2), some (.int a3), some (.int a4), some (.int 9), none]) ⟨Or.inr rfl, ⟨Or.inr rfl, ⟨Or.inr rfl, ⟨Or.inr rfl, ⟨Or.inr rfl, ⟨Or.inr rfl, ⟨Or.inr rfl, ⟨Or.inl rfl, trivial⟩⟩⟩⟩⟩⟩⟩⟩ ?_
    exact hJ_F_X11_feed_J23xxxxxxxxxxx D47
  have hJ_F_X11_feed_J23xxxxxxxxxxxx : ∀ (D43 : z_Dat) , z_F l M_X11_feed (20, 520, 0, 0) 0 0 23 [some (.ref 40), some (.int a0), some (.int a1), some (.int a2), some (.int a3), some (.int a4), some (.int 8), none] [] S D43 (z_ko (z_kI S)) (F_X11_feed_J23xxxxxxxxxxxx a2 a3 a4 D43) := by
    intro D43
    unfold F_X11_feed_J23xxxxxxxxxxxx
    refine z_iload (i := 6) (x := 8) dX11_feed_23 rfl ?_
    refine z_bipush (v := 20) dX11_feed_25 (by decide) ?_
    refine z_icmp_geN 120 dX11_feed_27 (by decide) (by decide) ?_
    refine z_iload (i := 6) (x := 8) dX11_feed_30 rfl ?_
    refine z_iconst (v := 4) dX11_feed_32 rfl ?_
    refine z_icmp_geJ 40 dX11_feed_33 (by decide) (by decide) ?_
    refine z_iload (i := 6) (x := 8) dX11_feed_40 rfl ?_
    refine z_bipush (v := 8) dX11_feed_42 (by decide) ?_
    refine z_icmp_geJ 51 dX11_feed_44 (by decide) (by decide) ?_
    refine z_iload (i := 6) (x := 8) dX11_feed_51 rfl ?_
    refine z_bipush (v := 12) dX11_feed_53 (by decide) ?_
    refine z_icmp_geN 62 dX11_feed_55 (by decide) (by decide) ?_
    refine z_iload_n (i := 3) (x := a2) dX11_feed_58 rfl rfl ?_
    refine z_goto 76 dX11_feed_59 (by decide) ?_
    exact hJ_F_X11_feed_J76xxxxxxxxxxx a2 D43
  have hJ_F_X11_feed_J76xxxxxxxxxxxx : ∀ (v39 : Int32) (D40 : z_Dat) , z_F l M_X11_feed (20, 520, 0, 0) 0 0 76 [some (.ref 40), some (.int a0), some (.int a1), some (.int a2), some (.int a3), some (.int a4), some (.int 7), none] [.int v39] S D40 (z_ko (z_kI S)) (F_X11_feed_J76xxxxxxxxxxxx a2 a3 a4 v39 D40) := by
    intro v39 D40
    unfold F_X11_feed_J76xxxxxxxxxxxx
    refine z_istore (i := 7) (x := v39) (lv' := [some (.ref 40), some (.int a0), some (.int a1), some (.int a2), some (.int a3), some (.int a4), some (.int 7), some (.int v39)]) dX11_feed_76 (by decide) rfl rfl ?_
    refine z_aload_n (i := 0) (x := 40) dX11_feed_78 rfl rfl ?_
    refine z_getR (j := 9) dX11_feed_79 kl_11 hs40 (by decide) rfl rfl kf_X11_20 ?_
    refine z_aload_n (i := 0) (x := 40) dX11_feed_82 rfl rfl ?_
    refine z_getI (j := 2) dX11_feed_83 kl_11 hs40 (by decide) rfl rfl kf_X11_101 ?_
    refine z_iload (i := 7) (x := v39) dX11_feed_86 rfl ?_
    refine z_bipush (v := 24) dX11_feed_88 (by decide) ?_
    refine z_bipush (v := 8) dX11_feed_90 (by decide) ?_
    refine z_iload (i := 6) (x := 7) dX11_feed_92 rfl ?_
    refine z_iconst (v := 4) dX11_feed_94 rfl ?_
    refine z_iremC dX11_feed_95 (by decide) ?_
    refine z_imul dX11_feed_96 ?_
    refine z_isub dX11_feed_97 ?_
    refine z_ishr dX11_feed_98 ?_
    refine z_sipush (v := 255) dX11_feed_99 (by decide) ?_
    refine z_iand dX11_feed_102 ?_
    refine z_iast dX11_feed_103 hs42 (fun D41 => ?_)
    refine z_aload_n (i := 0) (x := 40) dX11_feed_104 rfl rfl ?_
    refine z_dup dX11_feed_105 rfl ?_
    refine z_getI (j := 2) dX11_feed_106 kl_11 hs40 (by decide) rfl rfl kf_X11_101 ?_
    refine z_iconst (v := 1) dX11_feed_109 rfl ?_
    refine z_iadd dX11_feed_110 ?_
    refine z_putI (j := 2) dX11_feed_111 kl_11 tyX11_ok nmX11 hs40 (by decide) rfl rfl rfl rfl rfl rfl kf_X11_101 (fun D42 => ?_)
    refine z_iincC (i := 6) (x := 7) (v := 8) (lv' := [some (.ref 40), some (.int a0), some (.int a1), some (.int a2), some (.int a3), some (.int a4), some (.int 8), some (.int v39)]) dX11_feed_114 rfl (by decide) (by decide) rfl rfl ?_
    refine z_goto 23 dX11_feed_117 (by decide) ?_
    refine z_weak (lv' := [some (.ref 40), some (.int a0), some (.int a1), some (.int a2), some (.int a3), some (.int a4), some (.int 8), none]) ⟨Or.inr rfl, ⟨Or.inr rfl, ⟨Or.inr rfl, ⟨Or.inr rfl, ⟨Or.inr rfl, ⟨Or.inr rfl, ⟨Or.inr rfl, ⟨Or.inl rfl, trivial⟩⟩⟩⟩⟩⟩⟩⟩ ?_
    exact hJ_F_X11_feed_J23xxxxxxxxxxxx D42
  have hJ_F_X11_feed_J23xxxxxxxxxxxxx : ∀ (D38 : z_Dat) , z_F l M_X11_feed (20, 520, 0, 0) 0 0 23 [some (.ref 40), some (.int a0), some (.int a1), some (.int a2), some (.int a3), some (.int a4), some (.int 7), none] [] S D38 (z_ko (z_kI S)) (F_X11_feed_J23xxxxxxxxxxxxx a1 a2 a3 a4 D38) := by
    intro D38
    unfold F_X11_feed_J23xxxxxxxxxxxxx
    refine z_iload (i := 6) (x := 7) dX11_feed_23 rfl ?_
    refine z_bipush (v := 20) dX11_feed_25 (by decide) ?_
    refine z_icmp_geN 120 dX11_feed_27 (by decide) (by decide) ?_
    refine z_iload (i := 6) (x := 7) dX11_feed_30 rfl ?_
    refine z_iconst (v := 4) dX11_feed_32 rfl ?_
    refine z_icmp_geJ 40 dX11_feed_33 (by decide) (by decide) ?_
    refine z_iload (i := 6) (x := 7) dX11_feed_40 rfl ?_
    refine z_bipush (v := 8) dX11_feed_42 (by decide) ?_
    refine z_icmp_geN 51 dX11_feed_44 (by decide) (by decide) ?_
    refine z_iload_n (i := 2) (x := a1) dX11_feed_47 rfl rfl ?_
    refine z_goto 76 dX11_feed_48 (by decide) ?_
    exact hJ_F_X11_feed_J76xxxxxxxxxxxx a1 D38
  have hJ_F_X11_feed_J76xxxxxxxxxxxxx : ∀ (v34 : Int32) (D35 : z_Dat) , z_F l M_X11_feed (20, 520, 0, 0) 0 0 76 [some (.ref 40), some (.int a0), some (.int a1), some (.int a2), some (.int a3), some (.int a4), some (.int 6), none] [.int v34] S D35 (z_ko (z_kI S)) (F_X11_feed_J76xxxxxxxxxxxxx a1 a2 a3 a4 v34 D35) := by
    intro v34 D35
    unfold F_X11_feed_J76xxxxxxxxxxxxx
    refine z_istore (i := 7) (x := v34) (lv' := [some (.ref 40), some (.int a0), some (.int a1), some (.int a2), some (.int a3), some (.int a4), some (.int 6), some (.int v34)]) dX11_feed_76 (by decide) rfl rfl ?_
    refine z_aload_n (i := 0) (x := 40) dX11_feed_78 rfl rfl ?_
    refine z_getR (j := 9) dX11_feed_79 kl_11 hs40 (by decide) rfl rfl kf_X11_20 ?_
    refine z_aload_n (i := 0) (x := 40) dX11_feed_82 rfl rfl ?_
    refine z_getI (j := 2) dX11_feed_83 kl_11 hs40 (by decide) rfl rfl kf_X11_101 ?_
    refine z_iload (i := 7) (x := v34) dX11_feed_86 rfl ?_
    refine z_bipush (v := 24) dX11_feed_88 (by decide) ?_
    refine z_bipush (v := 8) dX11_feed_90 (by decide) ?_
    refine z_iload (i := 6) (x := 6) dX11_feed_92 rfl ?_
    refine z_iconst (v := 4) dX11_feed_94 rfl ?_
    refine z_iremC dX11_feed_95 (by decide) ?_
    refine z_imul dX11_feed_96 ?_
    refine z_isub dX11_feed_97 ?_
    refine z_ishr dX11_feed_98 ?_
    refine z_sipush (v := 255) dX11_feed_99 (by decide) ?_
    refine z_iand dX11_feed_102 ?_
    refine z_iast dX11_feed_103 hs42 (fun D36 => ?_)
    refine z_aload_n (i := 0) (x := 40) dX11_feed_104 rfl rfl ?_
    refine z_dup dX11_feed_105 rfl ?_
    refine z_getI (j := 2) dX11_feed_106 kl_11 hs40 (by decide) rfl rfl kf_X11_101 ?_
    refine z_iconst (v := 1) dX11_feed_109 rfl ?_
    refine z_iadd dX11_feed_110 ?_
    refine z_putI (j := 2) dX11_feed_111 kl_11 tyX11_ok nmX11 hs40 (by decide) rfl rfl rfl rfl rfl rfl kf_X11_101 (fun D37 => ?_)
    refine z_iincC (i := 6) (x := 6) (v := 7) (lv' := [some (.ref 40), some (.int a0), some (.int a1), some (.int a2), some (.int a3), some (.int a4), some (.int 7), some (.int v34)]) dX11_feed_114 rfl (by decide) (by decide) rfl rfl ?_
    refine z_goto 23 dX11_feed_117 (by decide) ?_
    refine z_weak (lv' := [some (.ref 40), some (.int a0), some (.int a1), some (.int a2), some (.int a3), some (.int a4), some (.int 7), none]) ⟨Or.inr rfl, ⟨Or.inr rfl, ⟨Or.inr rfl, ⟨Or.inr rfl, ⟨Or.inr rfl, ⟨Or.inr rfl, ⟨Or.inr rfl, ⟨Or.inl rfl, trivial⟩⟩⟩⟩⟩⟩⟩⟩ ?_
    exact hJ_F_X11_feed_J23xxxxxxxxxxxxx D37
  have hJ_F_X11_feed_J23xxxxxxxxxxxxxx : ∀ (D33 : z_Dat) , z_F l M_X11_feed (20, 520, 0, 0) 0 0 23 [some (.ref 40), some (.int a0), some (.int a1), some (.int a2), some (.int a3), some (.int a4), some (.int 6), none] [] S D33 (z_ko (z_kI S)) (F_X11_feed_J23xxxxxxxxxxxxxx a1 a2 a3 a4 D33) := by
    intro D33
    unfold F_X11_feed_J23xxxxxxxxxxxxxx
    refine z_iload (i := 6) (x := 6) dX11_feed_23 rfl ?_
    refine z_bipush (v := 20) dX11_feed_25 (by decide) ?_
    refine z_icmp_geN 120 dX11_feed_27 (by decide) (by decide) ?_
    refine z_iload (i := 6) (x := 6) dX11_feed_30 rfl ?_
    refine z_iconst (v := 4) dX11_feed_32 rfl ?_
    refine z_icmp_geJ 40 dX11_feed_33 (by decide) (by decide) ?_
    refine z_iload (i := 6) (x := 6) dX11_feed_40 rfl ?_
    refine z_bipush (v := 8) dX11_feed_42 (by decide) ?_
    refine z_icmp_geN 51 dX11_feed_44 (by decide) (by decide) ?_
    refine z_iload_n (i := 2) (x := a1) dX11_feed_47 rfl rfl ?_
    refine z_goto 76 dX11_feed_48 (by decide) ?_
    exact hJ_F_X11_feed_J76xxxxxxxxxxxxx a1 D33
  have hJ_F_X11_feed_J76xxxxxxxxxxxxxx : ∀ (v29 : Int32) (D30 : z_Dat) , z_F l M_X11_feed (20, 520, 0, 0) 0 0 76 [some (.ref 40), some (.int a0), some (.int a1), some (.int a2), some (.int a3), some (.int a4), some (.int 5), none] [.int v29] S D30 (z_ko (z_kI S)) (F_X11_feed_J76xxxxxxxxxxxxxx a1 a2 a3 a4 v29 D30) := by
    intro v29 D30
    unfold F_X11_feed_J76xxxxxxxxxxxxxx
    refine z_istore (i := 7) (x := v29) (lv' := [some (.ref 40), some (.int a0), some (.int a1), some (.int a2), some (.int a3), some (.int a4), some (.int 5), some (.int v29)]) dX11_feed_76 (by decide) rfl rfl ?_
    refine z_aload_n (i := 0) (x := 40) dX11_feed_78 rfl rfl ?_
    refine z_getR (j := 9) dX11_feed_79 kl_11 hs40 (by decide) rfl rfl kf_X11_20 ?_
    refine z_aload_n (i := 0) (x := 40) dX11_feed_82 rfl rfl ?_
    refine z_getI (j := 2) dX11_feed_83 kl_11 hs40 (by decide) rfl rfl kf_X11_101 ?_
    refine z_iload (i := 7) (x := v29) dX11_feed_86 rfl ?_
    refine z_bipush (v := 24) dX11_feed_88 (by decide) ?_
    refine z_bipush (v := 8) dX11_feed_90 (by decide) ?_
    refine z_iload (i := 6) (x := 5) dX11_feed_92 rfl ?_
    refine z_iconst (v := 4) dX11_feed_94 rfl ?_
    refine z_iremC dX11_feed_95 (by decide) ?_
    refine z_imul dX11_feed_96 ?_
    refine z_isub dX11_feed_97 ?_
    refine z_ishr dX11_feed_98 ?_
    refine z_sipush (v := 255) dX11_feed_99 (by decide) ?_
    refine z_iand dX11_feed_102 ?_
    refine z_iast dX11_feed_103 hs42 (fun D31 => ?_)
    refine z_aload_n (i := 0) (x := 40) dX11_feed_104 rfl rfl ?_
    refine z_dup dX11_feed_105 rfl ?_
    refine z_getI (j := 2) dX11_feed_106 kl_11 hs40 (by decide) rfl rfl kf_X11_101 ?_
    refine z_iconst (v := 1) dX11_feed_109 rfl ?_
    refine z_iadd dX11_feed_110 ?_
    refine z_putI (j := 2) dX11_feed_111 kl_11 tyX11_ok nmX11 hs40 (by decide) rfl rfl rfl rfl rfl rfl kf_X11_101 (fun D32 => ?_)
    refine z_iincC (i := 6) (x := 5) (v := 6) (lv' := [some (.ref 40), some (.int a0), some (.int a1), some (.int a2), some (.int a3), some (.int a4), some (.int 6), some (.int v29)]) dX11_feed_114 rfl (by decide) (by decide) rfl rfl ?_
    refine z_goto 23 dX11_feed_117 (by decide) ?_
    refine z_weak (lv' := [some (.ref 40), some (.int a0), some (.int a1), some (.int a2), some (.int a3), some (.int a4), some (.int 6), none]) ⟨Or.inr rfl, ⟨Or.inr rfl, ⟨Or.inr rfl, ⟨Or.inr rfl, ⟨Or.inr rfl, ⟨Or.inr rfl, ⟨Or.inr rfl, ⟨Or.inl rfl, trivial⟩⟩⟩⟩⟩⟩⟩⟩ ?_
    exact hJ_F_X11_feed_J23xxxxxxxxxxxxxx D32
  have hJ_F_X11_feed_J23xxxxxxxxxxxxxxx : ∀ (D28 : z_Dat) , z_F l M_X11_feed (20, 520, 0, 0) 0 0 23 [some (.ref 40), some (.int a0), some (.int a1), some (.int a2), some (.int a3), some (.int a4), some (.int 5), none] [] S D28 (z_ko (z_kI S)) (F_X11_feed_J23xxxxxxxxxxxxxxx a1 a2 a3 a4 D28) := by
    intro D28
    unfold F_X11_feed_J23xxxxxxxxxxxxxxx
    refine z_iload (i := 6) (x := 5) dX11_feed_23 rfl ?_
    refine z_bipush (v := 20) dX11_feed_25 (by decide) ?_
    refine z_icmp_geN 120 dX11_feed_27 (by decide) (by decide) ?_
    refine z_iload (i := 6) (x := 5) dX11_feed_30 rfl ?_
    refine z_iconst (v := 4) dX11_feed_32 rfl ?_
    refine z_icmp_geJ 40 dX11_feed_33 (by decide) (by decide) ?_
    refine z_iload (i := 6) (x := 5) dX11_feed_40 rfl ?_
    refine z_bipush (v := 8) dX11_feed_42 (by decide) ?_
    refine z_icmp_geN 51 dX11_feed_44 (by decide) (by decide) ?_
    refine z_iload_n (i := 2) (x := a1) dX11_feed_47 rfl rfl ?_
    refine z_goto 76 dX11_feed_48 (by decide) ?_
    exact hJ_F_X11_feed_J76xxxxxxxxxxxxxx a1 D28
  have hJ_F_X11_feed_J76xxxxxxxxxxxxxxx : ∀ (v24 : Int32) (D25 : z_Dat) , z_F l M_X11_feed (20, 520, 0, 0) 0 0 76 [some (.ref 40), some (.int a0), some (.int a1), some (.int a2), some (.int a3), some (.int a4), some (.int 4), none] [.int v24] S D25 (z_ko (z_kI S)) (F_X11_feed_J76xxxxxxxxxxxxxxx a1 a2 a3 a4 v24 D25) := by
    intro v24 D25
    unfold F_X11_feed_J76xxxxxxxxxxxxxxx
    refine z_istore (i := 7) (x := v24) (lv' := [some (.ref 40), some (.int a0), some (.int a1), some (.int a2), some (.int a3), some (.int a4), some (.int 4), some (.int v24)]) dX11_feed_76 (by decide) rfl rfl ?_
    refine z_aload_n (i := 0) (x := 40) dX11_feed_78 rfl rfl ?_
    refine z_getR (j := 9) dX11_feed_79 kl_11 hs40 (by decide) rfl rfl kf_X11_20 ?_
    refine z_aload_n (i := 0) (x := 40) dX11_feed_82 rfl rfl ?_
    refine z_getI (j := 2) dX11_feed_83 kl_11 hs40 (by decide) rfl rfl kf_X11_101 ?_
    refine z_iload (i := 7) (x := v24) dX11_feed_86 rfl ?_
    refine z_bipush (v := 24) dX11_feed_88 (by decide) ?_
    refine z_bipush (v := 8) dX11_feed_90 (by decide) ?_
    refine z_iload (i := 6) (x := 4) dX11_feed_92 rfl ?_
    refine z_iconst (v := 4) dX11_feed_94 rfl ?_
    refine z_iremC dX11_feed_95 (by decide) ?_
    refine z_imul dX11_feed_96 ?_
    refine z_isub dX11_feed_97 ?_
    refine z_ishr dX11_feed_98 ?_
    refine z_sipush (v := 255) dX11_feed_99 (by decide) ?_
    refine z_iand dX11_feed_102 ?_
    refine z_iast dX11_feed_103 hs42 (fun D26 => ?_)
    refine z_aload_n (i := 0) (x := 40) dX11_feed_104 rfl rfl ?_
    refine z_dup dX11_feed_105 rfl ?_
    refine z_getI (j := 2) dX11_feed_106 kl_11 hs40 (by decide) rfl rfl kf_X11_101 ?_
    refine z_iconst (v := 1) dX11_feed_109 rfl ?_
    refine z_iadd dX11_feed_110 ?_
    refine z_putI (j := 2) dX11_feed_111 kl_11 tyX11_ok nmX11 hs40 (by decide) rfl rfl rfl rfl rfl rfl kf_X11_101 (fun D27 => ?_)
    refine z_iincC (i := 6) (x := 4) (v := 5) (lv' := [some (.ref 40), some (.int a0), some (.int a1), some (.int a2), some (.int a3), some (.int a4), some (.int 5), some (.int v24)]) dX11_feed_114 rfl (by decide) (by decide) rfl rfl ?_
    refine z_goto 23 dX11_feed_117 (by decide) ?_
    refine z_weak (lv' := [some (.ref 40), some (.int a0), some (.int a1), some (.int a2), some (.int a3), some (.int a4), some (.int 5), none]) ⟨Or.inr rfl, ⟨Or.inr rfl, ⟨Or.inr rfl, ⟨Or.inr rfl, ⟨Or.inr rfl, ⟨Or.inr rfl, ⟨Or.inr rfl, ⟨Or.inl rfl, trivial⟩⟩⟩⟩⟩⟩⟩⟩ ?_
    exact hJ_F_X11_feed_J23xxxxxxxxxxxxxxx D27
  have hJ_F_X11_feed_J23xxxxxxxxxxxxxxxx : ∀ (D23 : z_Dat) , z_F l M_X11_feed (20, 520, 0, 0) 0 0 23 [some (.ref 40), some (.int a0), some (.int a1), some (.int a2), some (.int a3), some (.int a4), some (.int 4), none] [] S D23 (z_ko (z_kI S)) (F_X11_feed_J23xxxxxxxxxxxxxxxx a1 a2 a3 a4 D23) := by
    intro D23
    unfold F_X11_feed_J23xxxxxxxxxxxxxxxx
    refine z_iload (i := 6) (x := 4) dX11_feed_23 rfl ?_
    refine z_bipush (v := 20) dX11_feed_25 (by decide) ?_
    refine z_icmp_geN 120 dX11_feed_27 (by decide) (by decide) ?_
    refine z_iload (i := 6) (x := 4) dX11_feed_30 rfl ?_
    refine z_iconst (v := 4) dX11_feed_32 rfl ?_
    refine z_icmp_geJ 40 dX11_feed_33 (by decide) (by decide) ?_
    refine z_iload (i := 6) (x := 4) dX11_feed_40 rfl ?_
    refine z_bipush (v := 8) dX11_feed_42 (by decide) ?_
    refine z_icmp_geN 51 dX11_feed_44 (by decide) (by decide) ?_
    refine z_iload_n (i := 2) (x := a1) dX11_feed_47 rfl rfl ?_
    refine z_goto 76 dX11_feed_48 (by decide) ?_
    exact hJ_F_X11_feed_J76xxxxxxxxxxxxxxx a1 D23
  have hJ_F_X11_feed_J76xxxxxxxxxxxxxxxx : ∀ (v19 : Int32) (D20 : z_Dat) , z_F l M_X11_feed (20, 520, 0, 0) 0 0 76 [some (.ref 40), some (.int a0), some (.int a1), some (.int a2), some (.int a3), some (.int a4), some (.int 3), none] [.int v19] S D20 (z_ko (z_kI S)) (F_X11_feed_J76xxxxxxxxxxxxxxxx a1 a2 a3 a4 v19 D20) := by
    intro v19 D20
    unfold F_X11_feed_J76xxxxxxxxxxxxxxxx
    refine z_istore (i := 7) (x := v19) (lv' := [some (.ref 40), some (.int a0), some (.int a1), some (.int a2), some (.int a3), some (.int a4), some (.int 3), some (.int v19)]) dX11_feed_76 (by decide) rfl rfl ?_
    refine z_aload_n (i := 0) (x := 40) dX11_feed_78 rfl rfl ?_
    refine z_getR (j := 9) dX11_feed_79 kl_11 hs40 (by decide) rfl rfl kf_X11_20 ?_
    refine z_aload_n (i := 0) (x := 40) dX11_feed_82 rfl rfl ?_
    refine z_getI (j := 2) dX11_feed_83 kl_11 hs40 (by decide) rfl rfl kf_X11_101 ?_
    refine z_iload (i := 7) (x := v19) dX11_feed_86 rfl ?_
    refine z_bipush (v := 24) dX11_feed_88 (by decide) ?_
    refine z_bipush (v := 8) dX11_feed_90 (by decide) ?_
    refine z_iload (i := 6) (x := 3) dX11_feed_92 rfl ?_
    refine z_iconst (v := 4) dX11_feed_94 rfl ?_
    refine z_iremC dX11_feed_95 (by decide) ?_
    refine z_imul dX11_feed_96 ?_
    refine z_isub dX11_feed_97 ?_
    refine z_ishr dX11_feed_98 ?_
    refine z_sipush (v := 255) dX11_feed_99 (by decide) ?_
    refine z_iand dX11_feed_102 ?_
    refine z_iast dX11_feed_103 hs42 (fun D21 => ?_)
    refine z_aload_n (i := 0) (x := 40) dX11_feed_104 rfl rfl ?_
    refine z_dup dX11_feed_105 rfl ?_
    refine z_getI (j := 2) dX11_feed_106 kl_11 hs40 (by decide) rfl rfl kf_X11_101 ?_
    refine z_iconst (v := 1) dX11_feed_109 rfl ?_
    refine z_iadd dX11_feed_110 ?_
    refine z_putI (j := 2) dX11_feed_111 kl_11 tyX11_ok nmX11 hs40 (by decide) rfl rfl rfl rfl rfl rfl kf_X11_101 (fun D22 => ?_)
    refine z_iincC (i := 6) (x := 3) (v := 4) (lv' := [some (.ref 40), some (.int a0), some (.int a1), some (.int a2), some (.int a3), some (.int a4), some (.int 4), some (.int v19)]) dX11_feed_114 rfl (by decide) (by decide) rfl rfl ?_
    refine z_goto 23 dX11_feed_117 (by decide) ?_
    refine z_weak (lv' := [some (.ref 40), some (.int a0), some (.int a1), some (.int a2), some (.int a3), some (.int a4), some (.int 4), none]) ⟨Or.inr rfl, ⟨Or.inr rfl, ⟨Or.inr rfl, ⟨Or.inr rfl, ⟨Or.inr rfl, ⟨Or.inr rfl, ⟨Or.inr rfl, ⟨Or.inl rfl, trivial⟩⟩⟩⟩⟩⟩⟩⟩ ?_
    exact hJ_F_X11_feed_J23xxxxxxxxxxxxxxxx D22
  have hJ_F_X11_feed_J23xxxxxxxxxxxxxxxxx : ∀ (D18 : z_Dat) , z_F l M_X11_feed (20, 520, 0, 0) 0 0 23 [some (.ref 40), some (.int a0), some (.int a1), some (.int a2), some (.int a3), some (.int a4), some (.int 3), none] [] S D18 (z_ko (z_kI S)) (F_X11_feed_J23xxxxxxxxxxxxxxxxx a0 a1 a2 a3 a4 D18) := by
    intro D18
    unfold F_X11_feed_J23xxxxxxxxxxxxxxxxx
    refine z_iload (i := 6) (x := 3) dX11_feed_23 rfl ?_
    refine z_bipush (v := 20) dX11_feed_25 (by decide) ?_
    refine z_icmp_geN 120 dX11_feed_27 (by decide) (by decide) ?_
    refine z_iload (i := 6) (x := 3) dX11_feed_30 rfl ?_
    refine z_iconst (v := 4) dX11_feed_32 rfl ?_
    refine z_icmp_geN 40 dX11_feed_33 (by decide) (by decide) ?_
    refine z_iload_n (i := 1) (x := a0) dX11_feed_36 rfl rfl ?_
    refine z_goto 76 dX11_feed_37 (by decide) ?_
    exact hJ_F_X11_feed_J76xxxxxxxxxxxxxxxx a0 D18
  have hJ_F_X11_feed_J76xxxxxxxxxxxxxxxxx : ∀ (v14 : Int32) (D15 : z_Dat) , z_F l M_X11_feed (20, 520, 0, 0) 0 0 76 [some (.ref 40), some (.int a0), some (.int a1), some (.int a2), some (.int a3), some (.int a4), some (.int 2), none] [.int v14] S D15 (z_ko (z_kI S)) (F_X11_feed_J76xxxxxxxxxxxxxxxxx a0 a1 a2 a3 a4 v14 D15) := by
    intro v14 D15
    unfold F_X11_feed_J76xxxxxxxxxxxxxxxxx
    refine z_istore (i := 7) (x := v14) (lv' := [some (.ref 40), some (.int a0), some (.int a1), some (.int a2), some (.int a3), some (.int a4), some (.int 2), some (.int v14)]) dX11_feed_76 (by decide) rfl rfl ?_
    refine z_aload_n (i := 0) (x := 40) dX11_feed_78 rfl rfl ?_
    refine z_getR (j := 9) dX11_feed_79 kl_11 hs40 (by decide) rfl rfl kf_X11_20 ?_
    refine z_aload_n (i := 0) (x := 40) dX11_feed_82 rfl rfl ?_
    refine z_getI (j := 2) dX11_feed_83 kl_11 hs40 (by decide) rfl rfl kf_X11_101 ?_
    refine z_iload (i := 7) (x := v14) dX11_feed_86 rfl ?_
    refine z_bipush (v := 24) dX11_feed_88 (by decide) ?_
    refine z_bipush (v := 8) dX11_feed_90 (by decide) ?_
    refine z_iload (i := 6) (x := 2) dX11_feed_92 rfl ?_
    refine z_iconst (v := 4) dX11_feed_94 rfl ?_
    refine z_iremC dX11_feed_95 (by decide) ?_
    refine z_imul dX11_feed_96 ?_
    refine z_isub dX11_feed_97 ?_
    refine z_ishr dX11_feed_98 ?_
    refine z_sipush (v := 255) dX11_feed_99 (by decide) ?_
    refine z_iand dX11_feed_102 ?_
    refine z_iast dX11_feed_103 hs42 (fun D16 => ?_)
    refine z_aload_n (i := 0) (x := 40) dX11_feed_104 rfl rfl ?_
    refine z_dup dX11_feed_105 rfl ?_
    refine z_getI (j := 2) dX11_feed_106 kl_11 hs40 (by decide) rfl rfl kf_X11_101 ?_
    refine z_iconst (v := 1) dX11_feed_109 rfl ?_
    refine z_iadd dX11_feed_110 ?_
    refine z_putI (j := 2) dX11_feed_111 kl_11 tyX11_ok nmX11 hs40 (by decide) rfl rfl rfl rfl rfl rfl kf_X11_101 (fun D17 => ?_)
    refine z_iincC (i := 6) (x := 2) (v := 3) (lv' := [some (.ref 40), some (.int a0), some (.int a1), some (.int a2), some (.int a3), some (.int a4), some (.int 3), some (.int v14)]) dX11_feed_114 rfl (by decide) (by decide) rfl rfl ?_
    refine z_goto 23 dX11_feed_117 (by decide) ?_
    refine z_weak (lv' := [some (.ref 40), some (.int a0), some (.int a1), some (.int a2), some (.int a3), some (.int a4), some (.int 3), none]) ⟨Or.inr rfl, ⟨Or.inr rfl, ⟨Or.inr rfl, ⟨Or.inr rfl, ⟨Or.inr rfl, ⟨Or.inr rfl, ⟨Or.inr rfl, ⟨Or.inl rfl, trivial⟩⟩⟩⟩⟩⟩⟩⟩ ?_
    exact hJ_F_X11_feed_J23xxxxxxxxxxxxxxxxx D17
  have hJ_F_X11_feed_J23xxxxxxxxxxxxxxxxxx : ∀ (D13 : z_Dat) , z_F l M_X11_feed (20, 520, 0, 0) 0 0 23 [some (.ref 40), some (.int a0), some (.int a1), some (.int a2), some (.int a3), some (.int a4), some (.int 2), none] [] S D13 (z_ko (z_kI S)) (F_X11_feed_J23xxxxxxxxxxxxxxxxxx a0 a1 a2 a3 a4 D13) := by
    intro D13
    unfold F_X11_feed_J23xxxxxxxxxxxxxxxxxx
    refine z_iload (i := 6) (x := 2) dX11_feed_23 rfl ?_
    refine z_bipush (v := 20) dX11_feed_25 (by decide) ?_
    refine z_icmp_geN 120 dX11_feed_27 (by decide) (by decide) ?_
    refine z_iload (i := 6) (x := 2) dX11_feed_30 rfl ?_
    refine z_iconst (v := 4) dX11_feed_32 rfl ?_
    refine z_icmp_geN 40 dX11_feed_33 (by decide) (by decide) ?_
    refine z_iload_n (i := 1) (x := a0) dX11_feed_36 rfl rfl ?_
    refine z_goto 76 dX11_feed_37 (by decide) ?_
    exact hJ_F_X11_feed_J76xxxxxxxxxxxxxxxxx a0 D13
  have hJ_F_X11_feed_J76xxxxxxxxxxxxxxxxxx : ∀ (v9 : Int32) (D10 : z_Dat) , z_F l M_X11_feed (20, 520, 0, 0) 0 0 76 [some (.ref 40), some (.int a0), some (.int a1), some (.int a2), some (.int a3), some (.int a4), some (.int 1), none] [.int v9] S D10 (z_ko (z_kI S)) (F_X11_feed_J76xxxxxxxxxxxxxxxxxx a0 a1 a2 a3 a4 v9 D10) := by
    intro v9 D10
    unfold F_X11_feed_J76xxxxxxxxxxxxxxxxxx
    refine z_istore (i := 7) (x := v9) (lv' := [some (.ref 40), some (.int a0), some (.int a1), some (.int a2), some (.int a3), some (.int a4), some (.int 1), some (.int v9)]) dX11_feed_76 (by decide) rfl rfl ?_
    refine z_aload_n (i := 0) (x := 40) dX11_feed_78 rfl rfl ?_
    refine z_getR (j := 9) dX11_feed_79 kl_11 hs40 (by decide) rfl rfl kf_X11_20 ?_
    refine z_aload_n (i := 0) (x := 40) dX11_feed_82 rfl rfl ?_
    refine z_getI (j := 2) dX11_feed_83 kl_11 hs40 (by decide) rfl rfl kf_X11_101 ?_
    refine z_iload (i := 7) (x := v9) dX11_feed_86 rfl ?_
    refine z_bipush (v := 24) dX11_feed_88 (by decide) ?_
    refine z_bipush (v := 8) dX11_feed_90 (by decide) ?_
    refine z_iload (i := 6) (x := 1) dX11_feed_92 rfl ?_
    refine z_iconst (v := 4) dX11_feed_94 rfl ?_
    refine z_iremC dX11_feed_95 (by decide) ?_
    refine z_imul dX11_feed_96 ?_
    refine z_isub dX11_feed_97 ?_
    refine z_ishr dX11_feed_98 ?_
    refine z_sipush (v := 255) dX11_feed_99 (by decide) ?_
    refine z_iand dX11_feed_102 ?_
    refine z_iast dX11_feed_103 hs42 (fun D11 => ?_)
    refine z_aload_n (i := 0) (x := 40) dX11_feed_104 rfl rfl ?_
    refine z_dup dX11_feed_105 rfl ?_
    refine z_getI (j := 2) dX11_feed_106 kl_11 hs40 (by decide) rfl rfl kf_X11_101 ?_
    refine z_iconst (v := 1) dX11_feed_109 rfl ?_
    refine z_iadd dX11_feed_110 ?_
    refine z_putI (j := 2) dX11_feed_111 kl_11 tyX11_ok nmX11 hs40 (by decide) rfl rfl rfl rfl rfl rfl kf_X11_101 (fun D12 => ?_)
    refine z_iincC (i := 6) (x := 1) (v := 2) (lv' := [some (.ref 40), some (.int a0), some (.int a1), some (.int a2), some (.int a3), some (.int a4), some (.int 2), some (.int v9)]) dX11_feed_114 rfl (by decide) (by decide) rfl rfl ?_
    refine z_goto 23 dX11_feed_117 (by decide) ?_
    refine z_weak (lv' := [some (.ref 40), some (.int a0), some (.int a1), some (.int a2), some (.int a3), some (.int a4), some (.int 2), none]) ⟨Or.inr rfl, ⟨Or.inr rfl, ⟨Or.inr rfl, ⟨Or.inr rfl, ⟨Or.inr rfl, ⟨Or.inr rfl, ⟨Or.inr rfl, ⟨Or.inl rfl, trivial⟩⟩⟩⟩⟩⟩⟩⟩ ?_
    exact hJ_F_X11_feed_J23xxxxxxxxxxxxxxxxxx D12
  have hJ_F_X11_feed_J23xxxxxxxxxxxxxxxxxxx : ∀ (D8 : z_Dat) , z_F l M_X11_feed (20, 520, 0, 0) 0 0 23 [some (.ref 40), some (.int a0), some (.int a1), some (.int a2), some (.int a3), some (.int a4), some (.int 1), none] [] S D8 (z_ko (z_kI S)) (F_X11_feed_J23xxxxxxxxxxxxxxxxxxx a0 a1 a2 a3 a4 D8) := by
    intro D8
    unfold F_X11_feed_J23xxxxxxxxxxxxxxxxxxx
    refine z_iload (i := 6) (x := 1) dX11_feed_23 rfl ?_
    refine z_bipush (v := 20) dX11_feed_25 (by decide) ?_
    refine z_icmp_geN 120 dX11_feed_27 (by decide) (by decide) ?_
    refine z_iload (i := 6) (x := 1) dX11_feed_30 rfl ?_
    refine z_iconst (v := 4) dX11_feed_32 rfl ?_
    refine z_icmp_geN 40 dX11_feed_33 (by decide) (by decide) ?_
    refine z_iload_n (i := 1) (x := a0) dX11_feed_36 rfl rfl ?_
    refine z_goto 76 dX11_feed_37 (by decide) ?_
    exact hJ_F_X11_feed_J76xxxxxxxxxxxxxxxxxx a0 D8
  have hJ_F_X11_feed_J76xxxxxxxxxxxxxxxxxxx : ∀ (v4 : Int32) (D5 : z_Dat) , z_F l M_X11_feed (20, 520, 0, 0) 0 0 76 [some (.ref 40), some (.int a0), some (.int a1), some (.int a2), some (.int a3), some (.int a4), some (.int 0), none] [.int v4] S D5 (z_ko (z_kI S)) (F_X11_feed_J76xxxxxxxxxxxxxxxxxxx a0 a1 a2 a3 a4 v4 D5) := by
    intro v4 D5
    unfold F_X11_feed_J76xxxxxxxxxxxxxxxxxxx
    refine z_istore (i := 7) (x := v4) (lv' := [some (.ref 40), some (.int a0), some (.int a1), some (.int a2), some (.int a3), some (.int a4), some (.int 0), some (.int v4)]) dX11_feed_76 (by decide) rfl rfl ?_
    refine z_aload_n (i := 0) (x := 40) dX11_feed_78 rfl rfl ?_
    refine z_getR (j := 9) dX11_feed_79 kl_11 hs40 (by decide) rfl rfl kf_X11_20 ?_
    refine z_aload_n (i := 0) (x := 40) dX11_feed_82 rfl rfl ?_
    refine z_getI (j := 2) dX11_feed_83 kl_11 hs40 (by decide) rfl rfl kf_X11_101 ?_
    refine z_iload (i := 7) (x := v4) dX11_feed_86 rfl ?_
    refine z_bipush (v := 24) dX11_feed_88 (by decide) ?_
    refine z_bipush (v := 8) dX11_feed_90 (by decide) ?_
    refine z_iload (i := 6) (x := 0) dX11_feed_92 rfl ?_
    refine z_iconst (v := 4) dX11_feed_94 rfl ?_
    refine z_iremC dX11_feed_95 (by decide) ?_
    refine z_imul dX11_feed_96 ?_
    refine z_isub dX11_feed_97 ?_
    refine z_ishr dX11_feed_98 ?_
    refine z_sipush (v := 255) dX11_feed_99 (by decide) ?_
    refine z_iand dX11_feed_102 ?_
    refine z_iast dX11_feed_103 hs42 (fun D6 => ?_)
    refine z_aload_n (i := 0) (x := 40) dX11_feed_104 rfl rfl ?_
    refine z_dup dX11_feed_105 rfl ?_
    refine z_getI (j := 2) dX11_feed_106 kl_11 hs40 (by decide) rfl rfl kf_X11_101 ?_
    refine z_iconst (v := 1) dX11_feed_109 rfl ?_
    refine z_iadd dX11_feed_110 ?_
    refine z_putI (j := 2) dX11_feed_111 kl_11 tyX11_ok nmX11 hs40 (by decide) rfl rfl rfl rfl rfl rfl kf_X11_101 (fun D7 => ?_)
    refine z_iincC (i := 6) (x := 0) (v := 1) (lv' := [some (.ref 40), some (.int a0), some (.int a1), some (.int a2), some (.int a3), some (.int a4), some (.int 1), some (.int v4)]) dX11_feed_114 rfl (by decide) (by decide) rfl rfl ?_
    refine z_goto 23 dX11_feed_117 (by decide) ?_
    refine z_weak (lv' := [some (.ref 40), some (.int a0), some (.int a1), some (.int a2), some (.int a3), some (.int a4), some (.int 1), none]) ⟨Or.inr rfl, ⟨Or.inr rfl, ⟨Or.inr rfl, ⟨Or.inr rfl, ⟨Or.inr rfl, ⟨Or.inr rfl, ⟨Or.inr rfl, ⟨Or.inl rfl, trivial⟩⟩⟩⟩⟩⟩⟩⟩ ?_
    exact hJ_F_X11_feed_J23xxxxxxxxxxxxxxxxxxx D7
  have hJ_F_X11_feed_J23xxxxxxxxxxxxxxxxxxxx : ∀ (D3 : z_Dat) , z_F l M_X11_feed (20, 520, 0, 0) 0 0 23 [some (.ref 40), some (.int a0), some (.int a1), some (.int a2), some (.int a3), some (.int a4), some (.int 0), none] [] S D3 (z_ko (z_kI S)) (F_X11_feed_J23xxxxxxxxxxxxxxxxxxxx a0 a1 a2 a3 a4 D3) := by
    intro D3
    unfold F_X11_feed_J23xxxxxxxxxxxxxxxxxxxx
    refine z_iload (i := 6) (x := 0) dX11_feed_23 rfl ?_
    refine z_bipush (v := 20) dX11_feed_25 (by decide) ?_
    refine z_icmp_geN 120 dX11_feed_27 (by decide) (by decide) ?_
    refine z_iload (i := 6) (x := 0) dX11_feed_30 rfl ?_
    refine z_iconst (v := 4) dX11_feed_32 rfl ?_
    refine z_icmp_geN 40 dX11_feed_33 (by decide) (by decide) ?_
    refine z_iload_n (i := 1) (x := a0) dX11_feed_36 rfl rfl ?_
    refine z_goto 76 dX11_feed_37 (by decide) ?_
    exact hJ_F_X11_feed_J76xxxxxxxxxxxxxxxxxxx a0 D3
  refine z_aload_n (i := 0) (x := 40) dX11_feed_0 rfl rfl ?_
  refine z_iconst (v := 0) dX11_feed_1 rfl ?_
  refine z_putI (j := 0) dX11_feed_2 kl_11 tyX11_ok nmX11 hs40 (by decide) rfl rfl rfl rfl rfl rfl kf_X11_3 (fun D1 => ?_)
  refine z_aload_n (i := 0) (x := 40) dX11_feed_5 rfl rfl ?_
  refine z_getI (j := 2) dX11_feed_6 kl_11 hs40 (by decide) rfl rfl kf_X11_101 ?_
  refine z_bipush (v := 20) dX11_feed_9 (by decide) ?_
  refine z_iadd dX11_feed_11 ?_
  refine z_sipush (v := 600) dX11_feed_12 (by decide) ?_
  refine z_icmp_le 20 dX11_feed_15 (by decide) (fun c2 => ?_) (fun c2 => ?_)
  · refine z_iconst (v := 0) dX11_feed_20 rfl ?_
    refine z_istore (i := 6) (x := 0) (lv' := [some (.ref 40), some (.int a0), some (.int a1), some (.int a2), some (.int a3), some (.int a4), some (.int 0), none]) dX11_feed_21 (by decide) rfl rfl ?_
    exact hJ_F_X11_feed_J23xxxxxxxxxxxxxxxxxxxx D1
  · refine z_iconst (v := (-1)) dX11_feed_18 rfl ?_
    exact z_ireturn dX11_feed_19 z_rWI rfl (by decide) (by decide)

def F_X11_fine (D : z_Dat) : Int32 :=
  if (D 40 5) = (-1) then (1)
  else (0)
set_option maxRecDepth 100000 in
set_option maxHeartbeats 4000000 in
theorem em_X11_fine {l : Launch} {S : List z_Shp} {oW : Nat} (hl : l.stackTraces = false) (hW : z_W S oW) (D : z_Dat) : ∀ out, z_kt (z_kR S D) (F_X11_fine D) out → z_EM l M_X11_fine (20, 520, 0, 0) [.ref 40] S D out := by
  have hs40 : S[40]? = some (13, 55, [none, some (some 41), none, none, none, none, none, none, none, some (some 42), some (some 43), some (some 44), some (some 45), some (some 46), some (some 47), some (some 48), none, none, none, none, none, none, some (some 49), some (some 50), some (some 51), some (some 52), some (some 53), none, none, some (some 54), some (some 55), some (some 56), none, none, none, none, none, none, some (some 57), some (some 58), some (some 59), some (some 60), some (some 61), none, some (some 62), some (some 63), none, none, some (some 64), some (some 65), none, none, none, some (some 66), none]) := hW.1 40 _ rfl
  refine z_meth hl rfl kp_X11 (Nat.le_of_ble_eq_true rfl) (lv := [some (.ref 40)]) rfl ?_
  unfold F_X11_fine
  refine z_aload_n (i := 0) (x := 40) dX11_fine_0 rfl rfl ?_
  refine z_getI (j := 5) dX11_fine_1 kl_11 hs40 (by decide) rfl rfl kf_X11_104 ?_
  refine z_iconst (v := (-1)) dX11_fine_4 rfl ?_
  refine z_icmp_ne 12 dX11_fine_5 (by decide) (fun c1 => ?_) (fun c1 => ?_)
  · refine z_iconst (v := 1) dX11_fine_8 rfl ?_
    refine z_goto 13 dX11_fine_9 (by decide) ?_
    exact z_ireturn dX11_fine_13 z_rP rfl (by decide) (by decide)
  · refine z_iconst (v := 0) dX11_fine_12 rfl ?_
    exact z_ireturn dX11_fine_13 z_rP rfl (by decide) (by decide)

def F_X11_wrong (a0 : Int32) (a1 : Int32) (D : z_Dat) : z_Dat :=
  if (D 40 5) = (-1) then (z_let (z_up D 40 5 a1) (fun D2 => z_let (z_up D2 40 6 a0) (fun D3 => D3)))
  else (D)
set_option maxRecDepth 100000 in
set_option maxHeartbeats 4000000 in
theorem em_X11_wrong {l : Launch} {S : List z_Shp} {oW : Nat} (hl : l.stackTraces = false) (hW : z_W S oW) (a0 : Int32) (a1 : Int32) (D : z_Dat) : ∀ out, z_kt (z_kV S) (F_X11_wrong a0 a1 D) out → z_EM l M_X11_wrong (20, 520, 0, 0) [.ref 40, .int a0, .int a1] S D out := by
  have hs40 : S[40]? = some (13, 55, [none, some (some 41), none, none, none, none, none, none, none, some (some 42), some (some 43), some (some 44), some (some 45), some (some 46), some (some 47), some (some 48), none, none, none, none, none, none, some (some 49), some (some 50), some (some 51), some (some 52), some (some 53), none, none, some (some 54), some (some 55), some (some 56), none, none, none, none, none, none, some (some 57), some (some 58), some (some 59), some (some 60), some (some 61), none, some (some 62), some (some 63), none, none, some (some 64), some (some 65), none, none, none, some (some 66), none]) := hW.1 40 _ rfl
  refine z_meth hl rfl kp_X11 (Nat.le_of_ble_eq_true rfl) (lv := [some (.ref 40), some (.int a0), some (.int a1)]) rfl ?_
  unfold F_X11_wrong
  refine z_aload_n (i := 0) (x := 40) dX11_wrong_0 rfl rfl ?_
  refine z_getI (j := 5) dX11_wrong_1 kl_11 hs40 (by decide) rfl rfl kf_X11_104 ?_
  refine z_iconst (v := (-1)) dX11_wrong_4 rfl ?_
  refine z_icmp_eq 9 dX11_wrong_5 (by decide) (fun c1 => ?_) (fun c1 => ?_)
  · refine z_aload_n (i := 0) (x := 40) dX11_wrong_9 rfl rfl ?_
    refine z_iload_n (i := 2) (x := a1) dX11_wrong_10 rfl rfl ?_
    refine z_putI (j := 5) dX11_wrong_11 kl_11 tyX11_ok nmX11 hs40 (by decide) rfl rfl rfl rfl rfl rfl kf_X11_104 (fun D2 => ?_)
    refine z_aload_n (i := 0) (x := 40) dX11_wrong_14 rfl rfl ?_
    refine z_iload_n (i := 1) (x := a0) dX11_wrong_15 rfl rfl ?_
    refine z_putI (j := 6) dX11_wrong_16 kl_11 tyX11_ok nmX11 hs40 (by decide) rfl rfl rfl rfl rfl rfl kf_X11_107 (fun D3 => ?_)
    exact z_vreturn dX11_wrong_19 z_rTV trivial (by decide) (by decide)
  · exact z_vreturn dX11_wrong_8 z_rTV trivial (by decide) (by decide)

def F_X11_here_J38 (D4 : z_Dat) : Option (Int32 × z_Dat) :=
  if (D4 40 3) ≤ (D4 40 4) then (some (0, D4))
  else (if z_inb (D4 40 4) 600 then (some (D4 42 (z_ix (D4 40 4)), D4)) else none)
def F_X11_here_L0 (kc2 : (z_Dat → Option (Int32 × z_Dat))) (D1 : z_Dat) : Option (Int32 × z_Dat) :=
  if (D1 40 3) ≤ (D1 40 4) then (F_X11_here_J38 D1)
  else (if z_inb (D1 40 4) 600 then (if (D1 42 (z_ix (D1 40 4))) = 32 then (z_let (z_up D1 40 4 ((D1 40 4) + 1)) (fun D7 => kc2 D7))
  else (F_X11_here_J38 D1)) else none)
def F_X11_here (N : Nat) (D : z_Dat) : Option (Int32 × z_Dat) :=
  z_loop (fun kc2 s => F_X11_here_L0 kc2 s) N D
set_option maxRecDepth 100000 in
set_option maxHeartbeats 4000000 in
theorem em_X11_here {l : Launch} {S : List z_Shp} {oW : Nat} (hl : l.stackTraces = false) (hW : z_W S oW) (N : Nat) (D : z_Dat) : ∀ out, z_ko (z_kI S) (F_X11_here N D) out → z_EM l M_X11_here (20, 520, 0, 0) [.ref 40] S D out := by
  have hs40 : S[40]? = some (13, 55, [none, some (some 41), none, none, none, none, none, none, none, some (some 42), some (some 43), some (some 44), some (some 45), some (some 46), some (some 47), some (some 48), none, none, none, none, none, none, some (some 49), some (some 50), some (some 51), some (some 52), some (some 53), none, none, some (some 54), some (some 55), some (some 56), none, none, none, none, none, none, some (some 57), some (some 58), some (some 59), some (some 60), some (some 61), none, some (some 62), some (some 63), none, none, some (some 64), some (some 65), none, none, none, some (some 66), none]) := hW.1 40 _ rfl
  have hs42 : S[42]? = some (0, 600, []) := hW.1 42 _ rfl
  refine z_meth hl rfl kp_X11 (Nat.le_of_ble_eq_true rfl) (lv := [some (.ref 40)]) rfl ?_
  unfold F_X11_here
  have hJ_F_X11_here_J38 : ∀ (D4 : z_Dat) , z_F l M_X11_here (20, 520, 0, 0) 0 0 38 [some (.ref 40)] [] S D4 (z_ko (z_kI S)) (F_X11_here_J38 D4) := by
    intro D4
    unfold F_X11_here_J38
    refine z_aload_n (i := 0) (x := 40) dX11_here_38 rfl rfl ?_
    refine z_getI (j := 4) dX11_here_39 kl_11 hs40 (by decide) rfl rfl kf_X11_110 ?_
    refine z_aload_n (i := 0) (x := 40) dX11_here_42 rfl rfl ?_
    refine z_getI (j := 3) dX11_here_43 kl_11 hs40 (by decide) rfl rfl kf_X11_113 ?_
    refine z_icmp_ge 61 dX11_here_46 (by decide) (fun c5 => ?_) (fun c5 => ?_)
    · refine z_iconst (v := 0) dX11_here_61 rfl ?_
      exact z_ireturn dX11_here_62 z_rWI rfl (by decide) (by decide)
    · refine z_aload_n (i := 0) (x := 40) dX11_here_49 rfl rfl ?_
      refine z_getR (j := 9) dX11_here_50 kl_11 hs40 (by decide) rfl rfl kf_X11_20 ?_
      refine z_aload_n (i := 0) (x := 40) dX11_here_53 rfl rfl ?_
      refine z_getI (j := 4) dX11_here_54 kl_11 hs40 (by decide) rfl rfl kf_X11_110 ?_
      refine z_iald dX11_here_57 hs42 ?_
      refine z_goto 62 dX11_here_58 (by decide) ?_
      exact z_ireturn dX11_here_62 z_rWI rfl (by decide) (by decide)
  refine z_loops (lvOf := fun s : z_Dat => [some (.ref 40)]) (dOf := fun s : z_Dat => s) (fun kc2 hkc2 s => ?_) N D
  obtain ⟨D1, hq⟩ : ∃ z, z = s := ⟨_, rfl⟩
  subst hq
  show z_F _ _ _ _ _ 0 [some (.ref 40)] [] S D1 _ (F_X11_here_L0 kc2 D1)
  unfold F_X11_here_L0
  refine z_aload_n (i := 0) (x := 40) dX11_here_0 rfl rfl ?_
  refine z_getI (j := 4) dX11_here_1 kl_11 hs40 (by decide) rfl rfl kf_X11_110 ?_
  refine z_aload_n (i := 0) (x := 40) dX11_here_4 rfl rfl ?_
  refine z_getI (j := 3) dX11_here_5 kl_11 hs40 (by decide) rfl rfl kf_X11_113 ?_
  refine z_icmp_ge 38 dX11_here_8 (by decide) (fun c3 => ?_) (fun c3 => ?_)
  · exact hJ_F_X11_here_J38 D1
  · refine z_aload_n (i := 0) (x := 40) dX11_here_11 rfl rfl ?_
    refine z_getR (j := 9) dX11_here_12 kl_11 hs40 (by decide) rfl rfl kf_X11_20 ?_
    refine z_aload_n (i := 0) (x := 40) dX11_here_15 rfl rfl ?_
    refine z_getI (j := 4) dX11_here_16 kl_11 hs40 (by decide) rfl rfl kf_X11_110 ?_
    refine z_iald dX11_here_19 hs42 ?_
    refine z_bipush (v := 32) dX11_here_20 (by decide) ?_
    refine z_icmp_ne 38 dX11_here_22 (by decide) (fun c6 => ?_) (fun c6 => ?_)
    · refine z_aload_n (i := 0) (x := 40) dX11_here_25 rfl rfl ?_
      refine z_dup dX11_here_26 rfl ?_
      refine z_getI (j := 4) dX11_here_27 kl_11 hs40 (by decide) rfl rfl kf_X11_110 ?_
      refine z_iconst (v := 1) dX11_here_30 rfl ?_
      refine z_iadd dX11_here_31 ?_
      refine z_putI (j := 4) dX11_here_32 kl_11 tyX11_ok nmX11 hs40 (by decide) rfl rfl rfl rfl rfl rfl kf_X11_110 (fun D7 => ?_)
      refine z_goto 0 dX11_here_35 (by decide) ?_
      exact hkc2 D7
    · exact hJ_F_X11_here_J38 D1

def F_X11_isSmall (a0 : Int32) : Int32 :=
  if a0 < 97 then (0)
  else (if 122 < a0 then (0)
  else (1))
set_option maxRecDepth 100000 in
set_option maxHeartbeats 4000000 in
theorem em_X11_isSmall {l : Launch} {S : List z_Shp} (hl : l.stackTraces = false) (a0 : Int32) (D : z_Dat) : ∀ out, z_kt (z_kR S D) (F_X11_isSmall a0) out → z_EM l M_X11_isSmall (20, 520, 0, 0) [.int a0] S D out := by
  refine z_meth hl rfl kp_X11 (Nat.le_of_ble_eq_true rfl) (lv := [some (.int a0)]) rfl ?_
  unfold F_X11_isSmall
  refine z_iload_n (i := 0) (x := a0) dX11_isSmall_0 rfl rfl ?_
  refine z_bipush (v := 97) dX11_isSmall_1 (by decide) ?_
  refine z_icmp_lt 16 dX11_isSmall_3 (by decide) (fun c1 => ?_) (fun c1 => ?_)
  · refine z_iconst (v := 0) dX11_isSmall_16 rfl ?_
    exact z_ireturn dX11_isSmall_17 z_rP rfl (by decide) (by decide)
  · refine z_iload_n (i := 0) (x := a0) dX11_isSmall_6 rfl rfl ?_
    refine z_bipush (v := 122) dX11_isSmall_7 (by decide) ?_
    refine z_icmp_gt 16 dX11_isSmall_9 (by decide) (fun c2 => ?_) (fun c2 => ?_)
    · refine z_iconst (v := 0) dX11_isSmall_16 rfl ?_
      exact z_ireturn dX11_isSmall_17 z_rP rfl (by decide) (by decide)
    · refine z_iconst (v := 1) dX11_isSmall_12 rfl ?_
      refine z_goto 17 dX11_isSmall_13 (by decide) ?_
      exact z_ireturn dX11_isSmall_17 z_rP rfl (by decide) (by decide)

def F_X11_isDigit (a0 : Int32) : Int32 :=
  if a0 < 48 then (0)
  else (if 57 < a0 then (0)
  else (1))
set_option maxRecDepth 100000 in
set_option maxHeartbeats 4000000 in
theorem em_X11_isDigit {l : Launch} {S : List z_Shp} (hl : l.stackTraces = false) (a0 : Int32) (D : z_Dat) : ∀ out, z_kt (z_kR S D) (F_X11_isDigit a0) out → z_EM l M_X11_isDigit (20, 520, 0, 0) [.int a0] S D out := by
  refine z_meth hl rfl kp_X11 (Nat.le_of_ble_eq_true rfl) (lv := [some (.int a0)]) rfl ?_
  unfold F_X11_isDigit
  refine z_iload_n (i := 0) (x := a0) dX11_isDigit_0 rfl rfl ?_
  refine z_bipush (v := 48) dX11_isDigit_1 (by decide) ?_
  refine z_icmp_lt 16 dX11_isDigit_3 (by decide) (fun c1 => ?_) (fun c1 => ?_)
  · refine z_iconst (v := 0) dX11_isDigit_16 rfl ?_
    exact z_ireturn dX11_isDigit_17 z_rP rfl (by decide) (by decide)
  · refine z_iload_n (i := 0) (x := a0) dX11_isDigit_6 rfl rfl ?_
    refine z_bipush (v := 57) dX11_isDigit_7 (by decide) ?_
    refine z_icmp_gt 16 dX11_isDigit_9 (by decide) (fun c2 => ?_) (fun c2 => ?_)
    · refine z_iconst (v := 0) dX11_isDigit_16 rfl ?_
      exact z_ireturn dX11_isDigit_17 z_rP rfl (by decide) (by decide)
    · refine z_iconst (v := 1) dX11_isDigit_12 rfl ?_
      refine z_goto 17 dX11_isDigit_13 (by decide) ?_
      exact z_ireturn dX11_isDigit_17 z_rP rfl (by decide) (by decide)

def F_X11_word_L14 (a_2 : (Int32 × z_Dat)) (kc7 : ((Int32 × Int32 × Int32) → Option (Int32 × z_Dat))) (v4 : Int32) (v5 : Int32) (v6 : Int32) : Option (Int32 × z_Dat) :=
  if (a_2.2 40 3) ≤ v6 then (if v5 ≤ 6 then (some (v4, a_2.2))
  else (some (0, a_2.2)))
  else (if z_inb v6 600 then (if (F_X11_isSmall (a_2.2 42 (z_ix v6))) = 0 then (if v5 ≤ 6 then (some (v4, a_2.2))
  else (some (0, a_2.2)))
  else (if 6 ≤ v5 then (z_let (v5 + 1) (fun v14 => z_let (v6 + 1) (fun v15 => kc7 (0, v14, v15))))
  else (if z_inb v6 600 then (z_let ((z_shl v4 5) ||| ((a_2.2 42 (z_ix v6)) - 96)) (fun v16 => z_let (v5 + 1) (fun v17 => z_let (v6 + 1) (fun v18 => kc7 (v16, v17, v18))))) else none))) else none)
def F_X11_word (N : Nat) (D : z_Dat) : Option (Int32 × z_Dat) :=
  z_bd (F_X11_here N D) (fun a_2 => z_let (a_2.2 40 4) (fun v3 => z_loop (fun kc7 s => F_X11_word_L14 a_2 kc7 s.1 s.2.1 s.2.2) N (0, 0, v3)))
set_option maxRecDepth 100000 in
set_option maxHeartbeats 4000000 in
theorem em_X11_word {l : Launch} {S : List z_Shp} {oW : Nat} (hl : l.stackTraces = false) (hW : z_W S oW) (N : Nat) (D : z_Dat) : ∀ out, z_ko (z_kI S) (F_X11_word N D) out → z_EM l M_X11_word (30, 580, 0, 0) [.ref 40] S D out := by
  have hs40 : S[40]? = some (13, 55, [none, some (some 41), none, none, none, none, none, none, none, some (some 42), some (some 43), some (some 44), some (some 45), some (some 46), some (some 47), some (some 48), none, none, none, none, none, none, some (some 49), some (some 50), some (some 51), some (some 52), some (some 53), none, none, some (some 54), some (some 55), some (some 56), none, none, none, none, none, none, some (some 57), some (some 58), some (some 59), some (some 60), some (some 61), none, some (some 62), some (some 63), none, none, some (some 64), some (some 65), none, none, none, some (some 66), none]) := hW.1 40 _ rfl
  have hs42 : S[42]? = some (0, 600, []) := hW.1 42 _ rfl
  refine z_meth hl rfl kp_X11 (Nat.le_of_ble_eq_true rfl) (lv := [some (.ref 40), none, none, none]) rfl ?_
  unfold F_X11_word
  refine z_aload_n (i := 0) (x := 40) dX11_word_0 rfl rfl ?_
  refine z_cWI (As := [.ref 40]) (rest := []) (em_X11_here hl hW N D) (fun o7 h => z_runV 116 0 h rfl kk_X11_116 hs40 kl_11.1 kq_X11_here rfl (Nat.le_of_ble_eq_true rfl) ⟨Nat.le_of_ble_eq_true rfl, Nat.le_of_ble_eq_true rfl, Nat.le_of_ble_eq_true rfl, Nat.le_of_ble_eq_true rfl⟩ dX11_word_1) z_gWI (fun a_2 hz1 => ?_)
  refine z_pop dX11_word_4 rfl ?_
  refine z_iconst (v := 0) dX11_word_5 rfl ?_
  refine z_istore_n (i := 1) (x := 0) (lv' := [some (.ref 40), some (.int 0), none, none]) dX11_word_6 rfl (by decide) rfl rfl ?_
  refine z_iconst (v := 0) dX11_word_7 rfl ?_
  refine z_istore_n (i := 2) (x := 0) (lv' := [some (.ref 40), some (.int 0), some (.int 0), none]) dX11_word_8 rfl (by decide) rfl rfl ?_
  refine z_aload_n (i := 0) (x := 40) dX11_word_9 rfl rfl ?_
  refine z_getI (j := 4) dX11_word_10 kl_11 hs40 (by decide) rfl rfl kf_X11_110 ?_
  refine z_topi (fun v3 => ?_)
  refine z_istore_n (i := 3) (x := v3) (lv' := [some (.ref 40), some (.int 0), some (.int 0), some (.int v3)]) dX11_word_13 rfl (by decide) rfl rfl ?_
  refine z_loops (lvOf := fun s : Int32 × Int32 × Int32 => [some (.ref 40), some (.int s.1), some (.int s.2.1), some (.int s.2.2)]) (dOf := fun s : Int32 × Int32 × Int32 => a_2.2) (fun kc7 hkc7 s => ?_) N (0, 0, v3)
  obtain ⟨v4, v5, v6⟩ := s
  show z_F _ _ _ _ _ 14 [some (.ref 40), some (.int v4), some (.int v5), some (.int v6)] [] S a_2.2 _ (F_X11_word_L14 a_2 kc7 v4 v5 v6)
  unfold F_X11_word_L14
  refine z_iload_n (i := 3) (x := v6) dX11_word_14 rfl rfl ?_
  refine z_aload_n (i := 0) (x := 40) dX11_word_15 rfl rfl ?_
  refine z_getI (j := 3) dX11_word_16 kl_11 hs40 (by decide) rfl rfl kf_X11_113 ?_
  refine z_icmp_ge 67 dX11_word_19 (by decide) (fun c8 => ?_) (fun c8 => ?_)
  · refine z_iload_n (i := 2) (x := v5) dX11_word_67 rfl rfl ?_
    refine z_bipush (v := 6) dX11_word_68 (by decide) ?_
    refine z_icmp_le 77 dX11_word_70 (by decide) (fun c9 => ?_) (fun c9 => ?_)
    · refine z_iload_n (i := 1) (x := v4) dX11_word_77 rfl rfl ?_
      exact z_ireturn dX11_word_78 z_rWI rfl (by decide) (by decide)
    · refine z_iconst (v := 0) dX11_word_73 rfl ?_
      refine z_goto 78 dX11_word_74 (by decide) ?_
      exact z_ireturn dX11_word_78 z_rWI rfl (by decide) (by decide)
  · refine z_aload_n (i := 0) (x := 40) dX11_word_22 rfl rfl ?_
    refine z_getR (j := 9) dX11_word_23 kl_11 hs40 (by decide) rfl rfl kf_X11_20 ?_
    refine z_iload_n (i := 3) (x := v6) dX11_word_26 rfl rfl ?_
    refine z_iald dX11_word_27 hs42 ?_
    refine z_cP (As := [.int (a_2.2 42 (z_ix v6))]) (rest := []) (em_X11_isSmall hl (a_2.2 42 (z_ix v6)) a_2.2) (fun o7 h => z_runS 120 1 h rfl kk_X11_120 kq_X11_isSmall rfl (Nat.le_of_ble_eq_true rfl) ⟨Nat.le_of_ble_eq_true rfl, Nat.le_of_ble_eq_true rfl, Nat.le_of_ble_eq_true rfl, Nat.le_of_ble_eq_true rfl⟩ dX11_word_28) z_gWI (fun hz10 => ?_)
    refine z_if_eq 67 dX11_word_31 (by decide) (fun c11 => ?_) (fun c11 => ?_)
    · refine z_iload_n (i := 2) (x := v5) dX11_word_67 rfl rfl ?_
      refine z_bipush (v := 6) dX11_word_68 (by decide) ?_
      refine z_icmp_le 77 dX11_word_70 (by decide) (fun c12 => ?_) (fun c12 => ?_)
      · refine z_iload_n (i := 1) (x := v4) dX11_word_77 rfl rfl ?_
        exact z_ireturn dX11_word_78 z_rWI rfl (by decide) (by decide)
      · refine z_iconst (v := 0) dX11_word_73 rfl ?_
        refine z_goto 78 dX11_word_74 (by decide) ?_
        exact z_ireturn dX11_word_78 z_rWI rfl (by decide) (by decide)
    · refine z_iload_n (i := 2) (x := v5) dX11_word_34 rfl rfl ?_
      refine z_bipush (v := 6) dX11_word_35 (by decide) ?_
      refine z_icmp_ge 56 dX11_word_37 (by decide) (fun c13 => ?_) (fun c13 => ?_)
      · refine z_iconst (v := 0) dX11_word_56 rfl ?_
        refine z_istore_n (i := 1) (x := 0) (lv' := [some (.ref 40), some (.int 0), some (.int v5), some (.int v6)]) dX11_word_57 rfl (by decide) rfl rfl ?_
        refine z_iinc (i := 2) (x := v5) (y := 1) dX11_word_58 rfl (by decide) (by decide) rfl (fun v14 => ?_)
        refine z_iinc (i := 3) (x := v6) (y := 1) dX11_word_61 rfl (by decide) (by decide) rfl (fun v15 => ?_)
        refine z_goto 14 dX11_word_64 (by decide) ?_
        exact hkc7 (0, v14, v15)
      · refine z_iload_n (i := 1) (x := v4) dX11_word_40 rfl rfl ?_
        refine z_iconst (v := 5) dX11_word_41 rfl ?_
        refine z_ishl dX11_word_42 ?_
        refine z_aload_n (i := 0) (x := 40) dX11_word_43 rfl rfl ?_
        refine z_getR (j := 9) dX11_word_44 kl_11 hs40 (by decide) rfl rfl kf_X11_20 ?_
        refine z_iload_n (i := 3) (x := v6) dX11_word_47 rfl rfl ?_
        refine z_iald dX11_word_48 hs42 ?_
        refine z_bipush (v := 96) dX11_word_49 (by decide) ?_
        refine z_isub dX11_word_51 ?_
        refine z_ior dX11_word_52 ?_
        refine z_goto 57 dX11_word_53 (by decide) ?_
        refine z_topi (fun v16 => ?_)
        refine z_istore_n (i := 1) (x := v16) (lv' := [some (.ref 40), some (.int v16), some (.int v5), some (.int v6)]) dX11_word_57 rfl (by decide) rfl rfl ?_
        refine z_iinc (i := 2) (x := v5) (y := 1) dX11_word_58 rfl (by decide) (by decide) rfl (fun v17 => ?_)
        refine z_iinc (i := 3) (x := v6) (y := 1) dX11_word_61 rfl (by decide) (by decide) rfl (fun v18 => ?_)
        refine z_goto 14 dX11_word_64 (by decide) ?_
        exact hkc7 (v16, v17, v18)

def F_X11_of_L4 (w : Nat) (kc3 : ((Int32 × Int32) → Option Int32)) (v1 : Int32) (v2 : Int32) : Option Int32 :=
  if (z_slg w) ≤ v2 then (some v1)
  else (if z_inb v2 (z_slen.getD w 0) then (z_let ((z_shl v1 5) ||| ((z_chr w v2) - 96)) (fun v8 => z_let (v2 + 1) (fun v9 => kc3 (v8, v9)))) else none)
def F_X11_of (N : Nat) (w : Nat) : Option Int32 :=
  z_loop (fun kc3 s => F_X11_of_L4 w kc3 s.1 s.2) N (0, 0)
set_option maxRecDepth 100000 in
set_option maxHeartbeats 4000000 in
theorem em_X11_of {l : Launch} {S : List z_Shp} {w : Nat} (hl : l.stackTraces = false) (hw : w < 24) (N : Nat) (D : z_Dat) : ∀ out, z_ko (z_kR S D) (F_X11_of N w) out → z_EM l M_X11_of (50, 520, 0, 0) [.retAddr w] S D out := by
  refine z_meth hl rfl kp_X11 (Nat.le_of_ble_eq_true rfl) (lv := [some (.retAddr w), none, none]) rfl ?_
  unfold F_X11_of
  refine z_iconst (v := 0) dX11_of_0 rfl ?_
  refine z_istore_n (i := 1) (x := 0) (lv' := [some (.retAddr w), some (.int 0), none]) dX11_of_1 rfl (by decide) rfl rfl ?_
  refine z_iconst (v := 0) dX11_of_2 rfl ?_
  refine z_istore_n (i := 2) (x := 0) (lv' := [some (.retAddr w), some (.int 0), some (.int 0)]) dX11_of_3 rfl (by decide) rfl rfl ?_
  refine z_loops (lvOf := fun s : Int32 × Int32 => [some (.retAddr w), some (.int s.1), some (.int s.2)]) (dOf := fun s : Int32 × Int32 => D) (fun kc3 hkc3 s => ?_) N (0, 0)
  obtain ⟨v1, v2⟩ := s
  show z_F _ _ _ _ _ 4 [some (.retAddr w), some (.int v1), some (.int v2)] [] S D _ (F_X11_of_L4 w kc3 v1 v2)
  unfold F_X11_of_L4
  refine z_iload_n (i := 2) (x := v2) dX11_of_4 rfl rfl ?_
  refine z_aloadC_n (i := 0) (x := w) dX11_of_5 rfl rfl ?_
  refine z_cP (As := [.retAddr w]) (rest := [.int v2]) (em_J0_length hl w hw D) (fun o7 h => z_runVS 124 0 h rfl kk_X11_124 hw rfl kq_J0_length_8abf5 rfl (Nat.le_of_ble_eq_true rfl) ⟨Nat.le_of_ble_eq_true rfl, Nat.le_of_ble_eq_true rfl, Nat.le_of_ble_eq_true rfl, Nat.le_of_ble_eq_true rfl⟩ dX11_of_6) z_gR (fun hz4 => ?_)
  refine z_icmp_ge 31 dX11_of_9 (by decide) (fun c5 => ?_) (fun c5 => ?_)
  · refine z_iload_n (i := 1) (x := v1) dX11_of_31 rfl rfl ?_
    exact z_ireturn dX11_of_32 z_rR rfl (by decide) (by decide)
  · refine z_iload_n (i := 1) (x := v1) dX11_of_12 rfl rfl ?_
    refine z_iconst (v := 5) dX11_of_13 rfl ?_
    refine z_ishl dX11_of_14 ?_
    refine z_aloadC_n (i := 0) (x := w) dX11_of_15 rfl rfl ?_
    refine z_iload_n (i := 2) (x := v2) dX11_of_16 rfl rfl ?_
    refine z_ifn (fun c7 => ?_)
    refine z_cP (As := [.retAddr w, .int v2]) (rest := [.int (z_shl v1 5)]) (em_J0_charAt hl w hw v2 c7 D) (fun o7 h => z_runVS 129 1 h rfl kk_X11_129 hw rfl kq_J0_charAt_5068e rfl (Nat.le_of_ble_eq_true rfl) ⟨Nat.le_of_ble_eq_true rfl, Nat.le_of_ble_eq_true rfl, Nat.le_of_ble_eq_true rfl, Nat.le_of_ble_eq_true rfl⟩ dX11_of_17) z_gR (fun hz6 => ?_)
    refine z_bipush (v := 96) dX11_of_20 (by decide) ?_
    refine z_isub dX11_of_22 ?_
    refine z_ior dX11_of_23 ?_
    refine z_topi (fun v8 => ?_)
    refine z_istore_n (i := 1) (x := v8) (lv' := [some (.retAddr w), some (.int v8), some (.int v2)]) dX11_of_24 rfl (by decide) rfl rfl ?_
    refine z_iinc (i := 2) (x := v2) (y := 1) dX11_of_25 rfl (by decide) (by decide) rfl (fun v9 => ?_)
    refine z_goto 4 dX11_of_28 (by decide) ?_
    exact hkc3 (v8, v9)

def F_X11_pass_L0 (kc2 : (z_Dat → Option z_Dat)) (D1 : z_Dat) : Option z_Dat :=
  if (D1 40 3) ≤ (D1 40 4) then (some D1)
  else (if z_inb (D1 40 4) 600 then (if (F_X11_isSmall (D1 42 (z_ix (D1 40 4)))) = 0 then (some D1)
  else (z_let (z_up D1 40 4 ((D1 40 4) + 1)) (fun D6 => kc2 D6))) else none)
def F_X11_pass (N : Nat) (D : z_Dat) : Option z_Dat :=
  z_loop (fun kc2 s => F_X11_pass_L0 kc2 s) N D
set_option maxRecDepth 100000 in
set_option maxHeartbeats 4000000 in
theorem em_X11_pass {l : Launch} {S : List z_Shp} {oW : Nat} (hl : l.stackTraces = false) (hW : z_W S oW) (N : Nat) (D : z_Dat) : ∀ out, z_ko (z_kV S) (F_X11_pass N D) out → z_EM l M_X11_pass (30, 580, 0, 0) [.ref 40] S D out := by
  have hs40 : S[40]? = some (13, 55, [none, some (some 41), none, none, none, none, none, none, none, some (some 42), some (some 43), some (some 44), some (some 45), some (some 46), some (some 47), some (some 48), none, none, none, none, none, none, some (some 49), some (some 50), some (some 51), some (some 52), some (some 53), none, none, some (some 54), some (some 55), some (some 56), none, none, none, none, none, none, some (some 57), some (some 58), some (some 59), some (some 60), some (some 61), none, some (some 62), some (some 63), none, none, some (some 64), some (some 65), none, none, none, some (some 66), none]) := hW.1 40 _ rfl
  have hs42 : S[42]? = some (0, 600, []) := hW.1 42 _ rfl
  refine z_meth hl rfl kp_X11 (Nat.le_of_ble_eq_true rfl) (lv := [some (.ref 40)]) rfl ?_
  unfold F_X11_pass
  refine z_loops (lvOf := fun s : z_Dat => [some (.ref 40)]) (dOf := fun s : z_Dat => s) (fun kc2 hkc2 s => ?_) N D
  obtain ⟨D1, hq⟩ : ∃ z, z = s := ⟨_, rfl⟩
  subst hq
  show z_F _ _ _ _ _ 0 [some (.ref 40)] [] S D1 _ (F_X11_pass_L0 kc2 D1)
  unfold F_X11_pass_L0
  refine z_aload_n (i := 0) (x := 40) dX11_pass_0 rfl rfl ?_
  refine z_getI (j := 4) dX11_pass_1 kl_11 hs40 (by decide) rfl rfl kf_X11_110 ?_
  refine z_aload_n (i := 0) (x := 40) dX11_pass_4 rfl rfl ?_
  refine z_getI (j := 3) dX11_pass_5 kl_11 hs40 (by decide) rfl rfl kf_X11_113 ?_
  refine z_icmp_ge 39 dX11_pass_8 (by decide) (fun c3 => ?_) (fun c3 => ?_)
  · exact z_vreturn dX11_pass_39 z_rWV trivial (by decide) (by decide)
  · refine z_aload_n (i := 0) (x := 40) dX11_pass_11 rfl rfl ?_
    refine z_getR (j := 9) dX11_pass_12 kl_11 hs40 (by decide) rfl rfl kf_X11_20 ?_
    refine z_aload_n (i := 0) (x := 40) dX11_pass_15 rfl rfl ?_
    refine z_getI (j := 4) dX11_pass_16 kl_11 hs40 (by decide) rfl rfl kf_X11_110 ?_
    refine z_iald dX11_pass_19 hs42 ?_
    refine z_cP (As := [.int (D1 42 (z_ix (D1 40 4)))]) (rest := []) (em_X11_isSmall hl (D1 42 (z_ix (D1 40 4))) D1) (fun o7 h => z_runS 120 1 h rfl kk_X11_120 kq_X11_isSmall rfl (Nat.le_of_ble_eq_true rfl) ⟨Nat.le_of_ble_eq_true rfl, Nat.le_of_ble_eq_true rfl, Nat.le_of_ble_eq_true rfl, Nat.le_of_ble_eq_true rfl⟩ dX11_pass_20) z_gWV (fun hz4 => ?_)
    refine z_if_eq 39 dX11_pass_23 (by decide) (fun c5 => ?_) (fun c5 => ?_)
    · exact z_vreturn dX11_pass_39 z_rWV trivial (by decide) (by decide)
    · refine z_aload_n (i := 0) (x := 40) dX11_pass_26 rfl rfl ?_
      refine z_dup dX11_pass_27 rfl ?_
      refine z_getI (j := 4) dX11_pass_28 kl_11 hs40 (by decide) rfl rfl kf_X11_110 ?_
      refine z_iconst (v := 1) dX11_pass_31 rfl ?_
      refine z_iadd dX11_pass_32 ?_
      refine z_putI (j := 4) dX11_pass_33 kl_11 tyX11_ok nmX11 hs40 (by decide) rfl rfl rfl rfl rfl rfl kf_X11_110 (fun D6 => ?_)
      refine z_goto 0 dX11_pass_36 (by decide) ?_
      exact hkc2 D6

def F_X11_readNumber_J114 (a0 : Int32) (a1 : Int32) (v14 : Int32) (v15 : Int32) (D16 : z_Dat) : Option (Int32 × z_Dat) :=
  if v15 < a0 then (z_let (F_X11_wrong 2 v14 D16) (fun a_19 => some (0, a_19)))
  else (if v15 ≤ a1 then (some (v15, D16))
  else (z_let (F_X11_wrong 2 v14 D16) (fun a_22 => some (0, a_22))))
def F_X11_readNumber_J99 (kc12 : ((Int32 × z_Dat) → Option (Int32 × z_Dat))) (v26 : Int32) (D27 : z_Dat) : Option (Int32 × z_Dat) :=
  z_let (z_up D27 40 4 ((D27 40 4) + 1)) (fun D28 => kc12 (v26, D28))
def F_X11_readNumber_J99x (kc12 : ((Int32 × z_Dat) → Option (Int32 × z_Dat))) (D29 : z_Dat) : Option (Int32 × z_Dat) :=
  z_let (z_up D29 40 4 ((D29 40 4) + 1)) (fun D30 => kc12 (10000, D30))
def F_X11_readNumber_L41 (a0 : Int32) (a1 : Int32) (v5 : Int32) (kc12 : ((Int32 × z_Dat) → Option (Int32 × z_Dat))) (v10 : Int32) (D11 : z_Dat) : Option (Int32 × z_Dat) :=
  if (D11 40 3) ≤ (D11 40 4) then (F_X11_readNumber_J114 a0 a1 v5 v10 D11)
  else (if z_inb (D11 40 4) 600 then (if (F_X11_isDigit (D11 42 (z_ix (D11 40 4)))) = 0 then (F_X11_readNumber_J114 a0 a1 v5 v10 D11)
  else (if v10 ≤ 9999 then (if z_inb (D11 40 4) 600 then (F_X11_readNumber_J99 kc12 (((10 * v10) + (D11 42 (z_ix (D11 40 4)))) - 48) D11) else none)
  else (F_X11_readNumber_J99x kc12 D11))) else none)
def F_X11_readNumber (N : Nat) (a0 : Int32) (a1 : Int32) (D : z_Dat) : Option (Int32 × z_Dat) :=
  if (F_X11_fine D) = 0 then (some (0, D))
  else (z_bd (F_X11_here N D) (fun a_4 => z_let (a_4.2 40 4) (fun v5 => if (F_X11_isDigit a_4.1) = 0 then (z_let (F_X11_wrong 1 (a_4.2 40 4) a_4.2) (fun a_9 => some (0, a_9)))
  else (z_loop (fun kc12 s => F_X11_readNumber_L41 a0 a1 v5 kc12 s.1 s.2) N (0, a_4.2)))))
set_option maxRecDepth 100000 in
set_option maxHeartbeats 4000000 in
theorem em_X11_readNumber {l : Launch} {S : List z_Shp} {oW : Nat} (hl : l.stackTraces = false) (hW : z_W S oW) (N : Nat) (a0 : Int32) (a1 : Int32) (D : z_Dat) : ∀ out, z_ko (z_kI S) (F_X11_readNumber N a0 a1 D) out → z_EM l M_X11_readNumber (30, 580, 0, 0) [.ref 40, .int a0, .int a1] S D out := by
  have hs40 : S[40]? = some (13, 55, [none, some (some 41), none, none, none, none, none, none, none, some (some 42), some (some 43), some (some 44), some (some 45), some (some 46), some (some 47), some (some 48), none, none, none, none, none, none, some (some 49), some (some 50), some (some 51), some (some 52), some (some 53), none, none, some (some 54), some (some 55), some (some 56), none, none, none, none, none, none, some (some 57), some (some 58), some (some 59), some (some 60), some (some 61), none, some (some 62), some (some 63), none, none, some (some 64), some (some 65), none, none, none, some (some 66), none]) := hW.1 40 _ rfl
  have hs42 : S[42]? = some (0, 600, []) := hW.1 42 _ rfl
  refine z_meth hl rfl kp_X11 (Nat.le_of_ble_eq_true rfl) (lv := [some (.ref 40), some (.int a0), some (.int a1), none, none, none]) rfl ?_
  unfold F_X11_readNumber
  have hJ_F_X11_readNumber_J114 : ∀ (v14 : Int32) (v15 : Int32) (D16 : z_Dat) , z_F l M_X11_readNumber (30, 580, 0, 0) 0 0 114 [some (.ref 40), some (.int a0), some (.int a1), none, some (.int v14), some (.int v15)] [] S D16 (z_ko (z_kI S)) (F_X11_readNumber_J114 a0 a1 v14 v15 D16) := by
    intro v14 v15 D16
    unfold F_X11_readNumber_J114
    refine z_iload (i := 5) (x := v15) dX11_readNumber_114 rfl ?_
    refine z_iload_n (i := 1) (x := a0) dX11_readNumber_116 rfl rfl ?_
    refine z_icmp_lt 126 dX11_readNumber_117 (by decide) (fun c17 => ?_) (fun c17 => ?_)
    · refine z_aload_n (i := 0) (x := 40) dX11_readNumber_126 rfl rfl ?_
      refine z_iconst (v := 2) dX11_readNumber_127 rfl ?_
      refine z_iload (i := 4) (x := v14) dX11_readNumber_128 rfl ?_
      refine z_cTV (As := [.ref 40, .int 2, .int v14]) (rest := []) (em_X11_wrong hl hW 2 v14 D16) (fun o7 h => z_runV 140 2 h rfl kk_X11_140 hs40 kl_11.1 kq_X11_wrong rfl (Nat.le_of_ble_eq_true rfl) ⟨Nat.le_of_ble_eq_true rfl, Nat.le_of_ble_eq_true rfl, Nat.le_of_ble_eq_true rfl, Nat.le_of_ble_eq_true rfl⟩ dX11_readNumber_130) z_gWI (fun a_19 hz18 => ?_)
      refine z_iconst (v := 0) dX11_readNumber_133 rfl ?_
      exact z_ireturn dX11_readNumber_134 z_rWI rfl (by decide) (by decide)
    · refine z_iload (i := 5) (x := v15) dX11_readNumber_120 rfl ?_
      refine z_iload_n (i := 2) (x := a1) dX11_readNumber_122 rfl rfl ?_
      refine z_icmp_le 135 dX11_readNumber_123 (by decide) (fun c20 => ?_) (fun c20 => ?_)
      · refine z_iload (i := 5) (x := v15) dX11_readNumber_135 rfl ?_
        exact z_ireturn dX11_readNumber_137 z_rWI rfl (by decide) (by decide)
      · refine z_aload_n (i := 0) (x := 40) dX11_readNumber_126 rfl rfl ?_
        refine z_iconst (v := 2) dX11_readNumber_127 rfl ?_
        refine z_iload (i := 4) (x := v14) dX11_readNumber_128 rfl ?_
        refine z_cTV (As := [.ref 40, .int 2, .int v14]) (rest := []) (em_X11_wrong hl hW 2 v14 D16) (fun o7 h => z_runV 140 2 h rfl kk_X11_140 hs40 kl_11.1 kq_X11_wrong rfl (Nat.le_of_ble_eq_true rfl) ⟨Nat.le_of_ble_eq_true rfl, Nat.le_of_ble_eq_true rfl, Nat.le_of_ble_eq_true rfl, Nat.le_of_ble_eq_true rfl⟩ dX11_readNumber_130) z_gWI (fun a_22 hz21 => ?_)
        refine z_iconst (v := 0) dX11_readNumber_133 rfl ?_
        exact z_ireturn dX11_readNumber_134 z_rWI rfl (by decide) (by decide)
  refine z_aload_n (i := 0) (x := 40) dX11_readNumber_0 rfl rfl ?_
  refine z_cP (As := [.ref 40]) (rest := []) (em_X11_fine hl hW D) (fun o7 h => z_runV 133 0 h rfl kk_X11_133 hs40 kl_11.1 kq_X11_fine rfl (Nat.le_of_ble_eq_true rfl) ⟨Nat.le_of_ble_eq_true rfl, Nat.le_of_ble_eq_true rfl, Nat.le_of_ble_eq_true rfl, Nat.le_of_ble_eq_true rfl⟩ dX11_readNumber_1) z_gWI (fun hz1 => ?_)
  refine z_if_ne 9 dX11_readNumber_4 (by decide) (fun c2 => ?_) (fun c2 => ?_)
  · refine z_iconst (v := 0) dX11_readNumber_7 rfl ?_
    exact z_ireturn dX11_readNumber_8 z_rWI rfl (by decide) (by decide)
  · refine z_aload_n (i := 0) (x := 40) dX11_readNumber_9 rfl rfl ?_
    refine z_cWI (As := [.ref 40]) (rest := []) (em_X11_here hl hW N D) (fun o7 h => z_runV 116 0 h rfl kk_X11_116 hs40 kl_11.1 kq_X11_here rfl (Nat.le_of_ble_eq_true rfl) ⟨Nat.le_of_ble_eq_true rfl, Nat.le_of_ble_eq_true rfl, Nat.le_of_ble_eq_true rfl, Nat.le_of_ble_eq_true rfl⟩ dX11_readNumber_10) z_gWI (fun a_4 hz3 => ?_)
    refine z_istore_n (i := 3) (x := a_4.1) (lv' := [some (.ref 40), some (.int a0), some (.int a1), some (.int a_4.1), none, none]) dX11_readNumber_13 rfl (by decide) rfl rfl ?_
    refine z_aload_n (i := 0) (x := 40) dX11_readNumber_14 rfl rfl ?_
    refine z_getI (j := 4) dX11_readNumber_15 kl_11 hs40 (by decide) rfl rfl kf_X11_110 ?_
    refine z_topi (fun v5 => ?_)
    refine z_istore (i := 4) (x := v5) (lv' := [some (.ref 40), some (.int a0), some (.int a1), some (.int a_4.1), some (.int v5), none]) dX11_readNumber_18 (by decide) rfl rfl ?_
    refine z_iconst (v := 0) dX11_readNumber_20 rfl ?_
    refine z_istore (i := 5) (x := 0) (lv' := [some (.ref 40), some (.int a0), some (.int a1), some (.int a_4.1), some (.int v5), some (.int 0)]) dX11_readNumber_21 (by decide) rfl rfl ?_
    refine z_iload_n (i := 3) (x := a_4.1) dX11_readNumber_23 rfl rfl ?_
    refine z_cP (As := [.int a_4.1]) (rest := []) (em_X11_isDigit hl a_4.1 a_4.2) (fun o7 h => z_runS 137 1 h rfl kk_X11_137 kq_X11_isDigit rfl (Nat.le_of_ble_eq_true rfl) ⟨Nat.le_of_ble_eq_true rfl, Nat.le_of_ble_eq_true rfl, Nat.le_of_ble_eq_true rfl, Nat.le_of_ble_eq_true rfl⟩ dX11_readNumber_24) z_gWI (fun hz6 => ?_)
    refine z_if_ne 41 dX11_readNumber_27 (by decide) (fun c7 => ?_) (fun c7 => ?_)
    · refine z_aload_n (i := 0) (x := 40) dX11_readNumber_30 rfl rfl ?_
      refine z_iconst (v := 1) dX11_readNumber_31 rfl ?_
      refine z_aload_n (i := 0) (x := 40) dX11_readNumber_32 rfl rfl ?_
      refine z_getI (j := 4) dX11_readNumber_33 kl_11 hs40 (by decide) rfl rfl kf_X11_110 ?_
      refine z_cTV (As := [.ref 40, .int 1, .int (a_4.2 40 4)]) (rest := []) (em_X11_wrong hl hW 1 (a_4.2 40 4) a_4.2) (fun o7 h => z_runV 140 2 h rfl kk_X11_140 hs40 kl_11.1 kq_X11_wrong rfl (Nat.le_of_ble_eq_true rfl) ⟨Nat.le_of_ble_eq_true rfl, Nat.le_of_ble_eq_true rfl, Nat.le_of_ble_eq_true rfl, Nat.le_of_ble_eq_true rfl⟩ dX11_readNumber_36) z_gWI (fun a_9 hz8 => ?_)
      refine z_iconst (v := 0) dX11_readNumber_39 rfl ?_
      exact z_ireturn dX11_readNumber_40 z_rWI rfl (by decide) (by decide)
    · refine z_weak (lv' := [some (.ref 40), some (.int a0), some (.int a1), none, some (.int v5), some (.int 0)]) ⟨Or.inr rfl, ⟨Or.inr rfl, ⟨Or.inr rfl, ⟨Or.inl rfl, ⟨Or.inr rfl, ⟨Or.inr rfl, trivial⟩⟩⟩⟩⟩⟩ ?_
      refine z_loops (lvOf := fun s : Int32 × z_Dat => [some (.ref 40), some (.int a0), some (.int a1), none, some (.int v5), some (.int s.1)]) (dOf := fun s : Int32 × z_Dat => s.2) (fun kc12 hkc12 s => ?_) N (0, a_4.2)
      obtain ⟨v10, D11⟩ := s
      show z_F _ _ _ _ _ 41 [some (.ref 40), some (.int a0), some (.int a1), none, some (.int v5), some (.int v10)] [] S D11 _ (F_X11_readNumber_L41 a0 a1 v5 kc12 v10 D11)
      unfold F_X11_readNumber_L41
      have hJ_F_X11_readNumber_J99 : ∀ (v26 : Int32) (D27 : z_Dat) , z_F l M_X11_readNumber (30, 580, 0, 0) 0 0 99 [some (.ref 40), some (.int a0), some (.int a1), none, some (.int v5), none] [.int v26] S D27 (z_ko (z_kI S)) (F_X11_readNumber_J99 kc12 v26 D27) := by
        intro v26 D27
        unfold F_X11_readNumber_J99
        refine z_istore (i := 5) (x := v26) (lv' := [some (.ref 40), some (.int a0), some (.int a1), none, some (.int v5), some (.int v26)]) dX11_readNumber_99 (by decide) rfl rfl ?_
        refine z_aload_n (i := 0) (x := 40) dX11_readNumber_101 rfl rfl ?_
        refine z_dup dX11_readNumber_102 rfl ?_
        refine z_getI (j := 4) dX11_readNumber_103 kl_11 hs40 (by decide) rfl rfl kf_X11_110 ?_
        refine z_iconst (v := 1) dX11_readNumber_106 rfl ?_
        refine z_iadd dX11_readNumber_107 ?_
        refine z_putI (j := 4) dX11_readNumber_108 kl_11 tyX11_ok nmX11 hs40 (by decide) rfl rfl rfl rfl rfl rfl kf_X11_110 (fun D28 => ?_)
        refine z_goto 41 dX11_readNumber_111 (by decide) ?_
        exact hkc12 (v26, D28)
      have hJ_F_X11_readNumber_J99x : ∀ (D29 : z_Dat) , z_F l M_X11_readNumber (30, 580, 0, 0) 0 0 99 [some (.ref 40), some (.int a0), some (.int a1), none, some (.int v5), none] [.int 10000] S D29 (z_ko (z_kI S)) (F_X11_readNumber_J99x kc12 D29) := by
        intro D29
        unfold F_X11_readNumber_J99x
        refine z_istore (i := 5) (x := 10000) (lv' := [some (.ref 40), some (.int a0), some (.int a1), none, some (.int v5), some (.int 10000)]) dX11_readNumber_99 (by decide) rfl rfl ?_
        refine z_aload_n (i := 0) (x := 40) dX11_readNumber_101 rfl rfl ?_
        refine z_dup dX11_readNumber_102 rfl ?_
        refine z_getI (j := 4) dX11_readNumber_103 kl_11 hs40 (by decide) rfl rfl kf_X11_110 ?_
        refine z_iconst (v := 1) dX11_readNumber_106 rfl ?_
        refine z_iadd dX11_readNumber_107 ?_
        refine z_putI (j := 4) dX11_readNumber_108 kl_11 tyX11_ok nmX11 hs40 (by decide) rfl rfl rfl rfl rfl rfl kf_X11_110 (fun D30 => ?_)
        refine z_goto 41 dX11_readNumber_111 (by decide) ?_
        exact hkc12 (10000, D30)
      refine z_aload_n (i := 0) (x := 40) dX11_readNumber_41 rfl rfl ?_
      refine z_getI (j := 4) dX11_readNumber_42 kl_11 hs40 (by decide) rfl rfl kf_X11_110 ?_
      refine z_aload_n (i := 0) (x := 40) dX11_readNumber_45 rfl rfl ?_
      refine z_getI (j := 3) dX11_readNumber_46 kl_11 hs40 (by decide) rfl rfl kf_X11_113 ?_
      refine z_icmp_ge 114 dX11_readNumber_49 (by decide) (fun c13 => ?_) (fun c13 => ?_)
      · exact hJ_F_X11_readNumber_J114 v5 v10 D11
      · refine z_aload_n (i := 0) (x := 40) dX11_readNumber_52 rfl rfl ?_
        refine z_getR (j := 9) dX11_readNumber_53 kl_11 hs40 (by decide) rfl rfl kf_X11_20 ?_
        refine z_aload_n (i := 0) (x := 40) dX11_readNumber_56 rfl rfl ?_
        refine z_getI (j := 4) dX11_readNumber_57 kl_11 hs40 (by decide) rfl rfl kf_X11_110 ?_
        refine z_iald dX11_readNumber_60 hs42 ?_
        refine z_cP (As := [.int (D11 42 (z_ix (D11 40 4)))]) (rest := []) (em_X11_isDigit hl (D11 42 (z_ix (D11 40 4))) D11) (fun o7 h => z_runS 137 1 h rfl kk_X11_137 kq_X11_isDigit rfl (Nat.le_of_ble_eq_true rfl) ⟨Nat.le_of_ble_eq_true rfl, Nat.le_of_ble_eq_true rfl, Nat.le_of_ble_eq_true rfl, Nat.le_of_ble_eq_true rfl⟩ dX11_readNumber_61) z_gWI (fun hz23 => ?_)
        refine z_if_eq 114 dX11_readNumber_64 (by decide) (fun c24 => ?_) (fun c24 => ?_)
        · exact hJ_F_X11_readNumber_J114 v5 v10 D11
        · refine z_iload (i := 5) (x := v10) dX11_readNumber_67 rfl ?_
          refine z_sipush (v := 9999) dX11_readNumber_69 (by decide) ?_
          refine z_icmp_le 81 dX11_readNumber_72 (by decide) (fun c25 => ?_) (fun c25 => ?_)
          · refine z_bipush (v := 10) dX11_readNumber_81 (by decide) ?_
            refine z_iload (i := 5) (x := v10) dX11_readNumber_83 rfl ?_
            refine z_imul dX11_readNumber_85 ?_
            refine z_aload_n (i := 0) (x := 40) dX11_readNumber_86 rfl rfl ?_
            refine z_getR (j := 9) dX11_readNumber_87 kl_11 hs40 (by decide) rfl rfl kf_X11_20 ?_
            refine z_aload_n (i := 0) (x := 40) dX11_readNumber_90 rfl rfl ?_
            refine z_getI (j := 4) dX11_readNumber_91 kl_11 hs40 (by decide) rfl rfl kf_X11_110 ?_
            refine z_iald dX11_readNumber_94 hs42 ?_
            refine z_iadd dX11_readNumber_95 ?_
            refine z_bipush (v := 48) dX11_readNumber_96 (by decide) ?_
            refine z_isub dX11_readNumber_98 ?_
            refine z_weak (lv' := [some (.ref 40), some (.int a0), some (.int a1), none, some (.int v5), none]) ⟨Or.inr rfl, ⟨Or.inr rfl, ⟨Or.inr rfl, ⟨Or.inl rfl, ⟨Or.inr rfl, ⟨Or.inl rfl, trivial⟩⟩⟩⟩⟩⟩ ?_
            exact hJ_F_X11_readNumber_J99 (((10 * v10) + (D11 42 (z_ix (D11 40 4)))) - 48) D11
          · refine z_sipush (v := 10000) dX11_readNumber_75 (by decide) ?_
            refine z_goto 99 dX11_readNumber_78 (by decide) ?_
            refine z_weak (lv' := [some (.ref 40), some (.int a0), some (.int a1), none, some (.int v5), none]) ⟨Or.inr rfl, ⟨Or.inr rfl, ⟨Or.inr rfl, ⟨Or.inl rfl, ⟨Or.inr rfl, ⟨Or.inl rfl, trivial⟩⟩⟩⟩⟩⟩ ?_
            exact hJ_F_X11_readNumber_J99x D11

def F_X11_sign_J24 (D3 : z_Dat) : Option z_Dat :=
  if (F_X11_fine D3) = 0 then (some D3)
  else (z_let (z_up D3 40 4 ((D3 40 4) + 1)) (fun D6 => some D6))
def F_X11_sign (N : Nat) (a0 : Int32) (D : z_Dat) : Option z_Dat :=
  if (F_X11_fine D) = 0 then (F_X11_sign_J24 D)
  else (z_bd (F_X11_here N D) (fun a_8 => if a_8.1 = a0 then (F_X11_sign_J24 a_8.2)
  else (z_let (F_X11_wrong 1 (a_8.2 40 4) a_8.2) (fun a_11 => F_X11_sign_J24 a_11))))
set_option maxRecDepth 100000 in
set_option maxHeartbeats 4000000 in
theorem em_X11_sign {l : Launch} {S : List z_Shp} {oW : Nat} (hl : l.stackTraces = false) (hW : z_W S oW) (N : Nat) (a0 : Int32) (D : z_Dat) : ∀ out, z_ko (z_kV S) (F_X11_sign N a0 D) out → z_EM l M_X11_sign (30, 580, 0, 0) [.ref 40, .int a0] S D out := by
  have hs40 : S[40]? = some (13, 55, [none, some (some 41), none, none, none, none, none, none, none, some (some 42), some (some 43), some (some 44), some (some 45), some (some 46), some (some 47), some (some 48), none, none, none, none, none, none, some (some 49), some (some 50), some (some 51), some (some 52), some (some 53), none, none, some (some 54), some (some 55), some (some 56), none, none, none, none, none, none, some (some 57), some (some 58), some (some 59), some (some 60), some (some 61), none, some (some 62), some (some 63), none, none, some (some 64), some (some 65), none, none, none, some (some 66), none]) := hW.1 40 _ rfl
  refine z_meth hl rfl kp_X11 (Nat.le_of_ble_eq_true rfl) (lv := [some (.ref 40), some (.int a0)]) rfl ?_
  unfold F_X11_sign
  have hJ_F_X11_sign_J24 : ∀ (D3 : z_Dat) , z_F l M_X11_sign (30, 580, 0, 0) 0 0 24 [some (.ref 40), none] [] S D3 (z_ko (z_kV S)) (F_X11_sign_J24 D3) := by
    intro D3
    unfold F_X11_sign_J24
    refine z_aload_n (i := 0) (x := 40) dX11_sign_24 rfl rfl ?_
    refine z_cP (As := [.ref 40]) (rest := []) (em_X11_fine hl hW D3) (fun o7 h => z_runV 133 0 h rfl kk_X11_133 hs40 kl_11.1 kq_X11_fine rfl (Nat.le_of_ble_eq_true rfl) ⟨Nat.le_of_ble_eq_true rfl, Nat.le_of_ble_eq_true rfl, Nat.le_of_ble_eq_true rfl, Nat.le_of_ble_eq_true rfl⟩ dX11_sign_25) z_gWV (fun hz4 => ?_)
    refine z_if_eq 41 dX11_sign_28 (by decide) (fun c5 => ?_) (fun c5 => ?_)
    · exact z_vreturn dX11_sign_41 z_rWV trivial (by decide) (by decide)
    · refine z_aload_n (i := 0) (x := 40) dX11_sign_31 rfl rfl ?_
      refine z_dup dX11_sign_32 rfl ?_
      refine z_getI (j := 4) dX11_sign_33 kl_11 hs40 (by decide) rfl rfl kf_X11_110 ?_
      refine z_iconst (v := 1) dX11_sign_36 rfl ?_
      refine z_iadd dX11_sign_37 ?_
      refine z_putI (j := 4) dX11_sign_38 kl_11 tyX11_ok nmX11 hs40 (by decide) rfl rfl rfl rfl rfl rfl kf_X11_110 (fun D6 => ?_)
      exact z_vreturn dX11_sign_41 z_rWV trivial (by decide) (by decide)
  refine z_aload_n (i := 0) (x := 40) dX11_sign_0 rfl rfl ?_
  refine z_cP (As := [.ref 40]) (rest := []) (em_X11_fine hl hW D) (fun o7 h => z_runV 133 0 h rfl kk_X11_133 hs40 kl_11.1 kq_X11_fine rfl (Nat.le_of_ble_eq_true rfl) ⟨Nat.le_of_ble_eq_true rfl, Nat.le_of_ble_eq_true rfl, Nat.le_of_ble_eq_true rfl, Nat.le_of_ble_eq_true rfl⟩ dX11_sign_1) z_gWV (fun hz1 => ?_)
  refine z_if_eq 24 dX11_sign_4 (by decide) (fun c2 => ?_) (fun c2 => ?_)
  · refine z_weak (lv' := [some (.ref 40), none]) ⟨Or.inr rfl, ⟨Or.inl rfl, trivial⟩⟩ ?_
    exact hJ_F_X11_sign_J24 D
  · refine z_aload_n (i := 0) (x := 40) dX11_sign_7 rfl rfl ?_
    refine z_cWI (As := [.ref 40]) (rest := []) (em_X11_here hl hW N D) (fun o7 h => z_runV 116 0 h rfl kk_X11_116 hs40 kl_11.1 kq_X11_here rfl (Nat.le_of_ble_eq_true rfl) ⟨Nat.le_of_ble_eq_true rfl, Nat.le_of_ble_eq_true rfl, Nat.le_of_ble_eq_true rfl, Nat.le_of_ble_eq_true rfl⟩ dX11_sign_8) z_gWV (fun a_8 hz7 => ?_)
    refine z_iload_n (i := 1) (x := a0) dX11_sign_11 rfl rfl ?_
    refine z_icmp_eq 24 dX11_sign_12 (by decide) (fun c9 => ?_) (fun c9 => ?_)
    · refine z_weak (lv' := [some (.ref 40), none]) ⟨Or.inr rfl, ⟨Or.inl rfl, trivial⟩⟩ ?_
      exact hJ_F_X11_sign_J24 a_8.2
    · refine z_aload_n (i := 0) (x := 40) dX11_sign_15 rfl rfl ?_
      refine z_iconst (v := 1) dX11_sign_16 rfl ?_
      refine z_aload_n (i := 0) (x := 40) dX11_sign_17 rfl rfl ?_
      refine z_getI (j := 4) dX11_sign_18 kl_11 hs40 (by decide) rfl rfl kf_X11_110 ?_
      refine z_cTV (As := [.ref 40, .int 1, .int (a_8.2 40 4)]) (rest := []) (em_X11_wrong hl hW 1 (a_8.2 40 4) a_8.2) (fun o7 h => z_runV 140 2 h rfl kk_X11_140 hs40 kl_11.1 kq_X11_wrong rfl (Nat.le_of_ble_eq_true rfl) ⟨Nat.le_of_ble_eq_true rfl, Nat.le_of_ble_eq_true rfl, Nat.le_of_ble_eq_true rfl, Nat.le_of_ble_eq_true rfl⟩ dX11_sign_21) z_gWV (fun a_11 hz10 => ?_)
      refine z_weak (lv' := [some (.ref 40), none]) ⟨Or.inr rfl, ⟨Or.inl rfl, trivial⟩⟩ ?_
      exact hJ_F_X11_sign_J24 a_11

def F_X11_isMore (N : Nat) (D : z_Dat) : Option (Int32 × z_Dat) :=
  z_bd (F_X11_here N D) (fun a_2 => if (a_2.2 40 3) ≤ (a_2.2 40 4) then (some (0, a_2.2))
  else (some (1, a_2.2)))
set_option maxRecDepth 100000 in
set_option maxHeartbeats 4000000 in
theorem em_X11_isMore {l : Launch} {S : List z_Shp} {oW : Nat} (hl : l.stackTraces = false) (hW : z_W S oW) (N : Nat) (D : z_Dat) : ∀ out, z_ko (z_kI S) (F_X11_isMore N D) out → z_EM l M_X11_isMore (30, 580, 0, 0) [.ref 40] S D out := by
  have hs40 : S[40]? = some (13, 55, [none, some (some 41), none, none, none, none, none, none, none, some (some 42), some (some 43), some (some 44), some (some 45), some (some 46), some (some 47), some (some 48), none, none, none, none, none, none, some (some 49), some (some 50), some (some 51), some (some 52), some (some 53), none, none, some (some 54), some (some 55), some (some 56), none, none, none, none, none, none, some (some 57), some (some 58), some (some 59), some (some 60), some (some 61), none, some (some 62), some (some 63), none, none, some (some 64), some (some 65), none, none, none, some (some 66), none]) := hW.1 40 _ rfl
  refine z_meth hl rfl kp_X11 (Nat.le_of_ble_eq_true rfl) (lv := [some (.ref 40)]) rfl ?_
  unfold F_X11_isMore
  refine z_aload_n (i := 0) (x := 40) dX11_isMore_0 rfl rfl ?_
  refine z_cWI (As := [.ref 40]) (rest := []) (em_X11_here hl hW N D) (fun o7 h => z_runV 116 0 h rfl kk_X11_116 hs40 kl_11.1 kq_X11_here rfl (Nat.le_of_ble_eq_true rfl) ⟨Nat.le_of_ble_eq_true rfl, Nat.le_of_ble_eq_true rfl, Nat.le_of_ble_eq_true rfl, Nat.le_of_ble_eq_true rfl⟩ dX11_isMore_1) z_gWI (fun a_2 hz1 => ?_)
  refine z_pop dX11_isMore_4 rfl ?_
  refine z_aload_n (i := 0) (x := 40) dX11_isMore_5 rfl rfl ?_
  refine z_getI (j := 4) dX11_isMore_6 kl_11 hs40 (by decide) rfl rfl kf_X11_110 ?_
  refine z_aload_n (i := 0) (x := 40) dX11_isMore_9 rfl rfl ?_
  refine z_getI (j := 3) dX11_isMore_10 kl_11 hs40 (by decide) rfl rfl kf_X11_113 ?_
  refine z_icmp_ge 20 dX11_isMore_13 (by decide) (fun c3 => ?_) (fun c3 => ?_)
  · refine z_iconst (v := 0) dX11_isMore_20 rfl ?_
    exact z_ireturn dX11_isMore_21 z_rWI rfl (by decide) (by decide)
  · refine z_iconst (v := 1) dX11_isMore_16 rfl ?_
    refine z_goto 21 dX11_isMore_17 (by decide) ?_
    exact z_ireturn dX11_isMore_21 z_rWI rfl (by decide) (by decide)

def F_X11_begins (a0 : Int32) (D : z_Dat) : z_Dat :=
  z_let (z_up D 40 2 0) (fun D1 => z_let (z_up D1 40 8 (-1)) (fun D2 => z_let (z_up D2 40 3 a0) (fun D3 => z_let (z_up D3 40 4 0) (fun D4 => z_let (z_up D4 40 5 (-1)) (fun D5 => z_let (z_up D5 40 7 0) (fun D6 => D6))))))
set_option maxRecDepth 100000 in
set_option maxHeartbeats 4000000 in
theorem em_X11_begins {l : Launch} {S : List z_Shp} {oW : Nat} (hl : l.stackTraces = false) (hW : z_W S oW) (a0 : Int32) (D : z_Dat) : ∀ out, z_kt (z_kV S) (F_X11_begins a0 D) out → z_EM l M_X11_begins (20, 520, 0, 0) [.ref 40, .int a0] S D out := by
  have hs40 : S[40]? = some (13, 55, [none, some (some 41), none, none, none, none, none, none, none, some (some 42), some (some 43), some (some 44), some (some 45), some (some 46), some (some 47), some (some 48), none, none, none, none, none, none, some (some 49), some (some 50), some (some 51), some (some 52), some (some 53), none, none, some (some 54), some (some 55), some (some 56), none, none, none, none, none, none, some (some 57), some (some 58), some (some 59), some (some 60), some (some 61), none, some (some 62), some (some 63), none, none, some (some 64), some (some 65), none, none, none, some (some 66), none]) := hW.1 40 _ rfl
  refine z_meth hl rfl kp_X11 (Nat.le_of_ble_eq_true rfl) (lv := [some (.ref 40), some (.int a0)]) rfl ?_
  unfold F_X11_begins
  refine z_aload_n (i := 0) (x := 40) dX11_begins_0 rfl rfl ?_
  refine z_iconst (v := 0) dX11_begins_1 rfl ?_
  refine z_putI (j := 2) dX11_begins_2 kl_11 tyX11_ok nmX11 hs40 (by decide) rfl rfl rfl rfl rfl rfl kf_X11_101 (fun D1 => ?_)
  refine z_aload_n (i := 0) (x := 40) dX11_begins_5 rfl rfl ?_
  refine z_iconst (v := (-1)) dX11_begins_6 rfl ?_
  refine z_putI (j := 8) dX11_begins_7 kl_11 tyX11_ok nmX11 hs40 (by decide) rfl rfl rfl rfl rfl rfl kf_X11_17 (fun D2 => ?_)
  refine z_aload_n (i := 0) (x := 40) dX11_begins_10 rfl rfl ?_
  refine z_iload_n (i := 1) (x := a0) dX11_begins_11 rfl rfl ?_
  refine z_putI (j := 3) dX11_begins_12 kl_11 tyX11_ok nmX11 hs40 (by decide) rfl rfl rfl rfl rfl rfl kf_X11_113 (fun D3 => ?_)
  refine z_aload_n (i := 0) (x := 40) dX11_begins_15 rfl rfl ?_
  refine z_iconst (v := 0) dX11_begins_16 rfl ?_
  refine z_putI (j := 4) dX11_begins_17 kl_11 tyX11_ok nmX11 hs40 (by decide) rfl rfl rfl rfl rfl rfl kf_X11_110 (fun D4 => ?_)
  refine z_aload_n (i := 0) (x := 40) dX11_begins_20 rfl rfl ?_
  refine z_iconst (v := (-1)) dX11_begins_21 rfl ?_
  refine z_putI (j := 5) dX11_begins_22 kl_11 tyX11_ok nmX11 hs40 (by decide) rfl rfl rfl rfl rfl rfl kf_X11_104 (fun D5 => ?_)
  refine z_aload_n (i := 0) (x := 40) dX11_begins_25 rfl rfl ?_
  refine z_iconst (v := 0) dX11_begins_26 rfl ?_
  refine z_putI (j := 7) dX11_begins_27 kl_11 tyX11_ok nmX11 hs40 (by decide) rfl rfl rfl rfl rfl rfl kf_X11_144 (fun D6 => ?_)
  exact z_vreturn dX11_begins_30 z_rTV trivial (by decide) (by decide)

def F_X11_result (a0 : Int32) (D : z_Dat) : Int32 × z_Dat :=
  z_let (z_up D 40 8 (D 40 5)) (fun D1 => if (F_X11_fine D1) = 0 then (((D1 40 6) - 10, D1))
  else ((a0, D1)))
set_option maxRecDepth 100000 in
set_option maxHeartbeats 4000000 in
theorem em_X11_result {l : Launch} {S : List z_Shp} {oW : Nat} (hl : l.stackTraces = false) (hW : z_W S oW) (a0 : Int32) (D : z_Dat) : ∀ out, z_kt (z_kI S) (F_X11_result a0 D) out → z_EM l M_X11_result (30, 580, 0, 0) [.ref 40, .int a0] S D out := by
  have hs40 : S[40]? = some (13, 55, [none, some (some 41), none, none, none, none, none, none, none, some (some 42), some (some 43), some (some 44), some (some 45), some (some 46), some (some 47), some (some 48), none, none, none, none, none, none, some (some 49), some (some 50), some (some 51), some (some 52), some (some 53), none, none, some (some 54), some (some 55), some (some 56), none, none, none, none, none, none, some (some 57), some (some 58), some (some 59), some (some 60), some (some 61), none, some (some 62), some (some 63), none, none, some (some 64), some (some 65), none, none, none, some (some 66), none]) := hW.1 40 _ rfl
  refine z_meth hl rfl kp_X11 (Nat.le_of_ble_eq_true rfl) (lv := [some (.ref 40), some (.int a0)]) rfl ?_
  unfold F_X11_result
  refine z_aload_n (i := 0) (x := 40) dX11_result_0 rfl rfl ?_
  refine z_aload_n (i := 0) (x := 40) dX11_result_1 rfl rfl ?_
  refine z_getI (j := 5) dX11_result_2 kl_11 hs40 (by decide) rfl rfl kf_X11_104 ?_
  refine z_putI (j := 8) dX11_result_5 kl_11 tyX11_ok nmX11 hs40 (by decide) rfl rfl rfl rfl rfl rfl kf_X11_17 (fun D1 => ?_)
  refine z_aload_n (i := 0) (x := 40) dX11_result_8 rfl rfl ?_
  refine z_cP (As := [.ref 40]) (rest := []) (em_X11_fine hl hW D1) (fun o7 h => z_runV 133 0 h rfl kk_X11_133 hs40 kl_11.1 kq_X11_fine rfl (Nat.le_of_ble_eq_true rfl) ⟨Nat.le_of_ble_eq_true rfl, Nat.le_of_ble_eq_true rfl, Nat.le_of_ble_eq_true rfl, Nat.le_of_ble_eq_true rfl⟩ dX11_result_9) z_gTI (fun hz2 => ?_)
  refine z_if_eq 19 dX11_result_12 (by decide) (fun c3 => ?_) (fun c3 => ?_)
  · refine z_aload_n (i := 0) (x := 40) dX11_result_19 rfl rfl ?_
    refine z_getI (j := 6) dX11_result_20 kl_11 hs40 (by decide) rfl rfl kf_X11_107 ?_
    refine z_bipush (v := 10) dX11_result_23 (by decide) ?_
    refine z_isub dX11_result_25 ?_
    exact z_ireturn dX11_result_26 z_rTI rfl (by decide) (by decide)
  · refine z_iload_n (i := 1) (x := a0) dX11_result_15 rfl rfl ?_
    refine z_goto 26 dX11_result_16 (by decide) ?_
    exact z_ireturn dX11_result_26 z_rTI rfl (by decide) (by decide)

def F_X11_fault (D : z_Dat) : Int32 × z_Dat :=
  z_let (z_up D 40 0 0) (fun D1 => (D1 40 8, D1))
set_option maxRecDepth 100000 in
set_option maxHeartbeats 4000000 in
theorem em_X11_fault {l : Launch} {S : List z_Shp} {oW : Nat} (hl : l.stackTraces = false) (hW : z_W S oW) (D : z_Dat) : ∀ out, z_kt (z_kI S) (F_X11_fault D) out → z_EM l M_X11_fault (20, 520, 0, 0) [.ref 40] S D out := by
  have hs40 : S[40]? = some (13, 55, [none, some (some 41), none, none, none, none, none, none, none, some (some 42), some (some 43), some (some 44), some (some 45), some (some 46), some (some 47), some (some 48), none, none, none, none, none, none, some (some 49), some (some 50), some (some 51), some (some 52), some (some 53), none, none, some (some 54), some (some 55), some (some 56), none, none, none, none, none, none, some (some 57), some (some 58), some (some 59), some (some 60), some (some 61), none, some (some 62), some (some 63), none, none, some (some 64), some (some 65), none, none, none, some (some 66), none]) := hW.1 40 _ rfl
  refine z_meth hl rfl kp_X11 (Nat.le_of_ble_eq_true rfl) (lv := [some (.ref 40)]) rfl ?_
  unfold F_X11_fault
  refine z_aload_n (i := 0) (x := 40) dX11_fault_0 rfl rfl ?_
  refine z_iconst (v := 0) dX11_fault_1 rfl ?_
  refine z_putI (j := 0) dX11_fault_2 kl_11 tyX11_ok nmX11 hs40 (by decide) rfl rfl rfl rfl rfl rfl kf_X11_3 (fun D1 => ?_)
  refine z_aload_n (i := 0) (x := 40) dX11_fault_5 rfl rfl ?_
  refine z_getI (j := 8) dX11_fault_6 kl_11 hs40 (by decide) rfl rfl kf_X11_17 ?_
  exact z_ireturn dX11_fault_9 z_rTI rfl (by decide) (by decide)

def F_X11_isRow (N : Nat) (a0 : Int32) : Option Int32 :=
  z_bd (F_X11_of N 3) (fun a_2 => if a0 = a_2 then (some 1)
  else (z_bd (F_X11_of N 4) (fun a_5 => if a0 = a_5 then (some 1)
  else (z_bd (F_X11_of N 5) (fun a_8 => if a0 = a_8 then (some 1)
  else (z_bd (F_X11_of N 6) (fun a_11 => if a0 = a_11 then (some 1)
  else (some 0))))))))
set_option maxRecDepth 100000 in
set_option maxHeartbeats 4000000 in
theorem em_X11_isRow {l : Launch} {S : List z_Shp} (hl : l.stackTraces = false) (N : Nat) (a0 : Int32) (D : z_Dat) : ∀ out, z_ko (z_kR S D) (F_X11_isRow N a0) out → z_EM l M_X11_isRow (60, 580, 0, 0) [.int a0] S D out := by
  refine z_meth hl rfl kp_X11 (Nat.le_of_ble_eq_true rfl) (lv := [some (.int a0)]) rfl ?_
  unfold F_X11_isRow
  refine z_iload_n (i := 0) (x := a0) dX11_isRow_0 rfl rfl ?_
  refine z_ldcS 3 (by decide) dX11_isRow_1 rfl rfl ?_
  refine z_cR (As := [.retAddr 3]) (rest := [.int a0]) (em_X11_of (w := 3) hl (by decide) N D) (fun o7 h => z_runS 185 1 h rfl kk_X11_185 kq_X11_of rfl (Nat.le_of_ble_eq_true rfl) ⟨Nat.le_of_ble_eq_true rfl, Nat.le_of_ble_eq_true rfl, Nat.le_of_ble_eq_true rfl, Nat.le_of_ble_eq_true rfl⟩ dX11_isRow_3) z_gR (fun a_2 hz1 => ?_)
  refine z_icmp_eq 36 dX11_isRow_6 (by decide) (fun c3 => ?_) (fun c3 => ?_)
  · refine z_iconst (v := 1) dX11_isRow_36 rfl ?_
    refine z_goto 41 dX11_isRow_37 (by decide) ?_
    exact z_ireturn dX11_isRow_41 z_rR rfl (by decide) (by decide)
  · refine z_iload_n (i := 0) (x := a0) dX11_isRow_9 rfl rfl ?_
    refine z_ldcS 4 (by decide) dX11_isRow_10 rfl rfl ?_
    refine z_cR (As := [.retAddr 4]) (rest := [.int a0]) (em_X11_of (w := 4) hl (by decide) N D) (fun o7 h => z_runS 185 1 h rfl kk_X11_185 kq_X11_of rfl (Nat.le_of_ble_eq_true rfl) ⟨Nat.le_of_ble_eq_true rfl, Nat.le_of_ble_eq_true rfl, Nat.le_of_ble_eq_true rfl, Nat.le_of_ble_eq_true rfl⟩ dX11_isRow_12) z_gR (fun a_5 hz4 => ?_)
    refine z_icmp_eq 36 dX11_isRow_15 (by decide) (fun c6 => ?_) (fun c6 => ?_)
    · refine z_iconst (v := 1) dX11_isRow_36 rfl ?_
      refine z_goto 41 dX11_isRow_37 (by decide) ?_
      exact z_ireturn dX11_isRow_41 z_rR rfl (by decide) (by decide)
    · refine z_iload_n (i := 0) (x := a0) dX11_isRow_18 rfl rfl ?_
      refine z_ldcS 5 (by decide) dX11_isRow_19 rfl rfl ?_
      refine z_cR (As := [.retAddr 5]) (rest := [.int a0]) (em_X11_of (w := 5) hl (by decide) N D) (fun o7 h => z_runS 185 1 h rfl kk_X11_185 kq_X11_of rfl (Nat.le_of_ble_eq_true rfl) ⟨Nat.le_of_ble_eq_true rfl, Nat.le_of_ble_eq_true rfl, Nat.le_of_ble_eq_true rfl, Nat.le_of_ble_eq_true rfl⟩ dX11_isRow_21) z_gR (fun a_8 hz7 => ?_)
      refine z_icmp_eq 36 dX11_isRow_24 (by decide) (fun c9 => ?_) (fun c9 => ?_)
      · refine z_iconst (v := 1) dX11_isRow_36 rfl ?_
        refine z_goto 41 dX11_isRow_37 (by decide) ?_
        exact z_ireturn dX11_isRow_41 z_rR rfl (by decide) (by decide)
      · refine z_iload_n (i := 0) (x := a0) dX11_isRow_27 rfl rfl ?_
        refine z_ldcS 6 (by decide) dX11_isRow_28 rfl rfl ?_
        refine z_cR (As := [.retAddr 6]) (rest := [.int a0]) (em_X11_of (w := 6) hl (by decide) N D) (fun o7 h => z_runS 185 1 h rfl kk_X11_185 kq_X11_of rfl (Nat.le_of_ble_eq_true rfl) ⟨Nat.le_of_ble_eq_true rfl, Nat.le_of_ble_eq_true rfl, Nat.le_of_ble_eq_true rfl, Nat.le_of_ble_eq_true rfl⟩ dX11_isRow_30) z_gR (fun a_11 hz10 => ?_)
        refine z_icmp_ne 40 dX11_isRow_33 (by decide) (fun c12 => ?_) (fun c12 => ?_)
        · refine z_iconst (v := 1) dX11_isRow_36 rfl ?_
          refine z_goto 41 dX11_isRow_37 (by decide) ?_
          exact z_ireturn dX11_isRow_41 z_rR rfl (by decide) (by decide)
        · refine z_iconst (v := 0) dX11_isRow_40 rfl ?_
          exact z_ireturn dX11_isRow_41 z_rR rfl (by decide) (by decide)

def F_X11_readRow_J18 (v25 : Int32) (D26 : z_Dat) : Option z_Dat :=
  z_let (z_up D26 40 16 ((D26 40 16) + 1)) (fun D27 => some D27)
def F_X11_readRow_J18x (N : Nat) (v20 : Int32) (D21 : z_Dat) : Option z_Dat :=
  z_bd (F_X11_readNumber N 0 9 D21) (fun a_23 => if z_inb (v20 + 3) 24 then z_let (z_up a_23.2 43 (z_ix (v20 + 3)) a_23.1) (fun D24 => F_X11_readRow_J18 v20 D24) else none)
def F_X11_readRow_J18xx (N : Nat) (v15 : Int32) (D16 : z_Dat) : Option z_Dat :=
  z_bd (F_X11_readNumber N 0 9 D16) (fun a_18 => if z_inb (v15 + 2) 24 then z_let (z_up a_18.2 43 (z_ix (v15 + 2)) a_18.1) (fun D19 => F_X11_readRow_J18x N v15 D19) else none)
def F_X11_readRow_J18xxx (N : Nat) (v10 : Int32) (D11 : z_Dat) : Option z_Dat :=
  z_bd (F_X11_readNumber N 0 9 D11) (fun a_13 => if z_inb (v10 + 1) 24 then z_let (z_up a_13.2 43 (z_ix (v10 + 1)) a_13.1) (fun D14 => F_X11_readRow_J18xx N v10 D14) else none)
def F_X11_readRow_J18xxxx (N : Nat) (v5 : Int32) (D6 : z_Dat) : Option z_Dat :=
  z_bd (F_X11_readNumber N 0 9 D6) (fun a_8 => if z_inb (v5 + 0) 24 then z_let (z_up a_8.2 43 (z_ix (v5 + 0)) a_8.1) (fun D9 => F_X11_readRow_J18xxx N v5 D9) else none)
def F_X11_readRow (N : Nat) (a0 : Int32) (D : z_Dat) : Option z_Dat :=
  z_bd (F_X11_of N 3) (fun a_2 => if a0 = a_2 then (z_let (4 * (D 40 16)) (fun v4 => F_X11_readRow_J18xxxx N v4 D))
  else (z_bd (F_X11_of N 4) (fun a_29 => if a0 = a_29 then (z_bd (F_X11_readNumber N 0 ((D 40 16) - 1) D) (fun a_32 => if z_inb (D 40 17) 8 then z_let (z_up a_32.2 44 (z_ix (D 40 17)) a_32.1) (fun D33 => z_bd (F_X11_readNumber N 0 60 D33) (fun a_35 => if z_inb (D33 40 17) 8 then z_let (z_up a_35.2 45 (z_ix (D33 40 17)) a_35.1) (fun D36 => z_let (z_up D36 40 17 ((D36 40 17) + 1)) (fun D37 => some D37)) else none)) else none))
  else (z_bd (F_X11_of N 5) (fun a_39 => if a0 = a_39 then (z_bd (F_X11_readNumber N 0 2 D) (fun a_42 => z_bd (F_X11_readNumber N 0 200 a_42.2) (fun a_44 => if (F_X11_fine a_44.2) = 0 then (some a_44.2)
  else (if z_inb a_42.1 3 then z_let (z_up a_44.2 46 (z_ix a_42.1) a_44.1) (fun D47 => some D47) else none))))
  else (z_bd (F_X11_readNumber N 0 20 D) (fun a_49 => z_let (z_up a_49.2 40 18 a_49.1) (fun D50 => some D50))))))))
set_option maxRecDepth 100000 in
set_option maxHeartbeats 4000000 in
theorem em_X11_readRow {l : Launch} {S : List z_Shp} {oW : Nat} (hl : l.stackTraces = false) (hW : z_W S oW) (N : Nat) (a0 : Int32) (D : z_Dat) : ∀ out, z_ko (z_kV S) (F_X11_readRow N a0 D) out → z_EM l M_X11_readRow (60, 640, 0, 0) [.ref 40, .int a0] S D out := by
  have hs40 : S[40]? = some (13, 55, [none, some (some 41), none, none, none, none, none, none, none, some (some 42), some (some 43), some (some 44), some (some 45), some (some 46), some (some 47), some (some 48), none, none, none, none, none, none, some (some 49), some (some 50), some (some 51), some (some 52), some (some 53), none, none, some (some 54), some (some 55), some (some 56), none, none, none, none, none, none, some (some 57), some (some 58), some (some 59), some (some 60), some (some 61), none, some (some 62), some (some 63), none, none, some (some 64), some (some 65), none, none, none, some (some 66), none]) := hW.1 40 _ rfl
  have hs43 : S[43]? = some (0, 24, []) := hW.1 43 _ rfl
  have hs44 : S[44]? = some (0, 8, []) := hW.1 44 _ rfl
  have hs45 : S[45]? = some (0, 8, []) := hW.1 45 _ rfl
  have hs46 : S[46]? = some (0, 3, []) := hW.1 46 _ rfl
  refine z_meth hl rfl kp_X11 (Nat.le_of_ble_eq_true rfl) (lv := [some (.ref 40), some (.int a0), none, none]) rfl ?_
  unfold F_X11_readRow
  have hJ_F_X11_readRow_J18 : ∀ (v25 : Int32) (D26 : z_Dat) , z_F l M_X11_readRow (60, 640, 0, 0) 0 0 18 [some (.ref 40), none, some (.int v25), some (.int 4)] [] S D26 (z_ko (z_kV S)) (F_X11_readRow_J18 v25 D26) := by
    intro v25 D26
    unfold F_X11_readRow_J18
    refine z_iload_n (i := 3) (x := 4) dX11_readRow_18 rfl rfl ?_
    refine z_iconst (v := 4) dX11_readRow_19 rfl ?_
    refine z_icmp_geJ 44 dX11_readRow_20 (by decide) (by decide) ?_
    refine z_aload_n (i := 0) (x := 40) dX11_readRow_44 rfl rfl ?_
    refine z_dup dX11_readRow_45 rfl ?_
    refine z_getI (j := 16) dX11_readRow_46 kl_11 hs40 (by decide) rfl rfl kf_X11_147 ?_
    refine z_iconst (v := 1) dX11_readRow_49 rfl ?_
    refine z_iadd dX11_readRow_50 ?_
    refine z_putI (j := 16) dX11_readRow_51 kl_11 tyX11_ok nmX11 hs40 (by decide) rfl rfl rfl rfl rfl rfl kf_X11_147 (fun D27 => ?_)
    refine z_goto 168 dX11_readRow_54 (by decide) ?_
    exact z_vreturn dX11_readRow_168 z_rWV trivial (by decide) (by decide)
  have hJ_F_X11_readRow_J18x : ∀ (v20 : Int32) (D21 : z_Dat) , z_F l M_X11_readRow (60, 640, 0, 0) 0 0 18 [some (.ref 40), none, some (.int v20), some (.int 3)] [] S D21 (z_ko (z_kV S)) (F_X11_readRow_J18x N v20 D21) := by
    intro v20 D21
    unfold F_X11_readRow_J18x
    refine z_iload_n (i := 3) (x := 3) dX11_readRow_18 rfl rfl ?_
    refine z_iconst (v := 4) dX11_readRow_19 rfl ?_
    refine z_icmp_geN 44 dX11_readRow_20 (by decide) (by decide) ?_
    refine z_aload_n (i := 0) (x := 40) dX11_readRow_23 rfl rfl ?_
    refine z_getR (j := 10) dX11_readRow_24 kl_11 hs40 (by decide) rfl rfl kf_X11_23 ?_
    refine z_iload_n (i := 2) (x := v20) dX11_readRow_27 rfl rfl ?_
    refine z_iload_n (i := 3) (x := 3) dX11_readRow_28 rfl rfl ?_
    refine z_iadd dX11_readRow_29 ?_
    refine z_aload_n (i := 0) (x := 40) dX11_readRow_30 rfl rfl ?_
    refine z_iconst (v := 0) dX11_readRow_31 rfl ?_
    refine z_bipush (v := 9) dX11_readRow_32 (by decide) ?_
    refine z_cWI (As := [.ref 40, .int 0, .int 9]) (rest := [.int (v20 + 3), .ref 43]) (em_X11_readNumber hl hW N 0 9 D21) (fun o7 h => z_runV 194 2 h rfl kk_X11_194 hs40 kl_11.1 kq_X11_readNumber rfl (Nat.le_of_ble_eq_true rfl) ⟨Nat.le_of_ble_eq_true rfl, Nat.le_of_ble_eq_true rfl, Nat.le_of_ble_eq_true rfl, Nat.le_of_ble_eq_true rfl⟩ dX11_readRow_34) z_gWV (fun a_23 hz22 => ?_)
    refine z_iast dX11_readRow_37 hs43 (fun D24 => ?_)
    refine z_iincC (i := 3) (x := 3) (v := 4) (lv' := [some (.ref 40), none, some (.int v20), some (.int 4)]) dX11_readRow_38 rfl (by decide) (by decide) rfl rfl ?_
    refine z_goto 18 dX11_readRow_41 (by decide) ?_
    exact hJ_F_X11_readRow_J18 v20 D24
  have hJ_F_X11_readRow_J18xx : ∀ (v15 : Int32) (D16 : z_Dat) , z_F l M_X11_readRow (60, 640, 0, 0) 0 0 18 [some (.ref 40), none, some (.int v15), some (.int 2)] [] S D16 (z_ko (z_kV S)) (F_X11_readRow_J18xx N v15 D16) := by
    intro v15 D16
    unfold F_X11_readRow_J18xx
    refine z_iload_n (i := 3) (x := 2) dX11_readRow_18 rfl rfl ?_
    refine z_iconst (v := 4) dX11_readRow_19 rfl ?_
    refine z_icmp_geN 44 dX11_readRow_20 (by decide) (by decide) ?_
    refine z_aload_n (i := 0) (x := 40) dX11_readRow_23 rfl rfl ?_
    refine z_getR (j := 10) dX11_readRow_24 kl_11 hs40 (by decide) rfl rfl kf_X11_23 ?_
    refine z_iload_n (i := 2) (x := v15) dX11_readRow_27 rfl rfl ?_
    refine z_iload_n (i := 3) (x := 2) dX11_readRow_28 rfl rfl ?_
    refine z_iadd dX11_readRow_29 ?_
    refine z_aload_n (i := 0) (x := 40) dX11_readRow_30 rfl rfl ?_
    refine z_iconst (v := 0) dX11_readRow_31 rfl ?_
    refine z_bipush (v := 9) dX11_readRow_32 (by decide) ?_
    refine z_cWI (As := [.ref 40, .int 0, .int 9]) (rest := [.int (v15 + 2), .ref 43]) (em_X11_readNumber hl hW N 0 9 D16) (fun o7 h => z_runV 194 2 h rfl kk_X11_194 hs40 kl_11.1 kq_X11_readNumber rfl (Nat.le_of_ble_eq_true rfl) ⟨Nat.le_of_ble_eq_true rfl, Nat.le_of_ble_eq_true rfl, Nat.le_of_ble_eq_true rfl, Nat.le_of_ble_eq_true rfl⟩ dX11_readRow_34) z_gWV (fun a_18 hz17 => ?_)
    refine z_iast dX11_readRow_37 hs43 (fun D19 => ?_)
    refine z_iincC (i := 3) (x := 2) (v := 3) (lv' := [some (.ref 40), none, some (.int v15), some (.int 3)]) dX11_readRow_38 rfl (by decide) (by decide) rfl rfl ?_
    refine z_goto 18 dX11_readRow_41 (by decide) ?_
    exact hJ_F_X11_readRow_J18x v15 D19
  have hJ_F_X11_readRow_J18xxx : ∀ (v10 : Int32) (D11 : z_Dat) , z_F l M_X11_readRow (60, 640, 0, 0) 0 0 18 [some (.ref 40), none, some (.int v10), some (.int 1)] [] S D11 (z_ko (z_kV S)) (F_X11_readRow_J18xxx N v10 D11) := by
    intro v10 D11
    unfold F_X11_readRow_J18xxx
    refine z_iload_n (i := 3) (x := 1) dX11_readRow_18 rfl rfl ?_
    refine z_iconst (v := 4) dX11_readRow_19 rfl ?_
    refine z_icmp_geN 44 dX11_readRow_20 (by decide) (by decide) ?_
    refine z_aload_n (i := 0) (x := 40) dX11_readRow_23 rfl rfl ?_
    refine z_getR (j := 10) dX11_readRow_24 kl_11 hs40 (by decide) rfl rfl kf_X11_23 ?_
    refine z_iload_n (i := 2) (x := v10) dX11_readRow_27 rfl rfl ?_
    refine z_iload_n (i := 3) (x := 1) dX11_readRow_28 rfl rfl ?_
    refine z_iadd dX11_readRow_29 ?_
    refine z_aload_n (i := 0) (x := 40) dX11_readRow_30 rfl rfl ?_
    refine z_iconst (v := 0) dX11_readRow_31 rfl ?_
    refine z_bipush (v := 9) dX11_readRow_32 (by decide) ?_
    refine z_cWI (As := [.ref 40, .int 0, .int 9]) (rest := [.int (v10 + 1), .ref 43]) (em_X11_readNumber hl hW N 0 9 D11) (fun o7 h => z_runV 194 2 h rfl kk_X11_194 hs40 kl_11.1 kq_X11_readNumber rfl (Nat.le_of_ble_eq_true rfl) ⟨Nat.le_of_ble_eq_true rfl, Nat.le_of_ble_eq_true rfl, Nat.le_of_ble_eq_true rfl, Nat.le_of_ble_eq_true rfl⟩ dX11_readRow_34) z_gWV (fun a_13 hz12 => ?_)
    refine z_iast dX11_readRow_37 hs43 (fun D14 => ?_)
    refine z_iincC (i := 3) (x := 1) (v := 2) (lv' := [some (.ref 40), none, some (.int v10), some (.int 2)]) dX11_readRow_38 rfl (by decide) (by decide) rfl rfl ?_
    refine z_goto 18 dX11_readRow_41 (by decide) ?_
    exact hJ_F_X11_readRow_J18xx v10 D14
  have hJ_F_X11_readRow_J18xxxx : ∀ (v5 : Int32) (D6 : z_Dat) , z_F l M_X11_readRow (60, 640, 0, 0) 0 0 18 [some (.ref 40), none, some (.int v5), some (.int 0)] [] S D6 (z_ko (z_kV S)) (F_X11_readRow_J18xxxx N v5 D6) := by
    intro v5 D6
    unfold F_X11_readRow_J18xxxx
    refine z_iload_n (i := 3) (x := 0) dX11_readRow_18 rfl rfl ?_
    refine z_iconst (v := 4) dX11_readRow_19 rfl ?_
    refine z_icmp_geN 44 dX11_readRow_20 (by decide) (by decide) ?_
    refine z_aload_n (i := 0) (x := 40) dX11_readRow_23 rfl rfl ?_
    refine z_getR (j := 10) dX11_readRow_24 kl_11 hs40 (by decide) rfl rfl kf_X11_23 ?_
    refine z_iload_n (i := 2) (x := v5) dX11_readRow_27 rfl rfl ?_
    refine z_iload_n (i := 3) (x := 0) dX11_readRow_28 rfl rfl ?_
    refine z_iadd dX11_readRow_29 ?_
    refine z_aload_n (i := 0) (x := 40) dX11_readRow_30 rfl rfl ?_
    refine z_iconst (v := 0) dX11_readRow_31 rfl ?_
    refine z_bipush (v := 9) dX11_readRow_32 (by decide) ?_
    refine z_cWI (As := [.ref 40, .int 0, .int 9]) (rest := [.int (v5 + 0), .ref 43]) (em_X11_readNumber hl hW N 0 9 D6) (fun o7 h => z_runV 194 2 h rfl kk_X11_194 hs40 kl_11.1 kq_X11_readNumber rfl (Nat.le_of_ble_eq_true rfl) ⟨Nat.le_of_ble_eq_true rfl, Nat.le_of_ble_eq_true rfl, Nat.le_of_ble_eq_true rfl, Nat.le_of_ble_eq_true rfl⟩ dX11_readRow_34) z_gWV (fun a_8 hz7 => ?_)
    refine z_iast dX11_readRow_37 hs43 (fun D9 => ?_)
    refine z_iincC (i := 3) (x := 0) (v := 1) (lv' := [some (.ref 40), none, some (.int v5), some (.int 1)]) dX11_readRow_38 rfl (by decide) (by decide) rfl rfl ?_
    refine z_goto 18 dX11_readRow_41 (by decide) ?_
    exact hJ_F_X11_readRow_J18xxx v5 D9
  refine z_iload_n (i := 1) (x := a0) dX11_readRow_0 rfl rfl ?_
  refine z_ldcS 3 (by decide) dX11_readRow_1 rfl rfl ?_
  refine z_cR (As := [.retAddr 3]) (rest := [.int a0]) (em_X11_of (w := 3) hl (by decide) N D) (fun o7 h => z_runS 185 1 h rfl kk_X11_185 kq_X11_of rfl (Nat.le_of_ble_eq_true rfl) ⟨Nat.le_of_ble_eq_true rfl, Nat.le_of_ble_eq_true rfl, Nat.le_of_ble_eq_true rfl, Nat.le_of_ble_eq_true rfl⟩ dX11_readRow_3) z_gWV (fun a_2 hz1 => ?_)
  refine z_icmp_ne 57 dX11_readRow_6 (by decide) (fun c3 => ?_) (fun c3 => ?_)
  · refine z_iconst (v := 4) dX11_readRow_9 rfl ?_
    refine z_aload_n (i := 0) (x := 40) dX11_readRow_10 rfl rfl ?_
    refine z_getI (j := 16) dX11_readRow_11 kl_11 hs40 (by decide) rfl rfl kf_X11_147 ?_
    refine z_imul dX11_readRow_14 ?_
    refine z_topi (fun v4 => ?_)
    refine z_istore_n (i := 2) (x := v4) (lv' := [some (.ref 40), some (.int a0), some (.int v4), none]) dX11_readRow_15 rfl (by decide) rfl rfl ?_
    refine z_iconst (v := 0) dX11_readRow_16 rfl ?_
    refine z_istore_n (i := 3) (x := 0) (lv' := [some (.ref 40), some (.int a0), some (.int v4), some (.int 0)]) dX11_readRow_17 rfl (by decide) rfl rfl ?_
    refine z_weak (lv' := [some (.ref 40), none, some (.int v4), some (.int 0)]) ⟨Or.inr rfl, ⟨Or.inl rfl, ⟨Or.inr rfl, ⟨Or.inr rfl, trivial⟩⟩⟩⟩ ?_
    exact hJ_F_X11_readRow_J18xxxx v4 D
  · refine z_iload_n (i := 1) (x := a0) dX11_readRow_57 rfl rfl ?_
    refine z_ldcS 4 (by decide) dX11_readRow_58 rfl rfl ?_
    refine z_cR (As := [.retAddr 4]) (rest := [.int a0]) (em_X11_of (w := 4) hl (by decide) N D) (fun o7 h => z_runS 185 1 h rfl kk_X11_185 kq_X11_of rfl (Nat.le_of_ble_eq_true rfl) ⟨Nat.le_of_ble_eq_true rfl, Nat.le_of_ble_eq_true rfl, Nat.le_of_ble_eq_true rfl, Nat.le_of_ble_eq_true rfl⟩ dX11_readRow_60) z_gWV (fun a_29 hz28 => ?_)
    refine z_icmp_ne 115 dX11_readRow_63 (by decide) (fun c30 => ?_) (fun c30 => ?_)
    · refine z_aload_n (i := 0) (x := 40) dX11_readRow_66 rfl rfl ?_
      refine z_getR (j := 11) dX11_readRow_67 kl_11 hs40 (by decide) rfl rfl kf_X11_26 ?_
      refine z_aload_n (i := 0) (x := 40) dX11_readRow_70 rfl rfl ?_
      refine z_getI (j := 17) dX11_readRow_71 kl_11 hs40 (by decide) rfl rfl kf_X11_150 ?_
      refine z_aload_n (i := 0) (x := 40) dX11_readRow_74 rfl rfl ?_
      refine z_iconst (v := 0) dX11_readRow_75 rfl ?_
      refine z_aload_n (i := 0) (x := 40) dX11_readRow_76 rfl rfl ?_
      refine z_getI (j := 16) dX11_readRow_77 kl_11 hs40 (by decide) rfl rfl kf_X11_147 ?_
      refine z_iconst (v := 1) dX11_readRow_80 rfl ?_
      refine z_isub dX11_readRow_81 ?_
      refine z_cWI (As := [.ref 40, .int 0, .int ((D 40 16) - 1)]) (rest := [.int (D 40 17), .ref 44]) (em_X11_readNumber hl hW N 0 ((D 40 16) - 1) D) (fun o7 h => z_runV 194 2 h rfl kk_X11_194 hs40 kl_11.1 kq_X11_readNumber rfl (Nat.le_of_ble_eq_true rfl) ⟨Nat.le_of_ble_eq_true rfl, Nat.le_of_ble_eq_true rfl, Nat.le_of_ble_eq_true rfl, Nat.le_of_ble_eq_true rfl⟩ dX11_readRow_82) z_gWV (fun a_32 hz31 => ?_)
      refine z_iast dX11_readRow_85 hs44 (fun D33 => ?_)
      refine z_aload_n (i := 0) (x := 40) dX11_readRow_86 rfl rfl ?_
      refine z_getR (j := 12) dX11_readRow_87 kl_11 hs40 (by decide) rfl rfl kf_X11_29 ?_
      refine z_aload_n (i := 0) (x := 40) dX11_readRow_90 rfl rfl ?_
      refine z_getI (j := 17) dX11_readRow_91 kl_11 hs40 (by decide) rfl rfl kf_X11_150 ?_
      refine z_aload_n (i := 0) (x := 40) dX11_readRow_94 rfl rfl ?_
      refine z_iconst (v := 0) dX11_readRow_95 rfl ?_
      refine z_bipush (v := 60) dX11_readRow_96 (by decide) ?_
      refine z_cWI (As := [.ref 40, .int 0, .int 60]) (rest := [.int (D33 40 17), .ref 45]) (em_X11_readNumber hl hW N 0 60 D33) (fun o7 h => z_runV 194 2 h rfl kk_X11_194 hs40 kl_11.1 kq_X11_readNumber rfl (Nat.le_of_ble_eq_true rfl) ⟨Nat.le_of_ble_eq_true rfl, Nat.le_of_ble_eq_true rfl, Nat.le_of_ble_eq_true rfl, Nat.le_of_ble_eq_true rfl⟩ dX11_readRow_98) z_gWV (fun a_35 hz34 => ?_)
      refine z_iast dX11_readRow_101 hs45 (fun D36 => ?_)
      refine z_aload_n (i := 0) (x := 40) dX11_readRow_102 rfl rfl ?_
      refine z_dup dX11_readRow_103 rfl ?_
      refine z_getI (j := 17) dX11_readRow_104 kl_11 hs40 (by decide) rfl rfl kf_X11_150 ?_
      refine z_iconst (v := 1) dX11_readRow_107 rfl ?_
      refine z_iadd dX11_readRow_108 ?_
      refine z_putI (j := 17) dX11_readRow_109 kl_11 tyX11_ok nmX11 hs40 (by decide) rfl rfl rfl rfl rfl rfl kf_X11_150 (fun D37 => ?_)
      refine z_goto 168 dX11_readRow_112 (by decide) ?_
      exact z_vreturn dX11_readRow_168 z_rWV trivial (by decide) (by decide)
    · refine z_iload_n (i := 1) (x := a0) dX11_readRow_115 rfl rfl ?_
      refine z_ldcS 5 (by decide) dX11_readRow_116 rfl rfl ?_
      refine z_cR (As := [.retAddr 5]) (rest := [.int a0]) (em_X11_of (w := 5) hl (by decide) N D) (fun o7 h => z_runS 185 1 h rfl kk_X11_185 kq_X11_of rfl (Nat.le_of_ble_eq_true rfl) ⟨Nat.le_of_ble_eq_true rfl, Nat.le_of_ble_eq_true rfl, Nat.le_of_ble_eq_true rfl, Nat.le_of_ble_eq_true rfl⟩ dX11_readRow_118) z_gWV (fun a_39 hz38 => ?_)
      refine z_icmp_ne 157 dX11_readRow_121 (by decide) (fun c40 => ?_) (fun c40 => ?_)
      · refine z_aload_n (i := 0) (x := 40) dX11_readRow_124 rfl rfl ?_
        refine z_iconst (v := 0) dX11_readRow_125 rfl ?_
        refine z_iconst (v := 2) dX11_readRow_126 rfl ?_
        refine z_cWI (As := [.ref 40, .int 0, .int 2]) (rest := []) (em_X11_readNumber hl hW N 0 2 D) (fun o7 h => z_runV 194 2 h rfl kk_X11_194 hs40 kl_11.1 kq_X11_readNumber rfl (Nat.le_of_ble_eq_true rfl) ⟨Nat.le_of_ble_eq_true rfl, Nat.le_of_ble_eq_true rfl, Nat.le_of_ble_eq_true rfl, Nat.le_of_ble_eq_true rfl⟩ dX11_readRow_127) z_gWV (fun a_42 hz41 => ?_)
        refine z_istore_n (i := 2) (x := a_42.1) (lv' := [some (.ref 40), some (.int a0), some (.int a_42.1), none]) dX11_readRow_130 rfl (by decide) rfl rfl ?_
        refine z_aload_n (i := 0) (x := 40) dX11_readRow_131 rfl rfl ?_
        refine z_iconst (v := 0) dX11_readRow_132 rfl ?_
        refine z_sipush (v := 200) dX11_readRow_133 (by decide) ?_
        refine z_cWI (As := [.ref 40, .int 0, .int 200]) (rest := []) (em_X11_readNumber hl hW N 0 200 a_42.2) (fun o7 h => z_runV 194 2 h rfl kk_X11_194 hs40 kl_11.1 kq_X11_readNumber rfl (Nat.le_of_ble_eq_true rfl) ⟨Nat.le_of_ble_eq_true rfl, Nat.le_of_ble_eq_true rfl, Nat.le_of_ble_eq_true rfl, Nat.le_of_ble_eq_true rfl⟩ dX11_readRow_136) z_gWV (fun a_44 hz43 => ?_)
        refine z_istore_n (i := 3) (x := a_44.1) (lv' := [some (.ref 40), some (.int a0), some (.int a_42.1), some (.int a_44.1)]) dX11_readRow_139 rfl (by decide) rfl rfl ?_
        refine z_aload_n (i := 0) (x := 40) dX11_readRow_140 rfl rfl ?_
        refine z_cP (As := [.ref 40]) (rest := []) (em_X11_fine hl hW a_44.2) (fun o7 h => z_runV 133 0 h rfl kk_X11_133 hs40 kl_11.1 kq_X11_fine rfl (Nat.le_of_ble_eq_true rfl) ⟨Nat.le_of_ble_eq_true rfl, Nat.le_of_ble_eq_true rfl, Nat.le_of_ble_eq_true rfl, Nat.le_of_ble_eq_true rfl⟩ dX11_readRow_141) z_gWV (fun hz45 => ?_)
        refine z_if_eq 154 dX11_readRow_144 (by decide) (fun c46 => ?_) (fun c46 => ?_)
        · refine z_goto 168 dX11_readRow_154 (by decide) ?_
          exact z_vreturn dX11_readRow_168 z_rWV trivial (by decide) (by decide)
        · refine z_aload_n (i := 0) (x := 40) dX11_readRow_147 rfl rfl ?_
          refine z_getR (j := 13) dX11_readRow_148 kl_11 hs40 (by decide) rfl rfl kf_X11_32 ?_
          refine z_iload_n (i := 2) (x := a_42.1) dX11_readRow_151 rfl rfl ?_
          refine z_iload_n (i := 3) (x := a_44.1) dX11_readRow_152 rfl rfl ?_
          refine z_iast dX11_readRow_153 hs46 (fun D47 => ?_)
          refine z_goto 168 dX11_readRow_154 (by decide) ?_
          exact z_vreturn dX11_readRow_168 z_rWV trivial (by decide) (by decide)
      · refine z_aload_n (i := 0) (x := 40) dX11_readRow_157 rfl rfl ?_
        refine z_aload_n (i := 0) (x := 40) dX11_readRow_158 rfl rfl ?_
        refine z_iconst (v := 0) dX11_readRow_159 rfl ?_
        refine z_bipush (v := 20) dX11_readRow_160 (by decide) ?_
        refine z_cWI (As := [.ref 40, .int 0, .int 20]) (rest := [.ref 40]) (em_X11_readNumber hl hW N 0 20 D) (fun o7 h => z_runV 194 2 h rfl kk_X11_194 hs40 kl_11.1 kq_X11_readNumber rfl (Nat.le_of_ble_eq_true rfl) ⟨Nat.le_of_ble_eq_true rfl, Nat.le_of_ble_eq_true rfl, Nat.le_of_ble_eq_true rfl, Nat.le_of_ble_eq_true rfl⟩ dX11_readRow_162) z_gWV (fun a_49 hz48 => ?_)
        refine z_putI (j := 18) dX11_readRow_165 kl_11 tyX11_ok nmX11 hs40 (by decide) rfl rfl rfl rfl rfl rfl kf_X11_153 (fun D50 => ?_)
        exact z_vreturn dX11_readRow_168 z_rWV trivial (by decide) (by decide)

def F_X11_city_J164 (N : Nat) (D17 : z_Dat) : Option (Int32 × z_Dat) :=
  z_let (F_X11_result (D17 40 17) D17) (fun a_19 => if (a_19.2 40 5) = (-1) then (z_bd (F_X11_sets N a_19.2) (fun a_22 => some (a_19.1, a_22)))
  else (some (a_19.1, a_19.2)))
def F_X11_city_J133 (N : Nat) (kc14 : ((Int32 × z_Dat) → Option (Int32 × z_Dat))) (v33 : Int32) (v34 : Int32) (D35 : z_Dat) : Option (Int32 × z_Dat) :=
  if (F_X11_fine D35) = 0 then (F_X11_city_J164 N D35)
  else (z_bd (F_X11_pass N D35) (fun a_39 => z_bd (F_X11_readRow N v34 a_39) (fun a_41 => z_bd (F_X11_sign N 59 a_41) (fun a_43 => z_let (v33 + 1) (fun v44 => kc14 (v44, a_43))))))
def F_X11_city_J124 (N : Nat) (kc14 : ((Int32 × z_Dat) → Option (Int32 × z_Dat))) (v46 : Int32) (v47 : Int32) (D48 : z_Dat) : Option (Int32 × z_Dat) :=
  z_let (F_X11_wrong 3 (D48 40 4) D48) (fun a_50 => F_X11_city_J133 N kc14 v46 v47 a_50)
def F_X11_city_J106 (N : Nat) (kc14 : ((Int32 × z_Dat) → Option (Int32 × z_Dat))) (v55 : Int32) (v56 : Int32) (D57 : z_Dat) : Option (Int32 × z_Dat) :=
  z_bd (F_X11_of N 4) (fun a_59 => if v56 = a_59 then (if (D57 40 17) = 8 then (F_X11_city_J124 N kc14 v55 v56 D57)
  else (F_X11_city_J133 N kc14 v55 v56 D57))
  else (F_X11_city_J133 N kc14 v55 v56 D57))
def F_X11_city_L44 (N : Nat) (kc14 : ((Int32 × z_Dat) → Option (Int32 × z_Dat))) (v12 : Int32) (D13 : z_Dat) : Option (Int32 × z_Dat) :=
  if (F_X11_fine D13) = 0 then (F_X11_city_J164 N D13)
  else (z_bd (F_X11_isMore N D13) (fun a_24 => if a_24.1 = 0 then (F_X11_city_J164 N a_24.2)
  else (z_bd (F_X11_word N a_24.2) (fun a_27 => z_bd (F_X11_isRow N a_27.1) (fun a_29 => if a_29 = 0 then (z_let (F_X11_wrong 1 (a_27.2 40 4) a_27.2) (fun a_32 => F_X11_city_J133 N kc14 v12 a_27.1 a_32))
  else (if v12 = 60 then (F_X11_city_J124 N kc14 v12 a_27.1 a_27.2)
  else (z_bd (F_X11_of N 3) (fun a_52 => if a_27.1 = a_52 then (if (a_27.2 40 16) = 6 then (F_X11_city_J124 N kc14 v12 a_27.1 a_27.2)
  else (F_X11_city_J106 N kc14 v12 a_27.1 a_27.2))
  else (F_X11_city_J106 N kc14 v12 a_27.1 a_27.2)))))))))
def F_X11_city_J23 (N : Nat) (a0 : Int32) (D4 : z_Dat) : Option (Int32 × z_Dat) :=
  z_bd (F_X11_may 0 1 1 D4) (fun a_6 => if a_6.1 = 0 then (some (0, a_6.2))
  else (z_let (F_X11_begins a0 a_6.2) (fun a_9 => z_bd (F_X11_clears a_9) (fun a_11 => z_loop (fun kc14 s => F_X11_city_L44 N kc14 s.1 s.2) N (0, a_11)))))
def F_X11_city_J22 (N : Nat) (a0 : Int32) (D3 : z_Dat) : Option (Int32 × z_Dat) :=
  F_X11_city_J23 N a0 D3
def F_X11_city_J133x (N : Nat) (kc74 : ((Int32 × z_Dat) → Option (Int32 × z_Dat))) (v87 : Int32) (v88 : Int32) (D89 : z_Dat) : Option (Int32 × z_Dat) :=
  if (F_X11_fine D89) = 0 then (F_X11_city_J164 N D89)
  else (z_bd (F_X11_pass N D89) (fun a_93 => z_bd (F_X11_readRow N v88 a_93) (fun a_95 => z_bd (F_X11_sign N 59 a_95) (fun a_97 => z_let (v87 + 1) (fun v98 => kc74 (v98, a_97))))))
def F_X11_city_J124x (N : Nat) (kc74 : ((Int32 × z_Dat) → Option (Int32 × z_Dat))) (v100 : Int32) (v101 : Int32) (D102 : z_Dat) : Option (Int32 × z_Dat) :=
  z_let (F_X11_wrong 3 (D102 40 4) D102) (fun a_104 => F_X11_city_J133x N kc74 v100 v101 a_104)
def F_X11_city_J106x (N : Nat) (kc74 : ((Int32 × z_Dat) → Option (Int32 × z_Dat))) (v109 : Int32) (v110 : Int32) (D111 : z_Dat) : Option (Int32 × z_Dat) :=
  z_bd (F_X11_of N 4) (fun a_113 => if v110 = a_113 then (if (D111 40 17) = 8 then (F_X11_city_J124x N kc74 v109 v110 D111)
  else (F_X11_city_J133x N kc74 v109 v110 D111))
  else (F_X11_city_J133x N kc74 v109 v110 D111))
def F_X11_city_L44x (N : Nat) (kc74 : ((Int32 × z_Dat) → Option (Int32 × z_Dat))) (v72 : Int32) (D73 : z_Dat) : Option (Int32 × z_Dat) :=
  if (F_X11_fine D73) = 0 then (F_X11_city_J164 N D73)
  else (z_bd (F_X11_isMore N D73) (fun a_78 => if a_78.1 = 0 then (F_X11_city_J164 N a_78.2)
  else (z_bd (F_X11_word N a_78.2) (fun a_81 => z_bd (F_X11_isRow N a_81.1) (fun a_83 => if a_83 = 0 then (z_let (F_X11_wrong 1 (a_81.2 40 4) a_81.2) (fun a_86 => F_X11_city_J133x N kc74 v72 a_81.1 a_86))
  else (if v72 = 60 then (F_X11_city_J124x N kc74 v72 a_81.1 a_81.2)
  else (z_bd (F_X11_of N 3) (fun a_106 => if a_81.1 = a_106 then (if (a_81.2 40 16) = 6 then (F_X11_city_J124x N kc74 v72 a_81.1 a_81.2)
  else (F_X11_city_J106x N kc74 v72 a_81.1 a_81.2))
  else (F_X11_city_J106x N kc74 v72 a_81.1 a_81.2)))))))))
def F_X11_city_J23x (N : Nat) (a0 : Int32) (D64 : z_Dat) : Option (Int32 × z_Dat) :=
  z_bd (F_X11_may 1 1 1 D64) (fun a_66 => if a_66.1 = 0 then (some (0, a_66.2))
  else (z_let (F_X11_begins a0 a_66.2) (fun a_69 => z_bd (F_X11_clears a_69) (fun a_71 => z_loop (fun kc74 s => F_X11_city_L44x N kc74 s.1 s.2) N (0, a_71)))))
def F_X11_city (N : Nat) (a0 : Int32) (D : z_Dat) : Option (Int32 × z_Dat) :=
  z_let (z_up D 40 0 0) (fun D1 => if a0 < 0 then (F_X11_city_J22 N a0 D1)
  else (if (D1 40 2) < a0 then (F_X11_city_J22 N a0 D1)
  else (F_X11_city_J23x N a0 D1)))
set_option maxRecDepth 100000 in
set_option maxHeartbeats 4000000 in
theorem em_X11_city {l : Launch} {S : List z_Shp} {oW : Nat} (hl : l.stackTraces = false) (hW : z_W S oW) (N : Nat) (a0 : Int32) (D : z_Dat) : ∀ out, z_ko (z_kI S) (F_X11_city N a0 D) out → z_EM l M_X11_city (70, 700, 0, 0) [.ref 40, .int a0] S D out := by
  have hs40 : S[40]? = some (13, 55, [none, some (some 41), none, none, none, none, none, none, none, some (some 42), some (some 43), some (some 44), some (some 45), some (some 46), some (some 47), some (some 48), none, none, none, none, none, none, some (some 49), some (some 50), some (some 51), some (some 52), some (some 53), none, none, some (some 54), some (some 55), some (some 56), none, none, none, none, none, none, some (some 57), some (some 58), some (some 59), some (some 60), some (some 61), none, some (some 62), some (some 63), none, none, some (some 64), some (some 65), none, none, none, some (some 66), none]) := hW.1 40 _ rfl
  refine z_meth hl rfl kp_X11 (Nat.le_of_ble_eq_true rfl) (lv := [some (.ref 40), some (.int a0), none, none]) rfl ?_
  unfold F_X11_city
  have hJ_F_X11_city_J164 : ∀ (D17 : z_Dat) , z_F l M_X11_city (70, 700, 0, 0) 0 0 164 [some (.ref 40), none, none, none] [] S D17 (z_ko (z_kI S)) (F_X11_city_J164 N D17) := by
    intro D17
    unfold F_X11_city_J164
    refine z_aload_n (i := 0) (x := 40) dX11_city_164 rfl rfl ?_
    refine z_aload_n (i := 0) (x := 40) dX11_city_165 rfl rfl ?_
    refine z_getI (j := 17) dX11_city_166 kl_11 hs40 (by decide) rfl rfl kf_X11_150 ?_
    refine z_cTI (As := [.ref 40, .int (D17 40 17)]) (rest := []) (em_X11_result hl hW (D17 40 17) D17) (fun o7 h => z_runV 224 1 h rfl kk_X11_224 hs40 kl_11.1 kq_X11_result rfl (Nat.le_of_ble_eq_true rfl) ⟨Nat.le_of_ble_eq_true rfl, Nat.le_of_ble_eq_true rfl, Nat.le_of_ble_eq_true rfl, Nat.le_of_ble_eq_true rfl⟩ dX11_city_169) z_gWI (fun a_19 hz18 => ?_)
    refine z_istore_n (i := 3) (x := a_19.1) (lv' := [some (.ref 40), none, none, some (.int a_19.1)]) dX11_city_172 rfl (by decide) rfl rfl ?_
    refine z_aload_n (i := 0) (x := 40) dX11_city_173 rfl rfl ?_
    refine z_getI (j := 5) dX11_city_174 kl_11 hs40 (by decide) rfl rfl kf_X11_104 ?_
    refine z_iconst (v := (-1)) dX11_city_177 rfl ?_
    refine z_icmp_ne 185 dX11_city_178 (by decide) (fun c20 => ?_) (fun c20 => ?_)
    · refine z_aload_n (i := 0) (x := 40) dX11_city_181 rfl rfl ?_
      refine z_cWV (As := [.ref 40]) (rest := []) (em_X11_sets hl hW N a_19.2) (fun o7 h => z_runV 98 0 h rfl kk_X11_98 hs40 kl_11.1 kq_X11_sets rfl (Nat.le_of_ble_eq_true rfl) ⟨Nat.le_of_ble_eq_true rfl, Nat.le_of_ble_eq_true rfl, Nat.le_of_ble_eq_true rfl, Nat.le_of_ble_eq_true rfl⟩ dX11_city_182) z_gWI (fun a_22 hz21 => ?_)
      refine z_iload_n (i := 3) (x := a_19.1) dX11_city_185 rfl rfl ?_
      exact z_ireturn dX11_city_186 z_rWI rfl (by decide) (by decide)
    · refine z_iload_n (i := 3) (x := a_19.1) dX11_city_185 rfl rfl ?_
      exact z_ireturn dX11_city_186 z_rWI rfl (by decide) (by decide)
  have hJ_F_X11_city_J23 : ∀ (D4 : z_Dat) , z_F l M_X11_city (70, 700, 0, 0) 0 0 23 [some (.ref 40), some (.int a0), none, none] [.int 0, .ref 40] S D4 (z_ko (z_kI S)) (F_X11_city_J23 N a0 D4) := by
    intro D4
    unfold F_X11_city_J23
    refine z_iconst (v := 1) dX11_city_23 rfl ?_
    refine z_iconst (v := 1) dX11_city_24 rfl ?_
    refine z_cWI (As := [.ref 40, .int 0, .int 1, .int 1]) (rest := []) (em_X11_may hl hW 0 1 1 D4) (fun o7 h => z_runV 198 3 h rfl kk_X11_198 hs40 kl_11.1 kq_X11_may rfl (Nat.le_of_ble_eq_true rfl) ⟨Nat.le_of_ble_eq_true rfl, Nat.le_of_ble_eq_true rfl, Nat.le_of_ble_eq_true rfl, Nat.le_of_ble_eq_true rfl⟩ dX11_city_25) z_gWI (fun a_6 hz5 => ?_)
    refine z_if_ne 33 dX11_city_28 (by decide) (fun c7 => ?_) (fun c7 => ?_)
    · refine z_iconst (v := 0) dX11_city_31 rfl ?_
      exact z_ireturn dX11_city_32 z_rWI rfl (by decide) (by decide)
    · refine z_aload_n (i := 0) (x := 40) dX11_city_33 rfl rfl ?_
      refine z_iload_n (i := 1) (x := a0) dX11_city_34 rfl rfl ?_
      refine z_cTV (As := [.ref 40, .int a0]) (rest := []) (em_X11_begins hl hW a0 a_6.2) (fun o7 h => z_runV 202 1 h rfl kk_X11_202 hs40 kl_11.1 kq_X11_begins rfl (Nat.le_of_ble_eq_true rfl) ⟨Nat.le_of_ble_eq_true rfl, Nat.le_of_ble_eq_true rfl, Nat.le_of_ble_eq_true rfl, Nat.le_of_ble_eq_true rfl⟩ dX11_city_35) z_gWI (fun a_9 hz8 => ?_)
      refine z_aload_n (i := 0) (x := 40) dX11_city_38 rfl rfl ?_
      refine z_cWV (As := [.ref 40]) (rest := []) (em_X11_clears hl hW a_9) (fun o7 h => z_runV 95 0 h rfl kk_X11_95 hs40 kl_11.1 kq_X11_clears rfl (Nat.le_of_ble_eq_true rfl) ⟨Nat.le_of_ble_eq_true rfl, Nat.le_of_ble_eq_true rfl, Nat.le_of_ble_eq_true rfl, Nat.le_of_ble_eq_true rfl⟩ dX11_city_39) z_gWI (fun a_11 hz10 => ?_)
      refine z_iconst (v := 0) dX11_city_42 rfl ?_
      refine z_istore_n (i := 2) (x := 0) (lv' := [some (.ref 40), some (.int a0), some (.int 0), none]) dX11_city_43 rfl (by decide) rfl rfl ?_
      refine z_weak (lv' := [some (.ref 40), none, some (.int 0), none]) ⟨Or.inr rfl, ⟨Or.inl rfl, ⟨Or.inr rfl, ⟨Or.inl rfl, trivial⟩⟩⟩⟩ ?_
      refine z_loops (lvOf := fun s : Int32 × z_Dat => [some (.ref 40), none, some (.int s.1), none]) (dOf := fun s : Int32 × z_Dat => s.2) (fun kc14 hkc14 s => ?_) N (0, a_11)
      obtain ⟨v12, D13⟩ := s
      show z_F _ _ _ _ _ 44 [some (.ref 40), none, some (.int v12), none] [] S D13 _ (F_X11_city_L44 N kc14 v12 D13)
      unfold F_X11_city_L44
      have hJ_F_X11_city_J133 : ∀ (v33 : Int32) (v34 : Int32) (D35 : z_Dat) , z_F l M_X11_city (70, 700, 0, 0) 0 0 133 [some (.ref 40), none, some (.int v33), some (.int v34)] [] S D35 (z_ko (z_kI S)) (F_X11_city_J133 N kc14 v33 v34 D35) := by
        intro v33 v34 D35
        unfold F_X11_city_J133
        refine z_aload_n (i := 0) (x := 40) dX11_city_133 rfl rfl ?_
        refine z_cP (As := [.ref 40]) (rest := []) (em_X11_fine hl hW D35) (fun o7 h => z_runV 133 0 h rfl kk_X11_133 hs40 kl_11.1 kq_X11_fine rfl (Nat.le_of_ble_eq_true rfl) ⟨Nat.le_of_ble_eq_true rfl, Nat.le_of_ble_eq_true rfl, Nat.le_of_ble_eq_true rfl, Nat.le_of_ble_eq_true rfl⟩ dX11_city_134) z_gWI (fun hz36 => ?_)
        refine z_if_ne 143 dX11_city_137 (by decide) (fun c37 => ?_) (fun c37 => ?_)
        · refine z_goto 164 dX11_city_140 (by decide) ?_
          refine z_weak (lv' := [some (.ref 40), none, none, none]) ⟨Or.inr rfl, ⟨Or.inl rfl, ⟨Or.inl rfl, ⟨Or.inl rfl, trivial⟩⟩⟩⟩ ?_
          exact hJ_F_X11_city_J164 D35
        · refine z_aload_n (i := 0) (x := 40) dX11_city_143 rfl rfl ?_
          refine z_cWV (As := [.ref 40]) (rest := []) (em_X11_pass hl hW N D35) (fun o7 h => z_runV 215 0 h rfl kk_X11_215 hs40 kl_11.1 kq_X11_pass rfl (Nat.le_of_ble_eq_true rfl) ⟨Nat.le_of_ble_eq_true rfl, Nat.le_of_ble_eq_true rfl, Nat.le_of_ble_eq_true rfl, Nat.le_of_ble_eq_true rfl⟩ dX11_city_144) z_gWI (fun a_39 hz38 => ?_)
          refine z_aload_n (i := 0) (x := 40) dX11_city_147 rfl rfl ?_
          refine z_iload_n (i := 3) (x := v34) dX11_city_148 rfl rfl ?_
          refine z_cWV (As := [.ref 40, .int v34]) (rest := []) (em_X11_readRow hl hW N v34 a_39) (fun o7 h => z_runV 218 1 h rfl kk_X11_218 hs40 kl_11.1 kq_X11_readRow rfl (Nat.le_of_ble_eq_true rfl) ⟨Nat.le_of_ble_eq_true rfl, Nat.le_of_ble_eq_true rfl, Nat.le_of_ble_eq_true rfl, Nat.le_of_ble_eq_true rfl⟩ dX11_city_149) z_gWI (fun a_41 hz40 => ?_)
          refine z_aload_n (i := 0) (x := 40) dX11_city_152 rfl rfl ?_
          refine z_bipush (v := 59) dX11_city_153 (by decide) ?_
          refine z_cWV (As := [.ref 40, .int 59]) (rest := []) (em_X11_sign hl hW N 59 a_41) (fun o7 h => z_runV 221 1 h rfl kk_X11_221 hs40 kl_11.1 kq_X11_sign rfl (Nat.le_of_ble_eq_true rfl) ⟨Nat.le_of_ble_eq_true rfl, Nat.le_of_ble_eq_true rfl, Nat.le_of_ble_eq_true rfl, Nat.le_of_ble_eq_true rfl⟩ dX11_city_155) z_gWI (fun a_43 hz42 => ?_)
          refine z_iinc (i := 2) (x := v33) (y := 1) dX11_city_158 rfl (by decide) (by decide) rfl (fun v44 => ?_)
          refine z_goto 44 dX11_city_161 (by decide) ?_
          refine z_weak (lv' := [some (.ref 40), none, some (.int v44), none]) ⟨Or.inr rfl, ⟨Or.inl rfl, ⟨Or.inr rfl, ⟨Or.inl rfl, trivial⟩⟩⟩⟩ ?_
          exact hkc14 (v44, a_43)
      have hJ_F_X11_city_J124 : ∀ (v46 : Int32) (v47 : Int32) (D48 : z_Dat) , z_F l M_X11_city (70, 700, 0, 0) 0 0 124 [some (.ref 40), none, some (.int v46), some (.int v47)] [] S D48 (z_ko (z_kI S)) (F_X11_city_J124 N kc14 v46 v47 D48) := by
        intro v46 v47 D48
        unfold F_X11_city_J124
        refine z_aload_n (i := 0) (x := 40) dX11_city_124 rfl rfl ?_
        refine z_iconst (v := 3) dX11_city_125 rfl ?_
        refine z_aload_n (i := 0) (x := 40) dX11_city_126 rfl rfl ?_
        refine z_getI (j := 4) dX11_city_127 kl_11 hs40 (by decide) rfl rfl kf_X11_110 ?_
        refine z_cTV (As := [.ref 40, .int 3, .int (D48 40 4)]) (rest := []) (em_X11_wrong hl hW 3 (D48 40 4) D48) (fun o7 h => z_runV 140 2 h rfl kk_X11_140 hs40 kl_11.1 kq_X11_wrong rfl (Nat.le_of_ble_eq_true rfl) ⟨Nat.le_of_ble_eq_true rfl, Nat.le_of_ble_eq_true rfl, Nat.le_of_ble_eq_true rfl, Nat.le_of_ble_eq_true rfl⟩ dX11_city_130) z_gWI (fun a_50 hz49 => ?_)
        exact hJ_F_X11_city_J133 v46 v47 a_50
      have hJ_F_X11_city_J106 : ∀ (v55 : Int32) (v56 : Int32) (D57 : z_Dat) , z_F l M_X11_city (70, 700, 0, 0) 0 0 106 [some (.ref 40), none, some (.int v55), some (.int v56)] [] S D57 (z_ko (z_kI S)) (F_X11_city_J106 N kc14 v55 v56 D57) := by
        intro v55 v56 D57
        unfold F_X11_city_J106
        refine z_iload_n (i := 3) (x := v56) dX11_city_106 rfl rfl ?_
        refine z_ldcS 4 (by decide) dX11_city_107 rfl rfl ?_
        refine z_cR (As := [.retAddr 4]) (rest := [.int v56]) (em_X11_of (w := 4) hl (by decide) N D57) (fun o7 h => z_runS 185 1 h rfl kk_X11_185 kq_X11_of rfl (Nat.le_of_ble_eq_true rfl) ⟨Nat.le_of_ble_eq_true rfl, Nat.le_of_ble_eq_true rfl, Nat.le_of_ble_eq_true rfl, Nat.le_of_ble_eq_true rfl⟩ dX11_city_109) z_gWI (fun a_59 hz58 => ?_)
        refine z_icmp_ne 133 dX11_city_112 (by decide) (fun c60 => ?_) (fun c60 => ?_)
        · refine z_aload_n (i := 0) (x := 40) dX11_city_115 rfl rfl ?_
          refine z_getI (j := 17) dX11_city_116 kl_11 hs40 (by decide) rfl rfl kf_X11_150 ?_
          refine z_bipush (v := 8) dX11_city_119 (by decide) ?_
          refine z_icmp_ne 133 dX11_city_121 (by decide) (fun c61 => ?_) (fun c61 => ?_)
          · exact hJ_F_X11_city_J124 v55 v56 D57
          · exact hJ_F_X11_city_J133 v55 v56 D57
        · exact hJ_F_X11_city_J133 v55 v56 D57
      refine z_aload_n (i := 0) (x := 40) dX11_city_44 rfl rfl ?_
      refine z_cP (As := [.ref 40]) (rest := []) (em_X11_fine hl hW D13) (fun o7 h => z_runV 133 0 h rfl kk_X11_133 hs40 kl_11.1 kq_X11_fine rfl (Nat.le_of_ble_eq_true rfl) ⟨Nat.le_of_ble_eq_true rfl, Nat.le_of_ble_eq_true rfl, Nat.le_of_ble_eq_true rfl, Nat.le_of_ble_eq_true rfl⟩ dX11_city_45) z_gWI (fun hz15 => ?_)
      refine z_if_eq 164 dX11_city_48 (by decide) (fun c16 => ?_) (fun c16 => ?_)
      · refine z_weak (lv' := [some (.ref 40), none, none, none]) ⟨Or.inr rfl, ⟨Or.inl rfl, ⟨Or.inl rfl, ⟨Or.inl rfl, trivial⟩⟩⟩⟩ ?_
        exact hJ_F_X11_city_J164 D13
      · refine z_aload_n (i := 0) (x := 40) dX11_city_51 rfl rfl ?_
        refine z_cWI (As := [.ref 40]) (rest := []) (em_X11_isMore hl hW N D13) (fun o7 h => z_runV 206 0 h rfl kk_X11_206 hs40 kl_11.1 kq_X11_isMore rfl (Nat.le_of_ble_eq_true rfl) ⟨Nat.le_of_ble_eq_true rfl, Nat.le_of_ble_eq_true rfl, Nat.le_of_ble_eq_true rfl, Nat.le_of_ble_eq_true rfl⟩ dX11_city_52) z_gWI (fun a_24 hz23 => ?_)
        refine z_if_eq 164 dX11_city_55 (by decide) (fun c25 => ?_) (fun c25 => ?_)
        · refine z_weak (lv' := [some (.ref 40), none, none, none]) ⟨Or.inr rfl, ⟨Or.inl rfl, ⟨Or.inl rfl, ⟨Or.inl rfl, trivial⟩⟩⟩⟩ ?_
          exact hJ_F_X11_city_J164 a_24.2
        · refine z_aload_n (i := 0) (x := 40) dX11_city_58 rfl rfl ?_
          refine z_cWI (As := [.ref 40]) (rest := []) (em_X11_word hl hW N a_24.2) (fun o7 h => z_runV 209 0 h rfl kk_X11_209 hs40 kl_11.1 kq_X11_word rfl (Nat.le_of_ble_eq_true rfl) ⟨Nat.le_of_ble_eq_true rfl, Nat.le_of_ble_eq_true rfl, Nat.le_of_ble_eq_true rfl, Nat.le_of_ble_eq_true rfl⟩ dX11_city_59) z_gWI (fun a_27 hz26 => ?_)
          refine z_istore_n (i := 3) (x := a_27.1) (lv' := [some (.ref 40), none, some (.int v12), some (.int a_27.1)]) dX11_city_62 rfl (by decide) rfl rfl ?_
          refine z_iload_n (i := 3) (x := a_27.1) dX11_city_63 rfl rfl ?_
          refine z_cR (As := [.int a_27.1]) (rest := []) (em_X11_isRow hl N a_27.1 a_27.2) (fun o7 h => z_runS 212 1 h rfl kk_X11_212 kq_X11_isRow rfl (Nat.le_of_ble_eq_true rfl) ⟨Nat.le_of_ble_eq_true rfl, Nat.le_of_ble_eq_true rfl, Nat.le_of_ble_eq_true rfl, Nat.le_of_ble_eq_true rfl⟩ dX11_city_64) z_gWI (fun a_29 hz28 => ?_)
          refine z_if_ne 82 dX11_city_67 (by decide) (fun c30 => ?_) (fun c30 => ?_)
          · refine z_aload_n (i := 0) (x := 40) dX11_city_70 rfl rfl ?_
            refine z_iconst (v := 1) dX11_city_71 rfl ?_
            refine z_aload_n (i := 0) (x := 40) dX11_city_72 rfl rfl ?_
            refine z_getI (j := 4) dX11_city_73 kl_11 hs40 (by decide) rfl rfl kf_X11_110 ?_
            refine z_cTV (As := [.ref 40, .int 1, .int (a_27.2 40 4)]) (rest := []) (em_X11_wrong hl hW 1 (a_27.2 40 4) a_27.2) (fun o7 h => z_runV 140 2 h rfl kk_X11_140 hs40 kl_11.1 kq_X11_wrong rfl (Nat.le_of_ble_eq_true rfl) ⟨Nat.le_of_ble_eq_true rfl, Nat.le_of_ble_eq_true rfl, Nat.le_of_ble_eq_true rfl, Nat.le_of_ble_eq_true rfl⟩ dX11_city_76) z_gWI (fun a_32 hz31 => ?_)
            refine z_goto 133 dX11_city_79 (by decide) ?_
            exact hJ_F_X11_city_J133 v12 a_27.1 a_32
          · refine z_iload_n (i := 2) (x := v12) dX11_city_82 rfl rfl ?_
            refine z_bipush (v := 60) dX11_city_83 (by decide) ?_
            refine z_icmp_eq 124 dX11_city_85 (by decide) (fun c45 => ?_) (fun c45 => ?_)
            · exact hJ_F_X11_city_J124 v12 a_27.1 a_27.2
            · refine z_iload_n (i := 3) (x := a_27.1) dX11_city_88 rfl rfl ?_
              refine z_ldcS 3 (by decide) dX11_city_89 rfl rfl ?_
              refine z_cR (As := [.retAddr 3]) (rest := [.int a_27.1]) (em_X11_of (w := 3) hl (by decide) N a_27.2) (fun o7 h => z_runS 185 1 h rfl kk_X11_185 kq_X11_of rfl (Nat.le_of_ble_eq_true rfl) ⟨Nat.le_of_ble_eq_true rfl, Nat.le_of_ble_eq_true rfl, Nat.le_of_ble_eq_true rfl, Nat.le_of_ble_eq_true rfl⟩ dX11_city_91) z_gWI (fun a_52 hz51 => ?_)
              refine z_icmp_ne 106 dX11_city_94 (by decide) (fun c53 => ?_) (fun c53 => ?_)
              · refine z_aload_n (i := 0) (x := 40) dX11_city_97 rfl rfl ?_
                refine z_getI (j := 16) dX11_city_98 kl_11 hs40 (by decide) rfl rfl kf_X11_147 ?_
                refine z_bipush (v := 6) dX11_city_101 (by decide) ?_
                refine z_icmp_eq 124 dX11_city_103 (by decide) (fun c54 => ?_) (fun c54 => ?_)
                · exact hJ_F_X11_city_J124 v12 a_27.1 a_27.2
                · exact hJ_F_X11_city_J106 v12 a_27.1 a_27.2
              · exact hJ_F_X11_city_J106 v12 a_27.1 a_27.2
  have hJ_F_X11_city_J22 : ∀ (D3 : z_Dat) , z_F l M_X11_city (70, 700, 0, 0) 0 0 22 [some (.ref 40), some (.int a0), none, none] [.ref 40] S D3 (z_ko (z_kI S)) (F_X11_city_J22 N a0 D3) := by
    intro D3
    unfold F_X11_city_J22
    refine z_iconst (v := 0) dX11_city_22 rfl ?_
    exact hJ_F_X11_city_J23 D3
  have hJ_F_X11_city_J23x : ∀ (D64 : z_Dat) , z_F l M_X11_city (70, 700, 0, 0) 0 0 23 [some (.ref 40), some (.int a0), none, none] [.int 1, .ref 40] S D64 (z_ko (z_kI S)) (F_X11_city_J23x N a0 D64) := by
    intro D64
    unfold F_X11_city_J23x
    refine z_iconst (v := 1) dX11_city_23 rfl ?_
    refine z_iconst (v := 1) dX11_city_24 rfl ?_
    refine z_cWI (As := [.ref 40, .int 1, .int 1, .int 1]) (rest := []) (em_X11_may hl hW 1 1 1 D64) (fun o7 h => z_runV 198 3 h rfl kk_X11_198 hs40 kl_11.1 kq_X11_may rfl (Nat.le_of_ble_eq_true rfl) ⟨Nat.le_of_ble_eq_true rfl, Nat.le_of_ble_eq_true rfl, Nat.le_of_ble_eq_true rfl, Nat.le_of_ble_eq_true rfl⟩ dX11_city_25) z_gWI (fun a_66 hz65 => ?_)
    refine z_if_ne 33 dX11_city_28 (by decide) (fun c67 => ?_) (fun c67 => ?_)
    · refine z_iconst (v := 0) dX11_city_31 rfl ?_
      exact z_ireturn dX11_city_32 z_rWI rfl (by decide) (by decide)
    · refine z_aload_n (i := 0) (x := 40) dX11_city_33 rfl rfl ?_
      refine z_iload_n (i := 1) (x := a0) dX11_city_34 rfl rfl ?_
      refine z_cTV (As := [.ref 40, .int a0]) (rest := []) (em_X11_begins hl hW a0 a_66.2) (fun o7 h => z_runV 202 1 h rfl kk_X11_202 hs40 kl_11.1 kq_X11_begins rfl (Nat.le_of_ble_eq_true rfl) ⟨Nat.le_of_ble_eq_true rfl, Nat.le_of_ble_eq_true rfl, Nat.le_of_ble_eq_true rfl, Nat.le_of_ble_eq_true rfl⟩ dX11_city_35) z_gWI (fun a_69 hz68 => ?_)
      refine z_aload_n (i := 0) (x := 40) dX11_city_38 rfl rfl ?_
      refine z_cWV (As := [.ref 40]) (rest := []) (em_X11_clears hl hW a_69) (fun o7 h => z_runV 95 0 h rfl kk_X11_95 hs40 kl_11.1 kq_X11_clears rfl (Nat.le_of_ble_eq_true rfl) ⟨Nat.le_of_ble_eq_true rfl, Nat.le_of_ble_eq_true rfl, Nat.le_of_ble_eq_true rfl, Nat.le_of_ble_eq_true rfl⟩ dX11_city_39) z_gWI (fun a_71 hz70 => ?_)
      refine z_iconst (v := 0) dX11_city_42 rfl ?_
      refine z_istore_n (i := 2) (x := 0) (lv' := [some (.ref 40), some (.int a0), some (.int 0), none]) dX11_city_43 rfl (by decide) rfl rfl ?_
      refine z_weak (lv' := [some (.ref 40), none, some (.int 0), none]) ⟨Or.inr rfl, ⟨Or.inl rfl, ⟨Or.inr rfl, ⟨Or.inl rfl, trivial⟩⟩⟩⟩ ?_
      refine z_loops (lvOf := fun s : Int32 × z_Dat => [some (.ref 40), none, some (.int s.1), none]) (dOf := fun s : Int32 × z_Dat => s.2) (fun kc74 hkc74 s => ?_) N (0, a_71)
      obtain ⟨v72, D73⟩ := s
      show z_F _ _ _ _ _ 44 [some (.ref 40), none, some (.int v72), none] [] S D73 _ (F_X11_city_L44x N kc74 v72 D73)
      unfold F_X11_city_L44x
      have hJ_F_X11_city_J133x : ∀ (v87 : Int32) (v88 : Int32) (D89 : z_Dat) , z_F l M_X11_city (70, 700, 0, 0) 0 0 133 [some (.ref 40), none, some (.int v87), some (.int v88)] [] S D89 (z_ko (z_kI S)) (F_X11_city_J133x N kc74 v87 v88 D89) := by
        intro v87 v88 D89
        unfold F_X11_city_J133x
        refine z_aload_n (i := 0) (x := 40) dX11_city_133 rfl rfl ?_
        refine z_cP (As := [.ref 40]) (rest := []) (em_X11_fine hl hW D89) (fun o7 h => z_runV 133 0 h rfl kk_X11_133 hs40 kl_11.1 kq_X11_fine rfl (Nat.le_of_ble_eq_true rfl) ⟨Nat.le_of_ble_eq_true rfl, Nat.le_of_ble_eq_true rfl, Nat.le_of_ble_eq_true rfl, Nat.le_of_ble_eq_true rfl⟩ dX11_city_134) z_gWI (fun hz90 => ?_)
        refine z_if_ne 143 dX11_city_137 (by decide) (fun c91 => ?_) (fun c91 => ?_)
        · refine z_goto 164 dX11_city_140 (by decide) ?_
          refine z_weak (lv' := [some (.ref 40), none, none, none]) ⟨Or.inr rfl, ⟨Or.inl rfl, ⟨Or.inl rfl, ⟨Or.inl rfl, trivial⟩⟩⟩⟩ ?_
          exact hJ_F_X11_city_J164 D89
        · refine z_aload_n (i := 0) (x := 40) dX11_city_143 rfl rfl ?_
          refine z_cWV (As := [.ref 40]) (rest := []) (em_X11_pass hl hW N D89) (fun o7 h => z_runV 215 0 h rfl kk_X11_215 hs40 kl_11.1 kq_X11_pass rfl (Nat.le_of_ble_eq_true rfl) ⟨Nat.le_of_ble_eq_true rfl, Nat.le_of_ble_eq_true rfl, Nat.le_of_ble_eq_true rfl, Nat.le_of_ble_eq_true rfl⟩ dX11_city_144) z_gWI (fun a_93 hz92 => ?_)
          refine z_aload_n (i := 0) (x := 40) dX11_city_147 rfl rfl ?_
          refine z_iload_n (i := 3) (x := v88) dX11_city_148 rfl rfl ?_
          refine z_cWV (As := [.ref 40, .int v88]) (rest := []) (em_X11_readRow hl hW N v88 a_93) (fun o7 h => z_runV 218 1 h rfl kk_X11_218 hs40 kl_11.1 kq_X11_readRow rfl (Nat.le_of_ble_eq_true rfl) ⟨Nat.le_of_ble_eq_true rfl, Nat.le_of_ble_eq_true rfl, Nat.le_of_ble_eq_true rfl, Nat.le_of_ble_eq_true rfl⟩ dX11_city_149) z_gWI (fun a_95 hz94 => ?_)
          refine z_aload_n (i := 0) (x := 40) dX11_city_152 rfl rfl ?_
          refine z_bipush (v := 59) dX11_city_153 (by decide) ?_
          refine z_cWV (As := [.ref 40, .int 59]) (rest := []) (em_X11_sign hl hW N 59 a_95) (fun o7 h => z_runV 221 1 h rfl kk_X11_221 hs40 kl_11.1 kq_X11_sign rfl (Nat.le_of_ble_eq_true rfl) ⟨Nat.le_of_ble_eq_true rfl, Nat.le_of_ble_eq_true rfl, Nat.le_of_ble_eq_true rfl, Nat.le_of_ble_eq_true rfl⟩ dX11_city_155) z_gWI (fun a_97 hz96 => ?_)
          refine z_iinc (i := 2) (x := v87) (y := 1) dX11_city_158 rfl (by decide) (by decide) rfl (fun v98 => ?_)
          refine z_goto 44 dX11_city_161 (by decide) ?_
          refine z_weak (lv' := [some (.ref 40), none, some (.int v98), none]) ⟨Or.inr rfl, ⟨Or.inl rfl, ⟨Or.inr rfl, ⟨Or.inl rfl, trivial⟩⟩⟩⟩ ?_
          exact hkc74 (v98, a_97)
      have hJ_F_X11_city_J124x : ∀ (v100 : Int32) (v101 : Int32) (D102 : z_Dat) , z_F l M_X11_city (70, 700, 0, 0) 0 0 124 [some (.ref 40), none, some (.int v100), some (.int v101)] [] S D102 (z_ko (z_kI S)) (F_X11_city_J124x N kc74 v100 v101 D102) := by
        intro v100 v101 D102
        unfold F_X11_city_J124x
        refine z_aload_n (i := 0) (x := 40) dX11_city_124 rfl rfl ?_
        refine z_iconst (v := 3) dX11_city_125 rfl ?_
        refine z_aload_n (i := 0) (x := 40) dX11_city_126 rfl rfl ?_
        refine z_getI (j := 4) dX11_city_127 kl_11 hs40 (by decide) rfl rfl kf_X11_110 ?_
        refine z_cTV (As := [.ref 40, .int 3, .int (D102 40 4)]) (rest := []) (em_X11_wrong hl hW 3 (D102 40 4) D102) (fun o7 h => z_runV 140 2 h rfl kk_X11_140 hs40 kl_11.1 kq_X11_wrong rfl (Nat.le_of_ble_eq_true rfl) ⟨Nat.le_of_ble_eq_true rfl, Nat.le_of_ble_eq_true rfl, Nat.le_of_ble_eq_true rfl, Nat.le_of_ble_eq_true rfl⟩ dX11_city_130) z_gWI (fun a_104 hz103 => ?_)
        exact hJ_F_X11_city_J133x v100 v101 a_104
      have hJ_F_X11_city_J106x : ∀ (v109 : Int32) (v110 : Int32) (D111 : z_Dat) , z_F l M_X11_city (70, 700, 0, 0) 0 0 106 [some (.ref 40), none, some (.int v109), some (.int v110)] [] S D111 (z_ko (z_kI S)) (F_X11_city_J106x N kc74 v109 v110 D111) := by
        intro v109 v110 D111
        unfold F_X11_city_J106x
        refine z_iload_n (i := 3) (x := v110) dX11_city_106 rfl rfl ?_
        refine z_ldcS 4 (by decide) dX11_city_107 rfl rfl ?_
        refine z_cR (As := [.retAddr 4]) (rest := [.int v110]) (em_X11_of (w := 4) hl (by decide) N D111) (fun o7 h => z_runS 185 1 h rfl kk_X11_185 kq_X11_of rfl (Nat.le_of_ble_eq_true rfl) ⟨Nat.le_of_ble_eq_true rfl, Nat.le_of_ble_eq_true rfl, Nat.le_of_ble_eq_true rfl, Nat.le_of_ble_eq_true rfl⟩ dX11_city_109) z_gWI (fun a_113 hz112 => ?_)
        refine z_icmp_ne 133 dX11_city_112 (by decide) (fun c114 => ?_) (fun c114 => ?_)
        · refine z_aload_n (i := 0) (x := 40) dX11_city_115 rfl rfl ?_
          refine z_getI (j := 17) dX11_city_116 kl_11 hs40 (by decide) rfl rfl kf_X11_150 ?_
          refine z_bipush (v := 8) dX11_city_119 (by decide) ?_
          refine z_icmp_ne 133 dX11_city_121 (by decide) (fun c115 => ?_) (fun c115 => ?_)
          · exact hJ_F_X11_city_J124x v109 v110 D111
          · exact hJ_F_X11_city_J133x v109 v110 D111
        · exact hJ_F_X11_city_J133x v109 v110 D111
      refine z_aload_n (i := 0) (x := 40) dX11_city_44 rfl rfl ?_
      refine z_cP (As := [.ref 40]) (rest := []) (em_X11_fine hl hW D73) (fun o7 h => z_runV 133 0 h rfl kk_X11_133 hs40 kl_11.1 kq_X11_fine rfl (Nat.le_of_ble_eq_true rfl) ⟨Nat.le_of_ble_eq_true rfl, Nat.le_of_ble_eq_true rfl, Nat.le_of_ble_eq_true rfl, Nat.le_of_ble_eq_true rfl⟩ dX11_city_45) z_gWI (fun hz75 => ?_)
      refine z_if_eq 164 dX11_city_48 (by decide) (fun c76 => ?_) (fun c76 => ?_)
      · refine z_weak (lv' := [some (.ref 40), none, none, none]) ⟨Or.inr rfl, ⟨Or.inl rfl, ⟨Or.inl rfl, ⟨Or.inl rfl, trivial⟩⟩⟩⟩ ?_
        exact hJ_F_X11_city_J164 D73
      · refine z_aload_n (i := 0) (x := 40) dX11_city_51 rfl rfl ?_
        refine z_cWI (As := [.ref 40]) (rest := []) (em_X11_isMore hl hW N D73) (fun o7 h => z_runV 206 0 h rfl kk_X11_206 hs40 kl_11.1 kq_X11_isMore rfl (Nat.le_of_ble_eq_true rfl) ⟨Nat.le_of_ble_eq_true rfl, Nat.le_of_ble_eq_true rfl, Nat.le_of_ble_eq_true rfl, Nat.le_of_ble_eq_true rfl⟩ dX11_city_52) z_gWI (fun a_78 hz77 => ?_)
        refine z_if_eq 164 dX11_city_55 (by decide) (fun c79 => ?_) (fun c79 => ?_)
        · refine z_weak (lv' := [some (.ref 40), none, none, none]) ⟨Or.inr rfl, ⟨Or.inl rfl, ⟨Or.inl rfl, ⟨Or.inl rfl, trivial⟩⟩⟩⟩ ?_
          exact hJ_F_X11_city_J164 a_78.2
        · refine z_aload_n (i := 0) (x := 40) dX11_city_58 rfl rfl ?_
          refine z_cWI (As := [.ref 40]) (rest := []) (em_X11_word hl hW N a_78.2) (fun o7 h => z_runV 209 0 h rfl kk_X11_209 hs40 kl_11.1 kq_X11_word rfl (Nat.le_of_ble_eq_true rfl) ⟨Nat.le_of_ble_eq_true rfl, Nat.le_of_ble_eq_true rfl, Nat.le_of_ble_eq_true rfl, Nat.le_of_ble_eq_true rfl⟩ dX11_city_59) z_gWI (fun a_81 hz80 => ?_)
          refine z_istore_n (i := 3) (x := a_81.1) (lv' := [some (.ref 40), none, some (.int v72), some (.int a_81.1)]) dX11_city_62 rfl (by decide) rfl rfl ?_
          refine z_iload_n (i := 3) (x := a_81.1) dX11_city_63 rfl rfl ?_
          refine z_cR (As := [.int a_81.1]) (rest := []) (em_X11_isRow hl N a_81.1 a_81.2) (fun o7 h => z_runS 212 1 h rfl kk_X11_212 kq_X11_isRow rfl (Nat.le_of_ble_eq_true rfl) ⟨Nat.le_of_ble_eq_true rfl, Nat.le_of_ble_eq_true rfl, Nat.le_of_ble_eq_true rfl, Nat.le_of_ble_eq_true rfl⟩ dX11_city_64) z_gWI (fun a_83 hz82 => ?_)
          refine z_if_ne 82 dX11_city_67 (by decide) (fun c84 => ?_) (fun c84 => ?_)
          · refine z_aload_n (i := 0) (x := 40) dX11_city_70 rfl rfl ?_
            refine z_iconst (v := 1) dX11_city_71 rfl ?_
            refine z_aload_n (i := 0) (x := 40) dX11_city_72 rfl rfl ?_
            refine z_getI (j := 4) dX11_city_73 kl_11 hs40 (by decide) rfl rfl kf_X11_110 ?_
            refine z_cTV (As := [.ref 40, .int 1, .int (a_81.2 40 4)]) (rest := []) (em_X11_wrong hl hW 1 (a_81.2 40 4) a_81.2) (fun o7 h => z_runV 140 2 h rfl kk_X11_140 hs40 kl_11.1 kq_X11_wrong rfl (Nat.le_of_ble_eq_true rfl) ⟨Nat.le_of_ble_eq_true rfl, Nat.le_of_ble_eq_true rfl, Nat.le_of_ble_eq_true rfl, Nat.le_of_ble_eq_true rfl⟩ dX11_city_76) z_gWI (fun a_86 hz85 => ?_)
            refine z_goto 133 dX11_city_79 (by decide) ?_
            exact hJ_F_X11_city_J133x v72 a_81.1 a_86
          · refine z_iload_n (i := 2) (x := v72) dX11_city_82 rfl rfl ?_
            refine z_bipush (v := 60) dX11_city_83 (by decide) ?_
            refine z_icmp_eq 124 dX11_city_85 (by decide) (fun c99 => ?_) (fun c99 => ?_)
            · exact hJ_F_X11_city_J124x v72 a_81.1 a_81.2
            · refine z_iload_n (i := 3) (x := a_81.1) dX11_city_88 rfl rfl ?_
              refine z_ldcS 3 (by decide) dX11_city_89 rfl rfl ?_
              refine z_cR (As := [.retAddr 3]) (rest := [.int a_81.1]) (em_X11_of (w := 3) hl (by decide) N a_81.2) (fun o7 h => z_runS 185 1 h rfl kk_X11_185 kq_X11_of rfl (Nat.le_of_ble_eq_true rfl) ⟨Nat.le_of_ble_eq_true rfl, Nat.le_of_ble_eq_true rfl, Nat.le_of_ble_eq_true rfl, Nat.le_of_ble_eq_true rfl⟩ dX11_city_91) z_gWI (fun a_106 hz105 => ?_)
              refine z_icmp_ne 106 dX11_city_94 (by decide) (fun c107 => ?_) (fun c107 => ?_)
              · refine z_aload_n (i := 0) (x := 40) dX11_city_97 rfl rfl ?_
                refine z_getI (j := 16) dX11_city_98 kl_11 hs40 (by decide) rfl rfl kf_X11_147 ?_
                refine z_bipush (v := 6) dX11_city_101 (by decide) ?_
                refine z_icmp_eq 124 dX11_city_103 (by decide) (fun c108 => ?_) (fun c108 => ?_)
                · exact hJ_F_X11_city_J124x v72 a_81.1 a_81.2
                · exact hJ_F_X11_city_J106x v72 a_81.1 a_81.2
              · exact hJ_F_X11_city_J106x v72 a_81.1 a_81.2
  refine z_aload_n (i := 0) (x := 40) dX11_city_0 rfl rfl ?_
  refine z_iconst (v := 0) dX11_city_1 rfl ?_
  refine z_putI (j := 0) dX11_city_2 kl_11 tyX11_ok nmX11 hs40 (by decide) rfl rfl rfl rfl rfl rfl kf_X11_3 (fun D1 => ?_)
  refine z_aload_n (i := 0) (x := 40) dX11_city_5 rfl rfl ?_
  refine z_iload_n (i := 1) (x := a0) dX11_city_6 rfl rfl ?_
  refine z_if_lt 22 dX11_city_7 (by decide) (fun c2 => ?_) (fun c2 => ?_)
  · exact hJ_F_X11_city_J22 D1
  · refine z_iload_n (i := 1) (x := a0) dX11_city_10 rfl rfl ?_
    refine z_aload_n (i := 0) (x := 40) dX11_city_11 rfl rfl ?_
    refine z_getI (j := 2) dX11_city_12 kl_11 hs40 (by decide) rfl rfl kf_X11_101 ?_
    refine z_icmp_gt 22 dX11_city_15 (by decide) (fun c63 => ?_) (fun c63 => ?_)
    · exact hJ_F_X11_city_J22 D1
    · refine z_iconst (v := 1) dX11_city_18 rfl ?_
      refine z_goto 23 dX11_city_19 (by decide) ?_
      exact hJ_F_X11_city_J23x D1

def F_X11_emit (a0 : Int32) (a1 : Int32) (D : z_Dat) : Option z_Dat :=
  if (F_X11_fine D) = 0 then (some D)
  else (if z_inb (D 40 27) 150 then z_let (z_up D 49 (z_ix (D 40 27)) a0) (fun D3 => if z_inb (D3 40 27) 150 then z_let (z_up D3 50 (z_ix (D3 40 27)) a1) (fun D4 => z_let (z_up D4 40 27 ((D4 40 27) + 1)) (fun D5 => some D5)) else none) else none)
set_option maxRecDepth 100000 in
set_option maxHeartbeats 4000000 in
theorem em_X11_emit {l : Launch} {S : List z_Shp} {oW : Nat} (hl : l.stackTraces = false) (hW : z_W S oW) (a0 : Int32) (a1 : Int32) (D : z_Dat) : ∀ out, z_ko (z_kV S) (F_X11_emit a0 a1 D) out → z_EM l M_X11_emit (30, 580, 0, 0) [.ref 40, .int a0, .int a1] S D out := by
  have hs40 : S[40]? = some (13, 55, [none, some (some 41), none, none, none, none, none, none, none, some (some 42), some (some 43), some (some 44), some (some 45), some (some 46), some (some 47), some (some 48), none, none, none, none, none, none, some (some 49), some (some 50), some (some 51), some (some 52), some (some 53), none, none, some (some 54), some (some 55), some (some 56), none, none, none, none, none, none, some (some 57), some (some 58), some (some 59), some (some 60), some (some 61), none, some (some 62), some (some 63), none, none, some (some 64), some (some 65), none, none, none, some (some 66), none]) := hW.1 40 _ rfl
  have hs49 : S[49]? = some (0, 150, []) := hW.1 49 _ rfl
  have hs50 : S[50]? = some (0, 150, []) := hW.1 50 _ rfl
  refine z_meth hl rfl kp_X11 (Nat.le_of_ble_eq_true rfl) (lv := [some (.ref 40), some (.int a0), some (.int a1)]) rfl ?_
  unfold F_X11_emit
  refine z_aload_n (i := 0) (x := 40) dX11_emit_0 rfl rfl ?_
  refine z_cP (As := [.ref 40]) (rest := []) (em_X11_fine hl hW D) (fun o7 h => z_runV 133 0 h rfl kk_X11_133 hs40 kl_11.1 kq_X11_fine rfl (Nat.le_of_ble_eq_true rfl) ⟨Nat.le_of_ble_eq_true rfl, Nat.le_of_ble_eq_true rfl, Nat.le_of_ble_eq_true rfl, Nat.le_of_ble_eq_true rfl⟩ dX11_emit_1) z_gWV (fun hz1 => ?_)
  refine z_if_ne 8 dX11_emit_4 (by decide) (fun c2 => ?_) (fun c2 => ?_)
  · exact z_vreturn dX11_emit_7 z_rWV trivial (by decide) (by decide)
  · refine z_aload_n (i := 0) (x := 40) dX11_emit_8 rfl rfl ?_
    refine z_getR (j := 22) dX11_emit_9 kl_11 hs40 (by decide) rfl rfl kf_X11_41 ?_
    refine z_aload_n (i := 0) (x := 40) dX11_emit_12 rfl rfl ?_
    refine z_getI (j := 27) dX11_emit_13 kl_11 hs40 (by decide) rfl rfl kf_X11_228 ?_
    refine z_iload_n (i := 1) (x := a0) dX11_emit_16 rfl rfl ?_
    refine z_iast dX11_emit_17 hs49 (fun D3 => ?_)
    refine z_aload_n (i := 0) (x := 40) dX11_emit_18 rfl rfl ?_
    refine z_getR (j := 23) dX11_emit_19 kl_11 hs40 (by decide) rfl rfl kf_X11_44 ?_
    refine z_aload_n (i := 0) (x := 40) dX11_emit_22 rfl rfl ?_
    refine z_getI (j := 27) dX11_emit_23 kl_11 hs40 (by decide) rfl rfl kf_X11_228 ?_
    refine z_iload_n (i := 2) (x := a1) dX11_emit_26 rfl rfl ?_
    refine z_iast dX11_emit_27 hs50 (fun D4 => ?_)
    refine z_aload_n (i := 0) (x := 40) dX11_emit_28 rfl rfl ?_
    refine z_dup dX11_emit_29 rfl ?_
    refine z_getI (j := 27) dX11_emit_30 kl_11 hs40 (by decide) rfl rfl kf_X11_228 ?_
    refine z_iconst (v := 1) dX11_emit_33 rfl ?_
    refine z_iadd dX11_emit_34 ?_
    refine z_putI (j := 27) dX11_emit_35 kl_11 tyX11_ok nmX11 hs40 (by decide) rfl rfl rfl rfl rfl rfl kf_X11_228 (fun D5 => ?_)
    exact z_vreturn dX11_emit_38 z_rWV trivial (by decide) (by decide)

def F_X11_opensOne_J25 (a0 : Int32) (D3 : z_Dat) : z_Dat :=
  if (F_X11_fine D3) = 0 then (z_let (z_up D3 40 7 ((D3 40 7) + 1)) (fun D6 => D6))
  else (z_let (z_up D3 40 4 ((D3 40 4) + a0)) (fun D7 => z_let (z_up D7 40 7 ((D7 40 7) + 1)) (fun D8 => D8)))
def F_X11_opensOne (a0 : Int32) (D : z_Dat) : z_Dat :=
  if (F_X11_fine D) = 0 then (F_X11_opensOne_J25 a0 D)
  else (if (D 40 7) = 6 then (z_let (F_X11_wrong 3 (D 40 4) D) (fun a_11 => F_X11_opensOne_J25 a0 a_11))
  else (F_X11_opensOne_J25 a0 D))
set_option maxRecDepth 100000 in
set_option maxHeartbeats 4000000 in
theorem em_X11_opensOne {l : Launch} {S : List z_Shp} {oW : Nat} (hl : l.stackTraces = false) (hW : z_W S oW) (a0 : Int32) (D : z_Dat) : ∀ out, z_kt (z_kV S) (F_X11_opensOne a0 D) out → z_EM l M_X11_opensOne (30, 580, 0, 0) [.ref 40, .int a0] S D out := by
  have hs40 : S[40]? = some (13, 55, [none, some (some 41), none, none, none, none, none, none, none, some (some 42), some (some 43), some (some 44), some (some 45), some (some 46), some (some 47), some (some 48), none, none, none, none, none, none, some (some 49), some (some 50), some (some 51), some (some 52), some (some 53), none, none, some (some 54), some (some 55), some (some 56), none, none, none, none, none, none, some (some 57), some (some 58), some (some 59), some (some 60), some (some 61), none, some (some 62), some (some 63), none, none, some (some 64), some (some 65), none, none, none, some (some 66), none]) := hW.1 40 _ rfl
  refine z_meth hl rfl kp_X11 (Nat.le_of_ble_eq_true rfl) (lv := [some (.ref 40), some (.int a0)]) rfl ?_
  unfold F_X11_opensOne
  have hJ_F_X11_opensOne_J25 : ∀ (D3 : z_Dat) , z_F l M_X11_opensOne (30, 580, 0, 0) 0 0 25 [some (.ref 40), some (.int a0)] [] S D3 (z_kt (z_kV S)) (F_X11_opensOne_J25 a0 D3) := by
    intro D3
    unfold F_X11_opensOne_J25
    refine z_aload_n (i := 0) (x := 40) dX11_opensOne_25 rfl rfl ?_
    refine z_cP (As := [.ref 40]) (rest := []) (em_X11_fine hl hW D3) (fun o7 h => z_runV 133 0 h rfl kk_X11_133 hs40 kl_11.1 kq_X11_fine rfl (Nat.le_of_ble_eq_true rfl) ⟨Nat.le_of_ble_eq_true rfl, Nat.le_of_ble_eq_true rfl, Nat.le_of_ble_eq_true rfl, Nat.le_of_ble_eq_true rfl⟩ dX11_opensOne_26) z_gTV (fun hz4 => ?_)
    refine z_if_eq 42 dX11_opensOne_29 (by decide) (fun c5 => ?_) (fun c5 => ?_)
    · refine z_aload_n (i := 0) (x := 40) dX11_opensOne_42 rfl rfl ?_
      refine z_dup dX11_opensOne_43 rfl ?_
      refine z_getI (j := 7) dX11_opensOne_44 kl_11 hs40 (by decide) rfl rfl kf_X11_144 ?_
      refine z_iconst (v := 1) dX11_opensOne_47 rfl ?_
      refine z_iadd dX11_opensOne_48 ?_
      refine z_putI (j := 7) dX11_opensOne_49 kl_11 tyX11_ok nmX11 hs40 (by decide) rfl rfl rfl rfl rfl rfl kf_X11_144 (fun D6 => ?_)
      exact z_vreturn dX11_opensOne_52 z_rTV trivial (by decide) (by decide)
    · refine z_aload_n (i := 0) (x := 40) dX11_opensOne_32 rfl rfl ?_
      refine z_dup dX11_opensOne_33 rfl ?_
      refine z_getI (j := 4) dX11_opensOne_34 kl_11 hs40 (by decide) rfl rfl kf_X11_110 ?_
      refine z_iload_n (i := 1) (x := a0) dX11_opensOne_37 rfl rfl ?_
      refine z_iadd dX11_opensOne_38 ?_
      refine z_putI (j := 4) dX11_opensOne_39 kl_11 tyX11_ok nmX11 hs40 (by decide) rfl rfl rfl rfl rfl rfl kf_X11_110 (fun D7 => ?_)
      refine z_aload_n (i := 0) (x := 40) dX11_opensOne_42 rfl rfl ?_
      refine z_dup dX11_opensOne_43 rfl ?_
      refine z_getI (j := 7) dX11_opensOne_44 kl_11 hs40 (by decide) rfl rfl kf_X11_144 ?_
      refine z_iconst (v := 1) dX11_opensOne_47 rfl ?_
      refine z_iadd dX11_opensOne_48 ?_
      refine z_putI (j := 7) dX11_opensOne_49 kl_11 tyX11_ok nmX11 hs40 (by decide) rfl rfl rfl rfl rfl rfl kf_X11_144 (fun D8 => ?_)
      exact z_vreturn dX11_opensOne_52 z_rTV trivial (by decide) (by decide)
  refine z_aload_n (i := 0) (x := 40) dX11_opensOne_0 rfl rfl ?_
  refine z_cP (As := [.ref 40]) (rest := []) (em_X11_fine hl hW D) (fun o7 h => z_runV 133 0 h rfl kk_X11_133 hs40 kl_11.1 kq_X11_fine rfl (Nat.le_of_ble_eq_true rfl) ⟨Nat.le_of_ble_eq_true rfl, Nat.le_of_ble_eq_true rfl, Nat.le_of_ble_eq_true rfl, Nat.le_of_ble_eq_true rfl⟩ dX11_opensOne_1) z_gTV (fun hz1 => ?_)
  refine z_if_eq 25 dX11_opensOne_4 (by decide) (fun c2 => ?_) (fun c2 => ?_)
  · exact hJ_F_X11_opensOne_J25 D
  · refine z_aload_n (i := 0) (x := 40) dX11_opensOne_7 rfl rfl ?_
    refine z_getI (j := 7) dX11_opensOne_8 kl_11 hs40 (by decide) rfl rfl kf_X11_144 ?_
    refine z_bipush (v := 6) dX11_opensOne_11 (by decide) ?_
    refine z_icmp_ne 25 dX11_opensOne_13 (by decide) (fun c9 => ?_) (fun c9 => ?_)
    · refine z_aload_n (i := 0) (x := 40) dX11_opensOne_16 rfl rfl ?_
      refine z_iconst (v := 3) dX11_opensOne_17 rfl ?_
      refine z_aload_n (i := 0) (x := 40) dX11_opensOne_18 rfl rfl ?_
      refine z_getI (j := 4) dX11_opensOne_19 kl_11 hs40 (by decide) rfl rfl kf_X11_110 ?_
      refine z_cTV (As := [.ref 40, .int 3, .int (D 40 4)]) (rest := []) (em_X11_wrong hl hW 3 (D 40 4) D) (fun o7 h => z_runV 140 2 h rfl kk_X11_140 hs40 kl_11.1 kq_X11_wrong rfl (Nat.le_of_ble_eq_true rfl) ⟨Nat.le_of_ble_eq_true rfl, Nat.le_of_ble_eq_true rfl, Nat.le_of_ble_eq_true rfl, Nat.le_of_ble_eq_true rfl⟩ dX11_opensOne_22) z_gTV (fun a_11 hz10 => ?_)
      exact hJ_F_X11_opensOne_J25 a_11
    · exact hJ_F_X11_opensOne_J25 D

def F_X11_factHere (N : Nat) (D : z_Dat) : Option (Int32 × z_Dat) :=
  z_bd (F_X11_word N D) (fun a_2 => z_bd (F_X11_of N 9) (fun a_4 => if a_2.1 = a_4 then (some (0, a_2.2))
  else (z_bd (F_X11_of N 10) (fun a_7 => if a_2.1 = a_7 then (some (1, a_2.2))
  else (z_bd (F_X11_of N 11) (fun a_10 => if a_2.1 = a_10 then (some (2, a_2.2))
  else (z_bd (F_X11_of N 12) (fun a_13 => if a_2.1 = a_13 then (some (3, a_2.2))
  else (z_bd (F_X11_of N 13) (fun a_16 => if a_2.1 = a_16 then (some (4, a_2.2))
  else (z_bd (F_X11_of N 14) (fun a_19 => if a_2.1 = a_19 then (some (5, a_2.2))
  else (z_bd (F_X11_of N 15) (fun a_22 => if a_2.1 = a_22 then (some (6, a_2.2))
  else (z_bd (F_X11_of N 16) (fun a_25 => if a_2.1 = a_25 then (some (7, a_2.2))
  else (z_bd (F_X11_of N 17) (fun a_28 => if a_2.1 = a_28 then (some (8, a_2.2))
  else (some ((-1), a_2.2))))))))))))))))))))
set_option maxRecDepth 100000 in
set_option maxHeartbeats 4000000 in
theorem em_X11_factHere {l : Launch} {S : List z_Shp} {oW : Nat} (hl : l.stackTraces = false) (hW : z_W S oW) (N : Nat) (D : z_Dat) : ∀ out, z_ko (z_kI S) (F_X11_factHere N D) out → z_EM l M_X11_factHere (60, 640, 0, 0) [.ref 40] S D out := by
  have hs40 : S[40]? = some (13, 55, [none, some (some 41), none, none, none, none, none, none, none, some (some 42), some (some 43), some (some 44), some (some 45), some (some 46), some (some 47), some (some 48), none, none, none, none, none, none, some (some 49), some (some 50), some (some 51), some (some 52), some (some 53), none, none, some (some 54), some (some 55), some (some 56), none, none, none, none, none, none, some (some 57), some (some 58), some (some 59), some (some 60), some (some 61), none, some (some 62), some (some 63), none, none, some (some 64), some (some 65), none, none, none, some (some 66), none]) := hW.1 40 _ rfl
  refine z_meth hl rfl kp_X11 (Nat.le_of_ble_eq_true rfl) (lv := [some (.ref 40), none]) rfl ?_
  unfold F_X11_factHere
  refine z_aload_n (i := 0) (x := 40) dX11_factHere_0 rfl rfl ?_
  refine z_cWI (As := [.ref 40]) (rest := []) (em_X11_word hl hW N D) (fun o7 h => z_runV 209 0 h rfl kk_X11_209 hs40 kl_11.1 kq_X11_word rfl (Nat.le_of_ble_eq_true rfl) ⟨Nat.le_of_ble_eq_true rfl, Nat.le_of_ble_eq_true rfl, Nat.le_of_ble_eq_true rfl, Nat.le_of_ble_eq_true rfl⟩ dX11_factHere_1) z_gWI (fun a_2 hz1 => ?_)
  refine z_istore_n (i := 1) (x := a_2.1) (lv' := [some (.ref 40), some (.int a_2.1)]) dX11_factHere_4 rfl (by decide) rfl rfl ?_
  refine z_iload_n (i := 1) (x := a_2.1) dX11_factHere_5 rfl rfl ?_
  refine z_ldcS 9 (by decide) dX11_factHere_6 rfl rfl ?_
  refine z_cR (As := [.retAddr 9]) (rest := [.int a_2.1]) (em_X11_of (w := 9) hl (by decide) N a_2.2) (fun o7 h => z_runS 185 1 h rfl kk_X11_185 kq_X11_of rfl (Nat.le_of_ble_eq_true rfl) ⟨Nat.le_of_ble_eq_true rfl, Nat.le_of_ble_eq_true rfl, Nat.le_of_ble_eq_true rfl, Nat.le_of_ble_eq_true rfl⟩ dX11_factHere_8) z_gWI (fun a_4 hz3 => ?_)
  refine z_icmp_ne 18 dX11_factHere_11 (by decide) (fun c5 => ?_) (fun c5 => ?_)
  · refine z_iconst (v := 0) dX11_factHere_14 rfl ?_
    refine z_goto 130 dX11_factHere_15 (by decide) ?_
    exact z_ireturn dX11_factHere_130 z_rWI rfl (by decide) (by decide)
  · refine z_iload_n (i := 1) (x := a_2.1) dX11_factHere_18 rfl rfl ?_
    refine z_ldcS 10 (by decide) dX11_factHere_19 rfl rfl ?_
    refine z_cR (As := [.retAddr 10]) (rest := [.int a_2.1]) (em_X11_of (w := 10) hl (by decide) N a_2.2) (fun o7 h => z_runS 185 1 h rfl kk_X11_185 kq_X11_of rfl (Nat.le_of_ble_eq_true rfl) ⟨Nat.le_of_ble_eq_true rfl, Nat.le_of_ble_eq_true rfl, Nat.le_of_ble_eq_true rfl, Nat.le_of_ble_eq_true rfl⟩ dX11_factHere_21) z_gWI (fun a_7 hz6 => ?_)
    refine z_icmp_ne 31 dX11_factHere_24 (by decide) (fun c8 => ?_) (fun c8 => ?_)
    · refine z_iconst (v := 1) dX11_factHere_27 rfl ?_
      refine z_goto 130 dX11_factHere_28 (by decide) ?_
      exact z_ireturn dX11_factHere_130 z_rWI rfl (by decide) (by decide)
    · refine z_iload_n (i := 1) (x := a_2.1) dX11_factHere_31 rfl rfl ?_
      refine z_ldcS 11 (by decide) dX11_factHere_32 rfl rfl ?_
      refine z_cR (As := [.retAddr 11]) (rest := [.int a_2.1]) (em_X11_of (w := 11) hl (by decide) N a_2.2) (fun o7 h => z_runS 185 1 h rfl kk_X11_185 kq_X11_of rfl (Nat.le_of_ble_eq_true rfl) ⟨Nat.le_of_ble_eq_true rfl, Nat.le_of_ble_eq_true rfl, Nat.le_of_ble_eq_true rfl, Nat.le_of_ble_eq_true rfl⟩ dX11_factHere_34) z_gWI (fun a_10 hz9 => ?_)
      refine z_icmp_ne 44 dX11_factHere_37 (by decide) (fun c11 => ?_) (fun c11 => ?_)
      · refine z_iconst (v := 2) dX11_factHere_40 rfl ?_
        refine z_goto 130 dX11_factHere_41 (by decide) ?_
        exact z_ireturn dX11_factHere_130 z_rWI rfl (by decide) (by decide)
      · refine z_iload_n (i := 1) (x := a_2.1) dX11_factHere_44 rfl rfl ?_
        refine z_ldcS 12 (by decide) dX11_factHere_45 rfl rfl ?_
        refine z_cR (As := [.retAddr 12]) (rest := [.int a_2.1]) (em_X11_of (w := 12) hl (by decide) N a_2.2) (fun o7 h => z_runS 185 1 h rfl kk_X11_185 kq_X11_of rfl (Nat.le_of_ble_eq_true rfl) ⟨Nat.le_of_ble_eq_true rfl, Nat.le_of_ble_eq_true rfl, Nat.le_of_ble_eq_true rfl, Nat.le_of_ble_eq_true rfl⟩ dX11_factHere_47) z_gWI (fun a_13 hz12 => ?_)
        refine z_icmp_ne 57 dX11_factHere_50 (by decide) (fun c14 => ?_) (fun c14 => ?_)
        · refine z_iconst (v := 3) dX11_factHere_53 rfl ?_
          refine z_goto 130 dX11_factHere_54 (by decide) ?_
          exact z_ireturn dX11_factHere_130 z_rWI rfl (by decide) (by decide)
        · refine z_iload_n (i := 1) (x := a_2.1) dX11_factHere_57 rfl rfl ?_
          refine z_ldcS 13 (by decide) dX11_factHere_58 rfl rfl ?_
          refine z_cR (As := [.retAddr 13]) (rest := [.int a_2.1]) (em_X11_of (w := 13) hl (by decide) N a_2.2) (fun o7 h => z_runS 185 1 h rfl kk_X11_185 kq_X11_of rfl (Nat.le_of_ble_eq_true rfl) ⟨Nat.le_of_ble_eq_true rfl, Nat.le_of_ble_eq_true rfl, Nat.le_of_ble_eq_true rfl, Nat.le_of_ble_eq_true rfl⟩ dX11_factHere_60) z_gWI (fun a_16 hz15 => ?_)
          refine z_icmp_ne 70 dX11_factHere_63 (by decide) (fun c17 => ?_) (fun c17 => ?_)
          · refine z_iconst (v := 4) dX11_factHere_66 rfl ?_
            refine z_goto 130 dX11_factHere_67 (by decide) ?_
            exact z_ireturn dX11_factHere_130 z_rWI rfl (by decide) (by decide)
          · refine z_iload_n (i := 1) (x := a_2.1) dX11_factHere_70 rfl rfl ?_
            refine z_ldcSw 14 (by decide) dX11_factHere_71 rfl rfl ?_
            refine z_cR (As := [.retAddr 14]) (rest := [.int a_2.1]) (em_X11_of (w := 14) hl (by decide) N a_2.2) (fun o7 h => z_runS 185 1 h rfl kk_X11_185 kq_X11_of rfl (Nat.le_of_ble_eq_true rfl) ⟨Nat.le_of_ble_eq_true rfl, Nat.le_of_ble_eq_true rfl, Nat.le_of_ble_eq_true rfl, Nat.le_of_ble_eq_true rfl⟩ dX11_factHere_74) z_gWI (fun a_19 hz18 => ?_)
            refine z_icmp_ne 84 dX11_factHere_77 (by decide) (fun c20 => ?_) (fun c20 => ?_)
            · refine z_iconst (v := 5) dX11_factHere_80 rfl ?_
              refine z_goto 130 dX11_factHere_81 (by decide) ?_
              exact z_ireturn dX11_factHere_130 z_rWI rfl (by decide) (by decide)
            · refine z_iload_n (i := 1) (x := a_2.1) dX11_factHere_84 rfl rfl ?_
              refine z_ldcSw 15 (by decide) dX11_factHere_85 rfl rfl ?_
              refine z_cR (As := [.retAddr 15]) (rest := [.int a_2.1]) (em_X11_of (w := 15) hl (by decide) N a_2.2) (fun o7 h => z_runS 185 1 h rfl kk_X11_185 kq_X11_of rfl (Nat.le_of_ble_eq_true rfl) ⟨Nat.le_of_ble_eq_true rfl, Nat.le_of_ble_eq_true rfl, Nat.le_of_ble_eq_true rfl, Nat.le_of_ble_eq_true rfl⟩ dX11_factHere_88) z_gWI (fun a_22 hz21 => ?_)
              refine z_icmp_ne 99 dX11_factHere_91 (by decide) (fun c23 => ?_) (fun c23 => ?_)
              · refine z_bipush (v := 6) dX11_factHere_94 (by decide) ?_
                refine z_goto 130 dX11_factHere_96 (by decide) ?_
                exact z_ireturn dX11_factHere_130 z_rWI rfl (by decide) (by decide)
              · refine z_iload_n (i := 1) (x := a_2.1) dX11_factHere_99 rfl rfl ?_
                refine z_ldcSw 16 (by decide) dX11_factHere_100 rfl rfl ?_
                refine z_cR (As := [.retAddr 16]) (rest := [.int a_2.1]) (em_X11_of (w := 16) hl (by decide) N a_2.2) (fun o7 h => z_runS 185 1 h rfl kk_X11_185 kq_X11_of rfl (Nat.le_of_ble_eq_true rfl) ⟨Nat.le_of_ble_eq_true rfl, Nat.le_of_ble_eq_true rfl, Nat.le_of_ble_eq_true rfl, Nat.le_of_ble_eq_true rfl⟩ dX11_factHere_103) z_gWI (fun a_25 hz24 => ?_)
                refine z_icmp_ne 114 dX11_factHere_106 (by decide) (fun c26 => ?_) (fun c26 => ?_)
                · refine z_bipush (v := 7) dX11_factHere_109 (by decide) ?_
                  refine z_goto 130 dX11_factHere_111 (by decide) ?_
                  exact z_ireturn dX11_factHere_130 z_rWI rfl (by decide) (by decide)
                · refine z_iload_n (i := 1) (x := a_2.1) dX11_factHere_114 rfl rfl ?_
                  refine z_ldcSw 17 (by decide) dX11_factHere_115 rfl rfl ?_
                  refine z_cR (As := [.retAddr 17]) (rest := [.int a_2.1]) (em_X11_of (w := 17) hl (by decide) N a_2.2) (fun o7 h => z_runS 185 1 h rfl kk_X11_185 kq_X11_of rfl (Nat.le_of_ble_eq_true rfl) ⟨Nat.le_of_ble_eq_true rfl, Nat.le_of_ble_eq_true rfl, Nat.le_of_ble_eq_true rfl, Nat.le_of_ble_eq_true rfl⟩ dX11_factHere_118) z_gWI (fun a_28 hz27 => ?_)
                  refine z_icmp_ne 129 dX11_factHere_121 (by decide) (fun c29 => ?_) (fun c29 => ?_)
                  · refine z_bipush (v := 8) dX11_factHere_124 (by decide) ?_
                    refine z_goto 130 dX11_factHere_126 (by decide) ?_
                    exact z_ireturn dX11_factHere_130 z_rWI rfl (by decide) (by decide)
                  · refine z_iconst (v := (-1)) dX11_factHere_129 rfl ?_
                    exact z_ireturn dX11_factHere_130 z_rWI rfl (by decide) (by decide)

def F_X11_readTwo (N : Nat) (slf : z_Dat → Option z_Dat) (a0 : Int32) (a1 : Int32) (D : z_Dat) : Option z_Dat :=
  z_let (F_X11_opensOne a0 D) (fun a_2 => z_bd (F_X11_sign N 91 a_2) (fun a_4 => z_bd (slf a_4) (fun a_6 => z_bd (F_X11_sign N 44 a_6) (fun a_8 => z_bd (slf a_8) (fun a_10 => z_bd (F_X11_sign N 93 a_10) (fun a_12 => z_let (z_up a_12 40 7 ((a_12 40 7) - 1)) (fun D13 => z_bd (F_X11_emit a1 0 D13) (fun a_15 => some a_15))))))))
set_option maxRecDepth 100000 in
set_option maxHeartbeats 4000000 in
theorem em_X11_readTwo {l : Launch} {S : List z_Shp} {oW : Nat} (hl : l.stackTraces = false) (hW : z_W S oW) (N : Nat) (K : Nat) (slf : z_Dat → Option z_Dat) (hs : ∀ (D : z_Dat), ∀ out, z_ko (z_kV S) (slf  D) out → z_EM l M_X11_readSum (70 + 20 * K, 700 + 300 * K, 0, 0) [.ref 40] S D out) (a0 : Int32) (a1 : Int32) (D : z_Dat) : ∀ out, z_ko (z_kV S) (F_X11_readTwo N slf a0 a1 D) out → z_EM l M_X11_readTwo (73 + 20 * K, 760 + 300 * K, 0, 0) [.ref 40, .int a0, .int a1] S D out := by
  have hs40 : S[40]? = some (13, 55, [none, some (some 41), none, none, none, none, none, none, none, some (some 42), some (some 43), some (some 44), some (some 45), some (some 46), some (some 47), some (some 48), none, none, none, none, none, none, some (some 49), some (some 50), some (some 51), some (some 52), some (some 53), none, none, some (some 54), some (some 55), some (some 56), none, none, none, none, none, none, some (some 57), some (some 58), some (some 59), some (some 60), some (some 61), none, some (some 62), some (some 63), none, none, some (some 64), some (some 65), none, none, none, some (some 66), none]) := hW.1 40 _ rfl
  refine z_meth hl rfl kp_X11 (Nat.le_of_ble_eq_true rfl) (lv := [some (.ref 40), some (.int a0), some (.int a1)]) rfl ?_
  unfold F_X11_readTwo
  refine z_aload_n (i := 0) (x := 40) dX11_readTwo_0 rfl rfl ?_
  refine z_iload_n (i := 1) (x := a0) dX11_readTwo_1 rfl rfl ?_
  refine z_cTV (As := [.ref 40, .int a0]) (rest := []) (em_X11_opensOne hl hW a0 D) (fun o7 h => z_runV 240 1 h rfl kk_X11_240 hs40 kl_11.1 kq_X11_opensOne rfl (Nat.le_of_ble_eq_true rfl) ⟨by dsimp only; omega, by dsimp only; omega, Nat.le_of_ble_eq_true rfl, Nat.le_of_ble_eq_true rfl⟩ dX11_readTwo_2) z_gWV (fun a_2 hz1 => ?_)
  refine z_aload_n (i := 0) (x := 40) dX11_readTwo_5 rfl rfl ?_
  refine z_bipush (v := 91) dX11_readTwo_6 (by decide) ?_
  refine z_cWV (As := [.ref 40, .int 91]) (rest := []) (em_X11_sign hl hW N 91 a_2) (fun o7 h => z_runV 221 1 h rfl kk_X11_221 hs40 kl_11.1 kq_X11_sign rfl (Nat.le_of_ble_eq_true rfl) ⟨by dsimp only; omega, by dsimp only; omega, Nat.le_of_ble_eq_true rfl, Nat.le_of_ble_eq_true rfl⟩ dX11_readTwo_8) z_gWV (fun a_4 hz3 => ?_)
  refine z_aload_n (i := 0) (x := 40) dX11_readTwo_11 rfl rfl ?_
  refine z_cWV (As := [.ref 40]) (rest := []) (hs a_4) (fun o7 h => z_runV 243 0 h rfl kk_X11_243 hs40 kl_11.1 kq_X11_readSum rfl (Nat.le_of_ble_eq_true rfl) ⟨by dsimp only; omega, by dsimp only; omega, Nat.le_of_ble_eq_true rfl, Nat.le_of_ble_eq_true rfl⟩ dX11_readTwo_12) z_gWV (fun a_6 hz5 => ?_)
  refine z_aload_n (i := 0) (x := 40) dX11_readTwo_15 rfl rfl ?_
  refine z_bipush (v := 44) dX11_readTwo_16 (by decide) ?_
  refine z_cWV (As := [.ref 40, .int 44]) (rest := []) (em_X11_sign hl hW N 44 a_6) (fun o7 h => z_runV 221 1 h rfl kk_X11_221 hs40 kl_11.1 kq_X11_sign rfl (Nat.le_of_ble_eq_true rfl) ⟨by dsimp only; omega, by dsimp only; omega, Nat.le_of_ble_eq_true rfl, Nat.le_of_ble_eq_true rfl⟩ dX11_readTwo_18) z_gWV (fun a_8 hz7 => ?_)
  refine z_aload_n (i := 0) (x := 40) dX11_readTwo_21 rfl rfl ?_
  refine z_cWV (As := [.ref 40]) (rest := []) (hs a_8) (fun o7 h => z_runV 243 0 h rfl kk_X11_243 hs40 kl_11.1 kq_X11_readSum rfl (Nat.le_of_ble_eq_true rfl) ⟨by dsimp only; omega, by dsimp only; omega, Nat.le_of_ble_eq_true rfl, Nat.le_of_ble_eq_true rfl⟩ dX11_readTwo_22) z_gWV (fun a_10 hz9 => ?_)
  refine z_aload_n (i := 0) (x := 40) dX11_readTwo_25 rfl rfl ?_
  refine z_bipush (v := 93) dX11_readTwo_26 (by decide) ?_
  refine z_cWV (As := [.ref 40, .int 93]) (rest := []) (em_X11_sign hl hW N 93 a_10) (fun o7 h => z_runV 221 1 h rfl kk_X11_221 hs40 kl_11.1 kq_X11_sign rfl (Nat.le_of_ble_eq_true rfl) ⟨by dsimp only; omega, by dsimp only; omega, Nat.le_of_ble_eq_true rfl, Nat.le_of_ble_eq_true rfl⟩ dX11_readTwo_28) z_gWV (fun a_12 hz11 => ?_)
  refine z_aload_n (i := 0) (x := 40) dX11_readTwo_31 rfl rfl ?_
  refine z_dup dX11_readTwo_32 rfl ?_
  refine z_getI (j := 7) dX11_readTwo_33 kl_11 hs40 (by decide) rfl rfl kf_X11_144 ?_
  refine z_iconst (v := 1) dX11_readTwo_36 rfl ?_
  refine z_isub dX11_readTwo_37 ?_
  refine z_putI (j := 7) dX11_readTwo_38 kl_11 tyX11_ok nmX11 hs40 (by decide) rfl rfl rfl rfl rfl rfl kf_X11_144 (fun D13 => ?_)
  refine z_aload_n (i := 0) (x := 40) dX11_readTwo_41 rfl rfl ?_
  refine z_iload_n (i := 2) (x := a1) dX11_readTwo_42 rfl rfl ?_
  refine z_iconst (v := 0) dX11_readTwo_43 rfl ?_
  refine z_cWV (As := [.ref 40, .int a1, .int 0]) (rest := []) (em_X11_emit hl hW a1 0 D13) (fun o7 h => z_runV 234 2 h rfl kk_X11_234 hs40 kl_11.1 kq_X11_emit rfl (Nat.le_of_ble_eq_true rfl) ⟨by dsimp only; omega, by dsimp only; omega, Nat.le_of_ble_eq_true rfl, Nat.le_of_ble_eq_true rfl⟩ dX11_readTwo_44) z_gWV (fun a_15 hz14 => ?_)
  exact z_vreturn dX11_readTwo_47 z_rWV trivial (Nat.le_refl _) (Nat.le_refl _)

def F_X11_readUnit_J136 (N : Nat) (v36 : Int32) (D37 : z_Dat) : Option z_Dat :=
  if (F_X11_fine D37) = 0 then (some D37)
  else (z_bd (F_X11_pass N D37) (fun a_41 => z_bd (F_X11_emit 1 v36 a_41) (fun a_43 => some a_43)))
def F_X11_readUnit (N : Nat) (slf : z_Dat → Option z_Dat) (D : z_Dat) : Option z_Dat :=
  if (F_X11_fine D) = 0 then (some D)
  else (z_bd (F_X11_here N D) (fun a_4 => if a_4.1 = 40 then (z_let (F_X11_opensOne 1 a_4.2) (fun a_7 => z_bd (slf a_7) (fun a_9 => z_bd (F_X11_sign N 41 a_9) (fun a_11 => z_let (z_up a_11 40 7 ((a_11 40 7) - 1)) (fun D12 => some D12)))))
  else (z_bd (F_X11_here N a_4.2) (fun a_14 => if (F_X11_isDigit a_14.1) = 0 then (z_bd (F_X11_word N a_14.2) (fun a_18 => z_bd (F_X11_of N 7) (fun a_20 => if a_18.1 = a_20 then (z_bd (F_X11_readTwo N slf 5 6 a_18.2) (fun a_23 => some a_23))
  else (z_bd (F_X11_word N a_18.2) (fun a_25 => z_bd (F_X11_of N 8) (fun a_27 => if a_25.1 = a_27 then (z_bd (F_X11_readTwo N slf 4 7 a_25.2) (fun a_30 => some a_30))
  else (z_bd (F_X11_factHere N a_25.2) (fun a_32 => if a_32.1 = (-1) then (z_let (F_X11_wrong 1 (a_32.2 40 4) a_32.2) (fun a_35 => F_X11_readUnit_J136 N a_32.1 a_35))
  else (F_X11_readUnit_J136 N a_32.1 a_32.2)))))))))
  else (z_bd (F_X11_readNumber N 0 999 a_14.2) (fun a_45 => z_bd (F_X11_emit 0 a_45.1 a_45.2) (fun a_47 => some a_47)))))))
set_option maxRecDepth 100000 in
set_option maxHeartbeats 4000000 in
theorem em_X11_readUnit {l : Launch} {S : List z_Shp} {oW : Nat} (hl : l.stackTraces = false) (hW : z_W S oW) (N : Nat) (K : Nat) (slf : z_Dat → Option z_Dat) (hs : ∀ (D : z_Dat), ∀ out, z_ko (z_kV S) (slf  D) out → z_EM l M_X11_readSum (70 + 20 * K, 700 + 300 * K, 0, 0) [.ref 40] S D out) (D : z_Dat) : ∀ out, z_ko (z_kV S) (F_X11_readUnit N slf D) out → z_EM l M_X11_readUnit (76 + 20 * K, 820 + 300 * K, 0, 0) [.ref 40] S D out := by
  have hs40 : S[40]? = some (13, 55, [none, some (some 41), none, none, none, none, none, none, none, some (some 42), some (some 43), some (some 44), some (some 45), some (some 46), some (some 47), some (some 48), none, none, none, none, none, none, some (some 49), some (some 50), some (some 51), some (some 52), some (some 53), none, none, some (some 54), some (some 55), some (some 56), none, none, none, none, none, none, some (some 57), some (some 58), some (some 59), some (some 60), some (some 61), none, some (some 62), some (some 63), none, none, some (some 64), some (some 65), none, none, none, some (some 66), none]) := hW.1 40 _ rfl
  refine z_meth hl rfl kp_X11 (Nat.le_of_ble_eq_true rfl) (lv := [some (.ref 40), none]) rfl ?_
  unfold F_X11_readUnit
  have hJ_F_X11_readUnit_J136 : ∀ (v36 : Int32) (D37 : z_Dat) , z_F l M_X11_readUnit (76 + 20 * K, 820 + 300 * K, 0, 0) 0 0 136 [some (.ref 40), some (.int v36)] [] S D37 (z_ko (z_kV S)) (F_X11_readUnit_J136 N v36 D37) := by
    intro v36 D37
    unfold F_X11_readUnit_J136
    refine z_aload_n (i := 0) (x := 40) dX11_readUnit_136 rfl rfl ?_
    refine z_cP (As := [.ref 40]) (rest := []) (em_X11_fine hl hW D37) (fun o7 h => z_runV 133 0 h rfl kk_X11_133 hs40 kl_11.1 kq_X11_fine rfl (Nat.le_of_ble_eq_true rfl) ⟨by dsimp only; omega, by dsimp only; omega, Nat.le_of_ble_eq_true rfl, Nat.le_of_ble_eq_true rfl⟩ dX11_readUnit_137) z_gWV (fun hz38 => ?_)
    refine z_if_ne 144 dX11_readUnit_140 (by decide) (fun c39 => ?_) (fun c39 => ?_)
    · exact z_vreturn dX11_readUnit_143 z_rWV trivial (Nat.le_refl _) (Nat.le_refl _)
    · refine z_aload_n (i := 0) (x := 40) dX11_readUnit_144 rfl rfl ?_
      refine z_cWV (As := [.ref 40]) (rest := []) (em_X11_pass hl hW N D37) (fun o7 h => z_runV 215 0 h rfl kk_X11_215 hs40 kl_11.1 kq_X11_pass rfl (Nat.le_of_ble_eq_true rfl) ⟨by dsimp only; omega, by dsimp only; omega, Nat.le_of_ble_eq_true rfl, Nat.le_of_ble_eq_true rfl⟩ dX11_readUnit_145) z_gWV (fun a_41 hz40 => ?_)
      refine z_aload_n (i := 0) (x := 40) dX11_readUnit_148 rfl rfl ?_
      refine z_iconst (v := 1) dX11_readUnit_149 rfl ?_
      refine z_iload_n (i := 1) (x := v36) dX11_readUnit_150 rfl rfl ?_
      refine z_cWV (As := [.ref 40, .int 1, .int v36]) (rest := []) (em_X11_emit hl hW 1 v36 a_41) (fun o7 h => z_runV 234 2 h rfl kk_X11_234 hs40 kl_11.1 kq_X11_emit rfl (Nat.le_of_ble_eq_true rfl) ⟨by dsimp only; omega, by dsimp only; omega, Nat.le_of_ble_eq_true rfl, Nat.le_of_ble_eq_true rfl⟩ dX11_readUnit_151) z_gWV (fun a_43 hz42 => ?_)
      exact z_vreturn dX11_readUnit_154 z_rWV trivial (Nat.le_refl _) (Nat.le_refl _)
  refine z_aload_n (i := 0) (x := 40) dX11_readUnit_0 rfl rfl ?_
  refine z_cP (As := [.ref 40]) (rest := []) (em_X11_fine hl hW D) (fun o7 h => z_runV 133 0 h rfl kk_X11_133 hs40 kl_11.1 kq_X11_fine rfl (Nat.le_of_ble_eq_true rfl) ⟨by dsimp only; omega, by dsimp only; omega, Nat.le_of_ble_eq_true rfl, Nat.le_of_ble_eq_true rfl⟩ dX11_readUnit_1) z_gWV (fun hz1 => ?_)
  refine z_if_ne 8 dX11_readUnit_4 (by decide) (fun c2 => ?_) (fun c2 => ?_)
  · exact z_vreturn dX11_readUnit_7 z_rWV trivial (Nat.le_refl _) (Nat.le_refl _)
  · refine z_aload_n (i := 0) (x := 40) dX11_readUnit_8 rfl rfl ?_
    refine z_cWI (As := [.ref 40]) (rest := []) (em_X11_here hl hW N D) (fun o7 h => z_runV 116 0 h rfl kk_X11_116 hs40 kl_11.1 kq_X11_here rfl (Nat.le_of_ble_eq_true rfl) ⟨by dsimp only; omega, by dsimp only; omega, Nat.le_of_ble_eq_true rfl, Nat.le_of_ble_eq_true rfl⟩ dX11_readUnit_9) z_gWV (fun a_4 hz3 => ?_)
    refine z_bipush (v := 40) dX11_readUnit_12 (by decide) ?_
    refine z_icmp_ne 45 dX11_readUnit_14 (by decide) (fun c5 => ?_) (fun c5 => ?_)
    · refine z_aload_n (i := 0) (x := 40) dX11_readUnit_17 rfl rfl ?_
      refine z_iconst (v := 1) dX11_readUnit_18 rfl ?_
      refine z_cTV (As := [.ref 40, .int 1]) (rest := []) (em_X11_opensOne hl hW 1 a_4.2) (fun o7 h => z_runV 240 1 h rfl kk_X11_240 hs40 kl_11.1 kq_X11_opensOne rfl (Nat.le_of_ble_eq_true rfl) ⟨by dsimp only; omega, by dsimp only; omega, Nat.le_of_ble_eq_true rfl, Nat.le_of_ble_eq_true rfl⟩ dX11_readUnit_19) z_gWV (fun a_7 hz6 => ?_)
      refine z_aload_n (i := 0) (x := 40) dX11_readUnit_22 rfl rfl ?_
      refine z_cWV (As := [.ref 40]) (rest := []) (hs a_7) (fun o7 h => z_runV 243 0 h rfl kk_X11_243 hs40 kl_11.1 kq_X11_readSum rfl (Nat.le_of_ble_eq_true rfl) ⟨by dsimp only; omega, by dsimp only; omega, Nat.le_of_ble_eq_true rfl, Nat.le_of_ble_eq_true rfl⟩ dX11_readUnit_23) z_gWV (fun a_9 hz8 => ?_)
      refine z_aload_n (i := 0) (x := 40) dX11_readUnit_26 rfl rfl ?_
      refine z_bipush (v := 41) dX11_readUnit_27 (by decide) ?_
      refine z_cWV (As := [.ref 40, .int 41]) (rest := []) (em_X11_sign hl hW N 41 a_9) (fun o7 h => z_runV 221 1 h rfl kk_X11_221 hs40 kl_11.1 kq_X11_sign rfl (Nat.le_of_ble_eq_true rfl) ⟨by dsimp only; omega, by dsimp only; omega, Nat.le_of_ble_eq_true rfl, Nat.le_of_ble_eq_true rfl⟩ dX11_readUnit_29) z_gWV (fun a_11 hz10 => ?_)
      refine z_aload_n (i := 0) (x := 40) dX11_readUnit_32 rfl rfl ?_
      refine z_dup dX11_readUnit_33 rfl ?_
      refine z_getI (j := 7) dX11_readUnit_34 kl_11 hs40 (by decide) rfl rfl kf_X11_144 ?_
      refine z_iconst (v := 1) dX11_readUnit_37 rfl ?_
      refine z_isub dX11_readUnit_38 ?_
      refine z_putI (j := 7) dX11_readUnit_39 kl_11 tyX11_ok nmX11 hs40 (by decide) rfl rfl rfl rfl rfl rfl kf_X11_144 (fun D12 => ?_)
      refine z_goto 154 dX11_readUnit_42 (by decide) ?_
      exact z_vreturn dX11_readUnit_154 z_rWV trivial (Nat.le_refl _) (Nat.le_refl _)
    · refine z_aload_n (i := 0) (x := 40) dX11_readUnit_45 rfl rfl ?_
      refine z_cWI (As := [.ref 40]) (rest := []) (em_X11_here hl hW N a_4.2) (fun o7 h => z_runV 116 0 h rfl kk_X11_116 hs40 kl_11.1 kq_X11_here rfl (Nat.le_of_ble_eq_true rfl) ⟨by dsimp only; omega, by dsimp only; omega, Nat.le_of_ble_eq_true rfl, Nat.le_of_ble_eq_true rfl⟩ dX11_readUnit_46) z_gWV (fun a_14 hz13 => ?_)
      refine z_cP (As := [.int a_14.1]) (rest := []) (em_X11_isDigit hl a_14.1 a_14.2) (fun o7 h => z_runS 137 1 h rfl kk_X11_137 kq_X11_isDigit rfl (Nat.le_of_ble_eq_true rfl) ⟨by dsimp only; omega, by dsimp only; omega, Nat.le_of_ble_eq_true rfl, Nat.le_of_ble_eq_true rfl⟩ dX11_readUnit_49) z_gWV (fun hz15 => ?_)
      refine z_if_eq 71 dX11_readUnit_52 (by decide) (fun c16 => ?_) (fun c16 => ?_)
      · refine z_aload_n (i := 0) (x := 40) dX11_readUnit_71 rfl rfl ?_
        refine z_cWI (As := [.ref 40]) (rest := []) (em_X11_word hl hW N a_14.2) (fun o7 h => z_runV 209 0 h rfl kk_X11_209 hs40 kl_11.1 kq_X11_word rfl (Nat.le_of_ble_eq_true rfl) ⟨by dsimp only; omega, by dsimp only; omega, Nat.le_of_ble_eq_true rfl, Nat.le_of_ble_eq_true rfl⟩ dX11_readUnit_72) z_gWV (fun a_18 hz17 => ?_)
        refine z_ldcSw 7 (by decide) dX11_readUnit_75 rfl rfl ?_
        refine z_cR (As := [.retAddr 7]) (rest := [.int a_18.1]) (em_X11_of (w := 7) hl (by decide) N a_18.2) (fun o7 h => z_runS 185 1 h rfl kk_X11_185 kq_X11_of rfl (Nat.le_of_ble_eq_true rfl) ⟨by dsimp only; omega, by dsimp only; omega, Nat.le_of_ble_eq_true rfl, Nat.le_of_ble_eq_true rfl⟩ dX11_readUnit_78) z_gWV (fun a_20 hz19 => ?_)
        refine z_icmp_ne 94 dX11_readUnit_81 (by decide) (fun c21 => ?_) (fun c21 => ?_)
        · refine z_aload_n (i := 0) (x := 40) dX11_readUnit_84 rfl rfl ?_
          refine z_iconst (v := 5) dX11_readUnit_85 rfl ?_
          refine z_bipush (v := 6) dX11_readUnit_86 (by decide) ?_
          refine z_cWV (As := [.ref 40, .int 5, .int 6]) (rest := []) (em_X11_readTwo hl hW N K slf hs 5 6 a_18.2) (fun o7 h => z_runV 265 2 h rfl kk_X11_265 hs40 kl_11.1 kq_X11_readTwo rfl (Nat.le_of_ble_eq_true rfl) ⟨by dsimp only; omega, by dsimp only; omega, Nat.le_of_ble_eq_true rfl, Nat.le_of_ble_eq_true rfl⟩ dX11_readUnit_88) z_gWV (fun a_23 hz22 => ?_)
          refine z_goto 154 dX11_readUnit_91 (by decide) ?_
          exact z_vreturn dX11_readUnit_154 z_rWV trivial (Nat.le_refl _) (Nat.le_refl _)
        · refine z_aload_n (i := 0) (x := 40) dX11_readUnit_94 rfl rfl ?_
          refine z_cWI (As := [.ref 40]) (rest := []) (em_X11_word hl hW N a_18.2) (fun o7 h => z_runV 209 0 h rfl kk_X11_209 hs40 kl_11.1 kq_X11_word rfl (Nat.le_of_ble_eq_true rfl) ⟨by dsimp only; omega, by dsimp only; omega, Nat.le_of_ble_eq_true rfl, Nat.le_of_ble_eq_true rfl⟩ dX11_readUnit_95) z_gWV (fun a_25 hz24 => ?_)
          refine z_ldcSw 8 (by decide) dX11_readUnit_98 rfl rfl ?_
          refine z_cR (As := [.retAddr 8]) (rest := [.int a_25.1]) (em_X11_of (w := 8) hl (by decide) N a_25.2) (fun o7 h => z_runS 185 1 h rfl kk_X11_185 kq_X11_of rfl (Nat.le_of_ble_eq_true rfl) ⟨by dsimp only; omega, by dsimp only; omega, Nat.le_of_ble_eq_true rfl, Nat.le_of_ble_eq_true rfl⟩ dX11_readUnit_101) z_gWV (fun a_27 hz26 => ?_)
          refine z_icmp_ne 117 dX11_readUnit_104 (by decide) (fun c28 => ?_) (fun c28 => ?_)
          · refine z_aload_n (i := 0) (x := 40) dX11_readUnit_107 rfl rfl ?_
            refine z_iconst (v := 4) dX11_readUnit_108 rfl ?_
            refine z_bipush (v := 7) dX11_readUnit_109 (by decide) ?_
            refine z_cWV (As := [.ref 40, .int 4, .int 7]) (rest := []) (em_X11_readTwo hl hW N K slf hs 4 7 a_25.2) (fun o7 h => z_runV 265 2 h rfl kk_X11_265 hs40 kl_11.1 kq_X11_readTwo rfl (Nat.le_of_ble_eq_true rfl) ⟨by dsimp only; omega, by dsimp only; omega, Nat.le_of_ble_eq_true rfl, Nat.le_of_ble_eq_true rfl⟩ dX11_readUnit_111) z_gWV (fun a_30 hz29 => ?_)
            refine z_goto 154 dX11_readUnit_114 (by decide) ?_
            exact z_vreturn dX11_readUnit_154 z_rWV trivial (Nat.le_refl _) (Nat.le_refl _)
          · refine z_aload_n (i := 0) (x := 40) dX11_readUnit_117 rfl rfl ?_
            refine z_cWI (As := [.ref 40]) (rest := []) (em_X11_factHere hl hW N a_25.2) (fun o7 h => z_runV 270 0 h rfl kk_X11_270 hs40 kl_11.1 kq_X11_factHere rfl (Nat.le_of_ble_eq_true rfl) ⟨by dsimp only; omega, by dsimp only; omega, Nat.le_of_ble_eq_true rfl, Nat.le_of_ble_eq_true rfl⟩ dX11_readUnit_118) z_gWV (fun a_32 hz31 => ?_)
            refine z_istore_n (i := 1) (x := a_32.1) (lv' := [some (.ref 40), some (.int a_32.1)]) dX11_readUnit_121 rfl (by decide) rfl rfl ?_
            refine z_iload_n (i := 1) (x := a_32.1) dX11_readUnit_122 rfl rfl ?_
            refine z_iconst (v := (-1)) dX11_readUnit_123 rfl ?_
            refine z_icmp_ne 136 dX11_readUnit_124 (by decide) (fun c33 => ?_) (fun c33 => ?_)
            · refine z_aload_n (i := 0) (x := 40) dX11_readUnit_127 rfl rfl ?_
              refine z_iconst (v := 1) dX11_readUnit_128 rfl ?_
              refine z_aload_n (i := 0) (x := 40) dX11_readUnit_129 rfl rfl ?_
              refine z_getI (j := 4) dX11_readUnit_130 kl_11 hs40 (by decide) rfl rfl kf_X11_110 ?_
              refine z_cTV (As := [.ref 40, .int 1, .int (a_32.2 40 4)]) (rest := []) (em_X11_wrong hl hW 1 (a_32.2 40 4) a_32.2) (fun o7 h => z_runV 140 2 h rfl kk_X11_140 hs40 kl_11.1 kq_X11_wrong rfl (Nat.le_of_ble_eq_true rfl) ⟨by dsimp only; omega, by dsimp only; omega, Nat.le_of_ble_eq_true rfl, Nat.le_of_ble_eq_true rfl⟩ dX11_readUnit_133) z_gWV (fun a_35 hz34 => ?_)
              exact hJ_F_X11_readUnit_J136 a_32.1 a_35
            · exact hJ_F_X11_readUnit_J136 a_32.1 a_32.2
      · refine z_aload_n (i := 0) (x := 40) dX11_readUnit_55 rfl rfl ?_
        refine z_iconst (v := 0) dX11_readUnit_56 rfl ?_
        refine z_aload_n (i := 0) (x := 40) dX11_readUnit_57 rfl rfl ?_
        refine z_iconst (v := 0) dX11_readUnit_58 rfl ?_
        refine z_sipush (v := 999) dX11_readUnit_59 (by decide) ?_
        refine z_cWI (As := [.ref 40, .int 0, .int 999]) (rest := [.int 0, .ref 40]) (em_X11_readNumber hl hW N 0 999 a_14.2) (fun o7 h => z_runV 194 2 h rfl kk_X11_194 hs40 kl_11.1 kq_X11_readNumber rfl (Nat.le_of_ble_eq_true rfl) ⟨by dsimp only; omega, by dsimp only; omega, Nat.le_of_ble_eq_true rfl, Nat.le_of_ble_eq_true rfl⟩ dX11_readUnit_62) z_gWV (fun a_45 hz44 => ?_)
        refine z_cWV (As := [.ref 40, .int 0, .int a_45.1]) (rest := []) (em_X11_emit hl hW 0 a_45.1 a_45.2) (fun o7 h => z_runV 234 2 h rfl kk_X11_234 hs40 kl_11.1 kq_X11_emit rfl (Nat.le_of_ble_eq_true rfl) ⟨by dsimp only; omega, by dsimp only; omega, Nat.le_of_ble_eq_true rfl, Nat.le_of_ble_eq_true rfl⟩ dX11_readUnit_65) z_gWV (fun a_47 hz46 => ?_)
        refine z_goto 154 dX11_readUnit_68 (by decide) ?_
        exact z_vreturn dX11_readUnit_154 z_rWV trivial (Nat.le_refl _) (Nat.le_refl _)

def F_X11_readProduct_J43 (N : Nat) (slf : z_Dat → Option z_Dat) (kc4 : (z_Dat → Option z_Dat)) (D14 : z_Dat) : Option z_Dat :=
  z_let (z_up D14 40 4 ((D14 40 4) + 1)) (fun D15 => z_bd (F_X11_readUnit N slf D15) (fun a_17 => z_bd (F_X11_emit 4 0 a_17) (fun a_19 => kc4 a_19)))
def F_X11_readProduct_J43x (N : Nat) (slf : z_Dat → Option z_Dat) (kc4 : (z_Dat → Option z_Dat)) (D20 : z_Dat) : Option z_Dat :=
  z_let (z_up D20 40 4 ((D20 40 4) + 1)) (fun D21 => z_bd (F_X11_readUnit N slf D21) (fun a_23 => z_bd (F_X11_emit 5 0 a_23) (fun a_25 => kc4 a_25)))
def F_X11_readProduct_J29 (N : Nat) (slf : z_Dat → Option z_Dat) (kc4 : (z_Dat → Option z_Dat)) (D10 : z_Dat) : Option z_Dat :=
  z_bd (F_X11_here N D10) (fun a_12 => if a_12.1 = 42 then (F_X11_readProduct_J43 N slf kc4 a_12.2)
  else (F_X11_readProduct_J43x N slf kc4 a_12.2))
def F_X11_readProduct_L4 (N : Nat) (slf : z_Dat → Option z_Dat) (kc4 : (z_Dat → Option z_Dat)) (D3 : z_Dat) : Option z_Dat :=
  if (F_X11_fine D3) = 0 then (some D3)
  else (z_bd (F_X11_here N D3) (fun a_8 => if a_8.1 = 42 then (F_X11_readProduct_J29 N slf kc4 a_8.2)
  else (z_bd (F_X11_here N a_8.2) (fun a_27 => if a_27.1 = 47 then (F_X11_readProduct_J29 N slf kc4 a_27.2)
  else (some a_27.2)))))
def F_X11_readProduct (N : Nat) (slf : z_Dat → Option z_Dat) (D : z_Dat) : Option z_Dat :=
  z_bd (F_X11_readUnit N slf D) (fun a_2 => z_loop (fun kc4 s => F_X11_readProduct_L4 N slf kc4 s) N a_2)
set_option maxRecDepth 100000 in
set_option maxHeartbeats 4000000 in
theorem em_X11_readProduct {l : Launch} {S : List z_Shp} {oW : Nat} (hl : l.stackTraces = false) (hW : z_W S oW) (N : Nat) (K : Nat) (slf : z_Dat → Option z_Dat) (hs : ∀ (D : z_Dat), ∀ out, z_ko (z_kV S) (slf  D) out → z_EM l M_X11_readSum (70 + 20 * K, 700 + 300 * K, 0, 0) [.ref 40] S D out) (D : z_Dat) : ∀ out, z_ko (z_kV S) (F_X11_readProduct N slf D) out → z_EM l M_X11_readProduct (79 + 20 * K, 880 + 300 * K, 0, 0) [.ref 40] S D out := by
  have hs40 : S[40]? = some (13, 55, [none, some (some 41), none, none, none, none, none, none, none, some (some 42), some (some 43), some (some 44), some (some 45), some (some 46), some (some 47), some (some 48), none, none, none, none, none, none, some (some 49), some (some 50), some (some 51), some (some 52), some (some 53), none, none, some (some 54), some (some 55), some (some 56), none, none, none, none, none, none, some (some 57), some (some 58), some (some 59), some (some 60), some (some 61), none, some (some 62), some (some 63), none, none, some (some 64), some (some 65), none, none, none, some (some 66), none]) := hW.1 40 _ rfl
  refine z_meth hl rfl kp_X11 (Nat.le_of_ble_eq_true rfl) (lv := [some (.ref 40), none]) rfl ?_
  unfold F_X11_readProduct
  refine z_aload_n (i := 0) (x := 40) dX11_readProduct_0 rfl rfl ?_
  refine z_cWV (As := [.ref 40]) (rest := []) (em_X11_readUnit hl hW N K slf hs D) (fun o7 h => z_runV 237 0 h rfl kk_X11_237 hs40 kl_11.1 kq_X11_readUnit rfl (Nat.le_of_ble_eq_true rfl) ⟨by dsimp only; omega, by dsimp only; omega, Nat.le_of_ble_eq_true rfl, Nat.le_of_ble_eq_true rfl⟩ dX11_readProduct_1) z_gWV (fun a_2 hz1 => ?_)
  refine z_loops (lvOf := fun s : z_Dat => [some (.ref 40), none]) (dOf := fun s : z_Dat => s) (fun kc4 hkc4 s => ?_) N a_2
  obtain ⟨D3, hq⟩ : ∃ z, z = s := ⟨_, rfl⟩
  subst hq
  show z_F _ _ _ _ _ 4 [some (.ref 40), none] [] S D3 _ (F_X11_readProduct_L4 N slf kc4 D3)
  unfold F_X11_readProduct_L4
  have hJ_F_X11_readProduct_J43 : ∀ (D14 : z_Dat) , z_F l M_X11_readProduct (79 + 20 * K, 880 + 300 * K, 0, 0) 0 0 43 [some (.ref 40), none] [.int 4] S D14 (z_ko (z_kV S)) (F_X11_readProduct_J43 N slf kc4 D14) := by
    intro D14
    unfold F_X11_readProduct_J43
    refine z_istore_n (i := 1) (x := 4) (lv' := [some (.ref 40), some (.int 4)]) dX11_readProduct_43 rfl (by decide) rfl rfl ?_
    refine z_aload_n (i := 0) (x := 40) dX11_readProduct_44 rfl rfl ?_
    refine z_dup dX11_readProduct_45 rfl ?_
    refine z_getI (j := 4) dX11_readProduct_46 kl_11 hs40 (by decide) rfl rfl kf_X11_110 ?_
    refine z_iconst (v := 1) dX11_readProduct_49 rfl ?_
    refine z_iadd dX11_readProduct_50 ?_
    refine z_putI (j := 4) dX11_readProduct_51 kl_11 tyX11_ok nmX11 hs40 (by decide) rfl rfl rfl rfl rfl rfl kf_X11_110 (fun D15 => ?_)
    refine z_aload_n (i := 0) (x := 40) dX11_readProduct_54 rfl rfl ?_
    refine z_cWV (As := [.ref 40]) (rest := []) (em_X11_readUnit hl hW N K slf hs D15) (fun o7 h => z_runV 237 0 h rfl kk_X11_237 hs40 kl_11.1 kq_X11_readUnit rfl (Nat.le_of_ble_eq_true rfl) ⟨by dsimp only; omega, by dsimp only; omega, Nat.le_of_ble_eq_true rfl, Nat.le_of_ble_eq_true rfl⟩ dX11_readProduct_55) z_gWV (fun a_17 hz16 => ?_)
    refine z_aload_n (i := 0) (x := 40) dX11_readProduct_58 rfl rfl ?_
    refine z_iload_n (i := 1) (x := 4) dX11_readProduct_59 rfl rfl ?_
    refine z_iconst (v := 0) dX11_readProduct_60 rfl ?_
    refine z_cWV (As := [.ref 40, .int 4, .int 0]) (rest := []) (em_X11_emit hl hW 4 0 a_17) (fun o7 h => z_runV 234 2 h rfl kk_X11_234 hs40 kl_11.1 kq_X11_emit rfl (Nat.le_of_ble_eq_true rfl) ⟨by dsimp only; omega, by dsimp only; omega, Nat.le_of_ble_eq_true rfl, Nat.le_of_ble_eq_true rfl⟩ dX11_readProduct_61) z_gWV (fun a_19 hz18 => ?_)
    refine z_goto 4 dX11_readProduct_64 (by decide) ?_
    refine z_weak (lv' := [some (.ref 40), none]) ⟨Or.inr rfl, ⟨Or.inl rfl, trivial⟩⟩ ?_
    exact hkc4 a_19
  have hJ_F_X11_readProduct_J43x : ∀ (D20 : z_Dat) , z_F l M_X11_readProduct (79 + 20 * K, 880 + 300 * K, 0, 0) 0 0 43 [some (.ref 40), none] [.int 5] S D20 (z_ko (z_kV S)) (F_X11_readProduct_J43x N slf kc4 D20) := by
    intro D20
    unfold F_X11_readProduct_J43x
    refine z_istore_n (i := 1) (x := 5) (lv' := [some (.ref 40), some (.int 5)]) dX11_readProduct_43 rfl (by decide) rfl rfl ?_
    refine z_aload_n (i := 0) (x := 40) dX11_readProduct_44 rfl rfl ?_
    refine z_dup dX11_readProduct_45 rfl ?_
    refine z_getI (j := 4) dX11_readProduct_46 kl_11 hs40 (by decide) rfl rfl kf_X11_110 ?_
    refine z_iconst (v := 1) dX11_readProduct_49 rfl ?_
    refine z_iadd dX11_readProduct_50 ?_
    refine z_putI (j := 4) dX11_readProduct_51 kl_11 tyX11_ok nmX11 hs40 (by decide) rfl rfl rfl rfl rfl rfl kf_X11_110 (fun D21 => ?_)
    refine z_aload_n (i := 0) (x := 40) dX11_readProduct_54 rfl rfl ?_
    refine z_cWV (As := [.ref 40]) (rest := []) (em_X11_readUnit hl hW N K slf hs D21) (fun o7 h => z_runV 237 0 h rfl kk_X11_237 hs40 kl_11.1 kq_X11_readUnit rfl (Nat.le_of_ble_eq_true rfl) ⟨by dsimp only; omega, by dsimp only; omega, Nat.le_of_ble_eq_true rfl, Nat.le_of_ble_eq_true rfl⟩ dX11_readProduct_55) z_gWV (fun a_23 hz22 => ?_)
    refine z_aload_n (i := 0) (x := 40) dX11_readProduct_58 rfl rfl ?_
    refine z_iload_n (i := 1) (x := 5) dX11_readProduct_59 rfl rfl ?_
    refine z_iconst (v := 0) dX11_readProduct_60 rfl ?_
    refine z_cWV (As := [.ref 40, .int 5, .int 0]) (rest := []) (em_X11_emit hl hW 5 0 a_23) (fun o7 h => z_runV 234 2 h rfl kk_X11_234 hs40 kl_11.1 kq_X11_emit rfl (Nat.le_of_ble_eq_true rfl) ⟨by dsimp only; omega, by dsimp only; omega, Nat.le_of_ble_eq_true rfl, Nat.le_of_ble_eq_true rfl⟩ dX11_readProduct_61) z_gWV (fun a_25 hz24 => ?_)
    refine z_goto 4 dX11_readProduct_64 (by decide) ?_
    refine z_weak (lv' := [some (.ref 40), none]) ⟨Or.inr rfl, ⟨Or.inl rfl, trivial⟩⟩ ?_
    exact hkc4 a_25
  have hJ_F_X11_readProduct_J29 : ∀ (D10 : z_Dat) , z_F l M_X11_readProduct (79 + 20 * K, 880 + 300 * K, 0, 0) 0 0 29 [some (.ref 40), none] [] S D10 (z_ko (z_kV S)) (F_X11_readProduct_J29 N slf kc4 D10) := by
    intro D10
    unfold F_X11_readProduct_J29
    refine z_aload_n (i := 0) (x := 40) dX11_readProduct_29 rfl rfl ?_
    refine z_cWI (As := [.ref 40]) (rest := []) (em_X11_here hl hW N D10) (fun o7 h => z_runV 116 0 h rfl kk_X11_116 hs40 kl_11.1 kq_X11_here rfl (Nat.le_of_ble_eq_true rfl) ⟨by dsimp only; omega, by dsimp only; omega, Nat.le_of_ble_eq_true rfl, Nat.le_of_ble_eq_true rfl⟩ dX11_readProduct_30) z_gWV (fun a_12 hz11 => ?_)
    refine z_bipush (v := 42) dX11_readProduct_33 (by decide) ?_
    refine z_icmp_ne 42 dX11_readProduct_35 (by decide) (fun c13 => ?_) (fun c13 => ?_)
    · refine z_iconst (v := 4) dX11_readProduct_38 rfl ?_
      refine z_goto 43 dX11_readProduct_39 (by decide) ?_
      exact hJ_F_X11_readProduct_J43 a_12.2
    · refine z_iconst (v := 5) dX11_readProduct_42 rfl ?_
      exact hJ_F_X11_readProduct_J43x a_12.2
  refine z_aload_n (i := 0) (x := 40) dX11_readProduct_4 rfl rfl ?_
  refine z_cP (As := [.ref 40]) (rest := []) (em_X11_fine hl hW D3) (fun o7 h => z_runV 133 0 h rfl kk_X11_133 hs40 kl_11.1 kq_X11_fine rfl (Nat.le_of_ble_eq_true rfl) ⟨by dsimp only; omega, by dsimp only; omega, Nat.le_of_ble_eq_true rfl, Nat.le_of_ble_eq_true rfl⟩ dX11_readProduct_5) z_gWV (fun hz5 => ?_)
  refine z_if_eq 67 dX11_readProduct_8 (by decide) (fun c6 => ?_) (fun c6 => ?_)
  · exact z_vreturn dX11_readProduct_67 z_rWV trivial (Nat.le_refl _) (Nat.le_refl _)
  · refine z_aload_n (i := 0) (x := 40) dX11_readProduct_11 rfl rfl ?_
    refine z_cWI (As := [.ref 40]) (rest := []) (em_X11_here hl hW N D3) (fun o7 h => z_runV 116 0 h rfl kk_X11_116 hs40 kl_11.1 kq_X11_here rfl (Nat.le_of_ble_eq_true rfl) ⟨by dsimp only; omega, by dsimp only; omega, Nat.le_of_ble_eq_true rfl, Nat.le_of_ble_eq_true rfl⟩ dX11_readProduct_12) z_gWV (fun a_8 hz7 => ?_)
    refine z_bipush (v := 42) dX11_readProduct_15 (by decide) ?_
    refine z_icmp_eq 29 dX11_readProduct_17 (by decide) (fun c9 => ?_) (fun c9 => ?_)
    · exact hJ_F_X11_readProduct_J29 a_8.2
    · refine z_aload_n (i := 0) (x := 40) dX11_readProduct_20 rfl rfl ?_
      refine z_cWI (As := [.ref 40]) (rest := []) (em_X11_here hl hW N a_8.2) (fun o7 h => z_runV 116 0 h rfl kk_X11_116 hs40 kl_11.1 kq_X11_here rfl (Nat.le_of_ble_eq_true rfl) ⟨by dsimp only; omega, by dsimp only; omega, Nat.le_of_ble_eq_true rfl, Nat.le_of_ble_eq_true rfl⟩ dX11_readProduct_21) z_gWV (fun a_27 hz26 => ?_)
      refine z_bipush (v := 47) dX11_readProduct_24 (by decide) ?_
      refine z_icmp_ne 67 dX11_readProduct_26 (by decide) (fun c28 => ?_) (fun c28 => ?_)
      · exact hJ_F_X11_readProduct_J29 a_27.2
      · exact z_vreturn dX11_readProduct_67 z_rWV trivial (Nat.le_refl _) (Nat.le_refl _)

def F_X11_readSum_J43 (N : Nat) (slf : z_Dat → Option z_Dat) (kc4 : (z_Dat → Option z_Dat)) (D14 : z_Dat) : Option z_Dat :=
  z_let (z_up D14 40 4 ((D14 40 4) + 1)) (fun D15 => z_bd (F_X11_readProduct N slf D15) (fun a_17 => z_bd (F_X11_emit 2 0 a_17) (fun a_19 => kc4 a_19)))
def F_X11_readSum_J43x (N : Nat) (slf : z_Dat → Option z_Dat) (kc4 : (z_Dat → Option z_Dat)) (D20 : z_Dat) : Option z_Dat :=
  z_let (z_up D20 40 4 ((D20 40 4) + 1)) (fun D21 => z_bd (F_X11_readProduct N slf D21) (fun a_23 => z_bd (F_X11_emit 3 0 a_23) (fun a_25 => kc4 a_25)))
def F_X11_readSum_J29 (N : Nat) (slf : z_Dat → Option z_Dat) (kc4 : (z_Dat → Option z_Dat)) (D10 : z_Dat) : Option z_Dat :=
  z_bd (F_X11_here N D10) (fun a_12 => if a_12.1 = 43 then (F_X11_readSum_J43 N slf kc4 a_12.2)
  else (F_X11_readSum_J43x N slf kc4 a_12.2))
def F_X11_readSum_L4 (N : Nat) (slf : z_Dat → Option z_Dat) (kc4 : (z_Dat → Option z_Dat)) (D3 : z_Dat) : Option z_Dat :=
  if (F_X11_fine D3) = 0 then (some D3)
  else (z_bd (F_X11_here N D3) (fun a_8 => if a_8.1 = 43 then (F_X11_readSum_J29 N slf kc4 a_8.2)
  else (z_bd (F_X11_here N a_8.2) (fun a_27 => if a_27.1 = 45 then (F_X11_readSum_J29 N slf kc4 a_27.2)
  else (some a_27.2)))))
def F_X11_readSum_B (N : Nat) (slf : z_Dat → Option z_Dat) (D : z_Dat) : Option z_Dat :=
  z_bd (F_X11_readProduct N slf D) (fun a_2 => z_loop (fun kc4 s => F_X11_readSum_L4 N slf kc4 s) N a_2)
set_option maxRecDepth 100000 in
set_option maxHeartbeats 4000000 in
theorem em_X11_readSum_B {l : Launch} {S : List z_Shp} {oW : Nat} (hl : l.stackTraces = false) (hW : z_W S oW) (N : Nat) (K : Nat) (slf : z_Dat → Option z_Dat) (hs : ∀ (D : z_Dat), ∀ out, z_ko (z_kV S) (slf  D) out → z_EM l M_X11_readSum (70 + 20 * K, 700 + 300 * K, 0, 0) [.ref 40] S D out) (D : z_Dat) : ∀ out, z_ko (z_kV S) (F_X11_readSum_B N slf D) out → z_EM l M_X11_readSum (70 + 20 * (K + 1), 700 + 300 * (K + 1), 0, 0) [.ref 40] S D out := by
  have hs40 : S[40]? = some (13, 55, [none, some (some 41), none, none, none, none, none, none, none, some (some 42), some (some 43), some (some 44), some (some 45), some (some 46), some (some 47), some (some 48), none, none, none, none, none, none, some (some 49), some (some 50), some (some 51), some (some 52), some (some 53), none, none, some (some 54), some (some 55), some (some 56), none, none, none, none, none, none, some (some 57), some (some 58), some (some 59), some (some 60), some (some 61), none, some (some 62), some (some 63), none, none, some (some 64), some (some 65), none, none, none, some (some 66), none]) := hW.1 40 _ rfl
  refine z_meth hl rfl kp_X11 (Nat.le_of_ble_eq_true rfl) (lv := [some (.ref 40), none]) rfl ?_
  unfold F_X11_readSum_B
  refine z_aload_n (i := 0) (x := 40) dX11_readSum_0 rfl rfl ?_
  refine z_cWV (As := [.ref 40]) (rest := []) (em_X11_readProduct hl hW N K slf hs D) (fun o7 h => z_runV 231 0 h rfl kk_X11_231 hs40 kl_11.1 kq_X11_readProduct rfl (Nat.le_of_ble_eq_true rfl) ⟨by dsimp only; omega, by dsimp only; omega, Nat.le_of_ble_eq_true rfl, Nat.le_of_ble_eq_true rfl⟩ dX11_readSum_1) z_gWV (fun a_2 hz1 => ?_)
  refine z_loops (lvOf := fun s : z_Dat => [some (.ref 40), none]) (dOf := fun s : z_Dat => s) (fun kc4 hkc4 s => ?_) N a_2
  obtain ⟨D3, hq⟩ : ∃ z, z = s := ⟨_, rfl⟩
  subst hq
  show z_F _ _ _ _ _ 4 [some (.ref 40), none] [] S D3 _ (F_X11_readSum_L4 N slf kc4 D3)
  unfold F_X11_readSum_L4
  have hJ_F_X11_readSum_J43 : ∀ (D14 : z_Dat) , z_F l M_X11_readSum (70 + 20 * (K + 1), 700 + 300 * (K + 1), 0, 0) 0 0 43 [some (.ref 40), none] [.int 2] S D14 (z_ko (z_kV S)) (F_X11_readSum_J43 N slf kc4 D14) := by
    intro D14
    unfold F_X11_readSum_J43
    refine z_istore_n (i := 1) (x := 2) (lv' := [some (.ref 40), some (.int 2)]) dX11_readSum_43 rfl (by decide) rfl rfl ?_
    refine z_aload_n (i := 0) (x := 40) dX11_readSum_44 rfl rfl ?_
    refine z_dup dX11_readSum_45 rfl ?_
    refine z_getI (j := 4) dX11_readSum_46 kl_11 hs40 (by decide) rfl rfl kf_X11_110 ?_
    refine z_iconst (v := 1) dX11_readSum_49 rfl ?_
    refine z_iadd dX11_readSum_50 ?_
    refine z_putI (j := 4) dX11_readSum_51 kl_11 tyX11_ok nmX11 hs40 (by decide) rfl rfl rfl rfl rfl rfl kf_X11_110 (fun D15 => ?_)
    refine z_aload_n (i := 0) (x := 40) dX11_readSum_54 rfl rfl ?_
    refine z_cWV (As := [.ref 40]) (rest := []) (em_X11_readProduct hl hW N K slf hs D15) (fun o7 h => z_runV 231 0 h rfl kk_X11_231 hs40 kl_11.1 kq_X11_readProduct rfl (Nat.le_of_ble_eq_true rfl) ⟨by dsimp only; omega, by dsimp only; omega, Nat.le_of_ble_eq_true rfl, Nat.le_of_ble_eq_true rfl⟩ dX11_readSum_55) z_gWV (fun a_17 hz16 => ?_)
    refine z_aload_n (i := 0) (x := 40) dX11_readSum_58 rfl rfl ?_
    refine z_iload_n (i := 1) (x := 2) dX11_readSum_59 rfl rfl ?_
    refine z_iconst (v := 0) dX11_readSum_60 rfl ?_
    refine z_cWV (As := [.ref 40, .int 2, .int 0]) (rest := []) (em_X11_emit hl hW 2 0 a_17) (fun o7 h => z_runV 234 2 h rfl kk_X11_234 hs40 kl_11.1 kq_X11_emit rfl (Nat.le_of_ble_eq_true rfl) ⟨by dsimp only; omega, by dsimp only; omega, Nat.le_of_ble_eq_true rfl, Nat.le_of_ble_eq_true rfl⟩ dX11_readSum_61) z_gWV (fun a_19 hz18 => ?_)
    refine z_goto 4 dX11_readSum_64 (by decide) ?_
    refine z_weak (lv' := [some (.ref 40), none]) ⟨Or.inr rfl, ⟨Or.inl rfl, trivial⟩⟩ ?_
    exact hkc4 a_19
  have hJ_F_X11_readSum_J43x : ∀ (D20 : z_Dat) , z_F l M_X11_readSum (70 + 20 * (K + 1), 700 + 300 * (K + 1), 0, 0) 0 0 43 [some (.ref 40), none] [.int 3] S D20 (z_ko (z_kV S)) (F_X11_readSum_J43x N slf kc4 D20) := by
    intro D20
    unfold F_X11_readSum_J43x
    refine z_istore_n (i := 1) (x := 3) (lv' := [some (.ref 40), some (.int 3)]) dX11_readSum_43 rfl (by decide) rfl rfl ?_
    refine z_aload_n (i := 0) (x := 40) dX11_readSum_44 rfl rfl ?_
    refine z_dup dX11_readSum_45 rfl ?_
    refine z_getI (j := 4) dX11_readSum_46 kl_11 hs40 (by decide) rfl rfl kf_X11_110 ?_
    refine z_iconst (v := 1) dX11_readSum_49 rfl ?_
    refine z_iadd dX11_readSum_50 ?_
    refine z_putI (j := 4) dX11_readSum_51 kl_11 tyX11_ok nmX11 hs40 (by decide) rfl rfl rfl rfl rfl rfl kf_X11_110 (fun D21 => ?_)
    refine z_aload_n (i := 0) (x := 40) dX11_readSum_54 rfl rfl ?_
    refine z_cWV (As := [.ref 40]) (rest := []) (em_X11_readProduct hl hW N K slf hs D21) (fun o7 h => z_runV 231 0 h rfl kk_X11_231 hs40 kl_11.1 kq_X11_readProduct rfl (Nat.le_of_ble_eq_true rfl) ⟨by dsimp only; omega, by dsimp only; omega, Nat.le_of_ble_eq_true rfl, Nat.le_of_ble_eq_true rfl⟩ dX11_readSum_55) z_gWV (fun a_23 hz22 => ?_)
    refine z_aload_n (i := 0) (x := 40) dX11_readSum_58 rfl rfl ?_
    refine z_iload_n (i := 1) (x := 3) dX11_readSum_59 rfl rfl ?_
    refine z_iconst (v := 0) dX11_readSum_60 rfl ?_
    refine z_cWV (As := [.ref 40, .int 3, .int 0]) (rest := []) (em_X11_emit hl hW 3 0 a_23) (fun o7 h => z_runV 234 2 h rfl kk_X11_234 hs40 kl_11.1 kq_X11_emit rfl (Nat.le_of_ble_eq_true rfl) ⟨by dsimp only; omega, by dsimp only; omega, Nat.le_of_ble_eq_true rfl, Nat.le_of_ble_eq_true rfl⟩ dX11_readSum_61) z_gWV (fun a_25 hz24 => ?_)
    refine z_goto 4 dX11_readSum_64 (by decide) ?_
    refine z_weak (lv' := [some (.ref 40), none]) ⟨Or.inr rfl, ⟨Or.inl rfl, trivial⟩⟩ ?_
    exact hkc4 a_25
  have hJ_F_X11_readSum_J29 : ∀ (D10 : z_Dat) , z_F l M_X11_readSum (70 + 20 * (K + 1), 700 + 300 * (K + 1), 0, 0) 0 0 29 [some (.ref 40), none] [] S D10 (z_ko (z_kV S)) (F_X11_readSum_J29 N slf kc4 D10) := by
    intro D10
    unfold F_X11_readSum_J29
    refine z_aload_n (i := 0) (x := 40) dX11_readSum_29 rfl rfl ?_
    refine z_cWI (As := [.ref 40]) (rest := []) (em_X11_here hl hW N D10) (fun o7 h => z_runV 116 0 h rfl kk_X11_116 hs40 kl_11.1 kq_X11_here rfl (Nat.le_of_ble_eq_true rfl) ⟨by dsimp only; omega, by dsimp only; omega, Nat.le_of_ble_eq_true rfl, Nat.le_of_ble_eq_true rfl⟩ dX11_readSum_30) z_gWV (fun a_12 hz11 => ?_)
    refine z_bipush (v := 43) dX11_readSum_33 (by decide) ?_
    refine z_icmp_ne 42 dX11_readSum_35 (by decide) (fun c13 => ?_) (fun c13 => ?_)
    · refine z_iconst (v := 2) dX11_readSum_38 rfl ?_
      refine z_goto 43 dX11_readSum_39 (by decide) ?_
      exact hJ_F_X11_readSum_J43 a_12.2
    · refine z_iconst (v := 3) dX11_readSum_42 rfl ?_
      exact hJ_F_X11_readSum_J43x a_12.2
  refine z_aload_n (i := 0) (x := 40) dX11_readSum_4 rfl rfl ?_
  refine z_cP (As := [.ref 40]) (rest := []) (em_X11_fine hl hW D3) (fun o7 h => z_runV 133 0 h rfl kk_X11_133 hs40 kl_11.1 kq_X11_fine rfl (Nat.le_of_ble_eq_true rfl) ⟨by dsimp only; omega, by dsimp only; omega, Nat.le_of_ble_eq_true rfl, Nat.le_of_ble_eq_true rfl⟩ dX11_readSum_5) z_gWV (fun hz5 => ?_)
  refine z_if_eq 67 dX11_readSum_8 (by decide) (fun c6 => ?_) (fun c6 => ?_)
  · exact z_vreturn dX11_readSum_67 z_rWV trivial (Nat.le_refl _) (Nat.le_refl _)
  · refine z_aload_n (i := 0) (x := 40) dX11_readSum_11 rfl rfl ?_
    refine z_cWI (As := [.ref 40]) (rest := []) (em_X11_here hl hW N D3) (fun o7 h => z_runV 116 0 h rfl kk_X11_116 hs40 kl_11.1 kq_X11_here rfl (Nat.le_of_ble_eq_true rfl) ⟨by dsimp only; omega, by dsimp only; omega, Nat.le_of_ble_eq_true rfl, Nat.le_of_ble_eq_true rfl⟩ dX11_readSum_12) z_gWV (fun a_8 hz7 => ?_)
    refine z_bipush (v := 43) dX11_readSum_15 (by decide) ?_
    refine z_icmp_eq 29 dX11_readSum_17 (by decide) (fun c9 => ?_) (fun c9 => ?_)
    · exact hJ_F_X11_readSum_J29 a_8.2
    · refine z_aload_n (i := 0) (x := 40) dX11_readSum_20 rfl rfl ?_
      refine z_cWI (As := [.ref 40]) (rest := []) (em_X11_here hl hW N a_8.2) (fun o7 h => z_runV 116 0 h rfl kk_X11_116 hs40 kl_11.1 kq_X11_here rfl (Nat.le_of_ble_eq_true rfl) ⟨by dsimp only; omega, by dsimp only; omega, Nat.le_of_ble_eq_true rfl, Nat.le_of_ble_eq_true rfl⟩ dX11_readSum_21) z_gWV (fun a_27 hz26 => ?_)
      refine z_bipush (v := 45) dX11_readSum_24 (by decide) ?_
      refine z_icmp_ne 67 dX11_readSum_26 (by decide) (fun c28 => ?_) (fun c28 => ?_)
      · exact hJ_F_X11_readSum_J29 a_27.2
      · exact z_vreturn dX11_readSum_67 z_rWV trivial (Nat.le_refl _) (Nat.le_refl _)
def F_X11_readSum (N : Nat) : Nat → z_Dat → Option z_Dat
  | 0 => fun _ => none
  | K + 1 => F_X11_readSum_B N (F_X11_readSum N K)
theorem em_X11_readSum {l : Launch} {S : List z_Shp} {oW : Nat} (hl : l.stackTraces = false) (hW : z_W S oW) (N : Nat) : ∀ (K : Nat) (D : z_Dat), ∀ out, z_ko (z_kV S) (F_X11_readSum N K D) out → z_EM l M_X11_readSum (70 + 20 * K, 700 + 300 * K, 0, 0) [.ref 40] S D out
  | 0, _, _, ⟨_, h, _⟩ => by cases h
  | K + 1, D, out, h => em_X11_readSum_B hl hW N K (F_X11_readSum N K) (fun D => em_X11_readSum hl hW N K D) D out h

def F_X11_law_J77 (N : Nat) (D15 : z_Dat) : Option (Int32 × z_Dat) :=
  z_let (F_X11_result 1 D15) (fun a_17 => if (a_17.2 40 5) = (-1) then (z_let (z_up a_17.2 40 28 (a_17.2 40 27)) (fun D19 => z_bd (F_X11_copies N 49 150 51 150 (D19 40 27) D19) (fun a_21 => z_bd (F_X11_copies N 50 150 52 150 (a_21 40 27) a_21) (fun a_23 => some (a_17.1, a_23)))))
  else (some (a_17.1, a_17.2)))
def F_X11_law_J30 (N : Nat) (a0 : Int32) (D4 : z_Dat) : Option (Int32 × z_Dat) :=
  z_bd (F_X11_may 0 1 1 D4) (fun a_6 => if a_6.1 = 0 then (some (0, a_6.2))
  else (z_let (F_X11_begins a0 a_6.2) (fun a_9 => z_let (z_up a_9 40 27 0) (fun D10 => z_bd (F_X11_readSum N 64 D10) (fun a_12 => if (F_X11_fine a_12) = 0 then (F_X11_law_J77 N a_12)
  else (z_bd (F_X11_isMore N a_12) (fun a_25 => if a_25.1 = 0 then (F_X11_law_J77 N a_25.2)
  else (z_let (F_X11_wrong 1 (a_25.2 40 4) a_25.2) (fun a_28 => F_X11_law_J77 N a_28)))))))))
def F_X11_law_J29 (N : Nat) (a0 : Int32) (D3 : z_Dat) : Option (Int32 × z_Dat) :=
  F_X11_law_J30 N a0 D3
def F_X11_law_J30x (N : Nat) (a0 : Int32) (D31 : z_Dat) : Option (Int32 × z_Dat) :=
  z_bd (F_X11_may 1 1 1 D31) (fun a_33 => if a_33.1 = 0 then (some (0, a_33.2))
  else (z_let (F_X11_begins a0 a_33.2) (fun a_36 => z_let (z_up a_36 40 27 0) (fun D37 => z_bd (F_X11_readSum N 64 D37) (fun a_39 => if (F_X11_fine a_39) = 0 then (F_X11_law_J77 N a_39)
  else (z_bd (F_X11_isMore N a_39) (fun a_43 => if a_43.1 = 0 then (F_X11_law_J77 N a_43.2)
  else (z_let (F_X11_wrong 1 (a_43.2 40 4) a_43.2) (fun a_46 => F_X11_law_J77 N a_46)))))))))
def F_X11_law (N : Nat) (a0 : Int32) (D : z_Dat) : Option (Int32 × z_Dat) :=
  z_let (z_up D 40 0 0) (fun D1 => if a0 < 0 then (F_X11_law_J29 N a0 D1)
  else (if (D1 40 2) < a0 then (F_X11_law_J29 N a0 D1)
  else (if 150 < a0 then (F_X11_law_J29 N a0 D1)
  else (F_X11_law_J30x N a0 D1))))
set_option maxRecDepth 100000 in
set_option maxHeartbeats 4000000 in
theorem em_X11_law {l : Launch} {S : List z_Shp} {oW : Nat} (hl : l.stackTraces = false) (hW : z_W S oW) (N : Nat) (a0 : Int32) (D : z_Dat) : ∀ out, z_ko (z_kI S) (F_X11_law N a0 D) out → z_EM l M_X11_law (1360, 19960, 0, 0) [.ref 40, .int a0] S D out := by
  have hs40 : S[40]? = some (13, 55, [none, some (some 41), none, none, none, none, none, none, none, some (some 42), some (some 43), some (some 44), some (some 45), some (some 46), some (some 47), some (some 48), none, none, none, none, none, none, some (some 49), some (some 50), some (some 51), some (some 52), some (some 53), none, none, some (some 54), some (some 55), some (some 56), none, none, none, none, none, none, some (some 57), some (some 58), some (some 59), some (some 60), some (some 61), none, some (some 62), some (some 63), none, none, some (some 64), some (some 65), none, none, none, some (some 66), none]) := hW.1 40 _ rfl
  have hs49 : S[49]? = some (0, 150, []) := hW.1 49 _ rfl
  have hs50 : S[50]? = some (0, 150, []) := hW.1 50 _ rfl
  have hs51 : S[51]? = some (0, 150, []) := hW.1 51 _ rfl
  have hs52 : S[52]? = some (0, 150, []) := hW.1 52 _ rfl
  refine z_meth hl rfl kp_X11 (Nat.le_of_ble_eq_true rfl) (lv := [some (.ref 40), some (.int a0), none]) rfl ?_
  unfold F_X11_law
  have hJ_F_X11_law_J77 : ∀ (D15 : z_Dat) , z_F l M_X11_law (1360, 19960, 0, 0) 0 0 77 [some (.ref 40), none, none] [] S D15 (z_ko (z_kI S)) (F_X11_law_J77 N D15) := by
    intro D15
    unfold F_X11_law_J77
    refine z_aload_n (i := 0) (x := 40) dX11_law_77 rfl rfl ?_
    refine z_iconst (v := 1) dX11_law_78 rfl ?_
    refine z_cTI (As := [.ref 40, .int 1]) (rest := []) (em_X11_result hl hW 1 D15) (fun o7 h => z_runV 224 1 h rfl kk_X11_224 hs40 kl_11.1 kq_X11_result rfl (Nat.le_of_ble_eq_true rfl) ⟨Nat.le_of_ble_eq_true rfl, Nat.le_of_ble_eq_true rfl, Nat.le_of_ble_eq_true rfl, Nat.le_of_ble_eq_true rfl⟩ dX11_law_79) z_gWI (fun a_17 hz16 => ?_)
    refine z_istore_n (i := 2) (x := a_17.1) (lv' := [some (.ref 40), none, some (.int a_17.1)]) dX11_law_82 rfl (by decide) rfl rfl ?_
    refine z_aload_n (i := 0) (x := 40) dX11_law_83 rfl rfl ?_
    refine z_getI (j := 5) dX11_law_84 kl_11 hs40 (by decide) rfl rfl kf_X11_104 ?_
    refine z_iconst (v := (-1)) dX11_law_87 rfl ?_
    refine z_icmp_eq 93 dX11_law_88 (by decide) (fun c18 => ?_) (fun c18 => ?_)
    · refine z_aload_n (i := 0) (x := 40) dX11_law_93 rfl rfl ?_
      refine z_aload_n (i := 0) (x := 40) dX11_law_94 rfl rfl ?_
      refine z_getI (j := 27) dX11_law_95 kl_11 hs40 (by decide) rfl rfl kf_X11_228 ?_
      refine z_putI (j := 28) dX11_law_98 kl_11 tyX11_ok nmX11 hs40 (by decide) rfl rfl rfl rfl rfl rfl kf_X11_169 (fun D19 => ?_)
      refine z_aload_n (i := 0) (x := 40) dX11_law_101 rfl rfl ?_
      refine z_aload_n (i := 0) (x := 40) dX11_law_102 rfl rfl ?_
      refine z_getR (j := 22) dX11_law_103 kl_11 hs40 (by decide) rfl rfl kf_X11_41 ?_
      refine z_aload_n (i := 0) (x := 40) dX11_law_106 rfl rfl ?_
      refine z_getR (j := 24) dX11_law_107 kl_11 hs40 (by decide) rfl rfl kf_X11_47 ?_
      refine z_aload_n (i := 0) (x := 40) dX11_law_110 rfl rfl ?_
      refine z_getI (j := 27) dX11_law_111 kl_11 hs40 (by decide) rfl rfl kf_X11_228 ?_
      refine z_cWV (As := [.ref 40, .ref 49, .ref 51, .int (D19 40 27)]) (rest := []) (em_X11_copies (n0 := 150) (n1 := 150) hl hW hs49 (by decide) hs51 (by decide) N (D19 40 27) D19) (fun o7 h => z_runV 165 3 h rfl kk_X11_165 hs40 kl_11.1 kq_X11_copies rfl (Nat.le_of_ble_eq_true rfl) ⟨Nat.le_of_ble_eq_true rfl, Nat.le_of_ble_eq_true rfl, Nat.le_of_ble_eq_true rfl, Nat.le_of_ble_eq_true rfl⟩ dX11_law_114) z_gWI (fun a_21 hz20 => ?_)
      refine z_aload_n (i := 0) (x := 40) dX11_law_117 rfl rfl ?_
      refine z_aload_n (i := 0) (x := 40) dX11_law_118 rfl rfl ?_
      refine z_getR (j := 23) dX11_law_119 kl_11 hs40 (by decide) rfl rfl kf_X11_44 ?_
      refine z_aload_n (i := 0) (x := 40) dX11_law_122 rfl rfl ?_
      refine z_getR (j := 25) dX11_law_123 kl_11 hs40 (by decide) rfl rfl kf_X11_50 ?_
      refine z_aload_n (i := 0) (x := 40) dX11_law_126 rfl rfl ?_
      refine z_getI (j := 27) dX11_law_127 kl_11 hs40 (by decide) rfl rfl kf_X11_228 ?_
      refine z_cWV (As := [.ref 40, .ref 50, .ref 52, .int (a_21 40 27)]) (rest := []) (em_X11_copies (n0 := 150) (n1 := 150) hl hW hs50 (by decide) hs52 (by decide) N (a_21 40 27) a_21) (fun o7 h => z_runV 165 3 h rfl kk_X11_165 hs40 kl_11.1 kq_X11_copies rfl (Nat.le_of_ble_eq_true rfl) ⟨Nat.le_of_ble_eq_true rfl, Nat.le_of_ble_eq_true rfl, Nat.le_of_ble_eq_true rfl, Nat.le_of_ble_eq_true rfl⟩ dX11_law_130) z_gWI (fun a_23 hz22 => ?_)
      refine z_iload_n (i := 2) (x := a_17.1) dX11_law_133 rfl rfl ?_
      exact z_ireturn dX11_law_134 z_rWI rfl (by decide) (by decide)
    · refine z_iload_n (i := 2) (x := a_17.1) dX11_law_91 rfl rfl ?_
      exact z_ireturn dX11_law_92 z_rWI rfl (by decide) (by decide)
  have hJ_F_X11_law_J30 : ∀ (D4 : z_Dat) , z_F l M_X11_law (1360, 19960, 0, 0) 0 0 30 [some (.ref 40), some (.int a0), none] [.int 0, .ref 40] S D4 (z_ko (z_kI S)) (F_X11_law_J30 N a0 D4) := by
    intro D4
    unfold F_X11_law_J30
    refine z_iconst (v := 1) dX11_law_30 rfl ?_
    refine z_iconst (v := 1) dX11_law_31 rfl ?_
    refine z_cWI (As := [.ref 40, .int 0, .int 1, .int 1]) (rest := []) (em_X11_may hl hW 0 1 1 D4) (fun o7 h => z_runV 198 3 h rfl kk_X11_198 hs40 kl_11.1 kq_X11_may rfl (Nat.le_of_ble_eq_true rfl) ⟨Nat.le_of_ble_eq_true rfl, Nat.le_of_ble_eq_true rfl, Nat.le_of_ble_eq_true rfl, Nat.le_of_ble_eq_true rfl⟩ dX11_law_32) z_gWI (fun a_6 hz5 => ?_)
    refine z_if_ne 40 dX11_law_35 (by decide) (fun c7 => ?_) (fun c7 => ?_)
    · refine z_iconst (v := 0) dX11_law_38 rfl ?_
      exact z_ireturn dX11_law_39 z_rWI rfl (by decide) (by decide)
    · refine z_aload_n (i := 0) (x := 40) dX11_law_40 rfl rfl ?_
      refine z_iload_n (i := 1) (x := a0) dX11_law_41 rfl rfl ?_
      refine z_cTV (As := [.ref 40, .int a0]) (rest := []) (em_X11_begins hl hW a0 a_6.2) (fun o7 h => z_runV 202 1 h rfl kk_X11_202 hs40 kl_11.1 kq_X11_begins rfl (Nat.le_of_ble_eq_true rfl) ⟨Nat.le_of_ble_eq_true rfl, Nat.le_of_ble_eq_true rfl, Nat.le_of_ble_eq_true rfl, Nat.le_of_ble_eq_true rfl⟩ dX11_law_42) z_gWI (fun a_9 hz8 => ?_)
      refine z_aload_n (i := 0) (x := 40) dX11_law_45 rfl rfl ?_
      refine z_iconst (v := 0) dX11_law_46 rfl ?_
      refine z_putI (j := 27) dX11_law_47 kl_11 tyX11_ok nmX11 hs40 (by decide) rfl rfl rfl rfl rfl rfl kf_X11_228 (fun D10 => ?_)
      refine z_aload_n (i := 0) (x := 40) dX11_law_50 rfl rfl ?_
      refine z_cWV (As := [.ref 40]) (rest := []) (em_X11_readSum hl hW N 64 D10) (fun o7 h => z_runV 243 0 h rfl kk_X11_243 hs40 kl_11.1 kq_X11_readSum rfl (Nat.le_of_ble_eq_true rfl) ⟨Nat.le_of_ble_eq_true rfl, Nat.le_of_ble_eq_true rfl, Nat.le_of_ble_eq_true rfl, Nat.le_of_ble_eq_true rfl⟩ dX11_law_51) z_gWI (fun a_12 hz11 => ?_)
      refine z_aload_n (i := 0) (x := 40) dX11_law_54 rfl rfl ?_
      refine z_cP (As := [.ref 40]) (rest := []) (em_X11_fine hl hW a_12) (fun o7 h => z_runV 133 0 h rfl kk_X11_133 hs40 kl_11.1 kq_X11_fine rfl (Nat.le_of_ble_eq_true rfl) ⟨Nat.le_of_ble_eq_true rfl, Nat.le_of_ble_eq_true rfl, Nat.le_of_ble_eq_true rfl, Nat.le_of_ble_eq_true rfl⟩ dX11_law_55) z_gWI (fun hz13 => ?_)
      refine z_if_eq 77 dX11_law_58 (by decide) (fun c14 => ?_) (fun c14 => ?_)
      · refine z_weak (lv' := [some (.ref 40), none, none]) ⟨Or.inr rfl, ⟨Or.inl rfl, ⟨Or.inl rfl, trivial⟩⟩⟩ ?_
        exact hJ_F_X11_law_J77 a_12
      · refine z_aload_n (i := 0) (x := 40) dX11_law_61 rfl rfl ?_
        refine z_cWI (As := [.ref 40]) (rest := []) (em_X11_isMore hl hW N a_12) (fun o7 h => z_runV 206 0 h rfl kk_X11_206 hs40 kl_11.1 kq_X11_isMore rfl (Nat.le_of_ble_eq_true rfl) ⟨Nat.le_of_ble_eq_true rfl, Nat.le_of_ble_eq_true rfl, Nat.le_of_ble_eq_true rfl, Nat.le_of_ble_eq_true rfl⟩ dX11_law_62) z_gWI (fun a_25 hz24 => ?_)
        refine z_if_eq 77 dX11_law_65 (by decide) (fun c26 => ?_) (fun c26 => ?_)
        · refine z_weak (lv' := [some (.ref 40), none, none]) ⟨Or.inr rfl, ⟨Or.inl rfl, ⟨Or.inl rfl, trivial⟩⟩⟩ ?_
          exact hJ_F_X11_law_J77 a_25.2
        · refine z_aload_n (i := 0) (x := 40) dX11_law_68 rfl rfl ?_
          refine z_iconst (v := 1) dX11_law_69 rfl ?_
          refine z_aload_n (i := 0) (x := 40) dX11_law_70 rfl rfl ?_
          refine z_getI (j := 4) dX11_law_71 kl_11 hs40 (by decide) rfl rfl kf_X11_110 ?_
          refine z_cTV (As := [.ref 40, .int 1, .int (a_25.2 40 4)]) (rest := []) (em_X11_wrong hl hW 1 (a_25.2 40 4) a_25.2) (fun o7 h => z_runV 140 2 h rfl kk_X11_140 hs40 kl_11.1 kq_X11_wrong rfl (Nat.le_of_ble_eq_true rfl) ⟨Nat.le_of_ble_eq_true rfl, Nat.le_of_ble_eq_true rfl, Nat.le_of_ble_eq_true rfl, Nat.le_of_ble_eq_true rfl⟩ dX11_law_74) z_gWI (fun a_28 hz27 => ?_)
          refine z_weak (lv' := [some (.ref 40), none, none]) ⟨Or.inr rfl, ⟨Or.inl rfl, ⟨Or.inl rfl, trivial⟩⟩⟩ ?_
          exact hJ_F_X11_law_J77 a_28
  have hJ_F_X11_law_J29 : ∀ (D3 : z_Dat) , z_F l M_X11_law (1360, 19960, 0, 0) 0 0 29 [some (.ref 40), some (.int a0), none] [.ref 40] S D3 (z_ko (z_kI S)) (F_X11_law_J29 N a0 D3) := by
    intro D3
    unfold F_X11_law_J29
    refine z_iconst (v := 0) dX11_law_29 rfl ?_
    exact hJ_F_X11_law_J30 D3
  have hJ_F_X11_law_J30x : ∀ (D31 : z_Dat) , z_F l M_X11_law (1360, 19960, 0, 0) 0 0 30 [some (.ref 40), some (.int a0), none] [.int 1, .ref 40] S D31 (z_ko (z_kI S)) (F_X11_law_J30x N a0 D31) := by
    intro D31
    unfold F_X11_law_J30x
    refine z_iconst (v := 1) dX11_law_30 rfl ?_
    refine z_iconst (v := 1) dX11_law_31 rfl ?_
    refine z_cWI (As := [.ref 40, .int 1, .int 1, .int 1]) (rest := []) (em_X11_may hl hW 1 1 1 D31) (fun o7 h => z_runV 198 3 h rfl kk_X11_198 hs40 kl_11.1 kq_X11_may rfl (Nat.le_of_ble_eq_true rfl) ⟨Nat.le_of_ble_eq_true rfl, Nat.le_of_ble_eq_true rfl, Nat.le_of_ble_eq_true rfl, Nat.le_of_ble_eq_true rfl⟩ dX11_law_32) z_gWI (fun a_33 hz32 => ?_)
    refine z_if_ne 40 dX11_law_35 (by decide) (fun c34 => ?_) (fun c34 => ?_)
    · refine z_iconst (v := 0) dX11_law_38 rfl ?_
      exact z_ireturn dX11_law_39 z_rWI rfl (by decide) (by decide)
    · refine z_aload_n (i := 0) (x := 40) dX11_law_40 rfl rfl ?_
      refine z_iload_n (i := 1) (x := a0) dX11_law_41 rfl rfl ?_
      refine z_cTV (As := [.ref 40, .int a0]) (rest := []) (em_X11_begins hl hW a0 a_33.2) (fun o7 h => z_runV 202 1 h rfl kk_X11_202 hs40 kl_11.1 kq_X11_begins rfl (Nat.le_of_ble_eq_true rfl) ⟨Nat.le_of_ble_eq_true rfl, Nat.le_of_ble_eq_true rfl, Nat.le_of_ble_eq_true rfl, Nat.le_of_ble_eq_true rfl⟩ dX11_law_42) z_gWI (fun a_36 hz35 => ?_)
      refine z_aload_n (i := 0) (x := 40) dX11_law_45 rfl rfl ?_
      refine z_iconst (v := 0) dX11_law_46 rfl ?_
      refine z_putI (j := 27) dX11_law_47 kl_11 tyX11_ok nmX11 hs40 (by decide) rfl rfl rfl rfl rfl rfl kf_X11_228 (fun D37 => ?_)
      refine z_aload_n (i := 0) (x := 40) dX11_law_50 rfl rfl ?_
      refine z_cWV (As := [.ref 40]) (rest := []) (em_X11_readSum hl hW N 64 D37) (fun o7 h => z_runV 243 0 h rfl kk_X11_243 hs40 kl_11.1 kq_X11_readSum rfl (Nat.le_of_ble_eq_true rfl) ⟨Nat.le_of_ble_eq_true rfl, Nat.le_of_ble_eq_true rfl, Nat.le_of_ble_eq_true rfl, Nat.le_of_ble_eq_true rfl⟩ dX11_law_51) z_gWI (fun a_39 hz38 => ?_)
      refine z_aload_n (i := 0) (x := 40) dX11_law_54 rfl rfl ?_
      refine z_cP (As := [.ref 40]) (rest := []) (em_X11_fine hl hW a_39) (fun o7 h => z_runV 133 0 h rfl kk_X11_133 hs40 kl_11.1 kq_X11_fine rfl (Nat.le_of_ble_eq_true rfl) ⟨Nat.le_of_ble_eq_true rfl, Nat.le_of_ble_eq_true rfl, Nat.le_of_ble_eq_true rfl, Nat.le_of_ble_eq_true rfl⟩ dX11_law_55) z_gWI (fun hz40 => ?_)
      refine z_if_eq 77 dX11_law_58 (by decide) (fun c41 => ?_) (fun c41 => ?_)
      · refine z_weak (lv' := [some (.ref 40), none, none]) ⟨Or.inr rfl, ⟨Or.inl rfl, ⟨Or.inl rfl, trivial⟩⟩⟩ ?_
        exact hJ_F_X11_law_J77 a_39
      · refine z_aload_n (i := 0) (x := 40) dX11_law_61 rfl rfl ?_
        refine z_cWI (As := [.ref 40]) (rest := []) (em_X11_isMore hl hW N a_39) (fun o7 h => z_runV 206 0 h rfl kk_X11_206 hs40 kl_11.1 kq_X11_isMore rfl (Nat.le_of_ble_eq_true rfl) ⟨Nat.le_of_ble_eq_true rfl, Nat.le_of_ble_eq_true rfl, Nat.le_of_ble_eq_true rfl, Nat.le_of_ble_eq_true rfl⟩ dX11_law_62) z_gWI (fun a_43 hz42 => ?_)
        refine z_if_eq 77 dX11_law_65 (by decide) (fun c44 => ?_) (fun c44 => ?_)
        · refine z_weak (lv' := [some (.ref 40), none, none]) ⟨Or.inr rfl, ⟨Or.inl rfl, ⟨Or.inl rfl, trivial⟩⟩⟩ ?_
          exact hJ_F_X11_law_J77 a_43.2
        · refine z_aload_n (i := 0) (x := 40) dX11_law_68 rfl rfl ?_
          refine z_iconst (v := 1) dX11_law_69 rfl ?_
          refine z_aload_n (i := 0) (x := 40) dX11_law_70 rfl rfl ?_
          refine z_getI (j := 4) dX11_law_71 kl_11 hs40 (by decide) rfl rfl kf_X11_110 ?_
          refine z_cTV (As := [.ref 40, .int 1, .int (a_43.2 40 4)]) (rest := []) (em_X11_wrong hl hW 1 (a_43.2 40 4) a_43.2) (fun o7 h => z_runV 140 2 h rfl kk_X11_140 hs40 kl_11.1 kq_X11_wrong rfl (Nat.le_of_ble_eq_true rfl) ⟨Nat.le_of_ble_eq_true rfl, Nat.le_of_ble_eq_true rfl, Nat.le_of_ble_eq_true rfl, Nat.le_of_ble_eq_true rfl⟩ dX11_law_74) z_gWI (fun a_46 hz45 => ?_)
          refine z_weak (lv' := [some (.ref 40), none, none]) ⟨Or.inr rfl, ⟨Or.inl rfl, ⟨Or.inl rfl, trivial⟩⟩⟩ ?_
          exact hJ_F_X11_law_J77 a_46
  refine z_aload_n (i := 0) (x := 40) dX11_law_0 rfl rfl ?_
  refine z_iconst (v := 0) dX11_law_1 rfl ?_
  refine z_putI (j := 0) dX11_law_2 kl_11 tyX11_ok nmX11 hs40 (by decide) rfl rfl rfl rfl rfl rfl kf_X11_3 (fun D1 => ?_)
  refine z_aload_n (i := 0) (x := 40) dX11_law_5 rfl rfl ?_
  refine z_iload_n (i := 1) (x := a0) dX11_law_6 rfl rfl ?_
  refine z_if_lt 29 dX11_law_7 (by decide) (fun c2 => ?_) (fun c2 => ?_)
  · exact hJ_F_X11_law_J29 D1
  · refine z_iload_n (i := 1) (x := a0) dX11_law_10 rfl rfl ?_
    refine z_aload_n (i := 0) (x := 40) dX11_law_11 rfl rfl ?_
    refine z_getI (j := 2) dX11_law_12 kl_11 hs40 (by decide) rfl rfl kf_X11_101 ?_
    refine z_icmp_gt 29 dX11_law_15 (by decide) (fun c29 => ?_) (fun c29 => ?_)
    · exact hJ_F_X11_law_J29 D1
    · refine z_iload_n (i := 1) (x := a0) dX11_law_18 rfl rfl ?_
      refine z_sipush (v := 150) dX11_law_19 (by decide) ?_
      refine z_icmp_gt 29 dX11_law_22 (by decide) (fun c30 => ?_) (fun c30 => ?_)
      · exact hJ_F_X11_law_J29 D1
      · refine z_iconst (v := 1) dX11_law_25 rfl ?_
        refine z_goto 30 dX11_law_26 (by decide) ?_
        exact hJ_F_X11_law_J30x D1

def F_X11_both_J54 (a0 : Int32) (a1 : Int32) (a2 : Int32) : Option Int32 :=
  if a0 = 6 then (some a2)
  else (some a1)
def F_X11_both_J54x (a0 : Int32) (a1 : Int32) (a2 : Int32) : Option Int32 :=
  if a0 = 6 then (some a1)
  else (some a2)
def F_X11_both (a0 : Int32) (a1 : Int32) (a2 : Int32) : Option Int32 :=
  if a0 = 2 then (some (a1 + a2))
  else (if a0 = 3 then (some (a1 - a2))
  else (if a0 = 4 then (some (a1 * a2))
  else (if a0 = 5 then (if a2 = 0 then (some 0)
  else (if a2 = 0 then none else (some (a1 / a2))))
  else (if a2 ≤ a1 then (F_X11_both_J54 a0 a1 a2)
  else (F_X11_both_J54x a0 a1 a2)))))
set_option maxRecDepth 100000 in
set_option maxHeartbeats 4000000 in
theorem em_X11_both {l : Launch} {S : List z_Shp} (hl : l.stackTraces = false) (a0 : Int32) (a1 : Int32) (a2 : Int32) (D : z_Dat) : ∀ out, z_ko (z_kR S D) (F_X11_both a0 a1 a2) out → z_EM l M_X11_both (20, 520, 0, 0) [.int a0, .int a1, .int a2] S D out := by
  refine z_meth hl rfl kp_X11 (Nat.le_of_ble_eq_true rfl) (lv := [some (.int a0), some (.int a1), some (.int a2)]) rfl ?_
  unfold F_X11_both
  have hJ_F_X11_both_J54 : z_F l M_X11_both (20, 520, 0, 0) 0 0 54 [some (.int a0), some (.int a1), some (.int a2)] [.int 0] S D (z_ko (z_kR S D)) (F_X11_both_J54 a0 a1 a2) := by
    unfold F_X11_both_J54
    refine z_iload_n (i := 0) (x := a0) dX11_both_54 rfl rfl ?_
    refine z_bipush (v := 6) dX11_both_55 (by decide) ?_
    refine z_icmp_ne 64 dX11_both_57 (by decide) (fun c8 => ?_) (fun c8 => ?_)
    · refine z_iconst (v := 1) dX11_both_60 rfl ?_
      refine z_goto 65 dX11_both_61 (by decide) ?_
      refine z_icmp_neJ 72 dX11_both_65 (by decide) (by decide) ?_
      refine z_iload_n (i := 2) (x := a2) dX11_both_72 rfl rfl ?_
      exact z_ireturn dX11_both_73 z_rR rfl (by decide) (by decide)
    · refine z_iconst (v := 0) dX11_both_64 rfl ?_
      refine z_icmp_neN 72 dX11_both_65 (by decide) (by decide) ?_
      refine z_iload_n (i := 1) (x := a1) dX11_both_68 rfl rfl ?_
      refine z_goto 73 dX11_both_69 (by decide) ?_
      exact z_ireturn dX11_both_73 z_rR rfl (by decide) (by decide)
  have hJ_F_X11_both_J54x : z_F l M_X11_both (20, 520, 0, 0) 0 0 54 [some (.int a0), some (.int a1), some (.int a2)] [.int 1] S D (z_ko (z_kR S D)) (F_X11_both_J54x a0 a1 a2) := by
    unfold F_X11_both_J54x
    refine z_iload_n (i := 0) (x := a0) dX11_both_54 rfl rfl ?_
    refine z_bipush (v := 6) dX11_both_55 (by decide) ?_
    refine z_icmp_ne 64 dX11_both_57 (by decide) (fun c9 => ?_) (fun c9 => ?_)
    · refine z_iconst (v := 1) dX11_both_60 rfl ?_
      refine z_goto 65 dX11_both_61 (by decide) ?_
      refine z_icmp_neN 72 dX11_both_65 (by decide) (by decide) ?_
      refine z_iload_n (i := 1) (x := a1) dX11_both_68 rfl rfl ?_
      refine z_goto 73 dX11_both_69 (by decide) ?_
      exact z_ireturn dX11_both_73 z_rR rfl (by decide) (by decide)
    · refine z_iconst (v := 0) dX11_both_64 rfl ?_
      refine z_icmp_neJ 72 dX11_both_65 (by decide) (by decide) ?_
      refine z_iload_n (i := 2) (x := a2) dX11_both_72 rfl rfl ?_
      exact z_ireturn dX11_both_73 z_rR rfl (by decide) (by decide)
  refine z_iload_n (i := 0) (x := a0) dX11_both_0 rfl rfl ?_
  refine z_iconst (v := 2) dX11_both_1 rfl ?_
  refine z_icmp_ne 9 dX11_both_2 (by decide) (fun c1 => ?_) (fun c1 => ?_)
  · refine z_iload_n (i := 1) (x := a1) dX11_both_5 rfl rfl ?_
    refine z_iload_n (i := 2) (x := a2) dX11_both_6 rfl rfl ?_
    refine z_iadd dX11_both_7 ?_
    exact z_ireturn dX11_both_8 z_rR rfl (by decide) (by decide)
  · refine z_iload_n (i := 0) (x := a0) dX11_both_9 rfl rfl ?_
    refine z_iconst (v := 3) dX11_both_10 rfl ?_
    refine z_icmp_ne 18 dX11_both_11 (by decide) (fun c2 => ?_) (fun c2 => ?_)
    · refine z_iload_n (i := 1) (x := a1) dX11_both_14 rfl rfl ?_
      refine z_iload_n (i := 2) (x := a2) dX11_both_15 rfl rfl ?_
      refine z_isub dX11_both_16 ?_
      exact z_ireturn dX11_both_17 z_rR rfl (by decide) (by decide)
    · refine z_iload_n (i := 0) (x := a0) dX11_both_18 rfl rfl ?_
      refine z_iconst (v := 4) dX11_both_19 rfl ?_
      refine z_icmp_ne 27 dX11_both_20 (by decide) (fun c3 => ?_) (fun c3 => ?_)
      · refine z_iload_n (i := 1) (x := a1) dX11_both_23 rfl rfl ?_
        refine z_iload_n (i := 2) (x := a2) dX11_both_24 rfl rfl ?_
        refine z_imul dX11_both_25 ?_
        exact z_ireturn dX11_both_26 z_rR rfl (by decide) (by decide)
      · refine z_iload_n (i := 0) (x := a0) dX11_both_27 rfl rfl ?_
        refine z_iconst (v := 5) dX11_both_28 rfl ?_
        refine z_icmp_ne 44 dX11_both_29 (by decide) (fun c4 => ?_) (fun c4 => ?_)
        · refine z_iload_n (i := 2) (x := a2) dX11_both_32 rfl rfl ?_
          refine z_if_ne 40 dX11_both_33 (by decide) (fun c5 => ?_) (fun c5 => ?_)
          · refine z_iconst (v := 0) dX11_both_36 rfl ?_
            refine z_goto 43 dX11_both_37 (by decide) ?_
            exact z_ireturn dX11_both_43 z_rR rfl (by decide) (by decide)
          · refine z_iload_n (i := 1) (x := a1) dX11_both_40 rfl rfl ?_
            refine z_iload_n (i := 2) (x := a2) dX11_both_41 rfl rfl ?_
            refine z_idiv dX11_both_42 (fun c6 => ?_)
            exact z_ireturn dX11_both_43 z_rR rfl (by decide) (by decide)
        · refine z_iload_n (i := 1) (x := a1) dX11_both_44 rfl rfl ?_
          refine z_iload_n (i := 2) (x := a2) dX11_both_45 rfl rfl ?_
          refine z_icmp_ge 53 dX11_both_46 (by decide) (fun c7 => ?_) (fun c7 => ?_)
          · refine z_iconst (v := 0) dX11_both_53 rfl ?_
            exact hJ_F_X11_both_J54
          · refine z_iconst (v := 1) dX11_both_49 rfl ?_
            refine z_goto 54 dX11_both_50 (by decide) ?_
            exact hJ_F_X11_both_J54x

def F_X11_valueNow_L4 (kc4 : ((Int32 × Int32 × z_Dat) → Option (Int32 × z_Dat))) (v1 : Int32) (v2 : Int32) (D3 : z_Dat) : Option (Int32 × z_Dat) :=
  if (D3 40 28) ≤ v2 then (some (D3 53 (z_ix 0), D3))
  else (if z_inb v2 150 then (z_let (D3 51 (z_ix v2)) (fun v6 => if 1 < v6 then (z_let (v1 + (-1)) (fun v8 => if z_inb (v8 - 1) 150 then (if z_inb v8 150 then (z_bd (F_X11_both v6 (D3 53 (z_ix (v8 - 1))) (D3 53 (z_ix v8))) (fun a_10 => if z_inb (v8 - 1) 150 then z_let (z_up D3 53 (z_ix (v8 - 1)) a_10) (fun D11 => z_let (v2 + 1) (fun v12 => kc4 (v8, v12, D11))) else none)) else none) else none))
  else (if v6 = 0 then (if z_inb v2 150 then (if z_inb v1 150 then z_let (z_up D3 53 (z_ix v1) (D3 52 (z_ix v2))) (fun D14 => z_let (v1 + 1) (fun v15 => z_let (v2 + 1) (fun v16 => kc4 (v15, v16, D14)))) else none) else none)
  else (if z_inb v2 150 then (if z_inb (D3 52 (z_ix v2)) 9 then (if z_inb v1 150 then z_let (z_up D3 53 (z_ix v1) (D3 54 (z_ix (D3 52 (z_ix v2))))) (fun D17 => z_let (v1 + 1) (fun v18 => z_let (v2 + 1) (fun v19 => kc4 (v18, v19, D17)))) else none) else none) else none)))) else none)
def F_X11_valueNow (N : Nat) (D : z_Dat) : Option (Int32 × z_Dat) :=
  z_loop (fun kc4 s => F_X11_valueNow_L4 kc4 s.1 s.2.1 s.2.2) N (0, 0, D)
set_option maxRecDepth 100000 in
set_option maxHeartbeats 4000000 in
theorem em_X11_valueNow {l : Launch} {S : List z_Shp} {oW : Nat} (hl : l.stackTraces = false) (hW : z_W S oW) (N : Nat) (D : z_Dat) : ∀ out, z_ko (z_kI S) (F_X11_valueNow N D) out → z_EM l M_X11_valueNow (30, 580, 0, 0) [.ref 40] S D out := by
  have hs40 : S[40]? = some (13, 55, [none, some (some 41), none, none, none, none, none, none, none, some (some 42), some (some 43), some (some 44), some (some 45), some (some 46), some (some 47), some (some 48), none, none, none, none, none, none, some (some 49), some (some 50), some (some 51), some (some 52), some (some 53), none, none, some (some 54), some (some 55), some (some 56), none, none, none, none, none, none, some (some 57), some (some 58), some (some 59), some (some 60), some (some 61), none, some (some 62), some (some 63), none, none, some (some 64), some (some 65), none, none, none, some (some 66), none]) := hW.1 40 _ rfl
  have hs51 : S[51]? = some (0, 150, []) := hW.1 51 _ rfl
  have hs52 : S[52]? = some (0, 150, []) := hW.1 52 _ rfl
  have hs53 : S[53]? = some (0, 150, []) := hW.1 53 _ rfl
  have hs54 : S[54]? = some (0, 9, []) := hW.1 54 _ rfl
  refine z_meth hl rfl kp_X11 (Nat.le_of_ble_eq_true rfl) (lv := [some (.ref 40), none, none, none]) rfl ?_
  unfold F_X11_valueNow
  refine z_iconst (v := 0) dX11_valueNow_0 rfl ?_
  refine z_istore_n (i := 1) (x := 0) (lv' := [some (.ref 40), some (.int 0), none, none]) dX11_valueNow_1 rfl (by decide) rfl rfl ?_
  refine z_iconst (v := 0) dX11_valueNow_2 rfl ?_
  refine z_istore_n (i := 2) (x := 0) (lv' := [some (.ref 40), some (.int 0), some (.int 0), none]) dX11_valueNow_3 rfl (by decide) rfl rfl ?_
  refine z_loops (lvOf := fun s : Int32 × Int32 × z_Dat => [some (.ref 40), some (.int s.1), some (.int s.2.1), none]) (dOf := fun s : Int32 × Int32 × z_Dat => s.2.2) (fun kc4 hkc4 s => ?_) N (0, 0, D)
  obtain ⟨v1, v2, D3⟩ := s
  show z_F _ _ _ _ _ 4 [some (.ref 40), some (.int v1), some (.int v2), none] [] S D3 _ (F_X11_valueNow_L4 kc4 v1 v2 D3)
  unfold F_X11_valueNow_L4
  refine z_iload_n (i := 2) (x := v2) dX11_valueNow_4 rfl rfl ?_
  refine z_aload_n (i := 0) (x := 40) dX11_valueNow_5 rfl rfl ?_
  refine z_getI (j := 28) dX11_valueNow_6 kl_11 hs40 (by decide) rfl rfl kf_X11_169 ?_
  refine z_icmp_ge 95 dX11_valueNow_9 (by decide) (fun c5 => ?_) (fun c5 => ?_)
  · refine z_aload_n (i := 0) (x := 40) dX11_valueNow_95 rfl rfl ?_
    refine z_getR (j := 26) dX11_valueNow_96 kl_11 hs40 (by decide) rfl rfl kf_X11_53 ?_
    refine z_iconst (v := 0) dX11_valueNow_99 rfl ?_
    refine z_ialdC dX11_valueNow_100 hs53 (vp_in_iff.mpr (by decide)) ?_
    exact z_ireturn dX11_valueNow_101 z_rWI rfl (by decide) (by decide)
  · refine z_aload_n (i := 0) (x := 40) dX11_valueNow_12 rfl rfl ?_
    refine z_getR (j := 24) dX11_valueNow_13 kl_11 hs40 (by decide) rfl rfl kf_X11_47 ?_
    refine z_iload_n (i := 2) (x := v2) dX11_valueNow_16 rfl rfl ?_
    refine z_iald dX11_valueNow_17 hs51 ?_
    refine z_topi (fun v6 => ?_)
    refine z_istore_n (i := 3) (x := v6) (lv' := [some (.ref 40), some (.int v1), some (.int v2), some (.int v6)]) dX11_valueNow_18 rfl (by decide) rfl rfl ?_
    refine z_iload_n (i := 3) (x := v6) dX11_valueNow_19 rfl rfl ?_
    refine z_iconst (v := 1) dX11_valueNow_20 rfl ?_
    refine z_icmp_gt 60 dX11_valueNow_21 (by decide) (fun c7 => ?_) (fun c7 => ?_)
    · refine z_iinc (i := 1) (x := v1) (y := (-1)) dX11_valueNow_60 rfl (by decide) (by decide) rfl (fun v8 => ?_)
      refine z_aload_n (i := 0) (x := 40) dX11_valueNow_63 rfl rfl ?_
      refine z_getR (j := 26) dX11_valueNow_64 kl_11 hs40 (by decide) rfl rfl kf_X11_53 ?_
      refine z_iload_n (i := 1) (x := v8) dX11_valueNow_67 rfl rfl ?_
      refine z_iconst (v := 1) dX11_valueNow_68 rfl ?_
      refine z_isub dX11_valueNow_69 ?_
      refine z_iload_n (i := 3) (x := v6) dX11_valueNow_70 rfl rfl ?_
      refine z_aload_n (i := 0) (x := 40) dX11_valueNow_71 rfl rfl ?_
      refine z_getR (j := 26) dX11_valueNow_72 kl_11 hs40 (by decide) rfl rfl kf_X11_53 ?_
      refine z_iload_n (i := 1) (x := v8) dX11_valueNow_75 rfl rfl ?_
      refine z_iconst (v := 1) dX11_valueNow_76 rfl ?_
      refine z_isub dX11_valueNow_77 ?_
      refine z_iald dX11_valueNow_78 hs53 ?_
      refine z_aload_n (i := 0) (x := 40) dX11_valueNow_79 rfl rfl ?_
      refine z_getR (j := 26) dX11_valueNow_80 kl_11 hs40 (by decide) rfl rfl kf_X11_53 ?_
      refine z_iload_n (i := 1) (x := v8) dX11_valueNow_83 rfl rfl ?_
      refine z_iald dX11_valueNow_84 hs53 ?_
      refine z_cR (As := [.int v6, .int (D3 53 (z_ix (v8 - 1))), .int (D3 53 (z_ix v8))]) (rest := [.int (v8 - 1), .ref 53]) (em_X11_both hl v6 (D3 53 (z_ix (v8 - 1))) (D3 53 (z_ix v8)) D3) (fun o7 h => z_runS 273 3 h rfl kk_X11_273 kq_X11_both rfl (Nat.le_of_ble_eq_true rfl) ⟨Nat.le_of_ble_eq_true rfl, Nat.le_of_ble_eq_true rfl, Nat.le_of_ble_eq_true rfl, Nat.le_of_ble_eq_true rfl⟩ dX11_valueNow_85) z_gWI (fun a_10 hz9 => ?_)
      refine z_iast dX11_valueNow_88 hs53 (fun D11 => ?_)
      refine z_iinc (i := 2) (x := v2) (y := 1) dX11_valueNow_89 rfl (by decide) (by decide) rfl (fun v12 => ?_)
      refine z_goto 4 dX11_valueNow_92 (by decide) ?_
      refine z_weak (lv' := [some (.ref 40), some (.int v8), some (.int v12), none]) ⟨Or.inr rfl, ⟨Or.inr rfl, ⟨Or.inr rfl, ⟨Or.inl rfl, trivial⟩⟩⟩⟩ ?_
      exact hkc4 (v8, v12, D11)
    · refine z_aload_n (i := 0) (x := 40) dX11_valueNow_24 rfl rfl ?_
      refine z_getR (j := 26) dX11_valueNow_25 kl_11 hs40 (by decide) rfl rfl kf_X11_53 ?_
      refine z_iload_n (i := 1) (x := v1) dX11_valueNow_28 rfl rfl ?_
      refine z_iload_n (i := 3) (x := v6) dX11_valueNow_29 rfl rfl ?_
      refine z_if_ne 42 dX11_valueNow_30 (by decide) (fun c13 => ?_) (fun c13 => ?_)
      · refine z_aload_n (i := 0) (x := 40) dX11_valueNow_33 rfl rfl ?_
        refine z_getR (j := 25) dX11_valueNow_34 kl_11 hs40 (by decide) rfl rfl kf_X11_50 ?_
        refine z_iload_n (i := 2) (x := v2) dX11_valueNow_37 rfl rfl ?_
        refine z_iald dX11_valueNow_38 hs52 ?_
        refine z_goto 53 dX11_valueNow_39 (by decide) ?_
        refine z_iast dX11_valueNow_53 hs53 (fun D14 => ?_)
        refine z_iinc (i := 1) (x := v1) (y := 1) dX11_valueNow_54 rfl (by decide) (by decide) rfl (fun v15 => ?_)
        refine z_goto 89 dX11_valueNow_57 (by decide) ?_
        refine z_iinc (i := 2) (x := v2) (y := 1) dX11_valueNow_89 rfl (by decide) (by decide) rfl (fun v16 => ?_)
        refine z_goto 4 dX11_valueNow_92 (by decide) ?_
        refine z_weak (lv' := [some (.ref 40), some (.int v15), some (.int v16), none]) ⟨Or.inr rfl, ⟨Or.inr rfl, ⟨Or.inr rfl, ⟨Or.inl rfl, trivial⟩⟩⟩⟩ ?_
        exact hkc4 (v15, v16, D14)
      · refine z_aload_n (i := 0) (x := 40) dX11_valueNow_42 rfl rfl ?_
        refine z_getR (j := 29) dX11_valueNow_43 kl_11 hs40 (by decide) rfl rfl kf_X11_56 ?_
        refine z_aload_n (i := 0) (x := 40) dX11_valueNow_46 rfl rfl ?_
        refine z_getR (j := 25) dX11_valueNow_47 kl_11 hs40 (by decide) rfl rfl kf_X11_50 ?_
        refine z_iload_n (i := 2) (x := v2) dX11_valueNow_50 rfl rfl ?_
        refine z_iald dX11_valueNow_51 hs52 ?_
        refine z_iald dX11_valueNow_52 hs54 ?_
        refine z_iast dX11_valueNow_53 hs53 (fun D17 => ?_)
        refine z_iinc (i := 1) (x := v1) (y := 1) dX11_valueNow_54 rfl (by decide) (by decide) rfl (fun v18 => ?_)
        refine z_goto 89 dX11_valueNow_57 (by decide) ?_
        refine z_iinc (i := 2) (x := v2) (y := 1) dX11_valueNow_89 rfl (by decide) (by decide) rfl (fun v19 => ?_)
        refine z_goto 4 dX11_valueNow_92 (by decide) ?_
        refine z_weak (lv' := [some (.ref 40), some (.int v18), some (.int v19), none]) ⟨Or.inr rfl, ⟨Or.inr rfl, ⟨Or.inr rfl, ⟨Or.inl rfl, trivial⟩⟩⟩⟩ ?_
        exact hkc4 (v18, v19, D17)

def F_X11_sitsNow (N : Nat) (D : z_Dat) : Option (Int32 × z_Dat) :=
  if (D 40 28) = 0 then (if ((D 54 (z_ix 3)) - 9) ≤ 0 then (some (0, D))
  else (some (1, D)))
  else (z_bd (F_X11_valueNow N D) (fun a_4 => if a_4.1 ≤ 0 then (some (0, a_4.2))
  else (some (1, a_4.2))))
set_option maxRecDepth 100000 in
set_option maxHeartbeats 4000000 in
theorem em_X11_sitsNow {l : Launch} {S : List z_Shp} {oW : Nat} (hl : l.stackTraces = false) (hW : z_W S oW) (N : Nat) (D : z_Dat) : ∀ out, z_ko (z_kI S) (F_X11_sitsNow N D) out → z_EM l M_X11_sitsNow (40, 640, 0, 0) [.ref 40] S D out := by
  have hs40 : S[40]? = some (13, 55, [none, some (some 41), none, none, none, none, none, none, none, some (some 42), some (some 43), some (some 44), some (some 45), some (some 46), some (some 47), some (some 48), none, none, none, none, none, none, some (some 49), some (some 50), some (some 51), some (some 52), some (some 53), none, none, some (some 54), some (some 55), some (some 56), none, none, none, none, none, none, some (some 57), some (some 58), some (some 59), some (some 60), some (some 61), none, some (some 62), some (some 63), none, none, some (some 64), some (some 65), none, none, none, some (some 66), none]) := hW.1 40 _ rfl
  have hs54 : S[54]? = some (0, 9, []) := hW.1 54 _ rfl
  refine z_meth hl rfl kp_X11 (Nat.le_of_ble_eq_true rfl) (lv := [some (.ref 40)]) rfl ?_
  unfold F_X11_sitsNow
  refine z_aload_n (i := 0) (x := 40) dX11_sitsNow_0 rfl rfl ?_
  refine z_getI (j := 28) dX11_sitsNow_1 kl_11 hs40 (by decide) rfl rfl kf_X11_169 ?_
  refine z_if_ne 19 dX11_sitsNow_4 (by decide) (fun c1 => ?_) (fun c1 => ?_)
  · refine z_aload_n (i := 0) (x := 40) dX11_sitsNow_7 rfl rfl ?_
    refine z_getR (j := 29) dX11_sitsNow_8 kl_11 hs40 (by decide) rfl rfl kf_X11_56 ?_
    refine z_iconst (v := 3) dX11_sitsNow_11 rfl ?_
    refine z_ialdC dX11_sitsNow_12 hs54 (vp_in_iff.mpr (by decide)) ?_
    refine z_bipush (v := 9) dX11_sitsNow_13 (by decide) ?_
    refine z_isub dX11_sitsNow_15 ?_
    refine z_goto 23 dX11_sitsNow_16 (by decide) ?_
    refine z_if_le 30 dX11_sitsNow_23 (by decide) (fun c2 => ?_) (fun c2 => ?_)
    · refine z_iconst (v := 0) dX11_sitsNow_30 rfl ?_
      exact z_ireturn dX11_sitsNow_31 z_rWI rfl (by decide) (by decide)
    · refine z_iconst (v := 1) dX11_sitsNow_26 rfl ?_
      refine z_goto 31 dX11_sitsNow_27 (by decide) ?_
      exact z_ireturn dX11_sitsNow_31 z_rWI rfl (by decide) (by decide)
  · refine z_aload_n (i := 0) (x := 40) dX11_sitsNow_19 rfl rfl ?_
    refine z_cWI (As := [.ref 40]) (rest := []) (em_X11_valueNow hl hW N D) (fun o7 h => z_runV 277 0 h rfl kk_X11_277 hs40 kl_11.1 kq_X11_valueNow rfl (Nat.le_of_ble_eq_true rfl) ⟨Nat.le_of_ble_eq_true rfl, Nat.le_of_ble_eq_true rfl, Nat.le_of_ble_eq_true rfl, Nat.le_of_ble_eq_true rfl⟩ dX11_sitsNow_20) z_gWI (fun a_4 hz3 => ?_)
    refine z_if_le 30 dX11_sitsNow_23 (by decide) (fun c5 => ?_) (fun c5 => ?_)
    · refine z_iconst (v := 0) dX11_sitsNow_30 rfl ?_
      exact z_ireturn dX11_sitsNow_31 z_rWI rfl (by decide) (by decide)
    · refine z_iconst (v := 1) dX11_sitsNow_26 rfl ?_
      refine z_goto 31 dX11_sitsNow_27 (by decide) ?_
      exact z_ireturn dX11_sitsNow_31 z_rWI rfl (by decide) (by decide)

def F_X11_tellsStep (a0 : Int32) (a1 : Int32) (a2 : Int32) (D : z_Dat) : Option z_Dat :=
  if (F_X11_fine D) = 0 then (some D)
  else (if z_inb (D 40 32) 150 then z_let (z_up D 55 (z_ix (D 40 32)) a0) (fun D3 => if z_inb ((D3 40 32) + 1) 150 then z_let (z_up D3 55 (z_ix ((D3 40 32) + 1)) a1) (fun D4 => if z_inb ((D4 40 32) + 2) 150 then z_let (z_up D4 55 (z_ix ((D4 40 32) + 2)) a2) (fun D5 => z_let (z_up D5 40 32 ((D5 40 32) + 3)) (fun D6 => some D6)) else none) else none) else none)
set_option maxRecDepth 100000 in
set_option maxHeartbeats 4000000 in
theorem em_X11_tellsStep {l : Launch} {S : List z_Shp} {oW : Nat} (hl : l.stackTraces = false) (hW : z_W S oW) (a0 : Int32) (a1 : Int32) (a2 : Int32) (D : z_Dat) : ∀ out, z_ko (z_kV S) (F_X11_tellsStep a0 a1 a2 D) out → z_EM l M_X11_tellsStep (30, 580, 0, 0) [.ref 40, .int a0, .int a1, .int a2] S D out := by
  have hs40 : S[40]? = some (13, 55, [none, some (some 41), none, none, none, none, none, none, none, some (some 42), some (some 43), some (some 44), some (some 45), some (some 46), some (some 47), some (some 48), none, none, none, none, none, none, some (some 49), some (some 50), some (some 51), some (some 52), some (some 53), none, none, some (some 54), some (some 55), some (some 56), none, none, none, none, none, none, some (some 57), some (some 58), some (some 59), some (some 60), some (some 61), none, some (some 62), some (some 63), none, none, some (some 64), some (some 65), none, none, none, some (some 66), none]) := hW.1 40 _ rfl
  have hs55 : S[55]? = some (0, 150, []) := hW.1 55 _ rfl
  refine z_meth hl rfl kp_X11 (Nat.le_of_ble_eq_true rfl) (lv := [some (.ref 40), some (.int a0), some (.int a1), some (.int a2)]) rfl ?_
  unfold F_X11_tellsStep
  refine z_aload_n (i := 0) (x := 40) dX11_tellsStep_0 rfl rfl ?_
  refine z_cP (As := [.ref 40]) (rest := []) (em_X11_fine hl hW D) (fun o7 h => z_runV 133 0 h rfl kk_X11_133 hs40 kl_11.1 kq_X11_fine rfl (Nat.le_of_ble_eq_true rfl) ⟨Nat.le_of_ble_eq_true rfl, Nat.le_of_ble_eq_true rfl, Nat.le_of_ble_eq_true rfl, Nat.le_of_ble_eq_true rfl⟩ dX11_tellsStep_1) z_gWV (fun hz1 => ?_)
  refine z_if_ne 8 dX11_tellsStep_4 (by decide) (fun c2 => ?_) (fun c2 => ?_)
  · exact z_vreturn dX11_tellsStep_7 z_rWV trivial (by decide) (by decide)
  · refine z_aload_n (i := 0) (x := 40) dX11_tellsStep_8 rfl rfl ?_
    refine z_getR (j := 30) dX11_tellsStep_9 kl_11 hs40 (by decide) rfl rfl kf_X11_59 ?_
    refine z_aload_n (i := 0) (x := 40) dX11_tellsStep_12 rfl rfl ?_
    refine z_getI (j := 32) dX11_tellsStep_13 kl_11 hs40 (by decide) rfl rfl kf_X11_280 ?_
    refine z_iload_n (i := 1) (x := a0) dX11_tellsStep_16 rfl rfl ?_
    refine z_iast dX11_tellsStep_17 hs55 (fun D3 => ?_)
    refine z_aload_n (i := 0) (x := 40) dX11_tellsStep_18 rfl rfl ?_
    refine z_getR (j := 30) dX11_tellsStep_19 kl_11 hs40 (by decide) rfl rfl kf_X11_59 ?_
    refine z_aload_n (i := 0) (x := 40) dX11_tellsStep_22 rfl rfl ?_
    refine z_getI (j := 32) dX11_tellsStep_23 kl_11 hs40 (by decide) rfl rfl kf_X11_280 ?_
    refine z_iconst (v := 1) dX11_tellsStep_26 rfl ?_
    refine z_iadd dX11_tellsStep_27 ?_
    refine z_iload_n (i := 2) (x := a1) dX11_tellsStep_28 rfl rfl ?_
    refine z_iast dX11_tellsStep_29 hs55 (fun D4 => ?_)
    refine z_aload_n (i := 0) (x := 40) dX11_tellsStep_30 rfl rfl ?_
    refine z_getR (j := 30) dX11_tellsStep_31 kl_11 hs40 (by decide) rfl rfl kf_X11_59 ?_
    refine z_aload_n (i := 0) (x := 40) dX11_tellsStep_34 rfl rfl ?_
    refine z_getI (j := 32) dX11_tellsStep_35 kl_11 hs40 (by decide) rfl rfl kf_X11_280 ?_
    refine z_iconst (v := 2) dX11_tellsStep_38 rfl ?_
    refine z_iadd dX11_tellsStep_39 ?_
    refine z_iload_n (i := 3) (x := a2) dX11_tellsStep_40 rfl rfl ?_
    refine z_iast dX11_tellsStep_41 hs55 (fun D5 => ?_)
    refine z_aload_n (i := 0) (x := 40) dX11_tellsStep_42 rfl rfl ?_
    refine z_dup dX11_tellsStep_43 rfl ?_
    refine z_getI (j := 32) dX11_tellsStep_44 kl_11 hs40 (by decide) rfl rfl kf_X11_280 ?_
    refine z_iconst (v := 3) dX11_tellsStep_47 rfl ?_
    refine z_iadd dX11_tellsStep_48 ?_
    refine z_putI (j := 32) dX11_tellsStep_49 kl_11 tyX11_ok nmX11 hs40 (by decide) rfl rfl rfl rfl rfl rfl kf_X11_280 (fun D6 => ?_)
    exact z_vreturn dX11_tellsStep_52 z_rWV trivial (by decide) (by decide)

def F_X11_readOne (N : Nat) (D : z_Dat) : Option (Int32 × z_Dat) :=
  z_bd (F_X11_readNumber N 0 ((D 40 20) - 1) D) (fun a_2 => some (a_2.1, a_2.2))
set_option maxRecDepth 100000 in
set_option maxHeartbeats 4000000 in
theorem em_X11_readOne {l : Launch} {S : List z_Shp} {oW : Nat} (hl : l.stackTraces = false) (hW : z_W S oW) (N : Nat) (D : z_Dat) : ∀ out, z_ko (z_kI S) (F_X11_readOne N D) out → z_EM l M_X11_readOne (40, 640, 0, 0) [.ref 40] S D out := by
  have hs40 : S[40]? = some (13, 55, [none, some (some 41), none, none, none, none, none, none, none, some (some 42), some (some 43), some (some 44), some (some 45), some (some 46), some (some 47), some (some 48), none, none, none, none, none, none, some (some 49), some (some 50), some (some 51), some (some 52), some (some 53), none, none, some (some 54), some (some 55), some (some 56), none, none, none, none, none, none, some (some 57), some (some 58), some (some 59), some (some 60), some (some 61), none, some (some 62), some (some 63), none, none, some (some 64), some (some 65), none, none, none, some (some 66), none]) := hW.1 40 _ rfl
  refine z_meth hl rfl kp_X11 (Nat.le_of_ble_eq_true rfl) (lv := [some (.ref 40)]) rfl ?_
  unfold F_X11_readOne
  refine z_aload_n (i := 0) (x := 40) dX11_readOne_0 rfl rfl ?_
  refine z_iconst (v := 0) dX11_readOne_1 rfl ?_
  refine z_aload_n (i := 0) (x := 40) dX11_readOne_2 rfl rfl ?_
  refine z_getI (j := 20) dX11_readOne_3 kl_11 hs40 (by decide) rfl rfl kf_X11_159 ?_
  refine z_iconst (v := 1) dX11_readOne_6 rfl ?_
  refine z_isub dX11_readOne_7 ?_
  refine z_cWI (As := [.ref 40, .int 0, .int ((D 40 20) - 1)]) (rest := []) (em_X11_readNumber hl hW N 0 ((D 40 20) - 1) D) (fun o7 h => z_runV 194 2 h rfl kk_X11_194 hs40 kl_11.1 kq_X11_readNumber rfl (Nat.le_of_ble_eq_true rfl) ⟨Nat.le_of_ble_eq_true rfl, Nat.le_of_ble_eq_true rfl, Nat.le_of_ble_eq_true rfl, Nat.le_of_ble_eq_true rfl⟩ dX11_readOne_8) z_gWI (fun a_2 hz1 => ?_)
  exact z_ireturn dX11_readOne_11 z_rWI rfl (by decide) (by decide)

def F_X11_readMarriage (N : Nat) (D : z_Dat) : Option z_Dat :=
  z_bd (F_X11_readOne N D) (fun a_2 => z_bd (F_X11_here N a_2.2) (fun a_4 => z_let (a_4.2 40 4) (fun v5 => z_bd (F_X11_readOne N a_4.2) (fun a_7 => if (F_X11_fine a_7.2) = 0 then (z_bd (F_X11_tellsStep 4 a_2.1 a_7.1 a_7.2) (fun a_11 => some a_11))
  else (if a_2.1 = a_7.1 then (z_let (F_X11_wrong 2 v5 a_7.2) (fun a_14 => z_bd (F_X11_tellsStep 4 a_2.1 a_7.1 a_14) (fun a_16 => some a_16)))
  else (z_bd (F_X11_tellsStep 4 a_2.1 a_7.1 a_7.2) (fun a_18 => some a_18)))))))
set_option maxRecDepth 100000 in
set_option maxHeartbeats 4000000 in
theorem em_X11_readMarriage {l : Launch} {S : List z_Shp} {oW : Nat} (hl : l.stackTraces = false) (hW : z_W S oW) (N : Nat) (D : z_Dat) : ∀ out, z_ko (z_kV S) (F_X11_readMarriage N D) out → z_EM l M_X11_readMarriage (50, 700, 0, 0) [.ref 40] S D out := by
  have hs40 : S[40]? = some (13, 55, [none, some (some 41), none, none, none, none, none, none, none, some (some 42), some (some 43), some (some 44), some (some 45), some (some 46), some (some 47), some (some 48), none, none, none, none, none, none, some (some 49), some (some 50), some (some 51), some (some 52), some (some 53), none, none, some (some 54), some (some 55), some (some 56), none, none, none, none, none, none, some (some 57), some (some 58), some (some 59), some (some 60), some (some 61), none, some (some 62), some (some 63), none, none, some (some 64), some (some 65), none, none, none, some (some 66), none]) := hW.1 40 _ rfl
  refine z_meth hl rfl kp_X11 (Nat.le_of_ble_eq_true rfl) (lv := [some (.ref 40), none, none, none]) rfl ?_
  unfold F_X11_readMarriage
  refine z_aload_n (i := 0) (x := 40) dX11_readMarriage_0 rfl rfl ?_
  refine z_cWI (As := [.ref 40]) (rest := []) (em_X11_readOne hl hW N D) (fun o7 h => z_runV 283 0 h rfl kk_X11_283 hs40 kl_11.1 kq_X11_readOne rfl (Nat.le_of_ble_eq_true rfl) ⟨Nat.le_of_ble_eq_true rfl, Nat.le_of_ble_eq_true rfl, Nat.le_of_ble_eq_true rfl, Nat.le_of_ble_eq_true rfl⟩ dX11_readMarriage_1) z_gWV (fun a_2 hz1 => ?_)
  refine z_istore_n (i := 1) (x := a_2.1) (lv' := [some (.ref 40), some (.int a_2.1), none, none]) dX11_readMarriage_4 rfl (by decide) rfl rfl ?_
  refine z_aload_n (i := 0) (x := 40) dX11_readMarriage_5 rfl rfl ?_
  refine z_cWI (As := [.ref 40]) (rest := []) (em_X11_here hl hW N a_2.2) (fun o7 h => z_runV 116 0 h rfl kk_X11_116 hs40 kl_11.1 kq_X11_here rfl (Nat.le_of_ble_eq_true rfl) ⟨Nat.le_of_ble_eq_true rfl, Nat.le_of_ble_eq_true rfl, Nat.le_of_ble_eq_true rfl, Nat.le_of_ble_eq_true rfl⟩ dX11_readMarriage_6) z_gWV (fun a_4 hz3 => ?_)
  refine z_pop dX11_readMarriage_9 rfl ?_
  refine z_aload_n (i := 0) (x := 40) dX11_readMarriage_10 rfl rfl ?_
  refine z_getI (j := 4) dX11_readMarriage_11 kl_11 hs40 (by decide) rfl rfl kf_X11_110 ?_
  refine z_topi (fun v5 => ?_)
  refine z_istore_n (i := 2) (x := v5) (lv' := [some (.ref 40), some (.int a_2.1), some (.int v5), none]) dX11_readMarriage_14 rfl (by decide) rfl rfl ?_
  refine z_aload_n (i := 0) (x := 40) dX11_readMarriage_15 rfl rfl ?_
  refine z_cWI (As := [.ref 40]) (rest := []) (em_X11_readOne hl hW N a_4.2) (fun o7 h => z_runV 283 0 h rfl kk_X11_283 hs40 kl_11.1 kq_X11_readOne rfl (Nat.le_of_ble_eq_true rfl) ⟨Nat.le_of_ble_eq_true rfl, Nat.le_of_ble_eq_true rfl, Nat.le_of_ble_eq_true rfl, Nat.le_of_ble_eq_true rfl⟩ dX11_readMarriage_16) z_gWV (fun a_7 hz6 => ?_)
  refine z_istore_n (i := 3) (x := a_7.1) (lv' := [some (.ref 40), some (.int a_2.1), some (.int v5), some (.int a_7.1)]) dX11_readMarriage_19 rfl (by decide) rfl rfl ?_
  refine z_aload_n (i := 0) (x := 40) dX11_readMarriage_20 rfl rfl ?_
  refine z_cP (As := [.ref 40]) (rest := []) (em_X11_fine hl hW a_7.2) (fun o7 h => z_runV 133 0 h rfl kk_X11_133 hs40 kl_11.1 kq_X11_fine rfl (Nat.le_of_ble_eq_true rfl) ⟨Nat.le_of_ble_eq_true rfl, Nat.le_of_ble_eq_true rfl, Nat.le_of_ble_eq_true rfl, Nat.le_of_ble_eq_true rfl⟩ dX11_readMarriage_21) z_gWV (fun hz8 => ?_)
  refine z_if_eq 38 dX11_readMarriage_24 (by decide) (fun c9 => ?_) (fun c9 => ?_)
  · refine z_aload_n (i := 0) (x := 40) dX11_readMarriage_38 rfl rfl ?_
    refine z_iconst (v := 4) dX11_readMarriage_39 rfl ?_
    refine z_iload_n (i := 1) (x := a_2.1) dX11_readMarriage_40 rfl rfl ?_
    refine z_iload_n (i := 3) (x := a_7.1) dX11_readMarriage_41 rfl rfl ?_
    refine z_cWV (As := [.ref 40, .int 4, .int a_2.1, .int a_7.1]) (rest := []) (em_X11_tellsStep hl hW 4 a_2.1 a_7.1 a_7.2) (fun o7 h => z_runV 286 3 h rfl kk_X11_286 hs40 kl_11.1 kq_X11_tellsStep rfl (Nat.le_of_ble_eq_true rfl) ⟨Nat.le_of_ble_eq_true rfl, Nat.le_of_ble_eq_true rfl, Nat.le_of_ble_eq_true rfl, Nat.le_of_ble_eq_true rfl⟩ dX11_readMarriage_42) z_gWV (fun a_11 hz10 => ?_)
    exact z_vreturn dX11_readMarriage_45 z_rWV trivial (by decide) (by decide)
  · refine z_iload_n (i := 1) (x := a_2.1) dX11_readMarriage_27 rfl rfl ?_
    refine z_iload_n (i := 3) (x := a_7.1) dX11_readMarriage_28 rfl rfl ?_
    refine z_icmp_ne 38 dX11_readMarriage_29 (by decide) (fun c12 => ?_) (fun c12 => ?_)
    · refine z_aload_n (i := 0) (x := 40) dX11_readMarriage_32 rfl rfl ?_
      refine z_iconst (v := 2) dX11_readMarriage_33 rfl ?_
      refine z_iload_n (i := 2) (x := v5) dX11_readMarriage_34 rfl rfl ?_
      refine z_cTV (As := [.ref 40, .int 2, .int v5]) (rest := []) (em_X11_wrong hl hW 2 v5 a_7.2) (fun o7 h => z_runV 140 2 h rfl kk_X11_140 hs40 kl_11.1 kq_X11_wrong rfl (Nat.le_of_ble_eq_true rfl) ⟨Nat.le_of_ble_eq_true rfl, Nat.le_of_ble_eq_true rfl, Nat.le_of_ble_eq_true rfl, Nat.le_of_ble_eq_true rfl⟩ dX11_readMarriage_35) z_gWV (fun a_14 hz13 => ?_)
      refine z_aload_n (i := 0) (x := 40) dX11_readMarriage_38 rfl rfl ?_
      refine z_iconst (v := 4) dX11_readMarriage_39 rfl ?_
      refine z_iload_n (i := 1) (x := a_2.1) dX11_readMarriage_40 rfl rfl ?_
      refine z_iload_n (i := 3) (x := a_7.1) dX11_readMarriage_41 rfl rfl ?_
      refine z_cWV (As := [.ref 40, .int 4, .int a_2.1, .int a_7.1]) (rest := []) (em_X11_tellsStep hl hW 4 a_2.1 a_7.1 a_14) (fun o7 h => z_runV 286 3 h rfl kk_X11_286 hs40 kl_11.1 kq_X11_tellsStep rfl (Nat.le_of_ble_eq_true rfl) ⟨Nat.le_of_ble_eq_true rfl, Nat.le_of_ble_eq_true rfl, Nat.le_of_ble_eq_true rfl, Nat.le_of_ble_eq_true rfl⟩ dX11_readMarriage_42) z_gWV (fun a_16 hz15 => ?_)
      exact z_vreturn dX11_readMarriage_45 z_rWV trivial (by decide) (by decide)
    · refine z_aload_n (i := 0) (x := 40) dX11_readMarriage_38 rfl rfl ?_
      refine z_iconst (v := 4) dX11_readMarriage_39 rfl ?_
      refine z_iload_n (i := 1) (x := a_2.1) dX11_readMarriage_40 rfl rfl ?_
      refine z_iload_n (i := 3) (x := a_7.1) dX11_readMarriage_41 rfl rfl ?_
      refine z_cWV (As := [.ref 40, .int 4, .int a_2.1, .int a_7.1]) (rest := []) (em_X11_tellsStep hl hW 4 a_2.1 a_7.1 a_7.2) (fun o7 h => z_runV 286 3 h rfl kk_X11_286 hs40 kl_11.1 kq_X11_tellsStep rfl (Nat.le_of_ble_eq_true rfl) ⟨Nat.le_of_ble_eq_true rfl, Nat.le_of_ble_eq_true rfl, Nat.le_of_ble_eq_true rfl, Nat.le_of_ble_eq_true rfl⟩ dX11_readMarriage_42) z_gWV (fun a_18 hz17 => ?_)
      exact z_vreturn dX11_readMarriage_45 z_rWV trivial (by decide) (by decide)

def F_X11_readStep_J25 (N : Nat) (v6 : Int32) (D7 : z_Dat) : Option z_Dat :=
  z_bd (F_X11_pass N D7) (fun a_9 => z_bd (F_X11_of N 18) (fun a_11 => if v6 = a_11 then (z_bd (F_X11_tellsStep 3 0 0 a_9) (fun a_14 => z_bd (F_X11_sign N 59 a_14) (fun a_16 => some a_16)))
  else (z_bd (F_X11_tellsStep 5 0 0 a_9) (fun a_18 => z_bd (F_X11_sign N 59 a_18) (fun a_20 => some a_20)))))
def F_X11_readStep_J93 (N : Nat) (D34 : z_Dat) : Option z_Dat :=
  z_bd (F_X11_readOne N D34) (fun a_36 => z_bd (F_X11_tellsStep 1 a_36.1 0 a_36.2) (fun a_38 => z_bd (F_X11_sign N 59 a_38) (fun a_40 => some a_40)))
def F_X11_readStep_J93x (N : Nat) (D41 : z_Dat) : Option z_Dat :=
  z_bd (F_X11_readOne N D41) (fun a_43 => z_bd (F_X11_tellsStep 2 a_43.1 0 a_43.2) (fun a_45 => z_bd (F_X11_sign N 59 a_45) (fun a_47 => some a_47)))
def F_X11_readStep_J73 (N : Nat) (v27 : Int32) (D28 : z_Dat) : Option z_Dat :=
  z_bd (F_X11_pass N D28) (fun a_30 => z_bd (F_X11_of N 19) (fun a_32 => if v27 = a_32 then (F_X11_readStep_J93 N a_30)
  else (F_X11_readStep_J93x N a_30)))
def F_X11_readStep_J229 (N : Nat) (v89 : Int32) (D90 : z_Dat) : Option z_Dat :=
  z_bd (F_X11_sign N 93 D90) (fun a_92 => z_let (z_up a_92 40 7 ((a_92 40 7) - 1)) (fun D93 => if (F_X11_fine D93) = 0 then (z_bd (F_X11_sign N 59 D93) (fun a_97 => some a_97))
  else (if z_inb (v89 + 2) 150 then z_let (z_up D93 55 (z_ix (v89 + 2)) (D93 40 32)) (fun D98 => z_bd (F_X11_sign N 59 D98) (fun a_100 => some a_100)) else none)))
def F_X11_readStep_L206 (N : Nat) (slf : z_Dat → Option z_Dat) (v82 : Int32) (kc86 : (z_Dat → Option z_Dat)) (D85 : z_Dat) : Option z_Dat :=
  if (F_X11_fine D85) = 0 then (F_X11_readStep_J229 N v82 D85)
  else (z_bd (F_X11_here N D85) (fun a_102 => if a_102.1 = 93 then (F_X11_readStep_J229 N v82 a_102.2)
  else (z_bd (slf a_102.2) (fun a_105 => kc86 a_105))))
def F_X11_readStep_B (N : Nat) (slf : z_Dat → Option z_Dat) (D : z_Dat) : Option z_Dat :=
  z_bd (F_X11_word N D) (fun a_2 => z_bd (F_X11_of N 18) (fun a_4 => if a_2.1 = a_4 then (F_X11_readStep_J25 N a_2.1 a_2.2)
  else (z_bd (F_X11_of N 16) (fun a_22 => if a_2.1 = a_22 then (F_X11_readStep_J25 N a_2.1 a_2.2)
  else (z_bd (F_X11_of N 19) (fun a_25 => if a_2.1 = a_25 then (F_X11_readStep_J73 N a_2.1 a_2.2)
  else (z_bd (F_X11_of N 20) (fun a_49 => if a_2.1 = a_49 then (F_X11_readStep_J73 N a_2.1 a_2.2)
  else (z_bd (F_X11_of N 21) (fun a_52 => if a_2.1 = a_52 then (z_bd (F_X11_pass N a_2.2) (fun a_55 => z_bd (F_X11_readOne N a_55) (fun a_57 => z_bd (F_X11_readNumber N 0 ((a_57.2 40 19) - 1) a_57.2) (fun a_59 => z_bd (F_X11_tellsStep 0 a_57.1 a_59.1 a_59.2) (fun a_61 => z_bd (F_X11_sign N 59 a_61) (fun a_63 => some a_63))))))
  else (z_bd (F_X11_of N 22) (fun a_65 => if a_2.1 = a_65 then (z_bd (F_X11_pass N a_2.2) (fun a_68 => z_bd (F_X11_readMarriage N a_68) (fun a_70 => z_bd (F_X11_sign N 59 a_70) (fun a_72 => some a_72))))
  else (z_bd (F_X11_of N 23) (fun a_74 => if a_2.1 = a_74 then (z_let (F_X11_opensOne 5 a_2.2) (fun a_77 => z_bd (F_X11_readNumber N 0 60 a_77) (fun a_79 => z_bd (F_X11_sign N 91 a_79.2) (fun a_81 => z_let (a_81 40 32) (fun v82 => z_bd (F_X11_tellsStep 6 a_79.1 0 a_81) (fun a_84 => z_loop (fun kc86 s => F_X11_readStep_L206 N slf v82 kc86 s) N a_84))))))
  else (z_let (F_X11_wrong 1 (a_2.2 40 4) a_2.2) (fun a_108 => z_bd (F_X11_sign N 59 a_108) (fun a_110 => some a_110)))))))))))))))))
set_option maxRecDepth 100000 in
set_option maxHeartbeats 4000000 in
theorem em_X11_readStep_B {l : Launch} {S : List z_Shp} {oW : Nat} (hl : l.stackTraces = false) (hW : z_W S oW) (N : Nat) (K : Nat) (slf : z_Dat → Option z_Dat) (hs : ∀ (D : z_Dat), ∀ out, z_ko (z_kV S) (slf  D) out → z_EM l M_X11_readStep (60 + 20 * K, 760 + 300 * K, 0, 0) [.ref 40] S D out) (D : z_Dat) : ∀ out, z_ko (z_kV S) (F_X11_readStep_B N slf D) out → z_EM l M_X11_readStep (60 + 20 * (K + 1), 760 + 300 * (K + 1), 0, 0) [.ref 40] S D out := by
  have hs40 : S[40]? = some (13, 55, [none, some (some 41), none, none, none, none, none, none, none, some (some 42), some (some 43), some (some 44), some (some 45), some (some 46), some (some 47), some (some 48), none, none, none, none, none, none, some (some 49), some (some 50), some (some 51), some (some 52), some (some 53), none, none, some (some 54), some (some 55), some (some 56), none, none, none, none, none, none, some (some 57), some (some 58), some (some 59), some (some 60), some (some 61), none, some (some 62), some (some 63), none, none, some (some 64), some (some 65), none, none, none, some (some 66), none]) := hW.1 40 _ rfl
  have hs55 : S[55]? = some (0, 150, []) := hW.1 55 _ rfl
  refine z_meth hl rfl kp_X11 (Nat.le_of_ble_eq_true rfl) (lv := [some (.ref 40), none, none, none]) rfl ?_
  unfold F_X11_readStep_B
  have hJ_F_X11_readStep_J25 : ∀ (v6 : Int32) (D7 : z_Dat) , z_F l M_X11_readStep (60 + 20 * (K + 1), 760 + 300 * (K + 1), 0, 0) 0 0 25 [some (.ref 40), some (.int v6), none, none] [] S D7 (z_ko (z_kV S)) (F_X11_readStep_J25 N v6 D7) := by
    intro v6 D7
    unfold F_X11_readStep_J25
    refine z_aload_n (i := 0) (x := 40) dX11_readStep_25 rfl rfl ?_
    refine z_cWV (As := [.ref 40]) (rest := []) (em_X11_pass hl hW N D7) (fun o7 h => z_runV 215 0 h rfl kk_X11_215 hs40 kl_11.1 kq_X11_pass rfl (Nat.le_of_ble_eq_true rfl) ⟨by dsimp only; omega, by dsimp only; omega, Nat.le_of_ble_eq_true rfl, Nat.le_of_ble_eq_true rfl⟩ dX11_readStep_26) z_gWV (fun a_9 hz8 => ?_)
    refine z_aload_n (i := 0) (x := 40) dX11_readStep_29 rfl rfl ?_
    refine z_iload_n (i := 1) (x := v6) dX11_readStep_30 rfl rfl ?_
    refine z_ldcSw 18 (by decide) dX11_readStep_31 rfl rfl ?_
    refine z_cR (As := [.retAddr 18]) (rest := [.int v6, .ref 40]) (em_X11_of (w := 18) hl (by decide) N a_9) (fun o7 h => z_runS 185 1 h rfl kk_X11_185 kq_X11_of rfl (Nat.le_of_ble_eq_true rfl) ⟨by dsimp only; omega, by dsimp only; omega, Nat.le_of_ble_eq_true rfl, Nat.le_of_ble_eq_true rfl⟩ dX11_readStep_34) z_gWV (fun a_11 hz10 => ?_)
    refine z_icmp_ne 44 dX11_readStep_37 (by decide) (fun c12 => ?_) (fun c12 => ?_)
    · refine z_iconst (v := 3) dX11_readStep_40 rfl ?_
      refine z_goto 45 dX11_readStep_41 (by decide) ?_
      refine z_iconst (v := 0) dX11_readStep_45 rfl ?_
      refine z_iconst (v := 0) dX11_readStep_46 rfl ?_
      refine z_cWV (As := [.ref 40, .int 3, .int 0, .int 0]) (rest := []) (em_X11_tellsStep hl hW 3 0 0 a_9) (fun o7 h => z_runV 286 3 h rfl kk_X11_286 hs40 kl_11.1 kq_X11_tellsStep rfl (Nat.le_of_ble_eq_true rfl) ⟨by dsimp only; omega, by dsimp only; omega, Nat.le_of_ble_eq_true rfl, Nat.le_of_ble_eq_true rfl⟩ dX11_readStep_47) z_gWV (fun a_14 hz13 => ?_)
      refine z_goto 276 dX11_readStep_50 (by decide) ?_
      refine z_aload_n (i := 0) (x := 40) dX11_readStep_276 rfl rfl ?_
      refine z_bipush (v := 59) dX11_readStep_277 (by decide) ?_
      refine z_cWV (As := [.ref 40, .int 59]) (rest := []) (em_X11_sign hl hW N 59 a_14) (fun o7 h => z_runV 221 1 h rfl kk_X11_221 hs40 kl_11.1 kq_X11_sign rfl (Nat.le_of_ble_eq_true rfl) ⟨by dsimp only; omega, by dsimp only; omega, Nat.le_of_ble_eq_true rfl, Nat.le_of_ble_eq_true rfl⟩ dX11_readStep_279) z_gWV (fun a_16 hz15 => ?_)
      exact z_vreturn dX11_readStep_282 z_rWV trivial (Nat.le_refl _) (Nat.le_refl _)
    · refine z_iconst (v := 5) dX11_readStep_44 rfl ?_
      refine z_iconst (v := 0) dX11_readStep_45 rfl ?_
      refine z_iconst (v := 0) dX11_readStep_46 rfl ?_
      refine z_cWV (As := [.ref 40, .int 5, .int 0, .int 0]) (rest := []) (em_X11_tellsStep hl hW 5 0 0 a_9) (fun o7 h => z_runV 286 3 h rfl kk_X11_286 hs40 kl_11.1 kq_X11_tellsStep rfl (Nat.le_of_ble_eq_true rfl) ⟨by dsimp only; omega, by dsimp only; omega, Nat.le_of_ble_eq_true rfl, Nat.le_of_ble_eq_true rfl⟩ dX11_readStep_47) z_gWV (fun a_18 hz17 => ?_)
      refine z_goto 276 dX11_readStep_50 (by decide) ?_
      refine z_aload_n (i := 0) (x := 40) dX11_readStep_276 rfl rfl ?_
      refine z_bipush (v := 59) dX11_readStep_277 (by decide) ?_
      refine z_cWV (As := [.ref 40, .int 59]) (rest := []) (em_X11_sign hl hW N 59 a_18) (fun o7 h => z_runV 221 1 h rfl kk_X11_221 hs40 kl_11.1 kq_X11_sign rfl (Nat.le_of_ble_eq_true rfl) ⟨by dsimp only; omega, by dsimp only; omega, Nat.le_of_ble_eq_true rfl, Nat.le_of_ble_eq_true rfl⟩ dX11_readStep_279) z_gWV (fun a_20 hz19 => ?_)
      exact z_vreturn dX11_readStep_282 z_rWV trivial (Nat.le_refl _) (Nat.le_refl _)
  have hJ_F_X11_readStep_J93 : ∀ (D34 : z_Dat) , z_F l M_X11_readStep (60 + 20 * (K + 1), 760 + 300 * (K + 1), 0, 0) 0 0 93 [some (.ref 40), none, none, none] [.int 1, .ref 40] S D34 (z_ko (z_kV S)) (F_X11_readStep_J93 N D34) := by
    intro D34
    unfold F_X11_readStep_J93
    refine z_aload_n (i := 0) (x := 40) dX11_readStep_93 rfl rfl ?_
    refine z_cWI (As := [.ref 40]) (rest := [.int 1, .ref 40]) (em_X11_readOne hl hW N D34) (fun o7 h => z_runV 283 0 h rfl kk_X11_283 hs40 kl_11.1 kq_X11_readOne rfl (Nat.le_of_ble_eq_true rfl) ⟨by dsimp only; omega, by dsimp only; omega, Nat.le_of_ble_eq_true rfl, Nat.le_of_ble_eq_true rfl⟩ dX11_readStep_94) z_gWV (fun a_36 hz35 => ?_)
    refine z_iconst (v := 0) dX11_readStep_97 rfl ?_
    refine z_cWV (As := [.ref 40, .int 1, .int a_36.1, .int 0]) (rest := []) (em_X11_tellsStep hl hW 1 a_36.1 0 a_36.2) (fun o7 h => z_runV 286 3 h rfl kk_X11_286 hs40 kl_11.1 kq_X11_tellsStep rfl (Nat.le_of_ble_eq_true rfl) ⟨by dsimp only; omega, by dsimp only; omega, Nat.le_of_ble_eq_true rfl, Nat.le_of_ble_eq_true rfl⟩ dX11_readStep_98) z_gWV (fun a_38 hz37 => ?_)
    refine z_goto 276 dX11_readStep_101 (by decide) ?_
    refine z_aload_n (i := 0) (x := 40) dX11_readStep_276 rfl rfl ?_
    refine z_bipush (v := 59) dX11_readStep_277 (by decide) ?_
    refine z_cWV (As := [.ref 40, .int 59]) (rest := []) (em_X11_sign hl hW N 59 a_38) (fun o7 h => z_runV 221 1 h rfl kk_X11_221 hs40 kl_11.1 kq_X11_sign rfl (Nat.le_of_ble_eq_true rfl) ⟨by dsimp only; omega, by dsimp only; omega, Nat.le_of_ble_eq_true rfl, Nat.le_of_ble_eq_true rfl⟩ dX11_readStep_279) z_gWV (fun a_40 hz39 => ?_)
    exact z_vreturn dX11_readStep_282 z_rWV trivial (Nat.le_refl _) (Nat.le_refl _)
  have hJ_F_X11_readStep_J93x : ∀ (D41 : z_Dat) , z_F l M_X11_readStep (60 + 20 * (K + 1), 760 + 300 * (K + 1), 0, 0) 0 0 93 [some (.ref 40), none, none, none] [.int 2, .ref 40] S D41 (z_ko (z_kV S)) (F_X11_readStep_J93x N D41) := by
    intro D41
    unfold F_X11_readStep_J93x
    refine z_aload_n (i := 0) (x := 40) dX11_readStep_93 rfl rfl ?_
    refine z_cWI (As := [.ref 40]) (rest := [.int 2, .ref 40]) (em_X11_readOne hl hW N D41) (fun o7 h => z_runV 283 0 h rfl kk_X11_283 hs40 kl_11.1 kq_X11_readOne rfl (Nat.le_of_ble_eq_true rfl) ⟨by dsimp only; omega, by dsimp only; omega, Nat.le_of_ble_eq_true rfl, Nat.le_of_ble_eq_true rfl⟩ dX11_readStep_94) z_gWV (fun a_43 hz42 => ?_)
    refine z_iconst (v := 0) dX11_readStep_97 rfl ?_
    refine z_cWV (As := [.ref 40, .int 2, .int a_43.1, .int 0]) (rest := []) (em_X11_tellsStep hl hW 2 a_43.1 0 a_43.2) (fun o7 h => z_runV 286 3 h rfl kk_X11_286 hs40 kl_11.1 kq_X11_tellsStep rfl (Nat.le_of_ble_eq_true rfl) ⟨by dsimp only; omega, by dsimp only; omega, Nat.le_of_ble_eq_true rfl, Nat.le_of_ble_eq_true rfl⟩ dX11_readStep_98) z_gWV (fun a_45 hz44 => ?_)
    refine z_goto 276 dX11_readStep_101 (by decide) ?_
    refine z_aload_n (i := 0) (x := 40) dX11_readStep_276 rfl rfl ?_
    refine z_bipush (v := 59) dX11_readStep_277 (by decide) ?_
    refine z_cWV (As := [.ref 40, .int 59]) (rest := []) (em_X11_sign hl hW N 59 a_45) (fun o7 h => z_runV 221 1 h rfl kk_X11_221 hs40 kl_11.1 kq_X11_sign rfl (Nat.le_of_ble_eq_true rfl) ⟨by dsimp only; omega, by dsimp only; omega, Nat.le_of_ble_eq_true rfl, Nat.le_of_ble_eq_true rfl⟩ dX11_readStep_279) z_gWV (fun a_47 hz46 => ?_)
    exact z_vreturn dX11_readStep_282 z_rWV trivial (Nat.le_refl _) (Nat.le_refl _)
  have hJ_F_X11_readStep_J73 : ∀ (v27 : Int32) (D28 : z_Dat) , z_F l M_X11_readStep (60 + 20 * (K + 1), 760 + 300 * (K + 1), 0, 0) 0 0 73 [some (.ref 40), some (.int v27), none, none] [] S D28 (z_ko (z_kV S)) (F_X11_readStep_J73 N v27 D28) := by
    intro v27 D28
    unfold F_X11_readStep_J73
    refine z_aload_n (i := 0) (x := 40) dX11_readStep_73 rfl rfl ?_
    refine z_cWV (As := [.ref 40]) (rest := []) (em_X11_pass hl hW N D28) (fun o7 h => z_runV 215 0 h rfl kk_X11_215 hs40 kl_11.1 kq_X11_pass rfl (Nat.le_of_ble_eq_true rfl) ⟨by dsimp only; omega, by dsimp only; omega, Nat.le_of_ble_eq_true rfl, Nat.le_of_ble_eq_true rfl⟩ dX11_readStep_74) z_gWV (fun a_30 hz29 => ?_)
    refine z_aload_n (i := 0) (x := 40) dX11_readStep_77 rfl rfl ?_
    refine z_iload_n (i := 1) (x := v27) dX11_readStep_78 rfl rfl ?_
    refine z_ldcSw 19 (by decide) dX11_readStep_79 rfl rfl ?_
    refine z_cR (As := [.retAddr 19]) (rest := [.int v27, .ref 40]) (em_X11_of (w := 19) hl (by decide) N a_30) (fun o7 h => z_runS 185 1 h rfl kk_X11_185 kq_X11_of rfl (Nat.le_of_ble_eq_true rfl) ⟨by dsimp only; omega, by dsimp only; omega, Nat.le_of_ble_eq_true rfl, Nat.le_of_ble_eq_true rfl⟩ dX11_readStep_82) z_gWV (fun a_32 hz31 => ?_)
    refine z_icmp_ne 92 dX11_readStep_85 (by decide) (fun c33 => ?_) (fun c33 => ?_)
    · refine z_iconst (v := 1) dX11_readStep_88 rfl ?_
      refine z_goto 93 dX11_readStep_89 (by decide) ?_
      refine z_weak (lv' := [some (.ref 40), none, none, none]) ⟨Or.inr rfl, ⟨Or.inl rfl, ⟨Or.inl rfl, ⟨Or.inl rfl, trivial⟩⟩⟩⟩ ?_
      exact hJ_F_X11_readStep_J93 a_30
    · refine z_iconst (v := 2) dX11_readStep_92 rfl ?_
      refine z_weak (lv' := [some (.ref 40), none, none, none]) ⟨Or.inr rfl, ⟨Or.inl rfl, ⟨Or.inl rfl, ⟨Or.inl rfl, trivial⟩⟩⟩⟩ ?_
      exact hJ_F_X11_readStep_J93x a_30
  have hJ_F_X11_readStep_J229 : ∀ (v89 : Int32) (D90 : z_Dat) , z_F l M_X11_readStep (60 + 20 * (K + 1), 760 + 300 * (K + 1), 0, 0) 0 0 229 [some (.ref 40), none, none, some (.int v89)] [] S D90 (z_ko (z_kV S)) (F_X11_readStep_J229 N v89 D90) := by
    intro v89 D90
    unfold F_X11_readStep_J229
    refine z_aload_n (i := 0) (x := 40) dX11_readStep_229 rfl rfl ?_
    refine z_bipush (v := 93) dX11_readStep_230 (by decide) ?_
    refine z_cWV (As := [.ref 40, .int 93]) (rest := []) (em_X11_sign hl hW N 93 D90) (fun o7 h => z_runV 221 1 h rfl kk_X11_221 hs40 kl_11.1 kq_X11_sign rfl (Nat.le_of_ble_eq_true rfl) ⟨by dsimp only; omega, by dsimp only; omega, Nat.le_of_ble_eq_true rfl, Nat.le_of_ble_eq_true rfl⟩ dX11_readStep_232) z_gWV (fun a_92 hz91 => ?_)
    refine z_aload_n (i := 0) (x := 40) dX11_readStep_235 rfl rfl ?_
    refine z_dup dX11_readStep_236 rfl ?_
    refine z_getI (j := 7) dX11_readStep_237 kl_11 hs40 (by decide) rfl rfl kf_X11_144 ?_
    refine z_iconst (v := 1) dX11_readStep_240 rfl ?_
    refine z_isub dX11_readStep_241 ?_
    refine z_putI (j := 7) dX11_readStep_242 kl_11 tyX11_ok nmX11 hs40 (by decide) rfl rfl rfl rfl rfl rfl kf_X11_144 (fun D93 => ?_)
    refine z_aload_n (i := 0) (x := 40) dX11_readStep_245 rfl rfl ?_
    refine z_cP (As := [.ref 40]) (rest := []) (em_X11_fine hl hW D93) (fun o7 h => z_runV 133 0 h rfl kk_X11_133 hs40 kl_11.1 kq_X11_fine rfl (Nat.le_of_ble_eq_true rfl) ⟨by dsimp only; omega, by dsimp only; omega, Nat.le_of_ble_eq_true rfl, Nat.le_of_ble_eq_true rfl⟩ dX11_readStep_246) z_gWV (fun hz94 => ?_)
    refine z_if_eq 264 dX11_readStep_249 (by decide) (fun c95 => ?_) (fun c95 => ?_)
    · refine z_goto 276 dX11_readStep_264 (by decide) ?_
      refine z_aload_n (i := 0) (x := 40) dX11_readStep_276 rfl rfl ?_
      refine z_bipush (v := 59) dX11_readStep_277 (by decide) ?_
      refine z_cWV (As := [.ref 40, .int 59]) (rest := []) (em_X11_sign hl hW N 59 D93) (fun o7 h => z_runV 221 1 h rfl kk_X11_221 hs40 kl_11.1 kq_X11_sign rfl (Nat.le_of_ble_eq_true rfl) ⟨by dsimp only; omega, by dsimp only; omega, Nat.le_of_ble_eq_true rfl, Nat.le_of_ble_eq_true rfl⟩ dX11_readStep_279) z_gWV (fun a_97 hz96 => ?_)
      exact z_vreturn dX11_readStep_282 z_rWV trivial (Nat.le_refl _) (Nat.le_refl _)
    · refine z_aload_n (i := 0) (x := 40) dX11_readStep_252 rfl rfl ?_
      refine z_getR (j := 30) dX11_readStep_253 kl_11 hs40 (by decide) rfl rfl kf_X11_59 ?_
      refine z_iload_n (i := 3) (x := v89) dX11_readStep_256 rfl rfl ?_
      refine z_iconst (v := 2) dX11_readStep_257 rfl ?_
      refine z_iadd dX11_readStep_258 ?_
      refine z_aload_n (i := 0) (x := 40) dX11_readStep_259 rfl rfl ?_
      refine z_getI (j := 32) dX11_readStep_260 kl_11 hs40 (by decide) rfl rfl kf_X11_280 ?_
      refine z_iast dX11_readStep_263 hs55 (fun D98 => ?_)
      refine z_goto 276 dX11_readStep_264 (by decide) ?_
      refine z_aload_n (i := 0) (x := 40) dX11_readStep_276 rfl rfl ?_
      refine z_bipush (v := 59) dX11_readStep_277 (by decide) ?_
      refine z_cWV (As := [.ref 40, .int 59]) (rest := []) (em_X11_sign hl hW N 59 D98) (fun o7 h => z_runV 221 1 h rfl kk_X11_221 hs40 kl_11.1 kq_X11_sign rfl (Nat.le_of_ble_eq_true rfl) ⟨by dsimp only; omega, by dsimp only; omega, Nat.le_of_ble_eq_true rfl, Nat.le_of_ble_eq_true rfl⟩ dX11_readStep_279) z_gWV (fun a_100 hz99 => ?_)
      exact z_vreturn dX11_readStep_282 z_rWV trivial (Nat.le_refl _) (Nat.le_refl _)
  refine z_aload_n (i := 0) (x := 40) dX11_readStep_0 rfl rfl ?_
  refine z_cWI (As := [.ref 40]) (rest := []) (em_X11_word hl hW N D) (fun o7 h => z_runV 209 0 h rfl kk_X11_209 hs40 kl_11.1 kq_X11_word rfl (Nat.le_of_ble_eq_true rfl) ⟨by dsimp only; omega, by dsimp only; omega, Nat.le_of_ble_eq_true rfl, Nat.le_of_ble_eq_true rfl⟩ dX11_readStep_1) z_gWV (fun a_2 hz1 => ?_)
  refine z_istore_n (i := 1) (x := a_2.1) (lv' := [some (.ref 40), some (.int a_2.1), none, none]) dX11_readStep_4 rfl (by decide) rfl rfl ?_
  refine z_iload_n (i := 1) (x := a_2.1) dX11_readStep_5 rfl rfl ?_
  refine z_ldcSw 18 (by decide) dX11_readStep_6 rfl rfl ?_
  refine z_cR (As := [.retAddr 18]) (rest := [.int a_2.1]) (em_X11_of (w := 18) hl (by decide) N a_2.2) (fun o7 h => z_runS 185 1 h rfl kk_X11_185 kq_X11_of rfl (Nat.le_of_ble_eq_true rfl) ⟨by dsimp only; omega, by dsimp only; omega, Nat.le_of_ble_eq_true rfl, Nat.le_of_ble_eq_true rfl⟩ dX11_readStep_9) z_gWV (fun a_4 hz3 => ?_)
  refine z_icmp_eq 25 dX11_readStep_12 (by decide) (fun c5 => ?_) (fun c5 => ?_)
  · exact hJ_F_X11_readStep_J25 a_2.1 a_2.2
  · refine z_iload_n (i := 1) (x := a_2.1) dX11_readStep_15 rfl rfl ?_
    refine z_ldcSw 16 (by decide) dX11_readStep_16 rfl rfl ?_
    refine z_cR (As := [.retAddr 16]) (rest := [.int a_2.1]) (em_X11_of (w := 16) hl (by decide) N a_2.2) (fun o7 h => z_runS 185 1 h rfl kk_X11_185 kq_X11_of rfl (Nat.le_of_ble_eq_true rfl) ⟨by dsimp only; omega, by dsimp only; omega, Nat.le_of_ble_eq_true rfl, Nat.le_of_ble_eq_true rfl⟩ dX11_readStep_19) z_gWV (fun a_22 hz21 => ?_)
    refine z_icmp_ne 53 dX11_readStep_22 (by decide) (fun c23 => ?_) (fun c23 => ?_)
    · exact hJ_F_X11_readStep_J25 a_2.1 a_2.2
    · refine z_iload_n (i := 1) (x := a_2.1) dX11_readStep_53 rfl rfl ?_
      refine z_ldcSw 19 (by decide) dX11_readStep_54 rfl rfl ?_
      refine z_cR (As := [.retAddr 19]) (rest := [.int a_2.1]) (em_X11_of (w := 19) hl (by decide) N a_2.2) (fun o7 h => z_runS 185 1 h rfl kk_X11_185 kq_X11_of rfl (Nat.le_of_ble_eq_true rfl) ⟨by dsimp only; omega, by dsimp only; omega, Nat.le_of_ble_eq_true rfl, Nat.le_of_ble_eq_true rfl⟩ dX11_readStep_57) z_gWV (fun a_25 hz24 => ?_)
      refine z_icmp_eq 73 dX11_readStep_60 (by decide) (fun c26 => ?_) (fun c26 => ?_)
      · exact hJ_F_X11_readStep_J73 a_2.1 a_2.2
      · refine z_iload_n (i := 1) (x := a_2.1) dX11_readStep_63 rfl rfl ?_
        refine z_ldcSw 20 (by decide) dX11_readStep_64 rfl rfl ?_
        refine z_cR (As := [.retAddr 20]) (rest := [.int a_2.1]) (em_X11_of (w := 20) hl (by decide) N a_2.2) (fun o7 h => z_runS 185 1 h rfl kk_X11_185 kq_X11_of rfl (Nat.le_of_ble_eq_true rfl) ⟨by dsimp only; omega, by dsimp only; omega, Nat.le_of_ble_eq_true rfl, Nat.le_of_ble_eq_true rfl⟩ dX11_readStep_67) z_gWV (fun a_49 hz48 => ?_)
        refine z_icmp_ne 104 dX11_readStep_70 (by decide) (fun c50 => ?_) (fun c50 => ?_)
        · exact hJ_F_X11_readStep_J73 a_2.1 a_2.2
        · refine z_iload_n (i := 1) (x := a_2.1) dX11_readStep_104 rfl rfl ?_
          refine z_ldcSw 21 (by decide) dX11_readStep_105 rfl rfl ?_
          refine z_cR (As := [.retAddr 21]) (rest := [.int a_2.1]) (em_X11_of (w := 21) hl (by decide) N a_2.2) (fun o7 h => z_runS 185 1 h rfl kk_X11_185 kq_X11_of rfl (Nat.le_of_ble_eq_true rfl) ⟨by dsimp only; omega, by dsimp only; omega, Nat.le_of_ble_eq_true rfl, Nat.le_of_ble_eq_true rfl⟩ dX11_readStep_108) z_gWV (fun a_52 hz51 => ?_)
          refine z_icmp_ne 143 dX11_readStep_111 (by decide) (fun c53 => ?_) (fun c53 => ?_)
          · refine z_aload_n (i := 0) (x := 40) dX11_readStep_114 rfl rfl ?_
            refine z_cWV (As := [.ref 40]) (rest := []) (em_X11_pass hl hW N a_2.2) (fun o7 h => z_runV 215 0 h rfl kk_X11_215 hs40 kl_11.1 kq_X11_pass rfl (Nat.le_of_ble_eq_true rfl) ⟨by dsimp only; omega, by dsimp only; omega, Nat.le_of_ble_eq_true rfl, Nat.le_of_ble_eq_true rfl⟩ dX11_readStep_115) z_gWV (fun a_55 hz54 => ?_)
            refine z_aload_n (i := 0) (x := 40) dX11_readStep_118 rfl rfl ?_
            refine z_cWI (As := [.ref 40]) (rest := []) (em_X11_readOne hl hW N a_55) (fun o7 h => z_runV 283 0 h rfl kk_X11_283 hs40 kl_11.1 kq_X11_readOne rfl (Nat.le_of_ble_eq_true rfl) ⟨by dsimp only; omega, by dsimp only; omega, Nat.le_of_ble_eq_true rfl, Nat.le_of_ble_eq_true rfl⟩ dX11_readStep_119) z_gWV (fun a_57 hz56 => ?_)
            refine z_istore_n (i := 2) (x := a_57.1) (lv' := [some (.ref 40), some (.int a_2.1), some (.int a_57.1), none]) dX11_readStep_122 rfl (by decide) rfl rfl ?_
            refine z_aload_n (i := 0) (x := 40) dX11_readStep_123 rfl rfl ?_
            refine z_iconst (v := 0) dX11_readStep_124 rfl ?_
            refine z_iload_n (i := 2) (x := a_57.1) dX11_readStep_125 rfl rfl ?_
            refine z_aload_n (i := 0) (x := 40) dX11_readStep_126 rfl rfl ?_
            refine z_iconst (v := 0) dX11_readStep_127 rfl ?_
            refine z_aload_n (i := 0) (x := 40) dX11_readStep_128 rfl rfl ?_
            refine z_getI (j := 19) dX11_readStep_129 kl_11 hs40 (by decide) rfl rfl kf_X11_156 ?_
            refine z_iconst (v := 1) dX11_readStep_132 rfl ?_
            refine z_isub dX11_readStep_133 ?_
            refine z_cWI (As := [.ref 40, .int 0, .int ((a_57.2 40 19) - 1)]) (rest := [.int a_57.1, .int 0, .ref 40]) (em_X11_readNumber hl hW N 0 ((a_57.2 40 19) - 1) a_57.2) (fun o7 h => z_runV 194 2 h rfl kk_X11_194 hs40 kl_11.1 kq_X11_readNumber rfl (Nat.le_of_ble_eq_true rfl) ⟨by dsimp only; omega, by dsimp only; omega, Nat.le_of_ble_eq_true rfl, Nat.le_of_ble_eq_true rfl⟩ dX11_readStep_134) z_gWV (fun a_59 hz58 => ?_)
            refine z_cWV (As := [.ref 40, .int 0, .int a_57.1, .int a_59.1]) (rest := []) (em_X11_tellsStep hl hW 0 a_57.1 a_59.1 a_59.2) (fun o7 h => z_runV 286 3 h rfl kk_X11_286 hs40 kl_11.1 kq_X11_tellsStep rfl (Nat.le_of_ble_eq_true rfl) ⟨by dsimp only; omega, by dsimp only; omega, Nat.le_of_ble_eq_true rfl, Nat.le_of_ble_eq_true rfl⟩ dX11_readStep_137) z_gWV (fun a_61 hz60 => ?_)
            refine z_goto 276 dX11_readStep_140 (by decide) ?_
            refine z_aload_n (i := 0) (x := 40) dX11_readStep_276 rfl rfl ?_
            refine z_bipush (v := 59) dX11_readStep_277 (by decide) ?_
            refine z_cWV (As := [.ref 40, .int 59]) (rest := []) (em_X11_sign hl hW N 59 a_61) (fun o7 h => z_runV 221 1 h rfl kk_X11_221 hs40 kl_11.1 kq_X11_sign rfl (Nat.le_of_ble_eq_true rfl) ⟨by dsimp only; omega, by dsimp only; omega, Nat.le_of_ble_eq_true rfl, Nat.le_of_ble_eq_true rfl⟩ dX11_readStep_279) z_gWV (fun a_63 hz62 => ?_)
            exact z_vreturn dX11_readStep_282 z_rWV trivial (Nat.le_refl _) (Nat.le_refl _)
          · refine z_iload_n (i := 1) (x := a_2.1) dX11_readStep_143 rfl rfl ?_
            refine z_ldcSw 22 (by decide) dX11_readStep_144 rfl rfl ?_
            refine z_cR (As := [.retAddr 22]) (rest := [.int a_2.1]) (em_X11_of (w := 22) hl (by decide) N a_2.2) (fun o7 h => z_runS 185 1 h rfl kk_X11_185 kq_X11_of rfl (Nat.le_of_ble_eq_true rfl) ⟨by dsimp only; omega, by dsimp only; omega, Nat.le_of_ble_eq_true rfl, Nat.le_of_ble_eq_true rfl⟩ dX11_readStep_147) z_gWV (fun a_65 hz64 => ?_)
            refine z_icmp_ne 164 dX11_readStep_150 (by decide) (fun c66 => ?_) (fun c66 => ?_)
            · refine z_aload_n (i := 0) (x := 40) dX11_readStep_153 rfl rfl ?_
              refine z_cWV (As := [.ref 40]) (rest := []) (em_X11_pass hl hW N a_2.2) (fun o7 h => z_runV 215 0 h rfl kk_X11_215 hs40 kl_11.1 kq_X11_pass rfl (Nat.le_of_ble_eq_true rfl) ⟨by dsimp only; omega, by dsimp only; omega, Nat.le_of_ble_eq_true rfl, Nat.le_of_ble_eq_true rfl⟩ dX11_readStep_154) z_gWV (fun a_68 hz67 => ?_)
              refine z_aload_n (i := 0) (x := 40) dX11_readStep_157 rfl rfl ?_
              refine z_cWV (As := [.ref 40]) (rest := []) (em_X11_readMarriage hl hW N a_68) (fun o7 h => z_runV 300 0 h rfl kk_X11_300 hs40 kl_11.1 kq_X11_readMarriage rfl (Nat.le_of_ble_eq_true rfl) ⟨by dsimp only; omega, by dsimp only; omega, Nat.le_of_ble_eq_true rfl, Nat.le_of_ble_eq_true rfl⟩ dX11_readStep_158) z_gWV (fun a_70 hz69 => ?_)
              refine z_goto 276 dX11_readStep_161 (by decide) ?_
              refine z_aload_n (i := 0) (x := 40) dX11_readStep_276 rfl rfl ?_
              refine z_bipush (v := 59) dX11_readStep_277 (by decide) ?_
              refine z_cWV (As := [.ref 40, .int 59]) (rest := []) (em_X11_sign hl hW N 59 a_70) (fun o7 h => z_runV 221 1 h rfl kk_X11_221 hs40 kl_11.1 kq_X11_sign rfl (Nat.le_of_ble_eq_true rfl) ⟨by dsimp only; omega, by dsimp only; omega, Nat.le_of_ble_eq_true rfl, Nat.le_of_ble_eq_true rfl⟩ dX11_readStep_279) z_gWV (fun a_72 hz71 => ?_)
              exact z_vreturn dX11_readStep_282 z_rWV trivial (Nat.le_refl _) (Nat.le_refl _)
            · refine z_iload_n (i := 1) (x := a_2.1) dX11_readStep_164 rfl rfl ?_
              refine z_ldcSw 23 (by decide) dX11_readStep_165 rfl rfl ?_
              refine z_cR (As := [.retAddr 23]) (rest := [.int a_2.1]) (em_X11_of (w := 23) hl (by decide) N a_2.2) (fun o7 h => z_runS 185 1 h rfl kk_X11_185 kq_X11_of rfl (Nat.le_of_ble_eq_true rfl) ⟨by dsimp only; omega, by dsimp only; omega, Nat.le_of_ble_eq_true rfl, Nat.le_of_ble_eq_true rfl⟩ dX11_readStep_168) z_gWV (fun a_74 hz73 => ?_)
              refine z_icmp_ne 267 dX11_readStep_171 (by decide) (fun c75 => ?_) (fun c75 => ?_)
              · refine z_aload_n (i := 0) (x := 40) dX11_readStep_174 rfl rfl ?_
                refine z_iconst (v := 5) dX11_readStep_175 rfl ?_
                refine z_cTV (As := [.ref 40, .int 5]) (rest := []) (em_X11_opensOne hl hW 5 a_2.2) (fun o7 h => z_runV 240 1 h rfl kk_X11_240 hs40 kl_11.1 kq_X11_opensOne rfl (Nat.le_of_ble_eq_true rfl) ⟨by dsimp only; omega, by dsimp only; omega, Nat.le_of_ble_eq_true rfl, Nat.le_of_ble_eq_true rfl⟩ dX11_readStep_176) z_gWV (fun a_77 hz76 => ?_)
                refine z_aload_n (i := 0) (x := 40) dX11_readStep_179 rfl rfl ?_
                refine z_iconst (v := 0) dX11_readStep_180 rfl ?_
                refine z_bipush (v := 60) dX11_readStep_181 (by decide) ?_
                refine z_cWI (As := [.ref 40, .int 0, .int 60]) (rest := []) (em_X11_readNumber hl hW N 0 60 a_77) (fun o7 h => z_runV 194 2 h rfl kk_X11_194 hs40 kl_11.1 kq_X11_readNumber rfl (Nat.le_of_ble_eq_true rfl) ⟨by dsimp only; omega, by dsimp only; omega, Nat.le_of_ble_eq_true rfl, Nat.le_of_ble_eq_true rfl⟩ dX11_readStep_183) z_gWV (fun a_79 hz78 => ?_)
                refine z_istore_n (i := 2) (x := a_79.1) (lv' := [some (.ref 40), some (.int a_2.1), some (.int a_79.1), none]) dX11_readStep_186 rfl (by decide) rfl rfl ?_
                refine z_aload_n (i := 0) (x := 40) dX11_readStep_187 rfl rfl ?_
                refine z_bipush (v := 91) dX11_readStep_188 (by decide) ?_
                refine z_cWV (As := [.ref 40, .int 91]) (rest := []) (em_X11_sign hl hW N 91 a_79.2) (fun o7 h => z_runV 221 1 h rfl kk_X11_221 hs40 kl_11.1 kq_X11_sign rfl (Nat.le_of_ble_eq_true rfl) ⟨by dsimp only; omega, by dsimp only; omega, Nat.le_of_ble_eq_true rfl, Nat.le_of_ble_eq_true rfl⟩ dX11_readStep_190) z_gWV (fun a_81 hz80 => ?_)
                refine z_aload_n (i := 0) (x := 40) dX11_readStep_193 rfl rfl ?_
                refine z_getI (j := 32) dX11_readStep_194 kl_11 hs40 (by decide) rfl rfl kf_X11_280 ?_
                refine z_topi (fun v82 => ?_)
                refine z_istore_n (i := 3) (x := v82) (lv' := [some (.ref 40), some (.int a_2.1), some (.int a_79.1), some (.int v82)]) dX11_readStep_197 rfl (by decide) rfl rfl ?_
                refine z_aload_n (i := 0) (x := 40) dX11_readStep_198 rfl rfl ?_
                refine z_bipush (v := 6) dX11_readStep_199 (by decide) ?_
                refine z_iload_n (i := 2) (x := a_79.1) dX11_readStep_201 rfl rfl ?_
                refine z_iconst (v := 0) dX11_readStep_202 rfl ?_
                refine z_cWV (As := [.ref 40, .int 6, .int a_79.1, .int 0]) (rest := []) (em_X11_tellsStep hl hW 6 a_79.1 0 a_81) (fun o7 h => z_runV 286 3 h rfl kk_X11_286 hs40 kl_11.1 kq_X11_tellsStep rfl (Nat.le_of_ble_eq_true rfl) ⟨by dsimp only; omega, by dsimp only; omega, Nat.le_of_ble_eq_true rfl, Nat.le_of_ble_eq_true rfl⟩ dX11_readStep_203) z_gWV (fun a_84 hz83 => ?_)
                refine z_weak (lv' := [some (.ref 40), none, none, some (.int v82)]) ⟨Or.inr rfl, ⟨Or.inl rfl, ⟨Or.inl rfl, ⟨Or.inr rfl, trivial⟩⟩⟩⟩ ?_
                refine z_loops (lvOf := fun s : z_Dat => [some (.ref 40), none, none, some (.int v82)]) (dOf := fun s : z_Dat => s) (fun kc86 hkc86 s => ?_) N a_84
                obtain ⟨D85, hq⟩ : ∃ z, z = s := ⟨_, rfl⟩
                subst hq
                show z_F _ _ _ _ _ 206 [some (.ref 40), none, none, some (.int v82)] [] S D85 _ (F_X11_readStep_L206 N slf v82 kc86 D85)
                unfold F_X11_readStep_L206
                refine z_aload_n (i := 0) (x := 40) dX11_readStep_206 rfl rfl ?_
                refine z_cP (As := [.ref 40]) (rest := []) (em_X11_fine hl hW D85) (fun o7 h => z_runV 133 0 h rfl kk_X11_133 hs40 kl_11.1 kq_X11_fine rfl (Nat.le_of_ble_eq_true rfl) ⟨by dsimp only; omega, by dsimp only; omega, Nat.le_of_ble_eq_true rfl, Nat.le_of_ble_eq_true rfl⟩ dX11_readStep_207) z_gWV (fun hz87 => ?_)
                refine z_if_eq 229 dX11_readStep_210 (by decide) (fun c88 => ?_) (fun c88 => ?_)
                · exact hJ_F_X11_readStep_J229 v82 D85
                · refine z_aload_n (i := 0) (x := 40) dX11_readStep_213 rfl rfl ?_
                  refine z_cWI (As := [.ref 40]) (rest := []) (em_X11_here hl hW N D85) (fun o7 h => z_runV 116 0 h rfl kk_X11_116 hs40 kl_11.1 kq_X11_here rfl (Nat.le_of_ble_eq_true rfl) ⟨by dsimp only; omega, by dsimp only; omega, Nat.le_of_ble_eq_true rfl, Nat.le_of_ble_eq_true rfl⟩ dX11_readStep_214) z_gWV (fun a_102 hz101 => ?_)
                  refine z_bipush (v := 93) dX11_readStep_217 (by decide) ?_
                  refine z_icmp_eq 229 dX11_readStep_219 (by decide) (fun c103 => ?_) (fun c103 => ?_)
                  · exact hJ_F_X11_readStep_J229 v82 a_102.2
                  · refine z_aload_n (i := 0) (x := 40) dX11_readStep_222 rfl rfl ?_
                    refine z_cWV (As := [.ref 40]) (rest := []) (hs a_102.2) (fun o7 h => z_runV 305 0 h rfl kk_X11_305 hs40 kl_11.1 kq_X11_readStep rfl (Nat.le_of_ble_eq_true rfl) ⟨by dsimp only; omega, by dsimp only; omega, Nat.le_of_ble_eq_true rfl, Nat.le_of_ble_eq_true rfl⟩ dX11_readStep_223) z_gWV (fun a_105 hz104 => ?_)
                    refine z_goto 206 dX11_readStep_226 (by decide) ?_
                    exact hkc86 a_105
              · refine z_aload_n (i := 0) (x := 40) dX11_readStep_267 rfl rfl ?_
                refine z_iconst (v := 1) dX11_readStep_268 rfl ?_
                refine z_aload_n (i := 0) (x := 40) dX11_readStep_269 rfl rfl ?_
                refine z_getI (j := 4) dX11_readStep_270 kl_11 hs40 (by decide) rfl rfl kf_X11_110 ?_
                refine z_cTV (As := [.ref 40, .int 1, .int (a_2.2 40 4)]) (rest := []) (em_X11_wrong hl hW 1 (a_2.2 40 4) a_2.2) (fun o7 h => z_runV 140 2 h rfl kk_X11_140 hs40 kl_11.1 kq_X11_wrong rfl (Nat.le_of_ble_eq_true rfl) ⟨by dsimp only; omega, by dsimp only; omega, Nat.le_of_ble_eq_true rfl, Nat.le_of_ble_eq_true rfl⟩ dX11_readStep_273) z_gWV (fun a_108 hz107 => ?_)
                refine z_aload_n (i := 0) (x := 40) dX11_readStep_276 rfl rfl ?_
                refine z_bipush (v := 59) dX11_readStep_277 (by decide) ?_
                refine z_cWV (As := [.ref 40, .int 59]) (rest := []) (em_X11_sign hl hW N 59 a_108) (fun o7 h => z_runV 221 1 h rfl kk_X11_221 hs40 kl_11.1 kq_X11_sign rfl (Nat.le_of_ble_eq_true rfl) ⟨by dsimp only; omega, by dsimp only; omega, Nat.le_of_ble_eq_true rfl, Nat.le_of_ble_eq_true rfl⟩ dX11_readStep_279) z_gWV (fun a_110 hz109 => ?_)
                exact z_vreturn dX11_readStep_282 z_rWV trivial (Nat.le_refl _) (Nat.le_refl _)
def F_X11_readStep (N : Nat) : Nat → z_Dat → Option z_Dat
  | 0 => fun _ => none
  | K + 1 => F_X11_readStep_B N (F_X11_readStep N K)
theorem em_X11_readStep {l : Launch} {S : List z_Shp} {oW : Nat} (hl : l.stackTraces = false) (hW : z_W S oW) (N : Nat) : ∀ (K : Nat) (D : z_Dat), ∀ out, z_ko (z_kV S) (F_X11_readStep N K D) out → z_EM l M_X11_readStep (60 + 20 * K, 760 + 300 * K, 0, 0) [.ref 40] S D out
  | 0, _, _, ⟨_, h, _⟩ => by cases h
  | K + 1, D, out, h => em_X11_readStep_B hl hW N K (F_X11_readStep N K) (fun D => em_X11_readStep hl hW N K D) D out h

def F_X11_take (N : Nat) (D : z_Dat) : Option z_Dat :=
  z_bd (F_X11_copies N 57 60 58 60 60 D) (fun a_2 => some a_2)
set_option maxRecDepth 100000 in
set_option maxHeartbeats 4000000 in
theorem em_X11_take {l : Launch} {S : List z_Shp} {oW : Nat} (hl : l.stackTraces = false) (hW : z_W S oW) (N : Nat) (D : z_Dat) : ∀ out, z_ko (z_kV S) (F_X11_take N D) out → z_EM l M_X11_take (30, 580, 0, 0) [.ref 40] S D out := by
  have hs40 : S[40]? = some (13, 55, [none, some (some 41), none, none, none, none, none, none, none, some (some 42), some (some 43), some (some 44), some (some 45), some (some 46), some (some 47), some (some 48), none, none, none, none, none, none, some (some 49), some (some 50), some (some 51), some (some 52), some (some 53), none, none, some (some 54), some (some 55), some (some 56), none, none, none, none, none, none, some (some 57), some (some 58), some (some 59), some (some 60), some (some 61), none, some (some 62), some (some 63), none, none, some (some 64), some (some 65), none, none, none, some (some 66), none]) := hW.1 40 _ rfl
  have hs57 : S[57]? = some (0, 60, []) := hW.1 57 _ rfl
  have hs58 : S[58]? = some (0, 60, []) := hW.1 58 _ rfl
  refine z_meth hl rfl kp_X11 (Nat.le_of_ble_eq_true rfl) (lv := [some (.ref 40)]) rfl ?_
  unfold F_X11_take
  refine z_aload_n (i := 0) (x := 40) dX11_take_0 rfl rfl ?_
  refine z_aload_n (i := 0) (x := 40) dX11_take_1 rfl rfl ?_
  refine z_getR (j := 38) dX11_take_2 kl_11 hs40 (by decide) rfl rfl kf_X11_65 ?_
  refine z_aload_n (i := 0) (x := 40) dX11_take_5 rfl rfl ?_
  refine z_getR (j := 39) dX11_take_6 kl_11 hs40 (by decide) rfl rfl kf_X11_68 ?_
  refine z_bipush (v := 60) dX11_take_9 (by decide) ?_
  refine z_cWV (As := [.ref 40, .ref 57, .ref 58, .int 60]) (rest := []) (em_X11_copies (n0 := 60) (n1 := 60) hl hW hs57 (by decide) hs58 (by decide) N 60 D) (fun o7 h => z_runV 165 3 h rfl kk_X11_165 hs40 kl_11.1 kq_X11_copies rfl (Nat.le_of_ble_eq_true rfl) ⟨Nat.le_of_ble_eq_true rfl, Nat.le_of_ble_eq_true rfl, Nat.le_of_ble_eq_true rfl, Nat.le_of_ble_eq_true rfl⟩ dX11_take_11) z_gWV (fun a_2 hz1 => ?_)
  exact z_vreturn dX11_take_14 z_rWV trivial (by decide) (by decide)

def F_X11_shadeOf (a0 : Int32) (D : z_Dat) : Option Int32 :=
  if z_inb (0 + (3 * a0)) 60 then (if z_inb ((0 + (3 * a0)) + 1) 60 then (if z_inb ((0 + (3 * a0)) + 2) 60 then (some (((100 * (D 58 (z_ix (0 + (3 * a0))))) + (10 * (D 58 (z_ix ((0 + (3 * a0)) + 1))))) + (D 58 (z_ix ((0 + (3 * a0)) + 2))))) else none) else none) else none
set_option maxRecDepth 100000 in
set_option maxHeartbeats 4000000 in
theorem em_X11_shadeOf {l : Launch} {S : List z_Shp} {oW : Nat} (hl : l.stackTraces = false) (hW : z_W S oW) (a0 : Int32) (D : z_Dat) : ∀ out, z_ko (z_kR S D) (F_X11_shadeOf a0 D) out → z_EM l M_X11_shadeOf (20, 520, 0, 0) [.ref 40, .int a0] S D out := by
  have hs40 : S[40]? = some (13, 55, [none, some (some 41), none, none, none, none, none, none, none, some (some 42), some (some 43), some (some 44), some (some 45), some (some 46), some (some 47), some (some 48), none, none, none, none, none, none, some (some 49), some (some 50), some (some 51), some (some 52), some (some 53), none, none, some (some 54), some (some 55), some (some 56), none, none, none, none, none, none, some (some 57), some (some 58), some (some 59), some (some 60), some (some 61), none, some (some 62), some (some 63), none, none, some (some 64), some (some 65), none, none, none, some (some 66), none]) := hW.1 40 _ rfl
  have hs58 : S[58]? = some (0, 60, []) := hW.1 58 _ rfl
  refine z_meth hl rfl kp_X11 (Nat.le_of_ble_eq_true rfl) (lv := [some (.ref 40), some (.int a0)]) rfl ?_
  unfold F_X11_shadeOf
  refine z_bipush (v := 100) dX11_shadeOf_0 (by decide) ?_
  refine z_aload_n (i := 0) (x := 40) dX11_shadeOf_2 rfl rfl ?_
  refine z_getR (j := 39) dX11_shadeOf_3 kl_11 hs40 (by decide) rfl rfl kf_X11_68 ?_
  refine z_iconst (v := 0) dX11_shadeOf_6 rfl ?_
  refine z_iconst (v := 3) dX11_shadeOf_7 rfl ?_
  refine z_iload_n (i := 1) (x := a0) dX11_shadeOf_8 rfl rfl ?_
  refine z_imul dX11_shadeOf_9 ?_
  refine z_iadd dX11_shadeOf_10 ?_
  refine z_iald dX11_shadeOf_11 hs58 ?_
  refine z_imul dX11_shadeOf_12 ?_
  refine z_bipush (v := 10) dX11_shadeOf_13 (by decide) ?_
  refine z_aload_n (i := 0) (x := 40) dX11_shadeOf_15 rfl rfl ?_
  refine z_getR (j := 39) dX11_shadeOf_16 kl_11 hs40 (by decide) rfl rfl kf_X11_68 ?_
  refine z_iconst (v := 0) dX11_shadeOf_19 rfl ?_
  refine z_iconst (v := 3) dX11_shadeOf_20 rfl ?_
  refine z_iload_n (i := 1) (x := a0) dX11_shadeOf_21 rfl rfl ?_
  refine z_imul dX11_shadeOf_22 ?_
  refine z_iadd dX11_shadeOf_23 ?_
  refine z_iconst (v := 1) dX11_shadeOf_24 rfl ?_
  refine z_iadd dX11_shadeOf_25 ?_
  refine z_iald dX11_shadeOf_26 hs58 ?_
  refine z_imul dX11_shadeOf_27 ?_
  refine z_iadd dX11_shadeOf_28 ?_
  refine z_aload_n (i := 0) (x := 40) dX11_shadeOf_29 rfl rfl ?_
  refine z_getR (j := 39) dX11_shadeOf_30 kl_11 hs40 (by decide) rfl rfl kf_X11_68 ?_
  refine z_iconst (v := 0) dX11_shadeOf_33 rfl ?_
  refine z_iconst (v := 3) dX11_shadeOf_34 rfl ?_
  refine z_iload_n (i := 1) (x := a0) dX11_shadeOf_35 rfl rfl ?_
  refine z_imul dX11_shadeOf_36 ?_
  refine z_iadd dX11_shadeOf_37 ?_
  refine z_iconst (v := 2) dX11_shadeOf_38 rfl ?_
  refine z_iadd dX11_shadeOf_39 ?_
  refine z_iald dX11_shadeOf_40 hs58 ?_
  refine z_iadd dX11_shadeOf_41 ?_
  exact z_ireturn dX11_shadeOf_42 z_rR rfl (by decide) (by decide)

def F_X11_dyeOf (a0 : Int32) (a1 : Int32) : Int32 :=
  if a1 = 0 then (a0 / 100)
  else (if a1 = 1 then (z_rem (a0 / 10) 10)
  else (z_rem a0 10))
set_option maxRecDepth 100000 in
set_option maxHeartbeats 4000000 in
theorem em_X11_dyeOf {l : Launch} {S : List z_Shp} (hl : l.stackTraces = false) (a0 : Int32) (a1 : Int32) (D : z_Dat) : ∀ out, z_kt (z_kR S D) (F_X11_dyeOf a0 a1) out → z_EM l M_X11_dyeOf (20, 520, 0, 0) [.int a0, .int a1] S D out := by
  refine z_meth hl rfl kp_X11 (Nat.le_of_ble_eq_true rfl) (lv := [some (.int a0), some (.int a1)]) rfl ?_
  unfold F_X11_dyeOf
  refine z_iload_n (i := 1) (x := a1) dX11_dyeOf_0 rfl rfl ?_
  refine z_if_ne 11 dX11_dyeOf_1 (by decide) (fun c1 => ?_) (fun c1 => ?_)
  · refine z_iload_n (i := 0) (x := a0) dX11_dyeOf_4 rfl rfl ?_
    refine z_bipush (v := 100) dX11_dyeOf_5 (by decide) ?_
    refine z_idivC dX11_dyeOf_7 (by decide) ?_
    refine z_goto 30 dX11_dyeOf_8 (by decide) ?_
    exact z_ireturn dX11_dyeOf_30 z_rP rfl (by decide) (by decide)
  · refine z_iload_n (i := 1) (x := a1) dX11_dyeOf_11 rfl rfl ?_
    refine z_iconst (v := 1) dX11_dyeOf_12 rfl ?_
    refine z_icmp_ne 26 dX11_dyeOf_13 (by decide) (fun c2 => ?_) (fun c2 => ?_)
    · refine z_iload_n (i := 0) (x := a0) dX11_dyeOf_16 rfl rfl ?_
      refine z_bipush (v := 10) dX11_dyeOf_17 (by decide) ?_
      refine z_idivC dX11_dyeOf_19 (by decide) ?_
      refine z_bipush (v := 10) dX11_dyeOf_20 (by decide) ?_
      refine z_iremC dX11_dyeOf_22 (by decide) ?_
      refine z_goto 30 dX11_dyeOf_23 (by decide) ?_
      exact z_ireturn dX11_dyeOf_30 z_rP rfl (by decide) (by decide)
    · refine z_iload_n (i := 0) (x := a0) dX11_dyeOf_26 rfl rfl ?_
      refine z_bipush (v := 10) dX11_dyeOf_27 (by decide) ?_
      refine z_iremC dX11_dyeOf_29 (by decide) ?_
      exact z_ireturn dX11_dyeOf_30 z_rP rfl (by decide) (by decide)

def F_X11_dippedIn_J5 (v20 : Int32) : Option Int32 :=
  some v20
def F_X11_dippedIn_J49 (v17 : Int32) (v18 : Int32) : Option Int32 :=
  z_let (v17 + v18) (fun v19 => F_X11_dippedIn_J5 v19)
def F_X11_dippedIn_J49x (v21 : Int32) : Option Int32 :=
  z_let (v21 + 9) (fun v22 => F_X11_dippedIn_J5 v22)
def F_X11_dippedIn_J5x (a0 : Int32) (a1 : Int32) (D : z_Dat) (v13 : Int32) : Option Int32 :=
  if z_inb ((4 * a1) + 2) 24 then (z_let ((F_X11_dyeOf a0 2) + (D 47 (z_ix ((4 * a1) + 2)))) (fun v15 => if v15 ≤ 9 then (F_X11_dippedIn_J49 (10 * v13) v15)
  else (F_X11_dippedIn_J49x (10 * v13)))) else none
def F_X11_dippedIn_J49xx (a0 : Int32) (a1 : Int32) (D : z_Dat) (v10 : Int32) (v11 : Int32) : Option Int32 :=
  z_let (v10 + v11) (fun v12 => F_X11_dippedIn_J5x a0 a1 D v12)
def F_X11_dippedIn_J49xxx (a0 : Int32) (a1 : Int32) (D : z_Dat) (v23 : Int32) : Option Int32 :=
  z_let (v23 + 9) (fun v24 => F_X11_dippedIn_J5x a0 a1 D v24)
def F_X11_dippedIn_J5xx (a0 : Int32) (a1 : Int32) (D : z_Dat) (v6 : Int32) : Option Int32 :=
  if z_inb ((4 * a1) + 1) 24 then (z_let ((F_X11_dyeOf a0 1) + (D 47 (z_ix ((4 * a1) + 1)))) (fun v8 => if v8 ≤ 9 then (F_X11_dippedIn_J49xx a0 a1 D (10 * v6) v8)
  else (F_X11_dippedIn_J49xxx a0 a1 D (10 * v6)))) else none
def F_X11_dippedIn_J49xxxx (a0 : Int32) (a1 : Int32) (D : z_Dat) (v4 : Int32) : Option Int32 :=
  z_let (0 + v4) (fun v5 => F_X11_dippedIn_J5xx a0 a1 D v5)
def F_X11_dippedIn_J49xxxxx (a0 : Int32) (a1 : Int32) (D : z_Dat) (v28 : Int32) : Option Int32 :=
  z_let (90 + v28) (fun v29 => F_X11_dippedIn_J5x a0 a1 D v29)
def F_X11_dippedIn_J49xxxxxx (v33 : Int32) : Option Int32 :=
  z_let (990 + v33) (fun v34 => F_X11_dippedIn_J5 v34)
def F_X11_dippedIn_J5xxx : Option Int32 :=
  some 999
def F_X11_dippedIn_J49xxxxxxx : Option Int32 :=
  F_X11_dippedIn_J5xxx
def F_X11_dippedIn_J5xxxx (a0 : Int32) (a1 : Int32) (D : z_Dat) : Option Int32 :=
  if z_inb ((4 * a1) + 2) 24 then (z_let ((F_X11_dyeOf a0 2) + (D 47 (z_ix ((4 * a1) + 2)))) (fun v31 => if v31 ≤ 9 then (F_X11_dippedIn_J49xxxxxx v31)
  else (F_X11_dippedIn_J49xxxxxxx))) else none
def F_X11_dippedIn_J49xxxxxxxx (a0 : Int32) (a1 : Int32) (D : z_Dat) : Option Int32 :=
  F_X11_dippedIn_J5xxxx a0 a1 D
def F_X11_dippedIn_J5xxxxx (a0 : Int32) (a1 : Int32) (D : z_Dat) : Option Int32 :=
  if z_inb ((4 * a1) + 1) 24 then (z_let ((F_X11_dyeOf a0 1) + (D 47 (z_ix ((4 * a1) + 1)))) (fun v26 => if v26 ≤ 9 then (F_X11_dippedIn_J49xxxxx a0 a1 D v26)
  else (F_X11_dippedIn_J49xxxxxxxx a0 a1 D))) else none
def F_X11_dippedIn_J49xxxxxxxxx (a0 : Int32) (a1 : Int32) (D : z_Dat) : Option Int32 :=
  F_X11_dippedIn_J5xxxxx a0 a1 D
def F_X11_dippedIn_J5xxxxxx (a0 : Int32) (a1 : Int32) (D : z_Dat) : Option Int32 :=
  if z_inb ((4 * a1) + 0) 24 then (z_let ((F_X11_dyeOf a0 0) + (D 47 (z_ix ((4 * a1) + 0)))) (fun v2 => if v2 ≤ 9 then (F_X11_dippedIn_J49xxxx a0 a1 D v2)
  else (F_X11_dippedIn_J49xxxxxxxxx a0 a1 D))) else none
def F_X11_dippedIn (a0 : Int32) (a1 : Int32) (D : z_Dat) : Option Int32 :=
  F_X11_dippedIn_J5xxxxxx a0 a1 D
set_option maxRecDepth 100000 in
set_option maxHeartbeats 4000000 in
theorem em_X11_dippedIn {l : Launch} {S : List z_Shp} {oW : Nat} (hl : l.stackTraces = false) (hW : z_W S oW) (a0 : Int32) (a1 : Int32) (D : z_Dat) : ∀ out, z_ko (z_kR S D) (F_X11_dippedIn a0 a1 D) out → z_EM l M_X11_dippedIn (30, 580, 0, 0) [.ref 40, .int a0, .int a1] S D out := by
  have hs40 : S[40]? = some (13, 55, [none, some (some 41), none, none, none, none, none, none, none, some (some 42), some (some 43), some (some 44), some (some 45), some (some 46), some (some 47), some (some 48), none, none, none, none, none, none, some (some 49), some (some 50), some (some 51), some (some 52), some (some 53), none, none, some (some 54), some (some 55), some (some 56), none, none, none, none, none, none, some (some 57), some (some 58), some (some 59), some (some 60), some (some 61), none, some (some 62), some (some 63), none, none, some (some 64), some (some 65), none, none, none, some (some 66), none]) := hW.1 40 _ rfl
  have hs47 : S[47]? = some (0, 24, []) := hW.1 47 _ rfl
  refine z_meth hl rfl kp_X11 (Nat.le_of_ble_eq_true rfl) (lv := [some (.ref 40), some (.int a0), some (.int a1), none, none, none]) rfl ?_
  unfold F_X11_dippedIn
  have hJ_F_X11_dippedIn_J5 : ∀ (v20 : Int32) , z_F l M_X11_dippedIn (30, 580, 0, 0) 0 0 5 [some (.ref 40), some (.int a0), some (.int a1), some (.int v20), some (.int 3), none] [] S D (z_ko (z_kR S D)) (F_X11_dippedIn_J5 v20) := by
    intro v20
    unfold F_X11_dippedIn_J5
    refine z_iload (i := 4) (x := 3) dX11_dippedIn_5 rfl ?_
    refine z_iconst (v := 3) dX11_dippedIn_7 rfl ?_
    refine z_icmp_geJ 57 dX11_dippedIn_8 (by decide) (by decide) ?_
    refine z_iload_n (i := 3) (x := v20) dX11_dippedIn_57 rfl rfl ?_
    exact z_ireturn dX11_dippedIn_58 z_rR rfl (by decide) (by decide)
  have hJ_F_X11_dippedIn_J49 : ∀ (v17 : Int32) (v18 : Int32) , z_F l M_X11_dippedIn (30, 580, 0, 0) 0 0 49 [some (.ref 40), some (.int a0), some (.int a1), none, some (.int 2), none] [.int v18, .int v17] S D (z_ko (z_kR S D)) (F_X11_dippedIn_J49 v17 v18) := by
    intro v17 v18
    unfold F_X11_dippedIn_J49
    refine z_iadd dX11_dippedIn_49 ?_
    refine z_topi (fun v19 => ?_)
    refine z_istore_n (i := 3) (x := v19) (lv' := [some (.ref 40), some (.int a0), some (.int a1), some (.int v19), some (.int 2), none]) dX11_dippedIn_50 rfl (by decide) rfl rfl ?_
    refine z_iincC (i := 4) (x := 2) (v := 3) (lv' := [some (.ref 40), some (.int a0), some (.int a1), some (.int v19), some (.int 3), none]) dX11_dippedIn_51 rfl (by decide) (by decide) rfl rfl ?_
    refine z_goto 5 dX11_dippedIn_54 (by decide) ?_
    exact hJ_F_X11_dippedIn_J5 v19
  have hJ_F_X11_dippedIn_J49x : ∀ (v21 : Int32) , z_F l M_X11_dippedIn (30, 580, 0, 0) 0 0 49 [some (.ref 40), some (.int a0), some (.int a1), none, some (.int 2), none] [.int 9, .int v21] S D (z_ko (z_kR S D)) (F_X11_dippedIn_J49x v21) := by
    intro v21
    unfold F_X11_dippedIn_J49x
    refine z_iadd dX11_dippedIn_49 ?_
    refine z_topi (fun v22 => ?_)
    refine z_istore_n (i := 3) (x := v22) (lv' := [some (.ref 40), some (.int a0), some (.int a1), some (.int v22), some (.int 2), none]) dX11_dippedIn_50 rfl (by decide) rfl rfl ?_
    refine z_iincC (i := 4) (x := 2) (v := 3) (lv' := [some (.ref 40), some (.int a0), some (.int a1), some (.int v22), some (.int 3), none]) dX11_dippedIn_51 rfl (by decide) (by decide) rfl rfl ?_
    refine z_goto 5 dX11_dippedIn_54 (by decide) ?_
    exact hJ_F_X11_dippedIn_J5 v22
  have hJ_F_X11_dippedIn_J5x : ∀ (v13 : Int32) , z_F l M_X11_dippedIn (30, 580, 0, 0) 0 0 5 [some (.ref 40), some (.int a0), some (.int a1), some (.int v13), some (.int 2), none] [] S D (z_ko (z_kR S D)) (F_X11_dippedIn_J5x a0 a1 D v13) := by
    intro v13
    unfold F_X11_dippedIn_J5x
    refine z_iload (i := 4) (x := 2) dX11_dippedIn_5 rfl ?_
    refine z_iconst (v := 3) dX11_dippedIn_7 rfl ?_
    refine z_icmp_geN 57 dX11_dippedIn_8 (by decide) (by decide) ?_
    refine z_iload_n (i := 1) (x := a0) dX11_dippedIn_11 rfl rfl ?_
    refine z_iload (i := 4) (x := 2) dX11_dippedIn_12 rfl ?_
    refine z_cP (As := [.int a0, .int 2]) (rest := []) (em_X11_dyeOf hl a0 2 D) (fun o7 h => z_runS 327 2 h rfl kk_X11_327 kq_X11_dyeOf rfl (Nat.le_of_ble_eq_true rfl) ⟨Nat.le_of_ble_eq_true rfl, Nat.le_of_ble_eq_true rfl, Nat.le_of_ble_eq_true rfl, Nat.le_of_ble_eq_true rfl⟩ dX11_dippedIn_14) z_gR (fun hz14 => ?_)
    refine z_aload_n (i := 0) (x := 40) dX11_dippedIn_17 rfl rfl ?_
    refine z_getR (j := 14) dX11_dippedIn_18 kl_11 hs40 (by decide) rfl rfl kf_X11_35 ?_
    refine z_iconst (v := 4) dX11_dippedIn_21 rfl ?_
    refine z_iload_n (i := 2) (x := a1) dX11_dippedIn_22 rfl rfl ?_
    refine z_imul dX11_dippedIn_23 ?_
    refine z_iload (i := 4) (x := 2) dX11_dippedIn_24 rfl ?_
    refine z_iadd dX11_dippedIn_26 ?_
    refine z_iald dX11_dippedIn_27 hs47 ?_
    refine z_iadd dX11_dippedIn_28 ?_
    refine z_topi (fun v15 => ?_)
    refine z_istore (i := 5) (x := v15) (lv' := [some (.ref 40), some (.int a0), some (.int a1), some (.int v13), some (.int 2), some (.int v15)]) dX11_dippedIn_29 (by decide) rfl rfl ?_
    refine z_bipush (v := 10) dX11_dippedIn_31 (by decide) ?_
    refine z_iload_n (i := 3) (x := v13) dX11_dippedIn_33 rfl rfl ?_
    refine z_imul dX11_dippedIn_34 ?_
    refine z_iload (i := 5) (x := v15) dX11_dippedIn_35 rfl ?_
    refine z_bipush (v := 9) dX11_dippedIn_37 (by decide) ?_
    refine z_icmp_le 47 dX11_dippedIn_39 (by decide) (fun c16 => ?_) (fun c16 => ?_)
    · refine z_iload (i := 5) (x := v15) dX11_dippedIn_47 rfl ?_
      refine z_weak (lv' := [some (.ref 40), some (.int a0), some (.int a1), none, some (.int 2), none]) ⟨Or.inr rfl, ⟨Or.inr rfl, ⟨Or.inr rfl, ⟨Or.inl rfl, ⟨Or.inr rfl, ⟨Or.inl rfl, trivial⟩⟩⟩⟩⟩⟩ ?_
      exact hJ_F_X11_dippedIn_J49 (10 * v13) v15
    · refine z_bipush (v := 9) dX11_dippedIn_42 (by decide) ?_
      refine z_goto 49 dX11_dippedIn_44 (by decide) ?_
      refine z_weak (lv' := [some (.ref 40), some (.int a0), some (.int a1), none, some (.int 2), none]) ⟨Or.inr rfl, ⟨Or.inr rfl, ⟨Or.inr rfl, ⟨Or.inl rfl, ⟨Or.inr rfl, ⟨Or.inl rfl, trivial⟩⟩⟩⟩⟩⟩ ?_
      exact hJ_F_X11_dippedIn_J49x (10 * v13)
  have hJ_F_X11_dippedIn_J49xx : ∀ (v10 : Int32) (v11 : Int32) , z_F l M_X11_dippedIn (30, 580, 0, 0) 0 0 49 [some (.ref 40), some (.int a0), some (.int a1), none, some (.int 1), none] [.int v11, .int v10] S D (z_ko (z_kR S D)) (F_X11_dippedIn_J49xx a0 a1 D v10 v11) := by
    intro v10 v11
    unfold F_X11_dippedIn_J49xx
    refine z_iadd dX11_dippedIn_49 ?_
    refine z_topi (fun v12 => ?_)
    refine z_istore_n (i := 3) (x := v12) (lv' := [some (.ref 40), some (.int a0), some (.int a1), some (.int v12), some (.int 1), none]) dX11_dippedIn_50 rfl (by decide) rfl rfl ?_
    refine z_iincC (i := 4) (x := 1) (v := 2) (lv' := [some (.ref 40), some (.int a0), some (.int a1), some (.int v12), some (.int 2), none]) dX11_dippedIn_51 rfl (by decide) (by decide) rfl rfl ?_
    refine z_goto 5 dX11_dippedIn_54 (by decide) ?_
    exact hJ_F_X11_dippedIn_J5x v12
  have hJ_F_X11_dippedIn_J49xxx : ∀ (v23 : Int32) , z_F l M_X11_dippedIn (30, 580, 0, 0) 0 0 49 [some (.ref 40), some (.int a0), some (.int a1), none, some (.int 1), none] [.int 9, .int v23] S D (z_ko (z_kR S D)) (F_X11_dippedIn_J49xxx a0 a1 D v23) := by
    intro v23
    unfold F_X11_dippedIn_J49xxx
    refine z_iadd dX11_dippedIn_49 ?_
    refine z_topi (fun v24 => ?_)
    refine z_istore_n (i := 3) (x := v24) (lv' := [some (.ref 40), some (.int a0), some (.int a1), some (.int v24), some (.int 1), none]) dX11_dippedIn_50 rfl (by decide) rfl rfl ?_
    refine z_iincC (i := 4) (x := 1) (v := 2) (lv' := [some (.ref 40), some (.int a0), some (.int a1), some (.int v24), some (.int 2), none]) dX11_dippedIn_51 rfl (by decide) (by decide) rfl rfl ?_
    refine z_goto 5 dX11_dippedIn_54 (by decide) ?_
    exact hJ_F_X11_dippedIn_J5x v24
  have hJ_F_X11_dippedIn_J5xx : ∀ (v6 : Int32) , z_F l M_X11_dippedIn (30, 580, 0, 0) 0 0 5 [some (.ref 40), some (.int a0), some (.int a1), some (.int v6), some (.int 1), none] [] S D (z_ko (z_kR S D)) (F_X11_dippedIn_J5xx a0 a1 D v6) := by
    intro v6
    unfold F_X11_dippedIn_J5xx
    refine z_iload (i := 4) (x := 1) dX11_dippedIn_5 rfl ?_
    refine z_iconst (v := 3) dX11_dippedIn_7 rfl ?_
    refine z_icmp_geN 57 dX11_dippedIn_8 (by decide) (by decide) ?_
    refine z_iload_n (i := 1) (x := a0) dX11_dippedIn_11 rfl rfl ?_
    refine z_iload (i := 4) (x := 1) dX11_dippedIn_12 rfl ?_
    refine z_cP (As := [.int a0, .int 1]) (rest := []) (em_X11_dyeOf hl a0 1 D) (fun o7 h => z_runS 327 2 h rfl kk_X11_327 kq_X11_dyeOf rfl (Nat.le_of_ble_eq_true rfl) ⟨Nat.le_of_ble_eq_true rfl, Nat.le_of_ble_eq_true rfl, Nat.le_of_ble_eq_true rfl, Nat.le_of_ble_eq_true rfl⟩ dX11_dippedIn_14) z_gR (fun hz7 => ?_)
    refine z_aload_n (i := 0) (x := 40) dX11_dippedIn_17 rfl rfl ?_
    refine z_getR (j := 14) dX11_dippedIn_18 kl_11 hs40 (by decide) rfl rfl kf_X11_35 ?_
    refine z_iconst (v := 4) dX11_dippedIn_21 rfl ?_
    refine z_iload_n (i := 2) (x := a1) dX11_dippedIn_22 rfl rfl ?_
    refine z_imul dX11_dippedIn_23 ?_
    refine z_iload (i := 4) (x := 1) dX11_dippedIn_24 rfl ?_
    refine z_iadd dX11_dippedIn_26 ?_
    refine z_iald dX11_dippedIn_27 hs47 ?_
    refine z_iadd dX11_dippedIn_28 ?_
    refine z_topi (fun v8 => ?_)
    refine z_istore (i := 5) (x := v8) (lv' := [some (.ref 40), some (.int a0), some (.int a1), some (.int v6), some (.int 1), some (.int v8)]) dX11_dippedIn_29 (by decide) rfl rfl ?_
    refine z_bipush (v := 10) dX11_dippedIn_31 (by decide) ?_
    refine z_iload_n (i := 3) (x := v6) dX11_dippedIn_33 rfl rfl ?_
    refine z_imul dX11_dippedIn_34 ?_
    refine z_iload (i := 5) (x := v8) dX11_dippedIn_35 rfl ?_
    refine z_bipush (v := 9) dX11_dippedIn_37 (by decide) ?_
    refine z_icmp_le 47 dX11_dippedIn_39 (by decide) (fun c9 => ?_) (fun c9 => ?_)
    · refine z_iload (i := 5) (x := v8) dX11_dippedIn_47 rfl ?_
      refine z_weak (lv' := [some (.ref 40), some (.int a0), some (.int a1), none, some (.int 1), none]) ⟨Or.inr rfl, ⟨Or.inr rfl, ⟨Or.inr rfl, ⟨Or.inl rfl, ⟨Or.inr rfl, ⟨Or.inl rfl, trivial⟩⟩⟩⟩⟩⟩ ?_
      exact hJ_F_X11_dippedIn_J49xx (10 * v6) v8
    · refine z_bipush (v := 9) dX11_dippedIn_42 (by decide) ?_
      refine z_goto 49 dX11_dippedIn_44 (by decide) ?_
      refine z_weak (lv' := [some (.ref 40), some (.int a0), some (.int a1), none, some (.int 1), none]) ⟨Or.inr rfl, ⟨Or.inr rfl, ⟨Or.inr rfl, ⟨Or.inl rfl, ⟨Or.inr rfl, ⟨Or.inl rfl, trivial⟩⟩⟩⟩⟩⟩ ?_
      exact hJ_F_X11_dippedIn_J49xxx (10 * v6)
  have hJ_F_X11_dippedIn_J49xxxx : ∀ (v4 : Int32) , z_F l M_X11_dippedIn (30, 580, 0, 0) 0 0 49 [some (.ref 40), some (.int a0), some (.int a1), none, some (.int 0), none] [.int v4, .int 0] S D (z_ko (z_kR S D)) (F_X11_dippedIn_J49xxxx a0 a1 D v4) := by
    intro v4
    unfold F_X11_dippedIn_J49xxxx
    refine z_iadd dX11_dippedIn_49 ?_
    refine z_topi (fun v5 => ?_)
    refine z_istore_n (i := 3) (x := v5) (lv' := [some (.ref 40), some (.int a0), some (.int a1), some (.int v5), some (.int 0), none]) dX11_dippedIn_50 rfl (by decide) rfl rfl ?_
    refine z_iincC (i := 4) (x := 0) (v := 1) (lv' := [some (.ref 40), some (.int a0), some (.int a1), some (.int v5), some (.int 1), none]) dX11_dippedIn_51 rfl (by decide) (by decide) rfl rfl ?_
    refine z_goto 5 dX11_dippedIn_54 (by decide) ?_
    exact hJ_F_X11_dippedIn_J5xx v5
  have hJ_F_X11_dippedIn_J49xxxxx : ∀ (v28 : Int32) , z_F l M_X11_dippedIn (30, 580, 0, 0) 0 0 49 [some (.ref 40), some (.int a0), some (.int a1), none, some (.int 1), none] [.int v28, .int 90] S D (z_ko (z_kR S D)) (F_X11_dippedIn_J49xxxxx a0 a1 D v28) := by
    intro v28
    unfold F_X11_dippedIn_J49xxxxx
    refine z_iadd dX11_dippedIn_49 ?_
    refine z_topi (fun v29 => ?_)
    refine z_istore_n (i := 3) (x := v29) (lv' := [some (.ref 40), some (.int a0), some (.int a1), some (.int v29), some (.int 1), none]) dX11_dippedIn_50 rfl (by decide) rfl rfl ?_
    refine z_iincC (i := 4) (x := 1) (v := 2) (lv' := [some (.ref 40), some (.int a0), some (.int a1), some (.int v29), some (.int 2), none]) dX11_dippedIn_51 rfl (by decide) (by decide) rfl rfl ?_
    refine z_goto 5 dX11_dippedIn_54 (by decide) ?_
    exact hJ_F_X11_dippedIn_J5x v29
  have hJ_F_X11_dippedIn_J49xxxxxx : ∀ (v33 : Int32) , z_F l M_X11_dippedIn (30, 580, 0, 0) 0 0 49 [some (.ref 40), some (.int a0), some (.int a1), none, some (.int 2), none] [.int v33, .int 990] S D (z_ko (z_kR S D)) (F_X11_dippedIn_J49xxxxxx v33) := by
    intro v33
    unfold F_X11_dippedIn_J49xxxxxx
    refine z_iadd dX11_dippedIn_49 ?_
    refine z_topi (fun v34 => ?_)
    refine z_istore_n (i := 3) (x := v34) (lv' := [some (.ref 40), some (.int a0), some (.int a1), some (.int v34), some (.int 2), none]) dX11_dippedIn_50 rfl (by decide) rfl rfl ?_
    refine z_iincC (i := 4) (x := 2) (v := 3) (lv' := [some (.ref 40), some (.int a0), some (.int a1), some (.int v34), some (.int 3), none]) dX11_dippedIn_51 rfl (by decide) (by decide) rfl rfl ?_
    refine z_goto 5 dX11_dippedIn_54 (by decide) ?_
    exact hJ_F_X11_dippedIn_J5 v34
  have hJ_F_X11_dippedIn_J5xxx : z_F l M_X11_dippedIn (30, 580, 0, 0) 0 0 5 [some (.ref 40), some (.int a0), some (.int a1), some (.int 999), some (.int 3), none] [] S D (z_ko (z_kR S D)) (F_X11_dippedIn_J5xxx) := by
    unfold F_X11_dippedIn_J5xxx
    refine z_iload (i := 4) (x := 3) dX11_dippedIn_5 rfl ?_
    refine z_iconst (v := 3) dX11_dippedIn_7 rfl ?_
    refine z_icmp_geJ 57 dX11_dippedIn_8 (by decide) (by decide) ?_
    refine z_iload_n (i := 3) (x := 999) dX11_dippedIn_57 rfl rfl ?_
    exact z_ireturn dX11_dippedIn_58 z_rR rfl (by decide) (by decide)
  have hJ_F_X11_dippedIn_J49xxxxxxx : z_F l M_X11_dippedIn (30, 580, 0, 0) 0 0 49 [some (.ref 40), some (.int a0), some (.int a1), none, some (.int 2), none] [.int 9, .int 990] S D (z_ko (z_kR S D)) (F_X11_dippedIn_J49xxxxxxx) := by
    unfold F_X11_dippedIn_J49xxxxxxx
    refine z_iadd dX11_dippedIn_49 ?_
    refine z_topc (y := 999) (by decide) ?_
    refine z_istore_n (i := 3) (x := 999) (lv' := [some (.ref 40), some (.int a0), some (.int a1), some (.int 999), some (.int 2), none]) dX11_dippedIn_50 rfl (by decide) rfl rfl ?_
    refine z_iincC (i := 4) (x := 2) (v := 3) (lv' := [some (.ref 40), some (.int a0), some (.int a1), some (.int 999), some (.int 3), none]) dX11_dippedIn_51 rfl (by decide) (by decide) rfl rfl ?_
    refine z_goto 5 dX11_dippedIn_54 (by decide) ?_
    exact hJ_F_X11_dippedIn_J5xxx
  have hJ_F_X11_dippedIn_J5xxxx : z_F l M_X11_dippedIn (30, 580, 0, 0) 0 0 5 [some (.ref 40), some (.int a0), some (.int a1), some (.int 99), some (.int 2), none] [] S D (z_ko (z_kR S D)) (F_X11_dippedIn_J5xxxx a0 a1 D) := by
    unfold F_X11_dippedIn_J5xxxx
    refine z_iload (i := 4) (x := 2) dX11_dippedIn_5 rfl ?_
    refine z_iconst (v := 3) dX11_dippedIn_7 rfl ?_
    refine z_icmp_geN 57 dX11_dippedIn_8 (by decide) (by decide) ?_
    refine z_iload_n (i := 1) (x := a0) dX11_dippedIn_11 rfl rfl ?_
    refine z_iload (i := 4) (x := 2) dX11_dippedIn_12 rfl ?_
    refine z_cP (As := [.int a0, .int 2]) (rest := []) (em_X11_dyeOf hl a0 2 D) (fun o7 h => z_runS 327 2 h rfl kk_X11_327 kq_X11_dyeOf rfl (Nat.le_of_ble_eq_true rfl) ⟨Nat.le_of_ble_eq_true rfl, Nat.le_of_ble_eq_true rfl, Nat.le_of_ble_eq_true rfl, Nat.le_of_ble_eq_true rfl⟩ dX11_dippedIn_14) z_gR (fun hz30 => ?_)
    refine z_aload_n (i := 0) (x := 40) dX11_dippedIn_17 rfl rfl ?_
    refine z_getR (j := 14) dX11_dippedIn_18 kl_11 hs40 (by decide) rfl rfl kf_X11_35 ?_
    refine z_iconst (v := 4) dX11_dippedIn_21 rfl ?_
    refine z_iload_n (i := 2) (x := a1) dX11_dippedIn_22 rfl rfl ?_
    refine z_imul dX11_dippedIn_23 ?_
    refine z_iload (i := 4) (x := 2) dX11_dippedIn_24 rfl ?_
    refine z_iadd dX11_dippedIn_26 ?_
    refine z_iald dX11_dippedIn_27 hs47 ?_
    refine z_iadd dX11_dippedIn_28 ?_
    refine z_topi (fun v31 => ?_)
    refine z_istore (i := 5) (x := v31) (lv' := [some (.ref 40), some (.int a0), some (.int a1), some (.int 99), some (.int 2), some (.int v31)]) dX11_dippedIn_29 (by decide) rfl rfl ?_
    refine z_bipush (v := 10) dX11_dippedIn_31 (by decide) ?_
    refine z_iload_n (i := 3) (x := 99) dX11_dippedIn_33 rfl rfl ?_
    refine z_imul dX11_dippedIn_34 ?_
    refine z_topc (y := 990) (by decide) ?_
    refine z_iload (i := 5) (x := v31) dX11_dippedIn_35 rfl ?_
    refine z_bipush (v := 9) dX11_dippedIn_37 (by decide) ?_
    refine z_icmp_le 47 dX11_dippedIn_39 (by decide) (fun c32 => ?_) (fun c32 => ?_)
    · refine z_iload (i := 5) (x := v31) dX11_dippedIn_47 rfl ?_
      refine z_weak (lv' := [some (.ref 40), some (.int a0), some (.int a1), none, some (.int 2), none]) ⟨Or.inr rfl, ⟨Or.inr rfl, ⟨Or.inr rfl, ⟨Or.inl rfl, ⟨Or.inr rfl, ⟨Or.inl rfl, trivial⟩⟩⟩⟩⟩⟩ ?_
      exact hJ_F_X11_dippedIn_J49xxxxxx v31
    · refine z_bipush (v := 9) dX11_dippedIn_42 (by decide) ?_
      refine z_goto 49 dX11_dippedIn_44 (by decide) ?_
      refine z_weak (lv' := [some (.ref 40), some (.int a0), some (.int a1), none, some (.int 2), none]) ⟨Or.inr rfl, ⟨Or.inr rfl, ⟨Or.inr rfl, ⟨Or.inl rfl, ⟨Or.inr rfl, ⟨Or.inl rfl, trivial⟩⟩⟩⟩⟩⟩ ?_
      exact hJ_F_X11_dippedIn_J49xxxxxxx
  have hJ_F_X11_dippedIn_J49xxxxxxxx : z_F l M_X11_dippedIn (30, 580, 0, 0) 0 0 49 [some (.ref 40), some (.int a0), some (.int a1), none, some (.int 1), none] [.int 9, .int 90] S D (z_ko (z_kR S D)) (F_X11_dippedIn_J49xxxxxxxx a0 a1 D) := by
    unfold F_X11_dippedIn_J49xxxxxxxx
    refine z_iadd dX11_dippedIn_49 ?_
    refine z_topc (y := 99) (by decide) ?_
    refine z_istore_n (i := 3) (x := 99) (lv' := [some (.ref 40), some (.int a0), some (.int a1), some (.int 99), some (.int 1), none]) dX11_dippedIn_50 rfl (by decide) rfl rfl ?_
    refine z_iincC (i := 4) (x := 1) (v := 2) (lv' := [some (.ref 40), some (.int a0), some (.int a1), some (.int 99), some (.int 2), none]) dX11_dippedIn_51 rfl (by decide) (by decide) rfl rfl ?_
    refine z_goto 5 dX11_dippedIn_54 (by decide) ?_
    exact hJ_F_X11_dippedIn_J5xxxx
  have hJ_F_X11_dippedIn_J5xxxxx : z_F l M_X11_dippedIn (30, 580, 0, 0) 0 0 5 [some (.ref 40), some (.int a0), some (.int a1), some (.int 9), some (.int 1), none] [] S D (z_ko (z_kR S D)) (F_X11_dippedIn_J5xxxxx a0 a1 D) := by
    unfold F_X11_dippedIn_J5xxxxx
    refine z_iload (i := 4) (x := 1) dX11_dippedIn_5 rfl ?_
    refine z_iconst (v := 3) dX11_dippedIn_7 rfl ?_
    refine z_icmp_geN 57 dX11_dippedIn_8 (by decide) (by decide) ?_
    refine z_iload_n (i := 1) (x := a0) dX11_dippedIn_11 rfl rfl ?_
    refine z_iload (i := 4) (x := 1) dX11_dippedIn_12 rfl ?_
    refine z_cP (As := [.int a0, .int 1]) (rest := []) (em_X11_dyeOf hl a0 1 D) (fun o7 h => z_runS 327 2 h rfl kk_X11_327 kq_X11_dyeOf rfl (Nat.le_of_ble_eq_true rfl) ⟨Nat.le_of_ble_eq_true rfl, Nat.le_of_ble_eq_true rfl, Nat.le_of_ble_eq_true rfl, Nat.le_of_ble_eq_true rfl⟩ dX11_dippedIn_14) z_gR (fun hz25 => ?_)
    refine z_aload_n (i := 0) (x := 40) dX11_dippedIn_17 rfl rfl ?_
    refine z_getR (j := 14) dX11_dippedIn_18 kl_11 hs40 (by decide) rfl rfl kf_X11_35 ?_
    refine z_iconst (v := 4) dX11_dippedIn_21 rfl ?_
    refine z_iload_n (i := 2) (x := a1) dX11_dippedIn_22 rfl rfl ?_
    refine z_imul dX11_dippedIn_23 ?_
    refine z_iload (i := 4) (x := 1) dX11_dippedIn_24 rfl ?_
    refine z_iadd dX11_dippedIn_26 ?_
    refine z_iald dX11_dippedIn_27 hs47 ?_
    refine z_iadd dX11_dippedIn_28 ?_
    refine z_topi (fun v26 => ?_)
    refine z_istore (i := 5) (x := v26) (lv' := [some (.ref 40), some (.int a0), some (.int a1), some (.int 9), some (.int 1), some (.int v26)]) dX11_dippedIn_29 (by decide) rfl rfl ?_
    refine z_bipush (v := 10) dX11_dippedIn_31 (by decide) ?_
    refine z_iload_n (i := 3) (x := 9) dX11_dippedIn_33 rfl rfl ?_
    refine z_imul dX11_dippedIn_34 ?_
    refine z_topc (y := 90) (by decide) ?_
    refine z_iload (i := 5) (x := v26) dX11_dippedIn_35 rfl ?_
    refine z_bipush (v := 9) dX11_dippedIn_37 (by decide) ?_
    refine z_icmp_le 47 dX11_dippedIn_39 (by decide) (fun c27 => ?_) (fun c27 => ?_)
    · refine z_iload (i := 5) (x := v26) dX11_dippedIn_47 rfl ?_
      refine z_weak (lv' := [some (.ref 40), some (.int a0), some (.int a1), none, some (.int 1), none]) ⟨Or.inr rfl, ⟨Or.inr rfl, ⟨Or.inr rfl, ⟨Or.inl rfl, ⟨Or.inr rfl, ⟨Or.inl rfl, trivial⟩⟩⟩⟩⟩⟩ ?_
      exact hJ_F_X11_dippedIn_J49xxxxx v26
    · refine z_bipush (v := 9) dX11_dippedIn_42 (by decide) ?_
      refine z_goto 49 dX11_dippedIn_44 (by decide) ?_
      refine z_weak (lv' := [some (.ref 40), some (.int a0), some (.int a1), none, some (.int 1), none]) ⟨Or.inr rfl, ⟨Or.inr rfl, ⟨Or.inr rfl, ⟨Or.inl rfl, ⟨Or.inr rfl, ⟨Or.inl rfl, trivial⟩⟩⟩⟩⟩⟩ ?_
      exact hJ_F_X11_dippedIn_J49xxxxxxxx
  have hJ_F_X11_dippedIn_J49xxxxxxxxx : z_F l M_X11_dippedIn (30, 580, 0, 0) 0 0 49 [some (.ref 40), some (.int a0), some (.int a1), none, some (.int 0), none] [.int 9, .int 0] S D (z_ko (z_kR S D)) (F_X11_dippedIn_J49xxxxxxxxx a0 a1 D) := by
    unfold F_X11_dippedIn_J49xxxxxxxxx
    refine z_iadd dX11_dippedIn_49 ?_
    refine z_topc (y := 9) (by decide) ?_
    refine z_istore_n (i := 3) (x := 9) (lv' := [some (.ref 40), some (.int a0), some (.int a1), some (.int 9), some (.int 0), none]) dX11_dippedIn_50 rfl (by decide) rfl rfl ?_
    refine z_iincC (i := 4) (x := 0) (v := 1) (lv' := [some (.ref 40), some (.int a0), some (.int a1), some (.int 9), some (.int 1), none]) dX11_dippedIn_51 rfl (by decide) (by decide) rfl rfl ?_
    refine z_goto 5 dX11_dippedIn_54 (by decide) ?_
    exact hJ_F_X11_dippedIn_J5xxxxx
  have hJ_F_X11_dippedIn_J5xxxxxx : z_F l M_X11_dippedIn (30, 580, 0, 0) 0 0 5 [some (.ref 40), some (.int a0), some (.int a1), some (.int 0), some (.int 0), none] [] S D (z_ko (z_kR S D)) (F_X11_dippedIn_J5xxxxxx a0 a1 D) := by
    unfold F_X11_dippedIn_J5xxxxxx
    refine z_iload (i := 4) (x := 0) dX11_dippedIn_5 rfl ?_
    refine z_iconst (v := 3) dX11_dippedIn_7 rfl ?_
    refine z_icmp_geN 57 dX11_dippedIn_8 (by decide) (by decide) ?_
    refine z_iload_n (i := 1) (x := a0) dX11_dippedIn_11 rfl rfl ?_
    refine z_iload (i := 4) (x := 0) dX11_dippedIn_12 rfl ?_
    refine z_cP (As := [.int a0, .int 0]) (rest := []) (em_X11_dyeOf hl a0 0 D) (fun o7 h => z_runS 327 2 h rfl kk_X11_327 kq_X11_dyeOf rfl (Nat.le_of_ble_eq_true rfl) ⟨Nat.le_of_ble_eq_true rfl, Nat.le_of_ble_eq_true rfl, Nat.le_of_ble_eq_true rfl, Nat.le_of_ble_eq_true rfl⟩ dX11_dippedIn_14) z_gR (fun hz1 => ?_)
    refine z_aload_n (i := 0) (x := 40) dX11_dippedIn_17 rfl rfl ?_
    refine z_getR (j := 14) dX11_dippedIn_18 kl_11 hs40 (by decide) rfl rfl kf_X11_35 ?_
    refine z_iconst (v := 4) dX11_dippedIn_21 rfl ?_
    refine z_iload_n (i := 2) (x := a1) dX11_dippedIn_22 rfl rfl ?_
    refine z_imul dX11_dippedIn_23 ?_
    refine z_iload (i := 4) (x := 0) dX11_dippedIn_24 rfl ?_
    refine z_iadd dX11_dippedIn_26 ?_
    refine z_iald dX11_dippedIn_27 hs47 ?_
    refine z_iadd dX11_dippedIn_28 ?_
    refine z_topi (fun v2 => ?_)
    refine z_istore (i := 5) (x := v2) (lv' := [some (.ref 40), some (.int a0), some (.int a1), some (.int 0), some (.int 0), some (.int v2)]) dX11_dippedIn_29 (by decide) rfl rfl ?_
    refine z_bipush (v := 10) dX11_dippedIn_31 (by decide) ?_
    refine z_iload_n (i := 3) (x := 0) dX11_dippedIn_33 rfl rfl ?_
    refine z_imul dX11_dippedIn_34 ?_
    refine z_topc (y := 0) (by decide) ?_
    refine z_iload (i := 5) (x := v2) dX11_dippedIn_35 rfl ?_
    refine z_bipush (v := 9) dX11_dippedIn_37 (by decide) ?_
    refine z_icmp_le 47 dX11_dippedIn_39 (by decide) (fun c3 => ?_) (fun c3 => ?_)
    · refine z_iload (i := 5) (x := v2) dX11_dippedIn_47 rfl ?_
      refine z_weak (lv' := [some (.ref 40), some (.int a0), some (.int a1), none, some (.int 0), none]) ⟨Or.inr rfl, ⟨Or.inr rfl, ⟨Or.inr rfl, ⟨Or.inl rfl, ⟨Or.inr rfl, ⟨Or.inl rfl, trivial⟩⟩⟩⟩⟩⟩ ?_
      exact hJ_F_X11_dippedIn_J49xxxx v2
    · refine z_bipush (v := 9) dX11_dippedIn_42 (by decide) ?_
      refine z_goto 49 dX11_dippedIn_44 (by decide) ?_
      refine z_weak (lv' := [some (.ref 40), some (.int a0), some (.int a1), none, some (.int 0), none]) ⟨Or.inr rfl, ⟨Or.inr rfl, ⟨Or.inr rfl, ⟨Or.inl rfl, ⟨Or.inr rfl, ⟨Or.inl rfl, trivial⟩⟩⟩⟩⟩⟩ ?_
      exact hJ_F_X11_dippedIn_J49xxxxxxxxx
  refine z_iconst (v := 0) dX11_dippedIn_0 rfl ?_
  refine z_istore_n (i := 3) (x := 0) (lv' := [some (.ref 40), some (.int a0), some (.int a1), some (.int 0), none, none]) dX11_dippedIn_1 rfl (by decide) rfl rfl ?_
  refine z_iconst (v := 0) dX11_dippedIn_2 rfl ?_
  refine z_istore (i := 4) (x := 0) (lv' := [some (.ref 40), some (.int a0), some (.int a1), some (.int 0), some (.int 0), none]) dX11_dippedIn_3 (by decide) rfl rfl ?_
  exact hJ_F_X11_dippedIn_J5xxxxxx

def F_X11_shades_J2 (D10 : z_Dat) : Option z_Dat :=
  some D10
def F_X11_shades_J2x (a0 : Int32) (a1 : Int32) (D7 : z_Dat) : Option z_Dat :=
  if z_inb ((0 + (3 * a0)) + 2) 60 then z_let (z_up D7 58 (z_ix ((0 + (3 * a0)) + 2)) (F_X11_dyeOf a1 2)) (fun D9 => F_X11_shades_J2 D9) else none
def F_X11_shades_J2xx (a0 : Int32) (a1 : Int32) (D4 : z_Dat) : Option z_Dat :=
  if z_inb ((0 + (3 * a0)) + 1) 60 then z_let (z_up D4 58 (z_ix ((0 + (3 * a0)) + 1)) (F_X11_dyeOf a1 1)) (fun D6 => F_X11_shades_J2x a0 a1 D6) else none
def F_X11_shades_J2xxx (a0 : Int32) (a1 : Int32) (D1 : z_Dat) : Option z_Dat :=
  if z_inb ((0 + (3 * a0)) + 0) 60 then z_let (z_up D1 58 (z_ix ((0 + (3 * a0)) + 0)) (F_X11_dyeOf a1 0)) (fun D3 => F_X11_shades_J2xx a0 a1 D3) else none
def F_X11_shades (a0 : Int32) (a1 : Int32) (D : z_Dat) : Option z_Dat :=
  F_X11_shades_J2xxx a0 a1 D
set_option maxRecDepth 100000 in
set_option maxHeartbeats 4000000 in
theorem em_X11_shades {l : Launch} {S : List z_Shp} {oW : Nat} (hl : l.stackTraces = false) (hW : z_W S oW) (a0 : Int32) (a1 : Int32) (D : z_Dat) : ∀ out, z_ko (z_kV S) (F_X11_shades a0 a1 D) out → z_EM l M_X11_shades (30, 580, 0, 0) [.ref 40, .int a0, .int a1] S D out := by
  have hs40 : S[40]? = some (13, 55, [none, some (some 41), none, none, none, none, none, none, none, some (some 42), some (some 43), some (some 44), some (some 45), some (some 46), some (some 47), some (some 48), none, none, none, none, none, none, some (some 49), some (some 50), some (some 51), some (some 52), some (some 53), none, none, some (some 54), some (some 55), some (some 56), none, none, none, none, none, none, some (some 57), some (some 58), some (some 59), some (some 60), some (some 61), none, some (some 62), some (some 63), none, none, some (some 64), some (some 65), none, none, none, some (some 66), none]) := hW.1 40 _ rfl
  have hs58 : S[58]? = some (0, 60, []) := hW.1 58 _ rfl
  refine z_meth hl rfl kp_X11 (Nat.le_of_ble_eq_true rfl) (lv := [some (.ref 40), some (.int a0), some (.int a1), none]) rfl ?_
  unfold F_X11_shades
  have hJ_F_X11_shades_J2 : ∀ (D10 : z_Dat) , z_F l M_X11_shades (30, 580, 0, 0) 0 0 2 [some (.ref 40), some (.int a0), some (.int a1), some (.int 3)] [] S D10 (z_ko (z_kV S)) (F_X11_shades_J2 D10) := by
    intro D10
    unfold F_X11_shades_J2
    refine z_iload_n (i := 3) (x := 3) dX11_shades_2 rfl rfl ?_
    refine z_iconst (v := 3) dX11_shades_3 rfl ?_
    refine z_icmp_geJ 30 dX11_shades_4 (by decide) (by decide) ?_
    exact z_vreturn dX11_shades_30 z_rWV trivial (by decide) (by decide)
  have hJ_F_X11_shades_J2x : ∀ (D7 : z_Dat) , z_F l M_X11_shades (30, 580, 0, 0) 0 0 2 [some (.ref 40), some (.int a0), some (.int a1), some (.int 2)] [] S D7 (z_ko (z_kV S)) (F_X11_shades_J2x a0 a1 D7) := by
    intro D7
    unfold F_X11_shades_J2x
    refine z_iload_n (i := 3) (x := 2) dX11_shades_2 rfl rfl ?_
    refine z_iconst (v := 3) dX11_shades_3 rfl ?_
    refine z_icmp_geN 30 dX11_shades_4 (by decide) (by decide) ?_
    refine z_aload_n (i := 0) (x := 40) dX11_shades_7 rfl rfl ?_
    refine z_getR (j := 39) dX11_shades_8 kl_11 hs40 (by decide) rfl rfl kf_X11_68 ?_
    refine z_iconst (v := 0) dX11_shades_11 rfl ?_
    refine z_iconst (v := 3) dX11_shades_12 rfl ?_
    refine z_iload_n (i := 1) (x := a0) dX11_shades_13 rfl rfl ?_
    refine z_imul dX11_shades_14 ?_
    refine z_iadd dX11_shades_15 ?_
    refine z_iload_n (i := 3) (x := 2) dX11_shades_16 rfl rfl ?_
    refine z_iadd dX11_shades_17 ?_
    refine z_iload_n (i := 2) (x := a1) dX11_shades_18 rfl rfl ?_
    refine z_iload_n (i := 3) (x := 2) dX11_shades_19 rfl rfl ?_
    refine z_cP (As := [.int a1, .int 2]) (rest := [.int ((0 + (3 * a0)) + 2), .ref 58]) (em_X11_dyeOf hl a1 2 D7) (fun o7 h => z_runS 327 2 h rfl kk_X11_327 kq_X11_dyeOf rfl (Nat.le_of_ble_eq_true rfl) ⟨Nat.le_of_ble_eq_true rfl, Nat.le_of_ble_eq_true rfl, Nat.le_of_ble_eq_true rfl, Nat.le_of_ble_eq_true rfl⟩ dX11_shades_20) z_gWV (fun hz8 => ?_)
    refine z_iast dX11_shades_23 hs58 (fun D9 => ?_)
    refine z_iincC (i := 3) (x := 2) (v := 3) (lv' := [some (.ref 40), some (.int a0), some (.int a1), some (.int 3)]) dX11_shades_24 rfl (by decide) (by decide) rfl rfl ?_
    refine z_goto 2 dX11_shades_27 (by decide) ?_
    exact hJ_F_X11_shades_J2 D9
  have hJ_F_X11_shades_J2xx : ∀ (D4 : z_Dat) , z_F l M_X11_shades (30, 580, 0, 0) 0 0 2 [some (.ref 40), some (.int a0), some (.int a1), some (.int 1)] [] S D4 (z_ko (z_kV S)) (F_X11_shades_J2xx a0 a1 D4) := by
    intro D4
    unfold F_X11_shades_J2xx
    refine z_iload_n (i := 3) (x := 1) dX11_shades_2 rfl rfl ?_
    refine z_iconst (v := 3) dX11_shades_3 rfl ?_
    refine z_icmp_geN 30 dX11_shades_4 (by decide) (by decide) ?_
    refine z_aload_n (i := 0) (x := 40) dX11_shades_7 rfl rfl ?_
    refine z_getR (j := 39) dX11_shades_8 kl_11 hs40 (by decide) rfl rfl kf_X11_68 ?_
    refine z_iconst (v := 0) dX11_shades_11 rfl ?_
    refine z_iconst (v := 3) dX11_shades_12 rfl ?_
    refine z_iload_n (i := 1) (x := a0) dX11_shades_13 rfl rfl ?_
    refine z_imul dX11_shades_14 ?_
    refine z_iadd dX11_shades_15 ?_
    refine z_iload_n (i := 3) (x := 1) dX11_shades_16 rfl rfl ?_
    refine z_iadd dX11_shades_17 ?_
    refine z_iload_n (i := 2) (x := a1) dX11_shades_18 rfl rfl ?_
    refine z_iload_n (i := 3) (x := 1) dX11_shades_19 rfl rfl ?_
    refine z_cP (As := [.int a1, .int 1]) (rest := [.int ((0 + (3 * a0)) + 1), .ref 58]) (em_X11_dyeOf hl a1 1 D4) (fun o7 h => z_runS 327 2 h rfl kk_X11_327 kq_X11_dyeOf rfl (Nat.le_of_ble_eq_true rfl) ⟨Nat.le_of_ble_eq_true rfl, Nat.le_of_ble_eq_true rfl, Nat.le_of_ble_eq_true rfl, Nat.le_of_ble_eq_true rfl⟩ dX11_shades_20) z_gWV (fun hz5 => ?_)
    refine z_iast dX11_shades_23 hs58 (fun D6 => ?_)
    refine z_iincC (i := 3) (x := 1) (v := 2) (lv' := [some (.ref 40), some (.int a0), some (.int a1), some (.int 2)]) dX11_shades_24 rfl (by decide) (by decide) rfl rfl ?_
    refine z_goto 2 dX11_shades_27 (by decide) ?_
    exact hJ_F_X11_shades_J2x D6
  have hJ_F_X11_shades_J2xxx : ∀ (D1 : z_Dat) , z_F l M_X11_shades (30, 580, 0, 0) 0 0 2 [some (.ref 40), some (.int a0), some (.int a1), some (.int 0)] [] S D1 (z_ko (z_kV S)) (F_X11_shades_J2xxx a0 a1 D1) := by
    intro D1
    unfold F_X11_shades_J2xxx
    refine z_iload_n (i := 3) (x := 0) dX11_shades_2 rfl rfl ?_
    refine z_iconst (v := 3) dX11_shades_3 rfl ?_
    refine z_icmp_geN 30 dX11_shades_4 (by decide) (by decide) ?_
    refine z_aload_n (i := 0) (x := 40) dX11_shades_7 rfl rfl ?_
    refine z_getR (j := 39) dX11_shades_8 kl_11 hs40 (by decide) rfl rfl kf_X11_68 ?_
    refine z_iconst (v := 0) dX11_shades_11 rfl ?_
    refine z_iconst (v := 3) dX11_shades_12 rfl ?_
    refine z_iload_n (i := 1) (x := a0) dX11_shades_13 rfl rfl ?_
    refine z_imul dX11_shades_14 ?_
    refine z_iadd dX11_shades_15 ?_
    refine z_iload_n (i := 3) (x := 0) dX11_shades_16 rfl rfl ?_
    refine z_iadd dX11_shades_17 ?_
    refine z_iload_n (i := 2) (x := a1) dX11_shades_18 rfl rfl ?_
    refine z_iload_n (i := 3) (x := 0) dX11_shades_19 rfl rfl ?_
    refine z_cP (As := [.int a1, .int 0]) (rest := [.int ((0 + (3 * a0)) + 0), .ref 58]) (em_X11_dyeOf hl a1 0 D1) (fun o7 h => z_runS 327 2 h rfl kk_X11_327 kq_X11_dyeOf rfl (Nat.le_of_ble_eq_true rfl) ⟨Nat.le_of_ble_eq_true rfl, Nat.le_of_ble_eq_true rfl, Nat.le_of_ble_eq_true rfl, Nat.le_of_ble_eq_true rfl⟩ dX11_shades_20) z_gWV (fun hz2 => ?_)
    refine z_iast dX11_shades_23 hs58 (fun D3 => ?_)
    refine z_iincC (i := 3) (x := 0) (v := 1) (lv' := [some (.ref 40), some (.int a0), some (.int a1), some (.int 1)]) dX11_shades_24 rfl (by decide) (by decide) rfl rfl ?_
    refine z_goto 2 dX11_shades_27 (by decide) ?_
    exact hJ_F_X11_shades_J2xx D3
  refine z_iconst (v := 0) dX11_shades_0 rfl ?_
  refine z_istore_n (i := 3) (x := 0) (lv' := [some (.ref 40), some (.int a0), some (.int a1), some (.int 0)]) dX11_shades_1 rfl (by decide) rfl rfl ?_
  exact hJ_F_X11_shades_J2xxx D

def F_X11_dips_J66 (a0 : Int32) (v28 : Int32) (D29 : z_Dat) : Option (Int32 × z_Dat) :=
  z_bd (F_X11_shades a0 v28 D29) (fun a_31 => if z_inb (40 + a0) 60 then (if z_inb (40 + a0) 60 then z_let (z_up a_31 58 (z_ix (40 + a0)) ((a_31 58 (z_ix (40 + a0))) + 1)) (fun D32 => some (1, D32)) else none) else none)
def F_X11_dips_J66x (a0 : Int32) (a1 : Int32) (v25 : Int32) (D26 : z_Dat) : Option (Int32 × z_Dat) :=
  if z_inb ((4 * a1) + 2) 24 then (z_let (z_up D26 58 (z_ix 58) ((D26 58 (z_ix 58)) - (D26 47 (z_ix ((4 * a1) + 2))))) (fun D27 => F_X11_dips_J66 a0 v25 D27)) else none
def F_X11_dips_J66xx (a0 : Int32) (a1 : Int32) (v22 : Int32) (D23 : z_Dat) : Option (Int32 × z_Dat) :=
  if z_inb ((4 * a1) + 1) 24 then (z_let (z_up D23 58 (z_ix 57) ((D23 58 (z_ix 57)) - (D23 47 (z_ix ((4 * a1) + 1))))) (fun D24 => F_X11_dips_J66x a0 a1 v22 D24)) else none
def F_X11_dips_J66xxx (a0 : Int32) (a1 : Int32) (v19 : Int32) (D20 : z_Dat) : Option (Int32 × z_Dat) :=
  if z_inb ((4 * a1) + 0) 24 then (z_let (z_up D20 58 (z_ix 56) ((D20 58 (z_ix 56)) - (D20 47 (z_ix ((4 * a1) + 0))))) (fun D21 => F_X11_dips_J66xx a0 a1 v19 D21)) else none
def F_X11_dips_J25 (a0 : Int32) (a1 : Int32) (v17 : Int32) (D18 : z_Dat) : Option (Int32 × z_Dat) :=
  F_X11_dips_J66xxx a0 a1 v17 D18
def F_X11_dips_J25x (a0 : Int32) (a1 : Int32) (v14 : Int32) (D15 : z_Dat) : Option (Int32 × z_Dat) :=
  if z_inb ((4 * a1) + 2) 24 then (if (D15 47 (z_ix ((4 * a1) + 2))) ≤ (D15 58 (z_ix 58)) then (F_X11_dips_J25 a0 a1 v14 D15)
  else (some (0, D15))) else none
def F_X11_dips_J25xx (a0 : Int32) (a1 : Int32) (v11 : Int32) (D12 : z_Dat) : Option (Int32 × z_Dat) :=
  if z_inb ((4 * a1) + 1) 24 then (if (D12 47 (z_ix ((4 * a1) + 1))) ≤ (D12 58 (z_ix 57)) then (F_X11_dips_J25x a0 a1 v11 D12)
  else (some (0, D12))) else none
def F_X11_dips_J25xxx (a0 : Int32) (a1 : Int32) (v8 : Int32) (D9 : z_Dat) : Option (Int32 × z_Dat) :=
  if z_inb ((4 * a1) + 0) 24 then (if (D9 47 (z_ix ((4 * a1) + 0))) ≤ (D9 58 (z_ix 56)) then (F_X11_dips_J25xx a0 a1 v8 D9)
  else (some (0, D9))) else none
def F_X11_dips (a0 : Int32) (a1 : Int32) (D : z_Dat) : Option (Int32 × z_Dat) :=
  z_bd (F_X11_shadeOf a0 D) (fun a_2 => z_bd (F_X11_dippedIn a_2 a1 D) (fun a_4 => z_bd (F_X11_shadeOf a0 D) (fun a_6 => if a_4 = a_6 then (some (0, D))
  else (F_X11_dips_J25xxx a0 a1 a_4 D))))
set_option maxRecDepth 100000 in
set_option maxHeartbeats 4000000 in
theorem em_X11_dips {l : Launch} {S : List z_Shp} {oW : Nat} (hl : l.stackTraces = false) (hW : z_W S oW) (a0 : Int32) (a1 : Int32) (D : z_Dat) : ∀ out, z_ko (z_kI S) (F_X11_dips a0 a1 D) out → z_EM l M_X11_dips (40, 640, 0, 0) [.ref 40, .int a0, .int a1] S D out := by
  have hs40 : S[40]? = some (13, 55, [none, some (some 41), none, none, none, none, none, none, none, some (some 42), some (some 43), some (some 44), some (some 45), some (some 46), some (some 47), some (some 48), none, none, none, none, none, none, some (some 49), some (some 50), some (some 51), some (some 52), some (some 53), none, none, some (some 54), some (some 55), some (some 56), none, none, none, none, none, none, some (some 57), some (some 58), some (some 59), some (some 60), some (some 61), none, some (some 62), some (some 63), none, none, some (some 64), some (some 65), none, none, none, some (some 66), none]) := hW.1 40 _ rfl
  have hs47 : S[47]? = some (0, 24, []) := hW.1 47 _ rfl
  have hs58 : S[58]? = some (0, 60, []) := hW.1 58 _ rfl
  refine z_meth hl rfl kp_X11 (Nat.le_of_ble_eq_true rfl) (lv := [some (.ref 40), some (.int a0), some (.int a1), none, none]) rfl ?_
  unfold F_X11_dips
  have hJ_F_X11_dips_J66 : ∀ (v28 : Int32) (D29 : z_Dat) , z_F l M_X11_dips (40, 640, 0, 0) 0 0 66 [some (.ref 40), some (.int a0), some (.int a1), some (.int v28), some (.int 3)] [] S D29 (z_ko (z_kI S)) (F_X11_dips_J66 a0 v28 D29) := by
    intro v28 D29
    unfold F_X11_dips_J66
    refine z_iload (i := 4) (x := 3) dX11_dips_66 rfl ?_
    refine z_iconst (v := 3) dX11_dips_68 rfl ?_
    refine z_icmp_geJ 102 dX11_dips_69 (by decide) (by decide) ?_
    refine z_aload_n (i := 0) (x := 40) dX11_dips_102 rfl rfl ?_
    refine z_iload_n (i := 1) (x := a0) dX11_dips_103 rfl rfl ?_
    refine z_iload_n (i := 3) (x := v28) dX11_dips_104 rfl rfl ?_
    refine z_cWV (As := [.ref 40, .int a0, .int v28]) (rest := []) (em_X11_shades hl hW a0 v28 D29) (fun o7 h => z_runV 355 2 h rfl kk_X11_355 hs40 kl_11.1 kq_X11_shades rfl (Nat.le_of_ble_eq_true rfl) ⟨Nat.le_of_ble_eq_true rfl, Nat.le_of_ble_eq_true rfl, Nat.le_of_ble_eq_true rfl, Nat.le_of_ble_eq_true rfl⟩ dX11_dips_105) z_gWI (fun a_31 hz30 => ?_)
    refine z_aload_n (i := 0) (x := 40) dX11_dips_108 rfl rfl ?_
    refine z_getR (j := 39) dX11_dips_109 kl_11 hs40 (by decide) rfl rfl kf_X11_68 ?_
    refine z_bipush (v := 40) dX11_dips_112 (by decide) ?_
    refine z_iload_n (i := 1) (x := a0) dX11_dips_114 rfl rfl ?_
    refine z_iadd dX11_dips_115 ?_
    refine z_dup2 dX11_dips_116 rfl rfl ?_
    refine z_iald dX11_dips_117 hs58 ?_
    refine z_iconst (v := 1) dX11_dips_118 rfl ?_
    refine z_iadd dX11_dips_119 ?_
    refine z_iast dX11_dips_120 hs58 (fun D32 => ?_)
    refine z_iconst (v := 1) dX11_dips_121 rfl ?_
    exact z_ireturn dX11_dips_122 z_rWI rfl (by decide) (by decide)
  have hJ_F_X11_dips_J66x : ∀ (v25 : Int32) (D26 : z_Dat) , z_F l M_X11_dips (40, 640, 0, 0) 0 0 66 [some (.ref 40), some (.int a0), some (.int a1), some (.int v25), some (.int 2)] [] S D26 (z_ko (z_kI S)) (F_X11_dips_J66x a0 a1 v25 D26) := by
    intro v25 D26
    unfold F_X11_dips_J66x
    refine z_iload (i := 4) (x := 2) dX11_dips_66 rfl ?_
    refine z_iconst (v := 3) dX11_dips_68 rfl ?_
    refine z_icmp_geN 102 dX11_dips_69 (by decide) (by decide) ?_
    refine z_aload_n (i := 0) (x := 40) dX11_dips_72 rfl rfl ?_
    refine z_getR (j := 39) dX11_dips_73 kl_11 hs40 (by decide) rfl rfl kf_X11_68 ?_
    refine z_bipush (v := 56) dX11_dips_76 (by decide) ?_
    refine z_iload (i := 4) (x := 2) dX11_dips_78 rfl ?_
    refine z_iadd dX11_dips_80 ?_
    refine z_topc (y := 58) (by decide) ?_
    refine z_dup2 dX11_dips_81 rfl rfl ?_
    refine z_ialdC dX11_dips_82 hs58 (vp_in_iff.mpr (by decide)) ?_
    refine z_aload_n (i := 0) (x := 40) dX11_dips_83 rfl rfl ?_
    refine z_getR (j := 14) dX11_dips_84 kl_11 hs40 (by decide) rfl rfl kf_X11_35 ?_
    refine z_iconst (v := 4) dX11_dips_87 rfl ?_
    refine z_iload_n (i := 2) (x := a1) dX11_dips_88 rfl rfl ?_
    refine z_imul dX11_dips_89 ?_
    refine z_iload (i := 4) (x := 2) dX11_dips_90 rfl ?_
    refine z_iadd dX11_dips_92 ?_
    refine z_iald dX11_dips_93 hs47 ?_
    refine z_isub dX11_dips_94 ?_
    refine z_iastL dX11_dips_95 hs58 (vp_in_iff.mpr (by decide)) (fun D27 => ?_)
    refine z_iincC (i := 4) (x := 2) (v := 3) (lv' := [some (.ref 40), some (.int a0), some (.int a1), some (.int v25), some (.int 3)]) dX11_dips_96 rfl (by decide) (by decide) rfl rfl ?_
    refine z_goto 66 dX11_dips_99 (by decide) ?_
    exact hJ_F_X11_dips_J66 v25 D27
  have hJ_F_X11_dips_J66xx : ∀ (v22 : Int32) (D23 : z_Dat) , z_F l M_X11_dips (40, 640, 0, 0) 0 0 66 [some (.ref 40), some (.int a0), some (.int a1), some (.int v22), some (.int 1)] [] S D23 (z_ko (z_kI S)) (F_X11_dips_J66xx a0 a1 v22 D23) := by
    intro v22 D23
    unfold F_X11_dips_J66xx
    refine z_iload (i := 4) (x := 1) dX11_dips_66 rfl ?_
    refine z_iconst (v := 3) dX11_dips_68 rfl ?_
    refine z_icmp_geN 102 dX11_dips_69 (by decide) (by decide) ?_
    refine z_aload_n (i := 0) (x := 40) dX11_dips_72 rfl rfl ?_
    refine z_getR (j := 39) dX11_dips_73 kl_11 hs40 (by decide) rfl rfl kf_X11_68 ?_
    refine z_bipush (v := 56) dX11_dips_76 (by decide) ?_
    refine z_iload (i := 4) (x := 1) dX11_dips_78 rfl ?_
    refine z_iadd dX11_dips_80 ?_
    refine z_topc (y := 57) (by decide) ?_
    refine z_dup2 dX11_dips_81 rfl rfl ?_
    refine z_ialdC dX11_dips_82 hs58 (vp_in_iff.mpr (by decide)) ?_
    refine z_aload_n (i := 0) (x := 40) dX11_dips_83 rfl rfl ?_
    refine z_getR (j := 14) dX11_dips_84 kl_11 hs40 (by decide) rfl rfl kf_X11_35 ?_
    refine z_iconst (v := 4) dX11_dips_87 rfl ?_
    refine z_iload_n (i := 2) (x := a1) dX11_dips_88 rfl rfl ?_
    refine z_imul dX11_dips_89 ?_
    refine z_iload (i := 4) (x := 1) dX11_dips_90 rfl ?_
    refine z_iadd dX11_dips_92 ?_
    refine z_iald dX11_dips_93 hs47 ?_
    refine z_isub dX11_dips_94 ?_
    refine z_iastL dX11_dips_95 hs58 (vp_in_iff.mpr (by decide)) (fun D24 => ?_)
    refine z_iincC (i := 4) (x := 1) (v := 2) (lv' := [some (.ref 40), some (.int a0), some (.int a1), some (.int v22), some (.int 2)]) dX11_dips_96 rfl (by decide) (by decide) rfl rfl ?_
    refine z_goto 66 dX11_dips_99 (by decide) ?_
    exact hJ_F_X11_dips_J66x v22 D24
  have hJ_F_X11_dips_J66xxx : ∀ (v19 : Int32) (D20 : z_Dat) , z_F l M_X11_dips (40, 640, 0, 0) 0 0 66 [some (.ref 40), some (.int a0), some (.int a1), some (.int v19), some (.int 0)] [] S D20 (z_ko (z_kI S)) (F_X11_dips_J66xxx a0 a1 v19 D20) := by
    intro v19 D20
    unfold F_X11_dips_J66xxx
    refine z_iload (i := 4) (x := 0) dX11_dips_66 rfl ?_
    refine z_iconst (v := 3) dX11_dips_68 rfl ?_
    refine z_icmp_geN 102 dX11_dips_69 (by decide) (by decide) ?_
    refine z_aload_n (i := 0) (x := 40) dX11_dips_72 rfl rfl ?_
    refine z_getR (j := 39) dX11_dips_73 kl_11 hs40 (by decide) rfl rfl kf_X11_68 ?_
    refine z_bipush (v := 56) dX11_dips_76 (by decide) ?_
    refine z_iload (i := 4) (x := 0) dX11_dips_78 rfl ?_
    refine z_iadd dX11_dips_80 ?_
    refine z_topc (y := 56) (by decide) ?_
    refine z_dup2 dX11_dips_81 rfl rfl ?_
    refine z_ialdC dX11_dips_82 hs58 (vp_in_iff.mpr (by decide)) ?_
    refine z_aload_n (i := 0) (x := 40) dX11_dips_83 rfl rfl ?_
    refine z_getR (j := 14) dX11_dips_84 kl_11 hs40 (by decide) rfl rfl kf_X11_35 ?_
    refine z_iconst (v := 4) dX11_dips_87 rfl ?_
    refine z_iload_n (i := 2) (x := a1) dX11_dips_88 rfl rfl ?_
    refine z_imul dX11_dips_89 ?_
    refine z_iload (i := 4) (x := 0) dX11_dips_90 rfl ?_
    refine z_iadd dX11_dips_92 ?_
    refine z_iald dX11_dips_93 hs47 ?_
    refine z_isub dX11_dips_94 ?_
    refine z_iastL dX11_dips_95 hs58 (vp_in_iff.mpr (by decide)) (fun D21 => ?_)
    refine z_iincC (i := 4) (x := 0) (v := 1) (lv' := [some (.ref 40), some (.int a0), some (.int a1), some (.int v19), some (.int 1)]) dX11_dips_96 rfl (by decide) (by decide) rfl rfl ?_
    refine z_goto 66 dX11_dips_99 (by decide) ?_
    exact hJ_F_X11_dips_J66xx v19 D21
  have hJ_F_X11_dips_J25 : ∀ (v17 : Int32) (D18 : z_Dat) , z_F l M_X11_dips (40, 640, 0, 0) 0 0 25 [some (.ref 40), some (.int a0), some (.int a1), some (.int v17), some (.int 3)] [] S D18 (z_ko (z_kI S)) (F_X11_dips_J25 a0 a1 v17 D18) := by
    intro v17 D18
    unfold F_X11_dips_J25
    refine z_iload (i := 4) (x := 3) dX11_dips_25 rfl ?_
    refine z_iconst (v := 3) dX11_dips_27 rfl ?_
    refine z_icmp_geJ 63 dX11_dips_28 (by decide) (by decide) ?_
    refine z_iconst (v := 0) dX11_dips_63 rfl ?_
    refine z_istore (i := 4) (x := 0) (lv' := [some (.ref 40), some (.int a0), some (.int a1), some (.int v17), some (.int 0)]) dX11_dips_64 (by decide) rfl rfl ?_
    exact hJ_F_X11_dips_J66xxx v17 D18
  have hJ_F_X11_dips_J25x : ∀ (v14 : Int32) (D15 : z_Dat) , z_F l M_X11_dips (40, 640, 0, 0) 0 0 25 [some (.ref 40), some (.int a0), some (.int a1), some (.int v14), some (.int 2)] [] S D15 (z_ko (z_kI S)) (F_X11_dips_J25x a0 a1 v14 D15) := by
    intro v14 D15
    unfold F_X11_dips_J25x
    refine z_iload (i := 4) (x := 2) dX11_dips_25 rfl ?_
    refine z_iconst (v := 3) dX11_dips_27 rfl ?_
    refine z_icmp_geN 63 dX11_dips_28 (by decide) (by decide) ?_
    refine z_aload_n (i := 0) (x := 40) dX11_dips_31 rfl rfl ?_
    refine z_getR (j := 39) dX11_dips_32 kl_11 hs40 (by decide) rfl rfl kf_X11_68 ?_
    refine z_bipush (v := 56) dX11_dips_35 (by decide) ?_
    refine z_iload (i := 4) (x := 2) dX11_dips_37 rfl ?_
    refine z_iadd dX11_dips_39 ?_
    refine z_topc (y := 58) (by decide) ?_
    refine z_ialdC dX11_dips_40 hs58 (vp_in_iff.mpr (by decide)) ?_
    refine z_aload_n (i := 0) (x := 40) dX11_dips_41 rfl rfl ?_
    refine z_getR (j := 14) dX11_dips_42 kl_11 hs40 (by decide) rfl rfl kf_X11_35 ?_
    refine z_iconst (v := 4) dX11_dips_45 rfl ?_
    refine z_iload_n (i := 2) (x := a1) dX11_dips_46 rfl rfl ?_
    refine z_imul dX11_dips_47 ?_
    refine z_iload (i := 4) (x := 2) dX11_dips_48 rfl ?_
    refine z_iadd dX11_dips_50 ?_
    refine z_iald dX11_dips_51 hs47 ?_
    refine z_icmp_ge 57 dX11_dips_52 (by decide) (fun c16 => ?_) (fun c16 => ?_)
    · refine z_iincC (i := 4) (x := 2) (v := 3) (lv' := [some (.ref 40), some (.int a0), some (.int a1), some (.int v14), some (.int 3)]) dX11_dips_57 rfl (by decide) (by decide) rfl rfl ?_
      refine z_goto 25 dX11_dips_60 (by decide) ?_
      exact hJ_F_X11_dips_J25 v14 D15
    · refine z_iconst (v := 0) dX11_dips_55 rfl ?_
      exact z_ireturn dX11_dips_56 z_rWI rfl (by decide) (by decide)
  have hJ_F_X11_dips_J25xx : ∀ (v11 : Int32) (D12 : z_Dat) , z_F l M_X11_dips (40, 640, 0, 0) 0 0 25 [some (.ref 40), some (.int a0), some (.int a1), some (.int v11), some (.int 1)] [] S D12 (z_ko (z_kI S)) (F_X11_dips_J25xx a0 a1 v11 D12) := by
    intro v11 D12
    unfold F_X11_dips_J25xx
    refine z_iload (i := 4) (x := 1) dX11_dips_25 rfl ?_
    refine z_iconst (v := 3) dX11_dips_27 rfl ?_
    refine z_icmp_geN 63 dX11_dips_28 (by decide) (by decide) ?_
    refine z_aload_n (i := 0) (x := 40) dX11_dips_31 rfl rfl ?_
    refine z_getR (j := 39) dX11_dips_32 kl_11 hs40 (by decide) rfl rfl kf_X11_68 ?_
    refine z_bipush (v := 56) dX11_dips_35 (by decide) ?_
    refine z_iload (i := 4) (x := 1) dX11_dips_37 rfl ?_
    refine z_iadd dX11_dips_39 ?_
    refine z_topc (y := 57) (by decide) ?_
    refine z_ialdC dX11_dips_40 hs58 (vp_in_iff.mpr (by decide)) ?_
    refine z_aload_n (i := 0) (x := 40) dX11_dips_41 rfl rfl ?_
    refine z_getR (j := 14) dX11_dips_42 kl_11 hs40 (by decide) rfl rfl kf_X11_35 ?_
    refine z_iconst (v := 4) dX11_dips_45 rfl ?_
    refine z_iload_n (i := 2) (x := a1) dX11_dips_46 rfl rfl ?_
    refine z_imul dX11_dips_47 ?_
    refine z_iload (i := 4) (x := 1) dX11_dips_48 rfl ?_
    refine z_iadd dX11_dips_50 ?_
    refine z_iald dX11_dips_51 hs47 ?_
    refine z_icmp_ge 57 dX11_dips_52 (by decide) (fun c13 => ?_) (fun c13 => ?_)
    · refine z_iincC (i := 4) (x := 1) (v := 2) (lv' := [some (.ref 40), some (.int a0), some (.int a1), some (.int v11), some (.int 2)]) dX11_dips_57 rfl (by decide) (by decide) rfl rfl ?_
      refine z_goto 25 dX11_dips_60 (by decide) ?_
      exact hJ_F_X11_dips_J25x v11 D12
    · refine z_iconst (v := 0) dX11_dips_55 rfl ?_
      exact z_ireturn dX11_dips_56 z_rWI rfl (by decide) (by decide)
  have hJ_F_X11_dips_J25xxx : ∀ (v8 : Int32) (D9 : z_Dat) , z_F l M_X11_dips (40, 640, 0, 0) 0 0 25 [some (.ref 40), some (.int a0), some (.int a1), some (.int v8), some (.int 0)] [] S D9 (z_ko (z_kI S)) (F_X11_dips_J25xxx a0 a1 v8 D9) := by
    intro v8 D9
    unfold F_X11_dips_J25xxx
    refine z_iload (i := 4) (x := 0) dX11_dips_25 rfl ?_
    refine z_iconst (v := 3) dX11_dips_27 rfl ?_
    refine z_icmp_geN 63 dX11_dips_28 (by decide) (by decide) ?_
    refine z_aload_n (i := 0) (x := 40) dX11_dips_31 rfl rfl ?_
    refine z_getR (j := 39) dX11_dips_32 kl_11 hs40 (by decide) rfl rfl kf_X11_68 ?_
    refine z_bipush (v := 56) dX11_dips_35 (by decide) ?_
    refine z_iload (i := 4) (x := 0) dX11_dips_37 rfl ?_
    refine z_iadd dX11_dips_39 ?_
    refine z_topc (y := 56) (by decide) ?_
    refine z_ialdC dX11_dips_40 hs58 (vp_in_iff.mpr (by decide)) ?_
    refine z_aload_n (i := 0) (x := 40) dX11_dips_41 rfl rfl ?_
    refine z_getR (j := 14) dX11_dips_42 kl_11 hs40 (by decide) rfl rfl kf_X11_35 ?_
    refine z_iconst (v := 4) dX11_dips_45 rfl ?_
    refine z_iload_n (i := 2) (x := a1) dX11_dips_46 rfl rfl ?_
    refine z_imul dX11_dips_47 ?_
    refine z_iload (i := 4) (x := 0) dX11_dips_48 rfl ?_
    refine z_iadd dX11_dips_50 ?_
    refine z_iald dX11_dips_51 hs47 ?_
    refine z_icmp_ge 57 dX11_dips_52 (by decide) (fun c10 => ?_) (fun c10 => ?_)
    · refine z_iincC (i := 4) (x := 0) (v := 1) (lv' := [some (.ref 40), some (.int a0), some (.int a1), some (.int v8), some (.int 1)]) dX11_dips_57 rfl (by decide) (by decide) rfl rfl ?_
      refine z_goto 25 dX11_dips_60 (by decide) ?_
      exact hJ_F_X11_dips_J25xx v8 D9
    · refine z_iconst (v := 0) dX11_dips_55 rfl ?_
      exact z_ireturn dX11_dips_56 z_rWI rfl (by decide) (by decide)
  refine z_aload_n (i := 0) (x := 40) dX11_dips_0 rfl rfl ?_
  refine z_aload_n (i := 0) (x := 40) dX11_dips_1 rfl rfl ?_
  refine z_iload_n (i := 1) (x := a0) dX11_dips_2 rfl rfl ?_
  refine z_cR (As := [.ref 40, .int a0]) (rest := [.ref 40]) (em_X11_shadeOf hl hW a0 D) (fun o7 h => z_runV 339 1 h rfl kk_X11_339 hs40 kl_11.1 kq_X11_shadeOf rfl (Nat.le_of_ble_eq_true rfl) ⟨Nat.le_of_ble_eq_true rfl, Nat.le_of_ble_eq_true rfl, Nat.le_of_ble_eq_true rfl, Nat.le_of_ble_eq_true rfl⟩ dX11_dips_3) z_gWI (fun a_2 hz1 => ?_)
  refine z_iload_n (i := 2) (x := a1) dX11_dips_6 rfl rfl ?_
  refine z_cR (As := [.ref 40, .int a_2, .int a1]) (rest := []) (em_X11_dippedIn hl hW a_2 a1 D) (fun o7 h => z_runV 352 2 h rfl kk_X11_352 hs40 kl_11.1 kq_X11_dippedIn rfl (Nat.le_of_ble_eq_true rfl) ⟨Nat.le_of_ble_eq_true rfl, Nat.le_of_ble_eq_true rfl, Nat.le_of_ble_eq_true rfl, Nat.le_of_ble_eq_true rfl⟩ dX11_dips_7) z_gWI (fun a_4 hz3 => ?_)
  refine z_istore_n (i := 3) (x := a_4) (lv' := [some (.ref 40), some (.int a0), some (.int a1), some (.int a_4), none]) dX11_dips_10 rfl (by decide) rfl rfl ?_
  refine z_iload_n (i := 3) (x := a_4) dX11_dips_11 rfl rfl ?_
  refine z_aload_n (i := 0) (x := 40) dX11_dips_12 rfl rfl ?_
  refine z_iload_n (i := 1) (x := a0) dX11_dips_13 rfl rfl ?_
  refine z_cR (As := [.ref 40, .int a0]) (rest := [.int a_4]) (em_X11_shadeOf hl hW a0 D) (fun o7 h => z_runV 339 1 h rfl kk_X11_339 hs40 kl_11.1 kq_X11_shadeOf rfl (Nat.le_of_ble_eq_true rfl) ⟨Nat.le_of_ble_eq_true rfl, Nat.le_of_ble_eq_true rfl, Nat.le_of_ble_eq_true rfl, Nat.le_of_ble_eq_true rfl⟩ dX11_dips_14) z_gWI (fun a_6 hz5 => ?_)
  refine z_icmp_ne 22 dX11_dips_17 (by decide) (fun c7 => ?_) (fun c7 => ?_)
  · refine z_iconst (v := 0) dX11_dips_20 rfl ?_
    exact z_ireturn dX11_dips_21 z_rWI rfl (by decide) (by decide)
  · refine z_iconst (v := 0) dX11_dips_22 rfl ?_
    refine z_istore (i := 4) (x := 0) (lv' := [some (.ref 40), some (.int a0), some (.int a1), some (.int a_4), some (.int 0)]) dX11_dips_23 (by decide) rfl rfl ?_
    exact hJ_F_X11_dips_J25xxx a_4 D

def F_X11_washes_J12 (a0 : Int32) (D13 : z_Dat) : Option (Int32 × z_Dat) :=
  if z_inb (24 + a0) 60 then z_let (z_up D13 58 (z_ix (24 + a0)) 0) (fun D14 => some (1, D14)) else none
def F_X11_washes_J48 (a0 : Int32) (D12 : z_Dat) : Option (Int32 × z_Dat) :=
  F_X11_washes_J12 a0 D12
def F_X11_washes_J12x (a0 : Int32) (D10 : z_Dat) : Option (Int32 × z_Dat) :=
  if z_inb ((0 + (3 * a0)) + 2) 60 then (if (D10 58 (z_ix ((0 + (3 * a0)) + 2))) ≤ 0 then (F_X11_washes_J48 a0 D10)
  else (if z_inb ((0 + (3 * a0)) + 2) 60 then (if z_inb ((0 + (3 * a0)) + 2) 60 then z_let (z_up D10 58 (z_ix ((0 + (3 * a0)) + 2)) ((D10 58 (z_ix ((0 + (3 * a0)) + 2))) - 1)) (fun D15 => F_X11_washes_J48 a0 D15) else none) else none)) else none
def F_X11_washes_J48x (a0 : Int32) (D9 : z_Dat) : Option (Int32 × z_Dat) :=
  F_X11_washes_J12x a0 D9
def F_X11_washes_J12xx (a0 : Int32) (D7 : z_Dat) : Option (Int32 × z_Dat) :=
  if z_inb ((0 + (3 * a0)) + 1) 60 then (if (D7 58 (z_ix ((0 + (3 * a0)) + 1))) ≤ 0 then (F_X11_washes_J48x a0 D7)
  else (if z_inb ((0 + (3 * a0)) + 1) 60 then (if z_inb ((0 + (3 * a0)) + 1) 60 then z_let (z_up D7 58 (z_ix ((0 + (3 * a0)) + 1)) ((D7 58 (z_ix ((0 + (3 * a0)) + 1))) - 1)) (fun D16 => F_X11_washes_J48x a0 D16) else none) else none)) else none
def F_X11_washes_J48xx (a0 : Int32) (D6 : z_Dat) : Option (Int32 × z_Dat) :=
  F_X11_washes_J12xx a0 D6
def F_X11_washes_J12xxx (a0 : Int32) (D4 : z_Dat) : Option (Int32 × z_Dat) :=
  if z_inb ((0 + (3 * a0)) + 0) 60 then (if (D4 58 (z_ix ((0 + (3 * a0)) + 0))) ≤ 0 then (F_X11_washes_J48xx a0 D4)
  else (if z_inb ((0 + (3 * a0)) + 0) 60 then (if z_inb ((0 + (3 * a0)) + 0) 60 then z_let (z_up D4 58 (z_ix ((0 + (3 * a0)) + 0)) ((D4 58 (z_ix ((0 + (3 * a0)) + 0))) - 1)) (fun D17 => F_X11_washes_J48xx a0 D17) else none) else none)) else none
def F_X11_washes (a0 : Int32) (D : z_Dat) : Option (Int32 × z_Dat) :=
  z_bd (F_X11_shadeOf a0 D) (fun a_2 => if a_2 = 0 then (some (0, D))
  else (F_X11_washes_J12xxx a0 D))
set_option maxRecDepth 100000 in
set_option maxHeartbeats 4000000 in
theorem em_X11_washes {l : Launch} {S : List z_Shp} {oW : Nat} (hl : l.stackTraces = false) (hW : z_W S oW) (a0 : Int32) (D : z_Dat) : ∀ out, z_ko (z_kI S) (F_X11_washes a0 D) out → z_EM l M_X11_washes (30, 580, 0, 0) [.ref 40, .int a0] S D out := by
  have hs40 : S[40]? = some (13, 55, [none, some (some 41), none, none, none, none, none, none, none, some (some 42), some (some 43), some (some 44), some (some 45), some (some 46), some (some 47), some (some 48), none, none, none, none, none, none, some (some 49), some (some 50), some (some 51), some (some 52), some (some 53), none, none, some (some 54), some (some 55), some (some 56), none, none, none, none, none, none, some (some 57), some (some 58), some (some 59), some (some 60), some (some 61), none, some (some 62), some (some 63), none, none, some (some 64), some (some 65), none, none, none, some (some 66), none]) := hW.1 40 _ rfl
  have hs58 : S[58]? = some (0, 60, []) := hW.1 58 _ rfl
  refine z_meth hl rfl kp_X11 (Nat.le_of_ble_eq_true rfl) (lv := [some (.ref 40), some (.int a0), none]) rfl ?_
  unfold F_X11_washes
  have hJ_F_X11_washes_J12 : ∀ (D13 : z_Dat) , z_F l M_X11_washes (30, 580, 0, 0) 0 0 12 [some (.ref 40), some (.int a0), some (.int 3)] [] S D13 (z_ko (z_kI S)) (F_X11_washes_J12 a0 D13) := by
    intro D13
    unfold F_X11_washes_J12
    refine z_iload_n (i := 2) (x := 3) dX11_washes_12 rfl rfl ?_
    refine z_iconst (v := 3) dX11_washes_13 rfl ?_
    refine z_icmp_geJ 54 dX11_washes_14 (by decide) (by decide) ?_
    refine z_aload_n (i := 0) (x := 40) dX11_washes_54 rfl rfl ?_
    refine z_getR (j := 39) dX11_washes_55 kl_11 hs40 (by decide) rfl rfl kf_X11_68 ?_
    refine z_bipush (v := 24) dX11_washes_58 (by decide) ?_
    refine z_iload_n (i := 1) (x := a0) dX11_washes_60 rfl rfl ?_
    refine z_iadd dX11_washes_61 ?_
    refine z_iconst (v := 0) dX11_washes_62 rfl ?_
    refine z_iast dX11_washes_63 hs58 (fun D14 => ?_)
    refine z_iconst (v := 1) dX11_washes_64 rfl ?_
    exact z_ireturn dX11_washes_65 z_rWI rfl (by decide) (by decide)
  have hJ_F_X11_washes_J48 : ∀ (D12 : z_Dat) , z_F l M_X11_washes (30, 580, 0, 0) 0 0 48 [some (.ref 40), some (.int a0), some (.int 2)] [] S D12 (z_ko (z_kI S)) (F_X11_washes_J48 a0 D12) := by
    intro D12
    unfold F_X11_washes_J48
    refine z_iincC (i := 2) (x := 2) (v := 3) (lv' := [some (.ref 40), some (.int a0), some (.int 3)]) dX11_washes_48 rfl (by decide) (by decide) rfl rfl ?_
    refine z_goto 12 dX11_washes_51 (by decide) ?_
    exact hJ_F_X11_washes_J12 D12
  have hJ_F_X11_washes_J12x : ∀ (D10 : z_Dat) , z_F l M_X11_washes (30, 580, 0, 0) 0 0 12 [some (.ref 40), some (.int a0), some (.int 2)] [] S D10 (z_ko (z_kI S)) (F_X11_washes_J12x a0 D10) := by
    intro D10
    unfold F_X11_washes_J12x
    refine z_iload_n (i := 2) (x := 2) dX11_washes_12 rfl rfl ?_
    refine z_iconst (v := 3) dX11_washes_13 rfl ?_
    refine z_icmp_geN 54 dX11_washes_14 (by decide) (by decide) ?_
    refine z_aload_n (i := 0) (x := 40) dX11_washes_17 rfl rfl ?_
    refine z_getR (j := 39) dX11_washes_18 kl_11 hs40 (by decide) rfl rfl kf_X11_68 ?_
    refine z_iconst (v := 0) dX11_washes_21 rfl ?_
    refine z_iconst (v := 3) dX11_washes_22 rfl ?_
    refine z_iload_n (i := 1) (x := a0) dX11_washes_23 rfl rfl ?_
    refine z_imul dX11_washes_24 ?_
    refine z_iadd dX11_washes_25 ?_
    refine z_iload_n (i := 2) (x := 2) dX11_washes_26 rfl rfl ?_
    refine z_iadd dX11_washes_27 ?_
    refine z_iald dX11_washes_28 hs58 ?_
    refine z_if_le 48 dX11_washes_29 (by decide) (fun c11 => ?_) (fun c11 => ?_)
    · exact hJ_F_X11_washes_J48 D10
    · refine z_aload_n (i := 0) (x := 40) dX11_washes_32 rfl rfl ?_
      refine z_getR (j := 39) dX11_washes_33 kl_11 hs40 (by decide) rfl rfl kf_X11_68 ?_
      refine z_iconst (v := 0) dX11_washes_36 rfl ?_
      refine z_iconst (v := 3) dX11_washes_37 rfl ?_
      refine z_iload_n (i := 1) (x := a0) dX11_washes_38 rfl rfl ?_
      refine z_imul dX11_washes_39 ?_
      refine z_iadd dX11_washes_40 ?_
      refine z_iload_n (i := 2) (x := 2) dX11_washes_41 rfl rfl ?_
      refine z_iadd dX11_washes_42 ?_
      refine z_dup2 dX11_washes_43 rfl rfl ?_
      refine z_iald dX11_washes_44 hs58 ?_
      refine z_iconst (v := 1) dX11_washes_45 rfl ?_
      refine z_isub dX11_washes_46 ?_
      refine z_iast dX11_washes_47 hs58 (fun D15 => ?_)
      exact hJ_F_X11_washes_J48 D15
  have hJ_F_X11_washes_J48x : ∀ (D9 : z_Dat) , z_F l M_X11_washes (30, 580, 0, 0) 0 0 48 [some (.ref 40), some (.int a0), some (.int 1)] [] S D9 (z_ko (z_kI S)) (F_X11_washes_J48x a0 D9) := by
    intro D9
    unfold F_X11_washes_J48x
    refine z_iincC (i := 2) (x := 1) (v := 2) (lv' := [some (.ref 40), some (.int a0), some (.int 2)]) dX11_washes_48 rfl (by decide) (by decide) rfl rfl ?_
    refine z_goto 12 dX11_washes_51 (by decide) ?_
    exact hJ_F_X11_washes_J12x D9
  have hJ_F_X11_washes_J12xx : ∀ (D7 : z_Dat) , z_F l M_X11_washes (30, 580, 0, 0) 0 0 12 [some (.ref 40), some (.int a0), some (.int 1)] [] S D7 (z_ko (z_kI S)) (F_X11_washes_J12xx a0 D7) := by
    intro D7
    unfold F_X11_washes_J12xx
    refine z_iload_n (i := 2) (x := 1) dX11_washes_12 rfl rfl ?_
    refine z_iconst (v := 3) dX11_washes_13 rfl ?_
    refine z_icmp_geN 54 dX11_washes_14 (by decide) (by decide) ?_
    refine z_aload_n (i := 0) (x := 40) dX11_washes_17 rfl rfl ?_
    refine z_getR (j := 39) dX11_washes_18 kl_11 hs40 (by decide) rfl rfl kf_X11_68 ?_
    refine z_iconst (v := 0) dX11_washes_21 rfl ?_
    refine z_iconst (v := 3) dX11_washes_22 rfl ?_
    refine z_iload_n (i := 1) (x := a0) dX11_washes_23 rfl rfl ?_
    refine z_imul dX11_washes_24 ?_
    refine z_iadd dX11_washes_25 ?_
    refine z_iload_n (i := 2) (x := 1) dX11_washes_26 rfl rfl ?_
    refine z_iadd dX11_washes_27 ?_
    refine z_iald dX11_washes_28 hs58 ?_
    refine z_if_le 48 dX11_washes_29 (by decide) (fun c8 => ?_) (fun c8 => ?_)
    · exact hJ_F_X11_washes_J48x D7
    · refine z_aload_n (i := 0) (x := 40) dX11_washes_32 rfl rfl ?_
      refine z_getR (j := 39) dX11_washes_33 kl_11 hs40 (by decide) rfl rfl kf_X11_68 ?_
      refine z_iconst (v := 0) dX11_washes_36 rfl ?_
      refine z_iconst (v := 3) dX11_washes_37 rfl ?_
      refine z_iload_n (i := 1) (x := a0) dX11_washes_38 rfl rfl ?_
      refine z_imul dX11_washes_39 ?_
      refine z_iadd dX11_washes_40 ?_
      refine z_iload_n (i := 2) (x := 1) dX11_washes_41 rfl rfl ?_
      refine z_iadd dX11_washes_42 ?_
      refine z_dup2 dX11_washes_43 rfl rfl ?_
      refine z_iald dX11_washes_44 hs58 ?_
      refine z_iconst (v := 1) dX11_washes_45 rfl ?_
      refine z_isub dX11_washes_46 ?_
      refine z_iast dX11_washes_47 hs58 (fun D16 => ?_)
      exact hJ_F_X11_washes_J48x D16
  have hJ_F_X11_washes_J48xx : ∀ (D6 : z_Dat) , z_F l M_X11_washes (30, 580, 0, 0) 0 0 48 [some (.ref 40), some (.int a0), some (.int 0)] [] S D6 (z_ko (z_kI S)) (F_X11_washes_J48xx a0 D6) := by
    intro D6
    unfold F_X11_washes_J48xx
    refine z_iincC (i := 2) (x := 0) (v := 1) (lv' := [some (.ref 40), some (.int a0), some (.int 1)]) dX11_washes_48 rfl (by decide) (by decide) rfl rfl ?_
    refine z_goto 12 dX11_washes_51 (by decide) ?_
    exact hJ_F_X11_washes_J12xx D6
  have hJ_F_X11_washes_J12xxx : ∀ (D4 : z_Dat) , z_F l M_X11_washes (30, 580, 0, 0) 0 0 12 [some (.ref 40), some (.int a0), some (.int 0)] [] S D4 (z_ko (z_kI S)) (F_X11_washes_J12xxx a0 D4) := by
    intro D4
    unfold F_X11_washes_J12xxx
    refine z_iload_n (i := 2) (x := 0) dX11_washes_12 rfl rfl ?_
    refine z_iconst (v := 3) dX11_washes_13 rfl ?_
    refine z_icmp_geN 54 dX11_washes_14 (by decide) (by decide) ?_
    refine z_aload_n (i := 0) (x := 40) dX11_washes_17 rfl rfl ?_
    refine z_getR (j := 39) dX11_washes_18 kl_11 hs40 (by decide) rfl rfl kf_X11_68 ?_
    refine z_iconst (v := 0) dX11_washes_21 rfl ?_
    refine z_iconst (v := 3) dX11_washes_22 rfl ?_
    refine z_iload_n (i := 1) (x := a0) dX11_washes_23 rfl rfl ?_
    refine z_imul dX11_washes_24 ?_
    refine z_iadd dX11_washes_25 ?_
    refine z_iload_n (i := 2) (x := 0) dX11_washes_26 rfl rfl ?_
    refine z_iadd dX11_washes_27 ?_
    refine z_iald dX11_washes_28 hs58 ?_
    refine z_if_le 48 dX11_washes_29 (by decide) (fun c5 => ?_) (fun c5 => ?_)
    · exact hJ_F_X11_washes_J48xx D4
    · refine z_aload_n (i := 0) (x := 40) dX11_washes_32 rfl rfl ?_
      refine z_getR (j := 39) dX11_washes_33 kl_11 hs40 (by decide) rfl rfl kf_X11_68 ?_
      refine z_iconst (v := 0) dX11_washes_36 rfl ?_
      refine z_iconst (v := 3) dX11_washes_37 rfl ?_
      refine z_iload_n (i := 1) (x := a0) dX11_washes_38 rfl rfl ?_
      refine z_imul dX11_washes_39 ?_
      refine z_iadd dX11_washes_40 ?_
      refine z_iload_n (i := 2) (x := 0) dX11_washes_41 rfl rfl ?_
      refine z_iadd dX11_washes_42 ?_
      refine z_dup2 dX11_washes_43 rfl rfl ?_
      refine z_iald dX11_washes_44 hs58 ?_
      refine z_iconst (v := 1) dX11_washes_45 rfl ?_
      refine z_isub dX11_washes_46 ?_
      refine z_iast dX11_washes_47 hs58 (fun D17 => ?_)
      exact hJ_F_X11_washes_J48xx D17
  refine z_aload_n (i := 0) (x := 40) dX11_washes_0 rfl rfl ?_
  refine z_iload_n (i := 1) (x := a0) dX11_washes_1 rfl rfl ?_
  refine z_cR (As := [.ref 40, .int a0]) (rest := []) (em_X11_shadeOf hl hW a0 D) (fun o7 h => z_runV 339 1 h rfl kk_X11_339 hs40 kl_11.1 kq_X11_shadeOf rfl (Nat.le_of_ble_eq_true rfl) ⟨Nat.le_of_ble_eq_true rfl, Nat.le_of_ble_eq_true rfl, Nat.le_of_ble_eq_true rfl, Nat.le_of_ble_eq_true rfl⟩ dX11_washes_2) z_gWI (fun a_2 hz1 => ?_)
  refine z_if_ne 10 dX11_washes_5 (by decide) (fun c3 => ?_) (fun c3 => ?_)
  · refine z_iconst (v := 0) dX11_washes_8 rfl ?_
    exact z_ireturn dX11_washes_9 z_rWI rfl (by decide) (by decide)
  · refine z_iconst (v := 0) dX11_washes_10 rfl ?_
    refine z_istore_n (i := 2) (x := 0) (lv' := [some (.ref 40), some (.int a0), some (.int 0)]) dX11_washes_11 rfl (by decide) rfl rfl ?_
    exact hJ_F_X11_washes_J12xxx D

def F_X11_meanShade_J49 (v29 : Int32) (v30 : Int32) : Option Int32 :=
  some v30
def F_X11_meanShade_L60 (v21 : Int32) (v22 : Int32) (D : z_Dat) (kc25 : ((Int32 × Int32) → Option Int32)) (v23 : Int32) (v24 : Int32) : Option Int32 :=
  if (D 40 20) ≤ v24 then (if v21 = 0 then none else (z_let ((10 * v22) + (v23 / v21)) (fun v28 => F_X11_meanShade_J49 v21 v28)))
  else (if z_inb (24 + v24) 60 then (if (D 58 (z_ix (24 + v24))) = 0 then (if z_inb ((0 + (3 * v24)) + 2) 60 then (z_let (v23 + (D 58 (z_ix ((0 + (3 * v24)) + 2)))) (fun v32 => z_let (v24 + 1) (fun v33 => kc25 (v32, v33)))) else none)
  else (z_let (v23 + 0) (fun v34 => z_let (v24 + 1) (fun v35 => kc25 (v34, v35))))) else none)
def F_X11_meanShade_J49x (N : Nat) (D : z_Dat) (v21 : Int32) (v22 : Int32) : Option Int32 :=
  z_loop (fun kc25 s => F_X11_meanShade_L60 v21 v22 D kc25 s.1 s.2) N (0, 0)
def F_X11_meanShade_L60x (N : Nat) (v13 : Int32) (v14 : Int32) (D : z_Dat) (kc17 : ((Int32 × Int32) → Option Int32)) (v15 : Int32) (v16 : Int32) : Option Int32 :=
  if (D 40 20) ≤ v16 then (if v13 = 0 then none else (z_let ((10 * v14) + (v15 / v13)) (fun v20 => F_X11_meanShade_J49x N D v13 v20)))
  else (if z_inb (24 + v16) 60 then (if (D 58 (z_ix (24 + v16))) = 0 then (if z_inb ((0 + (3 * v16)) + 1) 60 then (z_let (v15 + (D 58 (z_ix ((0 + (3 * v16)) + 1)))) (fun v38 => z_let (v16 + 1) (fun v39 => kc17 (v38, v39)))) else none)
  else (z_let (v15 + 0) (fun v40 => z_let (v16 + 1) (fun v41 => kc17 (v40, v41))))) else none)
def F_X11_meanShade_J49xx (N : Nat) (D : z_Dat) (v13 : Int32) (v14 : Int32) : Option Int32 :=
  z_loop (fun kc17 s => F_X11_meanShade_L60x N v13 v14 D kc17 s.1 s.2) N (0, 0)
def F_X11_meanShade_L60xx (N : Nat) (v6 : Int32) (D : z_Dat) (kc9 : ((Int32 × Int32) → Option Int32)) (v7 : Int32) (v8 : Int32) : Option Int32 :=
  if (D 40 20) ≤ v8 then (if v6 = 0 then none else (z_let (0 + (v7 / v6)) (fun v12 => F_X11_meanShade_J49xx N D v6 v12)))
  else (if z_inb (24 + v8) 60 then (if (D 58 (z_ix (24 + v8))) = 0 then (if z_inb ((0 + (3 * v8)) + 0) 60 then (z_let (v7 + (D 58 (z_ix ((0 + (3 * v8)) + 0)))) (fun v44 => z_let (v8 + 1) (fun v45 => kc9 (v44, v45)))) else none)
  else (z_let (v7 + 0) (fun v46 => z_let (v8 + 1) (fun v47 => kc9 (v46, v47))))) else none)
def F_X11_meanShade_J49xxx (N : Nat) (D : z_Dat) (v6 : Int32) : Option Int32 :=
  z_loop (fun kc9 s => F_X11_meanShade_L60xx N v6 D kc9 s.1 s.2) N (0, 0)
def F_X11_meanShade_L4 (N : Nat) (D : z_Dat) (kc3 : ((Int32 × Int32) → Option Int32)) (v1 : Int32) (v2 : Int32) : Option Int32 :=
  if (D 40 20) ≤ v2 then (if 2 ≤ v1 then (F_X11_meanShade_J49xxx N D v1)
  else (some (-1)))
  else (if z_inb (24 + v2) 60 then (if (D 58 (z_ix (24 + v2))) = 0 then (z_let (v1 + 1) (fun v50 => z_let (v2 + 1) (fun v51 => kc3 (v50, v51))))
  else (z_let (v1 + 0) (fun v52 => z_let (v2 + 1) (fun v53 => kc3 (v52, v53))))) else none)
def F_X11_meanShade (N : Nat) (D : z_Dat) : Option Int32 :=
  z_loop (fun kc3 s => F_X11_meanShade_L4 N D kc3 s.1 s.2) N (0, 0)
set_option maxRecDepth 100000 in
set_option maxHeartbeats 4000000 in
theorem em_X11_meanShade {l : Launch} {S : List z_Shp} {oW : Nat} (hl : l.stackTraces = false) (hW : z_W S oW) (N : Nat) (D : z_Dat) : ∀ out, z_ko (z_kR S D) (F_X11_meanShade N D) out → z_EM l M_X11_meanShade (20, 520, 0, 0) [.ref 40] S D out := by
  have hs40 : S[40]? = some (13, 55, [none, some (some 41), none, none, none, none, none, none, none, some (some 42), some (some 43), some (some 44), some (some 45), some (some 46), some (some 47), some (some 48), none, none, none, none, none, none, some (some 49), some (some 50), some (some 51), some (some 52), some (some 53), none, none, some (some 54), some (some 55), some (some 56), none, none, none, none, none, none, some (some 57), some (some 58), some (some 59), some (some 60), some (some 61), none, some (some 62), some (some 63), none, none, some (some 64), some (some 65), none, none, none, some (some 66), none]) := hW.1 40 _ rfl
  have hs58 : S[58]? = some (0, 60, []) := hW.1 58 _ rfl
  refine z_meth hl rfl kp_X11 (Nat.le_of_ble_eq_true rfl) (lv := [some (.ref 40), none, none, none, none, none]) rfl ?_
  unfold F_X11_meanShade
  have hJ_F_X11_meanShade_J49 : ∀ (v29 : Int32) (v30 : Int32) , z_F l M_X11_meanShade (20, 520, 0, 0) 0 0 49 [some (.ref 40), some (.int v29), some (.int v30), some (.int 3), none, none] [] S D (z_ko (z_kR S D)) (F_X11_meanShade_J49 v29 v30) := by
    intro v29 v30
    unfold F_X11_meanShade_J49
    refine z_iload_n (i := 3) (x := 3) dX11_meanShade_49 rfl rfl ?_
    refine z_iconst (v := 3) dX11_meanShade_50 rfl ?_
    refine z_icmp_geJ 126 dX11_meanShade_51 (by decide) (by decide) ?_
    refine z_iload_n (i := 2) (x := v30) dX11_meanShade_126 rfl rfl ?_
    exact z_ireturn dX11_meanShade_127 z_rR rfl (by decide) (by decide)
  have hJ_F_X11_meanShade_J49x : ∀ (v21 : Int32) (v22 : Int32) , z_F l M_X11_meanShade (20, 520, 0, 0) 0 0 49 [some (.ref 40), some (.int v21), some (.int v22), some (.int 2), none, none] [] S D (z_ko (z_kR S D)) (F_X11_meanShade_J49x N D v21 v22) := by
    intro v21 v22
    unfold F_X11_meanShade_J49x
    refine z_iload_n (i := 3) (x := 2) dX11_meanShade_49 rfl rfl ?_
    refine z_iconst (v := 3) dX11_meanShade_50 rfl ?_
    refine z_icmp_geN 126 dX11_meanShade_51 (by decide) (by decide) ?_
    refine z_iconst (v := 0) dX11_meanShade_54 rfl ?_
    refine z_istore (i := 4) (x := 0) (lv' := [some (.ref 40), some (.int v21), some (.int v22), some (.int 2), some (.int 0), none]) dX11_meanShade_55 (by decide) rfl rfl ?_
    refine z_iconst (v := 0) dX11_meanShade_57 rfl ?_
    refine z_istore (i := 5) (x := 0) (lv' := [some (.ref 40), some (.int v21), some (.int v22), some (.int 2), some (.int 0), some (.int 0)]) dX11_meanShade_58 (by decide) rfl rfl ?_
    refine z_loops (lvOf := fun s : Int32 × Int32 => [some (.ref 40), some (.int v21), some (.int v22), some (.int 2), some (.int s.1), some (.int s.2)]) (dOf := fun s : Int32 × Int32 => D) (fun kc25 hkc25 s => ?_) N (0, 0)
    obtain ⟨v23, v24⟩ := s
    show z_F _ _ _ _ _ 60 [some (.ref 40), some (.int v21), some (.int v22), some (.int 2), some (.int v23), some (.int v24)] [] S D _ (F_X11_meanShade_L60 v21 v22 D kc25 v23 v24)
    unfold F_X11_meanShade_L60
    refine z_iload (i := 5) (x := v24) dX11_meanShade_60 rfl ?_
    refine z_aload_n (i := 0) (x := 40) dX11_meanShade_62 rfl rfl ?_
    refine z_getI (j := 20) dX11_meanShade_63 kl_11 hs40 (by decide) rfl rfl kf_X11_159 ?_
    refine z_icmp_ge 110 dX11_meanShade_66 (by decide) (fun c26 => ?_) (fun c26 => ?_)
    · refine z_bipush (v := 10) dX11_meanShade_110 (by decide) ?_
      refine z_iload_n (i := 2) (x := v22) dX11_meanShade_112 rfl rfl ?_
      refine z_imul dX11_meanShade_113 ?_
      refine z_iload (i := 4) (x := v23) dX11_meanShade_114 rfl ?_
      refine z_iload_n (i := 1) (x := v21) dX11_meanShade_116 rfl rfl ?_
      refine z_idiv dX11_meanShade_117 (fun c27 => ?_)
      refine z_iadd dX11_meanShade_118 ?_
      refine z_topi (fun v28 => ?_)
      refine z_istore_n (i := 2) (x := v28) (lv' := [some (.ref 40), some (.int v21), some (.int v28), some (.int 2), some (.int v23), some (.int v24)]) dX11_meanShade_119 rfl (by decide) rfl rfl ?_
      refine z_iincC (i := 3) (x := 2) (v := 3) (lv' := [some (.ref 40), some (.int v21), some (.int v28), some (.int 3), some (.int v23), some (.int v24)]) dX11_meanShade_120 rfl (by decide) (by decide) rfl rfl ?_
      refine z_goto 49 dX11_meanShade_123 (by decide) ?_
      refine z_weak (lv' := [some (.ref 40), some (.int v21), some (.int v28), some (.int 3), none, none]) ⟨Or.inr rfl, ⟨Or.inr rfl, ⟨Or.inr rfl, ⟨Or.inr rfl, ⟨Or.inl rfl, ⟨Or.inl rfl, trivial⟩⟩⟩⟩⟩⟩ ?_
      exact hJ_F_X11_meanShade_J49 v21 v28
    · refine z_iload (i := 4) (x := v23) dX11_meanShade_69 rfl ?_
      refine z_aload_n (i := 0) (x := 40) dX11_meanShade_71 rfl rfl ?_
      refine z_getR (j := 39) dX11_meanShade_72 kl_11 hs40 (by decide) rfl rfl kf_X11_68 ?_
      refine z_bipush (v := 24) dX11_meanShade_75 (by decide) ?_
      refine z_iload (i := 5) (x := v24) dX11_meanShade_77 rfl ?_
      refine z_iadd dX11_meanShade_79 ?_
      refine z_iald dX11_meanShade_80 hs58 ?_
      refine z_if_ne 100 dX11_meanShade_81 (by decide) (fun c31 => ?_) (fun c31 => ?_)
      · refine z_aload_n (i := 0) (x := 40) dX11_meanShade_84 rfl rfl ?_
        refine z_getR (j := 39) dX11_meanShade_85 kl_11 hs40 (by decide) rfl rfl kf_X11_68 ?_
        refine z_iconst (v := 0) dX11_meanShade_88 rfl ?_
        refine z_iconst (v := 3) dX11_meanShade_89 rfl ?_
        refine z_iload (i := 5) (x := v24) dX11_meanShade_90 rfl ?_
        refine z_imul dX11_meanShade_92 ?_
        refine z_iadd dX11_meanShade_93 ?_
        refine z_iload_n (i := 3) (x := 2) dX11_meanShade_94 rfl rfl ?_
        refine z_iadd dX11_meanShade_95 ?_
        refine z_iald dX11_meanShade_96 hs58 ?_
        refine z_goto 101 dX11_meanShade_97 (by decide) ?_
        refine z_iadd dX11_meanShade_101 ?_
        refine z_topi (fun v32 => ?_)
        refine z_istore (i := 4) (x := v32) (lv' := [some (.ref 40), some (.int v21), some (.int v22), some (.int 2), some (.int v32), some (.int v24)]) dX11_meanShade_102 (by decide) rfl rfl ?_
        refine z_iinc (i := 5) (x := v24) (y := 1) dX11_meanShade_104 rfl (by decide) (by decide) rfl (fun v33 => ?_)
        refine z_goto 60 dX11_meanShade_107 (by decide) ?_
        exact hkc25 (v32, v33)
      · refine z_iconst (v := 0) dX11_meanShade_100 rfl ?_
        refine z_iadd dX11_meanShade_101 ?_
        refine z_topi (fun v34 => ?_)
        refine z_istore (i := 4) (x := v34) (lv' := [some (.ref 40), some (.int v21), some (.int v22), some (.int 2), some (.int v34), some (.int v24)]) dX11_meanShade_102 (by decide) rfl rfl ?_
        refine z_iinc (i := 5) (x := v24) (y := 1) dX11_meanShade_104 rfl (by decide) (by decide) rfl (fun v35 => ?_)
        refine z_goto 60 dX11_meanShade_107 (by decide) ?_
        exact hkc25 (v34, v35)
  have hJ_F_X11_meanShade_J49xx : ∀ (v13 : Int32) (v14 : Int32) , z_F l M_X11_meanShade (20, 520, 0, 0) 0 0 49 [some (.ref 40), some (.int v13), some (.int v14), some (.int 1), none, none] [] S D (z_ko (z_kR S D)) (F_X11_meanShade_J49xx N D v13 v14) := by
    intro v13 v14
    unfold F_X11_meanShade_J49xx
    refine z_iload_n (i := 3) (x := 1) dX11_meanShade_49 rfl rfl ?_
    refine z_iconst (v := 3) dX11_meanShade_50 rfl ?_
    refine z_icmp_geN 126 dX11_meanShade_51 (by decide) (by decide) ?_
    refine z_iconst (v := 0) dX11_meanShade_54 rfl ?_
    refine z_istore (i := 4) (x := 0) (lv' := [some (.ref 40), some (.int v13), some (.int v14), some (.int 1), some (.int 0), none]) dX11_meanShade_55 (by decide) rfl rfl ?_
    refine z_iconst (v := 0) dX11_meanShade_57 rfl ?_
    refine z_istore (i := 5) (x := 0) (lv' := [some (.ref 40), some (.int v13), some (.int v14), some (.int 1), some (.int 0), some (.int 0)]) dX11_meanShade_58 (by decide) rfl rfl ?_
    refine z_loops (lvOf := fun s : Int32 × Int32 => [some (.ref 40), some (.int v13), some (.int v14), some (.int 1), some (.int s.1), some (.int s.2)]) (dOf := fun s : Int32 × Int32 => D) (fun kc17 hkc17 s => ?_) N (0, 0)
    obtain ⟨v15, v16⟩ := s
    show z_F _ _ _ _ _ 60 [some (.ref 40), some (.int v13), some (.int v14), some (.int 1), some (.int v15), some (.int v16)] [] S D _ (F_X11_meanShade_L60x N v13 v14 D kc17 v15 v16)
    unfold F_X11_meanShade_L60x
    refine z_iload (i := 5) (x := v16) dX11_meanShade_60 rfl ?_
    refine z_aload_n (i := 0) (x := 40) dX11_meanShade_62 rfl rfl ?_
    refine z_getI (j := 20) dX11_meanShade_63 kl_11 hs40 (by decide) rfl rfl kf_X11_159 ?_
    refine z_icmp_ge 110 dX11_meanShade_66 (by decide) (fun c18 => ?_) (fun c18 => ?_)
    · refine z_bipush (v := 10) dX11_meanShade_110 (by decide) ?_
      refine z_iload_n (i := 2) (x := v14) dX11_meanShade_112 rfl rfl ?_
      refine z_imul dX11_meanShade_113 ?_
      refine z_iload (i := 4) (x := v15) dX11_meanShade_114 rfl ?_
      refine z_iload_n (i := 1) (x := v13) dX11_meanShade_116 rfl rfl ?_
      refine z_idiv dX11_meanShade_117 (fun c19 => ?_)
      refine z_iadd dX11_meanShade_118 ?_
      refine z_topi (fun v20 => ?_)
      refine z_istore_n (i := 2) (x := v20) (lv' := [some (.ref 40), some (.int v13), some (.int v20), some (.int 1), some (.int v15), some (.int v16)]) dX11_meanShade_119 rfl (by decide) rfl rfl ?_
      refine z_iincC (i := 3) (x := 1) (v := 2) (lv' := [some (.ref 40), some (.int v13), some (.int v20), some (.int 2), some (.int v15), some (.int v16)]) dX11_meanShade_120 rfl (by decide) (by decide) rfl rfl ?_
      refine z_goto 49 dX11_meanShade_123 (by decide) ?_
      refine z_weak (lv' := [some (.ref 40), some (.int v13), some (.int v20), some (.int 2), none, none]) ⟨Or.inr rfl, ⟨Or.inr rfl, ⟨Or.inr rfl, ⟨Or.inr rfl, ⟨Or.inl rfl, ⟨Or.inl rfl, trivial⟩⟩⟩⟩⟩⟩ ?_
      exact hJ_F_X11_meanShade_J49x v13 v20
    · refine z_iload (i := 4) (x := v15) dX11_meanShade_69 rfl ?_
      refine z_aload_n (i := 0) (x := 40) dX11_meanShade_71 rfl rfl ?_
      refine z_getR (j := 39) dX11_meanShade_72 kl_11 hs40 (by decide) rfl rfl kf_X11_68 ?_
      refine z_bipush (v := 24) dX11_meanShade_75 (by decide) ?_
      refine z_iload (i := 5) (x := v16) dX11_meanShade_77 rfl ?_
      refine z_iadd dX11_meanShade_79 ?_
      refine z_iald dX11_meanShade_80 hs58 ?_
      refine z_if_ne 100 dX11_meanShade_81 (by decide) (fun c37 => ?_) (fun c37 => ?_)
      · refine z_aload_n (i := 0) (x := 40) dX11_meanShade_84 rfl rfl ?_
        refine z_getR (j := 39) dX11_meanShade_85 kl_11 hs40 (by decide) rfl rfl kf_X11_68 ?_
        refine z_iconst (v := 0) dX11_meanShade_88 rfl ?_
        refine z_iconst (v := 3) dX11_meanShade_89 rfl ?_
        refine z_iload (i := 5) (x := v16) dX11_meanShade_90 rfl ?_
        refine z_imul dX11_meanShade_92 ?_
        refine z_iadd dX11_meanShade_93 ?_
        refine z_iload_n (i := 3) (x := 1) dX11_meanShade_94 rfl rfl ?_
        refine z_iadd dX11_meanShade_95 ?_
        refine z_iald dX11_meanShade_96 hs58 ?_
        refine z_goto 101 dX11_meanShade_97 (by decide) ?_
        refine z_iadd dX11_meanShade_101 ?_
        refine z_topi (fun v38 => ?_)
        refine z_istore (i := 4) (x := v38) (lv' := [some (.ref 40), some (.int v13), some (.int v14), some (.int 1), some (.int v38), some (.int v16)]) dX11_meanShade_102 (by decide) rfl rfl ?_
        refine z_iinc (i := 5) (x := v16) (y := 1) dX11_meanShade_104 rfl (by decide) (by decide) rfl (fun v39 => ?_)
        refine z_goto 60 dX11_meanShade_107 (by decide) ?_
        exact hkc17 (v38, v39)
      · refine z_iconst (v := 0) dX11_meanShade_100 rfl ?_
        refine z_iadd dX11_meanShade_101 ?_
        refine z_topi (fun v40 => ?_)
        refine z_istore (i := 4) (x := v40) (lv' := [some (.ref 40), some (.int v13), some (.int v14), some (.int 1), some (.int v40), some (.int v16)]) dX11_meanShade_102 (by decide) rfl rfl ?_
        refine z_iinc (i := 5) (x := v16) (y := 1) dX11_meanShade_104 rfl (by decide) (by decide) rfl (fun v41 => ?_)
        refine z_goto 60 dX11_meanShade_107 (by decide) ?_
        exact hkc17 (v40, v41)
  have hJ_F_X11_meanShade_J49xxx : ∀ (v6 : Int32) , z_F l M_X11_meanShade (20, 520, 0, 0) 0 0 49 [some (.ref 40), some (.int v6), some (.int 0), some (.int 0), none, none] [] S D (z_ko (z_kR S D)) (F_X11_meanShade_J49xxx N D v6) := by
    intro v6
    unfold F_X11_meanShade_J49xxx
    refine z_iload_n (i := 3) (x := 0) dX11_meanShade_49 rfl rfl ?_
    refine z_iconst (v := 3) dX11_meanShade_50 rfl ?_
    refine z_icmp_geN 126 dX11_meanShade_51 (by decide) (by decide) ?_
    refine z_iconst (v := 0) dX11_meanShade_54 rfl ?_
    refine z_istore (i := 4) (x := 0) (lv' := [some (.ref 40), some (.int v6), some (.int 0), some (.int 0), some (.int 0), none]) dX11_meanShade_55 (by decide) rfl rfl ?_
    refine z_iconst (v := 0) dX11_meanShade_57 rfl ?_
    refine z_istore (i := 5) (x := 0) (lv' := [some (.ref 40), some (.int v6), some (.int 0), some (.int 0), some (.int 0), some (.int 0)]) dX11_meanShade_58 (by decide) rfl rfl ?_
    refine z_loops (lvOf := fun s : Int32 × Int32 => [some (.ref 40), some (.int v6), some (.int 0), some (.int 0), some (.int s.1), some (.int s.2)]) (dOf := fun s : Int32 × Int32 => D) (fun kc9 hkc9 s => ?_) N (0, 0)
    obtain ⟨v7, v8⟩ := s
    show z_F _ _ _ _ _ 60 [some (.ref 40), some (.int v6), some (.int 0), some (.int 0), some (.int v7), some (.int v8)] [] S D _ (F_X11_meanShade_L60xx N v6 D kc9 v7 v8)
    unfold F_X11_meanShade_L60xx
    refine z_iload (i := 5) (x := v8) dX11_meanShade_60 rfl ?_
    refine z_aload_n (i := 0) (x := 40) dX11_meanShade_62 rfl rfl ?_
    refine z_getI (j := 20) dX11_meanShade_63 kl_11 hs40 (by decide) rfl rfl kf_X11_159 ?_
    refine z_icmp_ge 110 dX11_meanShade_66 (by decide) (fun c10 => ?_) (fun c10 => ?_)
    · refine z_bipush (v := 10) dX11_meanShade_110 (by decide) ?_
      refine z_iload_n (i := 2) (x := 0) dX11_meanShade_112 rfl rfl ?_
      refine z_imul dX11_meanShade_113 ?_
      refine z_topc (y := 0) (by decide) ?_
      refine z_iload (i := 4) (x := v7) dX11_meanShade_114 rfl ?_
      refine z_iload_n (i := 1) (x := v6) dX11_meanShade_116 rfl rfl ?_
      refine z_idiv dX11_meanShade_117 (fun c11 => ?_)
      refine z_iadd dX11_meanShade_118 ?_
      refine z_topi (fun v12 => ?_)
      refine z_istore_n (i := 2) (x := v12) (lv' := [some (.ref 40), some (.int v6), some (.int v12), some (.int 0), some (.int v7), some (.int v8)]) dX11_meanShade_119 rfl (by decide) rfl rfl ?_
      refine z_iincC (i := 3) (x := 0) (v := 1) (lv' := [some (.ref 40), some (.int v6), some (.int v12), some (.int 1), some (.int v7), some (.int v8)]) dX11_meanShade_120 rfl (by decide) (by decide) rfl rfl ?_
      refine z_goto 49 dX11_meanShade_123 (by decide) ?_
      refine z_weak (lv' := [some (.ref 40), some (.int v6), some (.int v12), some (.int 1), none, none]) ⟨Or.inr rfl, ⟨Or.inr rfl, ⟨Or.inr rfl, ⟨Or.inr rfl, ⟨Or.inl rfl, ⟨Or.inl rfl, trivial⟩⟩⟩⟩⟩⟩ ?_
      exact hJ_F_X11_meanShade_J49xx v6 v12
    · refine z_iload (i := 4) (x := v7) dX11_meanShade_69 rfl ?_
      refine z_aload_n (i := 0) (x := 40) dX11_meanShade_71 rfl rfl ?_
      refine z_getR (j := 39) dX11_meanShade_72 kl_11 hs40 (by decide) rfl rfl kf_X11_68 ?_
      refine z_bipush (v := 24) dX11_meanShade_75 (by decide) ?_
      refine z_iload (i := 5) (x := v8) dX11_meanShade_77 rfl ?_
      refine z_iadd dX11_meanShade_79 ?_
      refine z_iald dX11_meanShade_80 hs58 ?_
      refine z_if_ne 100 dX11_meanShade_81 (by decide) (fun c43 => ?_) (fun c43 => ?_)
      · refine z_aload_n (i := 0) (x := 40) dX11_meanShade_84 rfl rfl ?_
        refine z_getR (j := 39) dX11_meanShade_85 kl_11 hs40 (by decide) rfl rfl kf_X11_68 ?_
        refine z_iconst (v := 0) dX11_meanShade_88 rfl ?_
        refine z_iconst (v := 3) dX11_meanShade_89 rfl ?_
        refine z_iload (i := 5) (x := v8) dX11_meanShade_90 rfl ?_
        refine z_imul dX11_meanShade_92 ?_
        refine z_iadd dX11_meanShade_93 ?_
        refine z_iload_n (i := 3) (x := 0) dX11_meanShade_94 rfl rfl ?_
        refine z_iadd dX11_meanShade_95 ?_
        refine z_iald dX11_meanShade_96 hs58 ?_
        refine z_goto 101 dX11_meanShade_97 (by decide) ?_
        refine z_iadd dX11_meanShade_101 ?_
        refine z_topi (fun v44 => ?_)
        refine z_istore (i := 4) (x := v44) (lv' := [some (.ref 40), some (.int v6), some (.int 0), some (.int 0), some (.int v44), some (.int v8)]) dX11_meanShade_102 (by decide) rfl rfl ?_
        refine z_iinc (i := 5) (x := v8) (y := 1) dX11_meanShade_104 rfl (by decide) (by decide) rfl (fun v45 => ?_)
        refine z_goto 60 dX11_meanShade_107 (by decide) ?_
        exact hkc9 (v44, v45)
      · refine z_iconst (v := 0) dX11_meanShade_100 rfl ?_
        refine z_iadd dX11_meanShade_101 ?_
        refine z_topi (fun v46 => ?_)
        refine z_istore (i := 4) (x := v46) (lv' := [some (.ref 40), some (.int v6), some (.int 0), some (.int 0), some (.int v46), some (.int v8)]) dX11_meanShade_102 (by decide) rfl rfl ?_
        refine z_iinc (i := 5) (x := v8) (y := 1) dX11_meanShade_104 rfl (by decide) (by decide) rfl (fun v47 => ?_)
        refine z_goto 60 dX11_meanShade_107 (by decide) ?_
        exact hkc9 (v46, v47)
  refine z_iconst (v := 0) dX11_meanShade_0 rfl ?_
  refine z_istore_n (i := 1) (x := 0) (lv' := [some (.ref 40), some (.int 0), none, none, none, none]) dX11_meanShade_1 rfl (by decide) rfl rfl ?_
  refine z_iconst (v := 0) dX11_meanShade_2 rfl ?_
  refine z_istore_n (i := 2) (x := 0) (lv' := [some (.ref 40), some (.int 0), some (.int 0), none, none, none]) dX11_meanShade_3 rfl (by decide) rfl rfl ?_
  refine z_loops (lvOf := fun s : Int32 × Int32 => [some (.ref 40), some (.int s.1), some (.int s.2), none, none, none]) (dOf := fun s : Int32 × Int32 => D) (fun kc3 hkc3 s => ?_) N (0, 0)
  obtain ⟨v1, v2⟩ := s
  show z_F _ _ _ _ _ 4 [some (.ref 40), some (.int v1), some (.int v2), none, none, none] [] S D _ (F_X11_meanShade_L4 N D kc3 v1 v2)
  unfold F_X11_meanShade_L4
  refine z_iload_n (i := 2) (x := v2) dX11_meanShade_4 rfl rfl ?_
  refine z_aload_n (i := 0) (x := 40) dX11_meanShade_5 rfl rfl ?_
  refine z_getI (j := 20) dX11_meanShade_6 kl_11 hs40 (by decide) rfl rfl kf_X11_159 ?_
  refine z_icmp_ge 38 dX11_meanShade_9 (by decide) (fun c4 => ?_) (fun c4 => ?_)
  · refine z_iload_n (i := 1) (x := v1) dX11_meanShade_38 rfl rfl ?_
    refine z_iconst (v := 2) dX11_meanShade_39 rfl ?_
    refine z_icmp_ge 45 dX11_meanShade_40 (by decide) (fun c5 => ?_) (fun c5 => ?_)
    · refine z_iconst (v := 0) dX11_meanShade_45 rfl ?_
      refine z_istore_n (i := 2) (x := 0) (lv' := [some (.ref 40), some (.int v1), some (.int 0), none, none, none]) dX11_meanShade_46 rfl (by decide) rfl rfl ?_
      refine z_iconst (v := 0) dX11_meanShade_47 rfl ?_
      refine z_istore_n (i := 3) (x := 0) (lv' := [some (.ref 40), some (.int v1), some (.int 0), some (.int 0), none, none]) dX11_meanShade_48 rfl (by decide) rfl rfl ?_
      exact hJ_F_X11_meanShade_J49xxx v1
    · refine z_iconst (v := (-1)) dX11_meanShade_43 rfl ?_
      exact z_ireturn dX11_meanShade_44 z_rR rfl (by decide) (by decide)
  · refine z_iload_n (i := 1) (x := v1) dX11_meanShade_12 rfl rfl ?_
    refine z_aload_n (i := 0) (x := 40) dX11_meanShade_13 rfl rfl ?_
    refine z_getR (j := 39) dX11_meanShade_14 kl_11 hs40 (by decide) rfl rfl kf_X11_68 ?_
    refine z_bipush (v := 24) dX11_meanShade_17 (by decide) ?_
    refine z_iload_n (i := 2) (x := v2) dX11_meanShade_19 rfl rfl ?_
    refine z_iadd dX11_meanShade_20 ?_
    refine z_iald dX11_meanShade_21 hs58 ?_
    refine z_if_ne 29 dX11_meanShade_22 (by decide) (fun c49 => ?_) (fun c49 => ?_)
    · refine z_iconst (v := 1) dX11_meanShade_25 rfl ?_
      refine z_goto 30 dX11_meanShade_26 (by decide) ?_
      refine z_iadd dX11_meanShade_30 ?_
      refine z_topi (fun v50 => ?_)
      refine z_istore_n (i := 1) (x := v50) (lv' := [some (.ref 40), some (.int v50), some (.int v2), none, none, none]) dX11_meanShade_31 rfl (by decide) rfl rfl ?_
      refine z_iinc (i := 2) (x := v2) (y := 1) dX11_meanShade_32 rfl (by decide) (by decide) rfl (fun v51 => ?_)
      refine z_goto 4 dX11_meanShade_35 (by decide) ?_
      exact hkc3 (v50, v51)
    · refine z_iconst (v := 0) dX11_meanShade_29 rfl ?_
      refine z_iadd dX11_meanShade_30 ?_
      refine z_topi (fun v52 => ?_)
      refine z_istore_n (i := 1) (x := v52) (lv' := [some (.ref 40), some (.int v52), some (.int v2), none, none, none]) dX11_meanShade_31 rfl (by decide) rfl rfl ?_
      refine z_iinc (i := 2) (x := v2) (y := 1) dX11_meanShade_32 rfl (by decide) (by decide) rfl (fun v53 => ?_)
      refine z_goto 4 dX11_meanShade_35 (by decide) ?_
      exact hkc3 (v52, v53)

def F_X11_rains_L14 (a_2 : Int32) (kc6 : ((Int32 × z_Dat) → Option (Int32 × z_Dat))) (v4 : Int32) (D5 : z_Dat) : Option (Int32 × z_Dat) :=
  if (D5 40 20) ≤ v4 then (some (1, D5))
  else (if z_inb (24 + v4) 60 then (if (D5 58 (z_ix (24 + v4))) = 0 then (z_bd (F_X11_shades v4 a_2 D5) (fun a_10 => z_let (v4 + 1) (fun v11 => kc6 (v11, a_10))))
  else (z_let (v4 + 1) (fun v12 => kc6 (v12, D5)))) else none)
def F_X11_rains (N : Nat) (D : z_Dat) : Option (Int32 × z_Dat) :=
  z_bd (F_X11_meanShade N D) (fun a_2 => if a_2 = (-1) then (some (0, D))
  else (z_loop (fun kc6 s => F_X11_rains_L14 a_2 kc6 s.1 s.2) N (0, D)))
set_option maxRecDepth 100000 in
set_option maxHeartbeats 4000000 in
theorem em_X11_rains {l : Launch} {S : List z_Shp} {oW : Nat} (hl : l.stackTraces = false) (hW : z_W S oW) (N : Nat) (D : z_Dat) : ∀ out, z_ko (z_kI S) (F_X11_rains N D) out → z_EM l M_X11_rains (40, 640, 0, 0) [.ref 40] S D out := by
  have hs40 : S[40]? = some (13, 55, [none, some (some 41), none, none, none, none, none, none, none, some (some 42), some (some 43), some (some 44), some (some 45), some (some 46), some (some 47), some (some 48), none, none, none, none, none, none, some (some 49), some (some 50), some (some 51), some (some 52), some (some 53), none, none, some (some 54), some (some 55), some (some 56), none, none, none, none, none, none, some (some 57), some (some 58), some (some 59), some (some 60), some (some 61), none, some (some 62), some (some 63), none, none, some (some 64), some (some 65), none, none, none, some (some 66), none]) := hW.1 40 _ rfl
  have hs58 : S[58]? = some (0, 60, []) := hW.1 58 _ rfl
  refine z_meth hl rfl kp_X11 (Nat.le_of_ble_eq_true rfl) (lv := [some (.ref 40), none, none]) rfl ?_
  unfold F_X11_rains
  refine z_aload_n (i := 0) (x := 40) dX11_rains_0 rfl rfl ?_
  refine z_cR (As := [.ref 40]) (rest := []) (em_X11_meanShade hl hW N D) (fun o7 h => z_runV 358 0 h rfl kk_X11_358 hs40 kl_11.1 kq_X11_meanShade rfl (Nat.le_of_ble_eq_true rfl) ⟨Nat.le_of_ble_eq_true rfl, Nat.le_of_ble_eq_true rfl, Nat.le_of_ble_eq_true rfl, Nat.le_of_ble_eq_true rfl⟩ dX11_rains_1) z_gWI (fun a_2 hz1 => ?_)
  refine z_istore_n (i := 1) (x := a_2) (lv' := [some (.ref 40), some (.int a_2), none]) dX11_rains_4 rfl (by decide) rfl rfl ?_
  refine z_iload_n (i := 1) (x := a_2) dX11_rains_5 rfl rfl ?_
  refine z_iconst (v := (-1)) dX11_rains_6 rfl ?_
  refine z_icmp_ne 12 dX11_rains_7 (by decide) (fun c3 => ?_) (fun c3 => ?_)
  · refine z_iconst (v := 0) dX11_rains_10 rfl ?_
    exact z_ireturn dX11_rains_11 z_rWI rfl (by decide) (by decide)
  · refine z_iconst (v := 0) dX11_rains_12 rfl ?_
    refine z_istore_n (i := 2) (x := 0) (lv' := [some (.ref 40), some (.int a_2), some (.int 0)]) dX11_rains_13 rfl (by decide) rfl rfl ?_
    refine z_loops (lvOf := fun s : Int32 × z_Dat => [some (.ref 40), some (.int a_2), some (.int s.1)]) (dOf := fun s : Int32 × z_Dat => s.2) (fun kc6 hkc6 s => ?_) N (0, D)
    obtain ⟨v4, D5⟩ := s
    show z_F _ _ _ _ _ 14 [some (.ref 40), some (.int a_2), some (.int v4)] [] S D5 _ (F_X11_rains_L14 a_2 kc6 v4 D5)
    unfold F_X11_rains_L14
    refine z_iload_n (i := 2) (x := v4) dX11_rains_14 rfl rfl ?_
    refine z_aload_n (i := 0) (x := 40) dX11_rains_15 rfl rfl ?_
    refine z_getI (j := 20) dX11_rains_16 kl_11 hs40 (by decide) rfl rfl kf_X11_159 ?_
    refine z_icmp_ge 46 dX11_rains_19 (by decide) (fun c7 => ?_) (fun c7 => ?_)
    · refine z_iconst (v := 1) dX11_rains_46 rfl ?_
      exact z_ireturn dX11_rains_47 z_rWI rfl (by decide) (by decide)
    · refine z_aload_n (i := 0) (x := 40) dX11_rains_22 rfl rfl ?_
      refine z_getR (j := 39) dX11_rains_23 kl_11 hs40 (by decide) rfl rfl kf_X11_68 ?_
      refine z_bipush (v := 24) dX11_rains_26 (by decide) ?_
      refine z_iload_n (i := 2) (x := v4) dX11_rains_28 rfl rfl ?_
      refine z_iadd dX11_rains_29 ?_
      refine z_iald dX11_rains_30 hs58 ?_
      refine z_if_ne 40 dX11_rains_31 (by decide) (fun c8 => ?_) (fun c8 => ?_)
      · refine z_aload_n (i := 0) (x := 40) dX11_rains_34 rfl rfl ?_
        refine z_iload_n (i := 2) (x := v4) dX11_rains_35 rfl rfl ?_
        refine z_iload_n (i := 1) (x := a_2) dX11_rains_36 rfl rfl ?_
        refine z_cWV (As := [.ref 40, .int v4, .int a_2]) (rest := []) (em_X11_shades hl hW v4 a_2 D5) (fun o7 h => z_runV 355 2 h rfl kk_X11_355 hs40 kl_11.1 kq_X11_shades rfl (Nat.le_of_ble_eq_true rfl) ⟨Nat.le_of_ble_eq_true rfl, Nat.le_of_ble_eq_true rfl, Nat.le_of_ble_eq_true rfl, Nat.le_of_ble_eq_true rfl⟩ dX11_rains_37) z_gWI (fun a_10 hz9 => ?_)
        refine z_iinc (i := 2) (x := v4) (y := 1) dX11_rains_40 rfl (by decide) (by decide) rfl (fun v11 => ?_)
        refine z_goto 14 dX11_rains_43 (by decide) ?_
        exact hkc6 (v11, a_10)
      · refine z_iinc (i := 2) (x := v4) (y := 1) dX11_rains_40 rfl (by decide) (by decide) rfl (fun v12 => ?_)
        refine z_goto 14 dX11_rains_43 (by decide) ?_
        exact hkc6 (v12, D5)

def F_X11_apart_J4 (v23 : Int32) : Int32 :=
  v23
def F_X11_apart_J36 (v20 : Int32) (v21 : Int32) : Int32 :=
  z_let (v20 + v21) (fun v22 => F_X11_apart_J4 v22)
def F_X11_apart_J4x (a0 : Int32) (a1 : Int32) (v15 : Int32) : Int32 :=
  z_let ((F_X11_dyeOf a0 2) - (F_X11_dyeOf a1 2)) (fun v18 => if 0 ≤ v18 then (F_X11_apart_J36 v15 v18)
  else (F_X11_apart_J36 v15 (-v18)))
def F_X11_apart_J36x (a0 : Int32) (a1 : Int32) (v12 : Int32) (v13 : Int32) : Int32 :=
  z_let (v12 + v13) (fun v14 => F_X11_apart_J4x a0 a1 v14)
def F_X11_apart_J4xx (a0 : Int32) (a1 : Int32) (v7 : Int32) : Int32 :=
  z_let ((F_X11_dyeOf a0 1) - (F_X11_dyeOf a1 1)) (fun v10 => if 0 ≤ v10 then (F_X11_apart_J36x a0 a1 v7 v10)
  else (F_X11_apart_J36x a0 a1 v7 (-v10)))
def F_X11_apart_J36xx (a0 : Int32) (a1 : Int32) (v5 : Int32) : Int32 :=
  z_let (0 + v5) (fun v6 => F_X11_apart_J4xx a0 a1 v6)
def F_X11_apart_J4xxx (a0 : Int32) (a1 : Int32) : Int32 :=
  z_let ((F_X11_dyeOf a0 0) - (F_X11_dyeOf a1 0)) (fun v3 => if 0 ≤ v3 then (F_X11_apart_J36xx a0 a1 v3)
  else (F_X11_apart_J36xx a0 a1 (-v3)))
def F_X11_apart (a0 : Int32) (a1 : Int32) : Int32 :=
  F_X11_apart_J4xxx a0 a1
set_option maxRecDepth 100000 in
set_option maxHeartbeats 4000000 in
theorem em_X11_apart {l : Launch} {S : List z_Shp} (hl : l.stackTraces = false) (a0 : Int32) (a1 : Int32) (D : z_Dat) : ∀ out, z_kt (z_kR S D) (F_X11_apart a0 a1) out → z_EM l M_X11_apart (30, 580, 0, 0) [.int a0, .int a1] S D out := by
  refine z_meth hl rfl kp_X11 (Nat.le_of_ble_eq_true rfl) (lv := [some (.int a0), some (.int a1), none, none, none]) rfl ?_
  unfold F_X11_apart
  have hJ_F_X11_apart_J4 : ∀ (v23 : Int32) , z_F l M_X11_apart (30, 580, 0, 0) 0 0 4 [some (.int a0), some (.int a1), some (.int v23), some (.int 3), none] [] S D (z_kt (z_kR S D)) (F_X11_apart_J4 v23) := by
    intro v23
    unfold F_X11_apart_J4
    refine z_iload_n (i := 3) (x := 3) dX11_apart_4 rfl rfl ?_
    refine z_iconst (v := 3) dX11_apart_5 rfl ?_
    refine z_icmp_geJ 44 dX11_apart_6 (by decide) (by decide) ?_
    refine z_iload_n (i := 2) (x := v23) dX11_apart_44 rfl rfl ?_
    exact z_ireturn dX11_apart_45 z_rP rfl (by decide) (by decide)
  have hJ_F_X11_apart_J36 : ∀ (v20 : Int32) (v21 : Int32) , z_F l M_X11_apart (30, 580, 0, 0) 0 0 36 [some (.int a0), some (.int a1), none, some (.int 2), none] [.int v21, .int v20] S D (z_kt (z_kR S D)) (F_X11_apart_J36 v20 v21) := by
    intro v20 v21
    unfold F_X11_apart_J36
    refine z_iadd dX11_apart_36 ?_
    refine z_topi (fun v22 => ?_)
    refine z_istore_n (i := 2) (x := v22) (lv' := [some (.int a0), some (.int a1), some (.int v22), some (.int 2), none]) dX11_apart_37 rfl (by decide) rfl rfl ?_
    refine z_iincC (i := 3) (x := 2) (v := 3) (lv' := [some (.int a0), some (.int a1), some (.int v22), some (.int 3), none]) dX11_apart_38 rfl (by decide) (by decide) rfl rfl ?_
    refine z_goto 4 dX11_apart_41 (by decide) ?_
    exact hJ_F_X11_apart_J4 v22
  have hJ_F_X11_apart_J4x : ∀ (v15 : Int32) , z_F l M_X11_apart (30, 580, 0, 0) 0 0 4 [some (.int a0), some (.int a1), some (.int v15), some (.int 2), none] [] S D (z_kt (z_kR S D)) (F_X11_apart_J4x a0 a1 v15) := by
    intro v15
    unfold F_X11_apart_J4x
    refine z_iload_n (i := 3) (x := 2) dX11_apart_4 rfl rfl ?_
    refine z_iconst (v := 3) dX11_apart_5 rfl ?_
    refine z_icmp_geN 44 dX11_apart_6 (by decide) (by decide) ?_
    refine z_iload_n (i := 0) (x := a0) dX11_apart_9 rfl rfl ?_
    refine z_iload_n (i := 3) (x := 2) dX11_apart_10 rfl rfl ?_
    refine z_cP (As := [.int a0, .int 2]) (rest := []) (em_X11_dyeOf hl a0 2 D) (fun o7 h => z_runS 327 2 h rfl kk_X11_327 kq_X11_dyeOf rfl (Nat.le_of_ble_eq_true rfl) ⟨Nat.le_of_ble_eq_true rfl, Nat.le_of_ble_eq_true rfl, Nat.le_of_ble_eq_true rfl, Nat.le_of_ble_eq_true rfl⟩ dX11_apart_11) z_gP (fun hz16 => ?_)
    refine z_iload_n (i := 1) (x := a1) dX11_apart_14 rfl rfl ?_
    refine z_iload_n (i := 3) (x := 2) dX11_apart_15 rfl rfl ?_
    refine z_cP (As := [.int a1, .int 2]) (rest := [.int (F_X11_dyeOf a0 2)]) (em_X11_dyeOf hl a1 2 D) (fun o7 h => z_runS 327 2 h rfl kk_X11_327 kq_X11_dyeOf rfl (Nat.le_of_ble_eq_true rfl) ⟨Nat.le_of_ble_eq_true rfl, Nat.le_of_ble_eq_true rfl, Nat.le_of_ble_eq_true rfl, Nat.le_of_ble_eq_true rfl⟩ dX11_apart_16) z_gP (fun hz17 => ?_)
    refine z_isub dX11_apart_19 ?_
    refine z_topi (fun v18 => ?_)
    refine z_istore (i := 4) (x := v18) (lv' := [some (.int a0), some (.int a1), some (.int v15), some (.int 2), some (.int v18)]) dX11_apart_20 (by decide) rfl rfl ?_
    refine z_iload_n (i := 2) (x := v15) dX11_apart_22 rfl rfl ?_
    refine z_iload (i := 4) (x := v18) dX11_apart_23 rfl ?_
    refine z_if_ge 34 dX11_apart_25 (by decide) (fun c19 => ?_) (fun c19 => ?_)
    · refine z_iload (i := 4) (x := v18) dX11_apart_34 rfl ?_
      refine z_weak (lv' := [some (.int a0), some (.int a1), none, some (.int 2), none]) ⟨Or.inr rfl, ⟨Or.inr rfl, ⟨Or.inl rfl, ⟨Or.inr rfl, ⟨Or.inl rfl, trivial⟩⟩⟩⟩⟩ ?_
      exact hJ_F_X11_apart_J36 v15 v18
    · refine z_iload (i := 4) (x := v18) dX11_apart_28 rfl ?_
      refine z_ineg dX11_apart_30 ?_
      refine z_goto 36 dX11_apart_31 (by decide) ?_
      refine z_weak (lv' := [some (.int a0), some (.int a1), none, some (.int 2), none]) ⟨Or.inr rfl, ⟨Or.inr rfl, ⟨Or.inl rfl, ⟨Or.inr rfl, ⟨Or.inl rfl, trivial⟩⟩⟩⟩⟩ ?_
      exact hJ_F_X11_apart_J36 v15 (-v18)
  have hJ_F_X11_apart_J36x : ∀ (v12 : Int32) (v13 : Int32) , z_F l M_X11_apart (30, 580, 0, 0) 0 0 36 [some (.int a0), some (.int a1), none, some (.int 1), none] [.int v13, .int v12] S D (z_kt (z_kR S D)) (F_X11_apart_J36x a0 a1 v12 v13) := by
    intro v12 v13
    unfold F_X11_apart_J36x
    refine z_iadd dX11_apart_36 ?_
    refine z_topi (fun v14 => ?_)
    refine z_istore_n (i := 2) (x := v14) (lv' := [some (.int a0), some (.int a1), some (.int v14), some (.int 1), none]) dX11_apart_37 rfl (by decide) rfl rfl ?_
    refine z_iincC (i := 3) (x := 1) (v := 2) (lv' := [some (.int a0), some (.int a1), some (.int v14), some (.int 2), none]) dX11_apart_38 rfl (by decide) (by decide) rfl rfl ?_
    refine z_goto 4 dX11_apart_41 (by decide) ?_
    exact hJ_F_X11_apart_J4x v14
  have hJ_F_X11_apart_J4xx : ∀ (v7 : Int32) , z_F l M_X11_apart (30, 580, 0, 0) 0 0 4 [some (.int a0), some (.int a1), some (.int v7), some (.int 1), none] [] S D (z_kt (z_kR S D)) (F_X11_apart_J4xx a0 a1 v7) := by
    intro v7
    unfold F_X11_apart_J4xx
    refine z_iload_n (i := 3) (x := 1) dX11_apart_4 rfl rfl ?_
    refine z_iconst (v := 3) dX11_apart_5 rfl ?_
    refine z_icmp_geN 44 dX11_apart_6 (by decide) (by decide) ?_
    refine z_iload_n (i := 0) (x := a0) dX11_apart_9 rfl rfl ?_
    refine z_iload_n (i := 3) (x := 1) dX11_apart_10 rfl rfl ?_
    refine z_cP (As := [.int a0, .int 1]) (rest := []) (em_X11_dyeOf hl a0 1 D) (fun o7 h => z_runS 327 2 h rfl kk_X11_327 kq_X11_dyeOf rfl (Nat.le_of_ble_eq_true rfl) ⟨Nat.le_of_ble_eq_true rfl, Nat.le_of_ble_eq_true rfl, Nat.le_of_ble_eq_true rfl, Nat.le_of_ble_eq_true rfl⟩ dX11_apart_11) z_gP (fun hz8 => ?_)
    refine z_iload_n (i := 1) (x := a1) dX11_apart_14 rfl rfl ?_
    refine z_iload_n (i := 3) (x := 1) dX11_apart_15 rfl rfl ?_
    refine z_cP (As := [.int a1, .int 1]) (rest := [.int (F_X11_dyeOf a0 1)]) (em_X11_dyeOf hl a1 1 D) (fun o7 h => z_runS 327 2 h rfl kk_X11_327 kq_X11_dyeOf rfl (Nat.le_of_ble_eq_true rfl) ⟨Nat.le_of_ble_eq_true rfl, Nat.le_of_ble_eq_true rfl, Nat.le_of_ble_eq_true rfl, Nat.le_of_ble_eq_true rfl⟩ dX11_apart_16) z_gP (fun hz9 => ?_)
    refine z_isub dX11_apart_19 ?_
    refine z_topi (fun v10 => ?_)
    refine z_istore (i := 4) (x := v10) (lv' := [some (.int a0), some (.int a1), some (.int v7), some (.int 1), some (.int v10)]) dX11_apart_20 (by decide) rfl rfl ?_
    refine z_iload_n (i := 2) (x := v7) dX11_apart_22 rfl rfl ?_
    refine z_iload (i := 4) (x := v10) dX11_apart_23 rfl ?_
    refine z_if_ge 34 dX11_apart_25 (by decide) (fun c11 => ?_) (fun c11 => ?_)
    · refine z_iload (i := 4) (x := v10) dX11_apart_34 rfl ?_
      refine z_weak (lv' := [some (.int a0), some (.int a1), none, some (.int 1), none]) ⟨Or.inr rfl, ⟨Or.inr rfl, ⟨Or.inl rfl, ⟨Or.inr rfl, ⟨Or.inl rfl, trivial⟩⟩⟩⟩⟩ ?_
      exact hJ_F_X11_apart_J36x v7 v10
    · refine z_iload (i := 4) (x := v10) dX11_apart_28 rfl ?_
      refine z_ineg dX11_apart_30 ?_
      refine z_goto 36 dX11_apart_31 (by decide) ?_
      refine z_weak (lv' := [some (.int a0), some (.int a1), none, some (.int 1), none]) ⟨Or.inr rfl, ⟨Or.inr rfl, ⟨Or.inl rfl, ⟨Or.inr rfl, ⟨Or.inl rfl, trivial⟩⟩⟩⟩⟩ ?_
      exact hJ_F_X11_apart_J36x v7 (-v10)
  have hJ_F_X11_apart_J36xx : ∀ (v5 : Int32) , z_F l M_X11_apart (30, 580, 0, 0) 0 0 36 [some (.int a0), some (.int a1), none, some (.int 0), none] [.int v5, .int 0] S D (z_kt (z_kR S D)) (F_X11_apart_J36xx a0 a1 v5) := by
    intro v5
    unfold F_X11_apart_J36xx
    refine z_iadd dX11_apart_36 ?_
    refine z_topi (fun v6 => ?_)
    refine z_istore_n (i := 2) (x := v6) (lv' := [some (.int a0), some (.int a1), some (.int v6), some (.int 0), none]) dX11_apart_37 rfl (by decide) rfl rfl ?_
    refine z_iincC (i := 3) (x := 0) (v := 1) (lv' := [some (.int a0), some (.int a1), some (.int v6), some (.int 1), none]) dX11_apart_38 rfl (by decide) (by decide) rfl rfl ?_
    refine z_goto 4 dX11_apart_41 (by decide) ?_
    exact hJ_F_X11_apart_J4xx v6
  have hJ_F_X11_apart_J4xxx : z_F l M_X11_apart (30, 580, 0, 0) 0 0 4 [some (.int a0), some (.int a1), some (.int 0), some (.int 0), none] [] S D (z_kt (z_kR S D)) (F_X11_apart_J4xxx a0 a1) := by
    unfold F_X11_apart_J4xxx
    refine z_iload_n (i := 3) (x := 0) dX11_apart_4 rfl rfl ?_
    refine z_iconst (v := 3) dX11_apart_5 rfl ?_
    refine z_icmp_geN 44 dX11_apart_6 (by decide) (by decide) ?_
    refine z_iload_n (i := 0) (x := a0) dX11_apart_9 rfl rfl ?_
    refine z_iload_n (i := 3) (x := 0) dX11_apart_10 rfl rfl ?_
    refine z_cP (As := [.int a0, .int 0]) (rest := []) (em_X11_dyeOf hl a0 0 D) (fun o7 h => z_runS 327 2 h rfl kk_X11_327 kq_X11_dyeOf rfl (Nat.le_of_ble_eq_true rfl) ⟨Nat.le_of_ble_eq_true rfl, Nat.le_of_ble_eq_true rfl, Nat.le_of_ble_eq_true rfl, Nat.le_of_ble_eq_true rfl⟩ dX11_apart_11) z_gP (fun hz1 => ?_)
    refine z_iload_n (i := 1) (x := a1) dX11_apart_14 rfl rfl ?_
    refine z_iload_n (i := 3) (x := 0) dX11_apart_15 rfl rfl ?_
    refine z_cP (As := [.int a1, .int 0]) (rest := [.int (F_X11_dyeOf a0 0)]) (em_X11_dyeOf hl a1 0 D) (fun o7 h => z_runS 327 2 h rfl kk_X11_327 kq_X11_dyeOf rfl (Nat.le_of_ble_eq_true rfl) ⟨Nat.le_of_ble_eq_true rfl, Nat.le_of_ble_eq_true rfl, Nat.le_of_ble_eq_true rfl, Nat.le_of_ble_eq_true rfl⟩ dX11_apart_16) z_gP (fun hz2 => ?_)
    refine z_isub dX11_apart_19 ?_
    refine z_topi (fun v3 => ?_)
    refine z_istore (i := 4) (x := v3) (lv' := [some (.int a0), some (.int a1), some (.int 0), some (.int 0), some (.int v3)]) dX11_apart_20 (by decide) rfl rfl ?_
    refine z_iload_n (i := 2) (x := 0) dX11_apart_22 rfl rfl ?_
    refine z_iload (i := 4) (x := v3) dX11_apart_23 rfl ?_
    refine z_if_ge 34 dX11_apart_25 (by decide) (fun c4 => ?_) (fun c4 => ?_)
    · refine z_iload (i := 4) (x := v3) dX11_apart_34 rfl ?_
      refine z_weak (lv' := [some (.int a0), some (.int a1), none, some (.int 0), none]) ⟨Or.inr rfl, ⟨Or.inr rfl, ⟨Or.inl rfl, ⟨Or.inr rfl, ⟨Or.inl rfl, trivial⟩⟩⟩⟩⟩ ?_
      exact hJ_F_X11_apart_J36xx v3
    · refine z_iload (i := 4) (x := v3) dX11_apart_28 rfl ?_
      refine z_ineg dX11_apart_30 ?_
      refine z_goto 36 dX11_apart_31 (by decide) ?_
      refine z_weak (lv' := [some (.int a0), some (.int a1), none, some (.int 0), none]) ⟨Or.inr rfl, ⟨Or.inr rfl, ⟨Or.inl rfl, ⟨Or.inr rfl, ⟨Or.inl rfl, trivial⟩⟩⟩⟩⟩ ?_
      exact hJ_F_X11_apart_J36xx (-v3)
  refine z_iconst (v := 0) dX11_apart_0 rfl ?_
  refine z_istore_n (i := 2) (x := 0) (lv' := [some (.int a0), some (.int a1), some (.int 0), none, none]) dX11_apart_1 rfl (by decide) rfl rfl ?_
  refine z_iconst (v := 0) dX11_apart_2 rfl ?_
  refine z_istore_n (i := 3) (x := 0) (lv' := [some (.int a0), some (.int a1), some (.int 0), some (.int 0), none]) dX11_apart_3 rfl (by decide) rfl rfl ?_
  exact hJ_F_X11_apart_J4xxx

def F_X11_weds (a0 : Int32) (a1 : Int32) (D : z_Dat) : Option (Int32 × z_Dat) :=
  if z_inb (32 + a0) 60 then (if (D 58 (z_ix (32 + a0))) = (-1) then (if z_inb (32 + a1) 60 then (if (D 58 (z_ix (32 + a1))) = (-1) then (z_bd (F_X11_shadeOf a0 D) (fun a_4 => z_bd (F_X11_shadeOf a1 D) (fun a_6 => if (F_X11_apart a_4 a_6) ≤ 6 then (if z_inb (32 + a0) 60 then z_let (z_up D 58 (z_ix (32 + a0)) a1) (fun D9 => if z_inb (32 + a1) 60 then z_let (z_up D9 58 (z_ix (32 + a1)) a0) (fun D10 => some (1, D10)) else none) else none)
  else (some (0, D)))))
  else (some (0, D))) else none)
  else (some (0, D))) else none
set_option maxRecDepth 100000 in
set_option maxHeartbeats 4000000 in
theorem em_X11_weds {l : Launch} {S : List z_Shp} {oW : Nat} (hl : l.stackTraces = false) (hW : z_W S oW) (a0 : Int32) (a1 : Int32) (D : z_Dat) : ∀ out, z_ko (z_kI S) (F_X11_weds a0 a1 D) out → z_EM l M_X11_weds (40, 640, 0, 0) [.ref 40, .int a0, .int a1] S D out := by
  have hs40 : S[40]? = some (13, 55, [none, some (some 41), none, none, none, none, none, none, none, some (some 42), some (some 43), some (some 44), some (some 45), some (some 46), some (some 47), some (some 48), none, none, none, none, none, none, some (some 49), some (some 50), some (some 51), some (some 52), some (some 53), none, none, some (some 54), some (some 55), some (some 56), none, none, none, none, none, none, some (some 57), some (some 58), some (some 59), some (some 60), some (some 61), none, some (some 62), some (some 63), none, none, some (some 64), some (some 65), none, none, none, some (some 66), none]) := hW.1 40 _ rfl
  have hs58 : S[58]? = some (0, 60, []) := hW.1 58 _ rfl
  refine z_meth hl rfl kp_X11 (Nat.le_of_ble_eq_true rfl) (lv := [some (.ref 40), some (.int a0), some (.int a1)]) rfl ?_
  unfold F_X11_weds
  refine z_aload_n (i := 0) (x := 40) dX11_weds_0 rfl rfl ?_
  refine z_getR (j := 39) dX11_weds_1 kl_11 hs40 (by decide) rfl rfl kf_X11_68 ?_
  refine z_bipush (v := 32) dX11_weds_4 (by decide) ?_
  refine z_iload_n (i := 1) (x := a0) dX11_weds_6 rfl rfl ?_
  refine z_iadd dX11_weds_7 ?_
  refine z_iald dX11_weds_8 hs58 ?_
  refine z_iconst (v := (-1)) dX11_weds_9 rfl ?_
  refine z_icmp_ne 44 dX11_weds_10 (by decide) (fun c1 => ?_) (fun c1 => ?_)
  · refine z_aload_n (i := 0) (x := 40) dX11_weds_13 rfl rfl ?_
    refine z_getR (j := 39) dX11_weds_14 kl_11 hs40 (by decide) rfl rfl kf_X11_68 ?_
    refine z_bipush (v := 32) dX11_weds_17 (by decide) ?_
    refine z_iload_n (i := 2) (x := a1) dX11_weds_19 rfl rfl ?_
    refine z_iadd dX11_weds_20 ?_
    refine z_iald dX11_weds_21 hs58 ?_
    refine z_iconst (v := (-1)) dX11_weds_22 rfl ?_
    refine z_icmp_ne 44 dX11_weds_23 (by decide) (fun c2 => ?_) (fun c2 => ?_)
    · refine z_aload_n (i := 0) (x := 40) dX11_weds_26 rfl rfl ?_
      refine z_iload_n (i := 1) (x := a0) dX11_weds_27 rfl rfl ?_
      refine z_cR (As := [.ref 40, .int a0]) (rest := []) (em_X11_shadeOf hl hW a0 D) (fun o7 h => z_runV 339 1 h rfl kk_X11_339 hs40 kl_11.1 kq_X11_shadeOf rfl (Nat.le_of_ble_eq_true rfl) ⟨Nat.le_of_ble_eq_true rfl, Nat.le_of_ble_eq_true rfl, Nat.le_of_ble_eq_true rfl, Nat.le_of_ble_eq_true rfl⟩ dX11_weds_28) z_gWI (fun a_4 hz3 => ?_)
      refine z_aload_n (i := 0) (x := 40) dX11_weds_31 rfl rfl ?_
      refine z_iload_n (i := 2) (x := a1) dX11_weds_32 rfl rfl ?_
      refine z_cR (As := [.ref 40, .int a1]) (rest := [.int a_4]) (em_X11_shadeOf hl hW a1 D) (fun o7 h => z_runV 339 1 h rfl kk_X11_339 hs40 kl_11.1 kq_X11_shadeOf rfl (Nat.le_of_ble_eq_true rfl) ⟨Nat.le_of_ble_eq_true rfl, Nat.le_of_ble_eq_true rfl, Nat.le_of_ble_eq_true rfl, Nat.le_of_ble_eq_true rfl⟩ dX11_weds_33) z_gWI (fun a_6 hz5 => ?_)
      refine z_cP (As := [.int a_4, .int a_6]) (rest := []) (em_X11_apart hl a_4 a_6 D) (fun o7 h => z_runS 333 2 h rfl kk_X11_333 kq_X11_apart rfl (Nat.le_of_ble_eq_true rfl) ⟨Nat.le_of_ble_eq_true rfl, Nat.le_of_ble_eq_true rfl, Nat.le_of_ble_eq_true rfl, Nat.le_of_ble_eq_true rfl⟩ dX11_weds_36) z_gWI (fun hz7 => ?_)
      refine z_bipush (v := 6) dX11_weds_39 (by decide) ?_
      refine z_icmp_le 46 dX11_weds_41 (by decide) (fun c8 => ?_) (fun c8 => ?_)
      · refine z_aload_n (i := 0) (x := 40) dX11_weds_46 rfl rfl ?_
        refine z_getR (j := 39) dX11_weds_47 kl_11 hs40 (by decide) rfl rfl kf_X11_68 ?_
        refine z_bipush (v := 32) dX11_weds_50 (by decide) ?_
        refine z_iload_n (i := 1) (x := a0) dX11_weds_52 rfl rfl ?_
        refine z_iadd dX11_weds_53 ?_
        refine z_iload_n (i := 2) (x := a1) dX11_weds_54 rfl rfl ?_
        refine z_iast dX11_weds_55 hs58 (fun D9 => ?_)
        refine z_aload_n (i := 0) (x := 40) dX11_weds_56 rfl rfl ?_
        refine z_getR (j := 39) dX11_weds_57 kl_11 hs40 (by decide) rfl rfl kf_X11_68 ?_
        refine z_bipush (v := 32) dX11_weds_60 (by decide) ?_
        refine z_iload_n (i := 2) (x := a1) dX11_weds_62 rfl rfl ?_
        refine z_iadd dX11_weds_63 ?_
        refine z_iload_n (i := 1) (x := a0) dX11_weds_64 rfl rfl ?_
        refine z_iast dX11_weds_65 hs58 (fun D10 => ?_)
        refine z_iconst (v := 1) dX11_weds_66 rfl ?_
        exact z_ireturn dX11_weds_67 z_rWI rfl (by decide) (by decide)
      · refine z_iconst (v := 0) dX11_weds_44 rfl ?_
        exact z_ireturn dX11_weds_45 z_rWI rfl (by decide) (by decide)
    · refine z_iconst (v := 0) dX11_weds_44 rfl ?_
      exact z_ireturn dX11_weds_45 z_rWI rfl (by decide) (by decide)
  · refine z_iconst (v := 0) dX11_weds_44 rfl ?_
    exact z_ireturn dX11_weds_45 z_rWI rfl (by decide) (by decide)

def F_X11_passes_J90 (D21 : z_Dat) : Option z_Dat :=
  z_let (z_up D21 58 (z_ix 59) ((D21 58 (z_ix 59)) + 1)) (fun D22 => some D22)
def F_X11_passes_J143 (v18 : Int32) (D19 : z_Dat) : Option z_Dat :=
  z_let (z_up D19 58 (z_ix 58) v18) (fun D20 => F_X11_passes_J90 D20)
def F_X11_passes_J143x (D23 : z_Dat) : Option z_Dat :=
  z_let (z_up D23 58 (z_ix 58) 200) (fun D24 => F_X11_passes_J90 D24)
def F_X11_passes_J90x (D16 : z_Dat) : Option z_Dat :=
  if ((D16 58 (z_ix 58)) + (D16 40 21)) ≤ 200 then (F_X11_passes_J143 ((D16 58 (z_ix 58)) + (D16 40 21)) D16)
  else (F_X11_passes_J143x D16)
def F_X11_passes_J143xx (v13 : Int32) (D14 : z_Dat) : Option z_Dat :=
  z_let (z_up D14 58 (z_ix 57) v13) (fun D15 => F_X11_passes_J90x D15)
def F_X11_passes_J143xxx (D25 : z_Dat) : Option z_Dat :=
  z_let (z_up D25 58 (z_ix 57) 200) (fun D26 => F_X11_passes_J90x D26)
def F_X11_passes_J90xx (D11 : z_Dat) : Option z_Dat :=
  if ((D11 58 (z_ix 57)) + (D11 40 21)) ≤ 200 then (F_X11_passes_J143xx ((D11 58 (z_ix 57)) + (D11 40 21)) D11)
  else (F_X11_passes_J143xxx D11)
def F_X11_passes_J143xxxx (v8 : Int32) (D9 : z_Dat) : Option z_Dat :=
  z_let (z_up D9 58 (z_ix 56) v8) (fun D10 => F_X11_passes_J90xx D10)
def F_X11_passes_J143xxxxx (D27 : z_Dat) : Option z_Dat :=
  z_let (z_up D27 58 (z_ix 56) 200) (fun D28 => F_X11_passes_J90xx D28)
def F_X11_passes_J90xxx (D6 : z_Dat) : Option z_Dat :=
  if ((D6 58 (z_ix 56)) + (D6 40 21)) ≤ 200 then (F_X11_passes_J143xxxx ((D6 58 (z_ix 56)) + (D6 40 21)) D6)
  else (F_X11_passes_J143xxxxx D6)
def F_X11_passes_J59 (kc4 : ((Int32 × z_Dat) → Option z_Dat)) (v32 : Int32) (D33 : z_Dat) : Option z_Dat :=
  if z_inb (24 + v32) 60 then z_let (z_up D33 58 (z_ix (24 + v32)) 0) (fun D34 => if z_inb (48 + v32) 60 then (if z_inb (48 + v32) 60 then z_let (z_up D34 58 (z_ix (48 + v32)) ((D34 58 (z_ix (48 + v32))) + 1)) (fun D35 => z_let (v32 + 1) (fun v36 => kc4 (v36, D35))) else none) else none) else none
def F_X11_passes_L12 (v1 : Int32) (kc4 : ((Int32 × z_Dat) → Option z_Dat)) (v2 : Int32) (D3 : z_Dat) : Option z_Dat :=
  if (D3 40 20) ≤ v2 then (F_X11_passes_J90xxx D3)
  else (z_let ((0 + (3 * v2)) + v1) (fun v29 => if z_inb (24 + v2) 60 then (if (D3 58 (z_ix (24 + v2))) = 0 then (if z_inb v29 60 then (if (D3 58 (z_ix v29)) ≤ 0 then (F_X11_passes_J59 kc4 v2 D3)
  else (if z_inb v29 60 then (if z_inb v29 60 then z_let (z_up D3 58 (z_ix v29) ((D3 58 (z_ix v29)) - 1)) (fun D37 => F_X11_passes_J59 kc4 v2 D37) else none) else none)) else none)
  else (F_X11_passes_J59 kc4 v2 D3)) else none))
def F_X11_passes (N : Nat) (D : z_Dat) : Option z_Dat :=
  z_let (z_rem (D 58 (z_ix 59)) 3) (fun v1 => z_loop (fun kc4 s => F_X11_passes_L12 v1 kc4 s.1 s.2) N (0, D))
set_option maxRecDepth 100000 in
set_option maxHeartbeats 4000000 in
theorem em_X11_passes {l : Launch} {S : List z_Shp} {oW : Nat} (hl : l.stackTraces = false) (hW : z_W S oW) (N : Nat) (D : z_Dat) : ∀ out, z_ko (z_kV S) (F_X11_passes N D) out → z_EM l M_X11_passes (20, 520, 0, 0) [.ref 40] S D out := by
  have hs40 : S[40]? = some (13, 55, [none, some (some 41), none, none, none, none, none, none, none, some (some 42), some (some 43), some (some 44), some (some 45), some (some 46), some (some 47), some (some 48), none, none, none, none, none, none, some (some 49), some (some 50), some (some 51), some (some 52), some (some 53), none, none, some (some 54), some (some 55), some (some 56), none, none, none, none, none, none, some (some 57), some (some 58), some (some 59), some (some 60), some (some 61), none, some (some 62), some (some 63), none, none, some (some 64), some (some 65), none, none, none, some (some 66), none]) := hW.1 40 _ rfl
  have hs58 : S[58]? = some (0, 60, []) := hW.1 58 _ rfl
  refine z_meth hl rfl kp_X11 (Nat.le_of_ble_eq_true rfl) (lv := [some (.ref 40), none, none, none]) rfl ?_
  unfold F_X11_passes
  have hJ_F_X11_passes_J90 : ∀ (D21 : z_Dat) , z_F l M_X11_passes (20, 520, 0, 0) 0 0 90 [some (.ref 40), none, some (.int 3), none] [] S D21 (z_ko (z_kV S)) (F_X11_passes_J90 D21) := by
    intro D21
    unfold F_X11_passes_J90
    refine z_iload_n (i := 2) (x := 3) dX11_passes_90 rfl rfl ?_
    refine z_iconst (v := 3) dX11_passes_91 rfl ?_
    refine z_icmp_geJ 150 dX11_passes_92 (by decide) (by decide) ?_
    refine z_aload_n (i := 0) (x := 40) dX11_passes_150 rfl rfl ?_
    refine z_getR (j := 39) dX11_passes_151 kl_11 hs40 (by decide) rfl rfl kf_X11_68 ?_
    refine z_bipush (v := 59) dX11_passes_154 (by decide) ?_
    refine z_dup2 dX11_passes_156 rfl rfl ?_
    refine z_ialdC dX11_passes_157 hs58 (vp_in_iff.mpr (by decide)) ?_
    refine z_iconst (v := 1) dX11_passes_158 rfl ?_
    refine z_iadd dX11_passes_159 ?_
    refine z_iastL dX11_passes_160 hs58 (vp_in_iff.mpr (by decide)) (fun D22 => ?_)
    exact z_vreturn dX11_passes_161 z_rWV trivial (by decide) (by decide)
  have hJ_F_X11_passes_J143 : ∀ (v18 : Int32) (D19 : z_Dat) , z_F l M_X11_passes (20, 520, 0, 0) 0 0 143 [some (.ref 40), none, some (.int 2), none] [.int v18, .int 58, .ref 58] S D19 (z_ko (z_kV S)) (F_X11_passes_J143 v18 D19) := by
    intro v18 D19
    unfold F_X11_passes_J143
    refine z_iastL dX11_passes_143 hs58 (vp_in_iff.mpr (by decide)) (fun D20 => ?_)
    refine z_iincC (i := 2) (x := 2) (v := 3) (lv' := [some (.ref 40), none, some (.int 3), none]) dX11_passes_144 rfl (by decide) (by decide) rfl rfl ?_
    refine z_goto 90 dX11_passes_147 (by decide) ?_
    exact hJ_F_X11_passes_J90 D20
  have hJ_F_X11_passes_J143x : ∀ (D23 : z_Dat) , z_F l M_X11_passes (20, 520, 0, 0) 0 0 143 [some (.ref 40), none, some (.int 2), none] [.int 200, .int 58, .ref 58] S D23 (z_ko (z_kV S)) (F_X11_passes_J143x D23) := by
    intro D23
    unfold F_X11_passes_J143x
    refine z_iastL dX11_passes_143 hs58 (vp_in_iff.mpr (by decide)) (fun D24 => ?_)
    refine z_iincC (i := 2) (x := 2) (v := 3) (lv' := [some (.ref 40), none, some (.int 3), none]) dX11_passes_144 rfl (by decide) (by decide) rfl rfl ?_
    refine z_goto 90 dX11_passes_147 (by decide) ?_
    exact hJ_F_X11_passes_J90 D24
  have hJ_F_X11_passes_J90x : ∀ (D16 : z_Dat) , z_F l M_X11_passes (20, 520, 0, 0) 0 0 90 [some (.ref 40), none, some (.int 2), none] [] S D16 (z_ko (z_kV S)) (F_X11_passes_J90x D16) := by
    intro D16
    unfold F_X11_passes_J90x
    refine z_iload_n (i := 2) (x := 2) dX11_passes_90 rfl rfl ?_
    refine z_iconst (v := 3) dX11_passes_91 rfl ?_
    refine z_icmp_geN 150 dX11_passes_92 (by decide) (by decide) ?_
    refine z_aload_n (i := 0) (x := 40) dX11_passes_95 rfl rfl ?_
    refine z_getR (j := 39) dX11_passes_96 kl_11 hs40 (by decide) rfl rfl kf_X11_68 ?_
    refine z_bipush (v := 56) dX11_passes_99 (by decide) ?_
    refine z_iload_n (i := 2) (x := 2) dX11_passes_101 rfl rfl ?_
    refine z_iadd dX11_passes_102 ?_
    refine z_topc (y := 58) (by decide) ?_
    refine z_aload_n (i := 0) (x := 40) dX11_passes_103 rfl rfl ?_
    refine z_getR (j := 39) dX11_passes_104 kl_11 hs40 (by decide) rfl rfl kf_X11_68 ?_
    refine z_bipush (v := 56) dX11_passes_107 (by decide) ?_
    refine z_iload_n (i := 2) (x := 2) dX11_passes_109 rfl rfl ?_
    refine z_iadd dX11_passes_110 ?_
    refine z_topc (y := 58) (by decide) ?_
    refine z_ialdC dX11_passes_111 hs58 (vp_in_iff.mpr (by decide)) ?_
    refine z_aload_n (i := 0) (x := 40) dX11_passes_112 rfl rfl ?_
    refine z_getI (j := 21) dX11_passes_113 kl_11 hs40 (by decide) rfl rfl kf_X11_162 ?_
    refine z_iadd dX11_passes_116 ?_
    refine z_sipush (v := 200) dX11_passes_117 (by decide) ?_
    refine z_icmp_le 129 dX11_passes_120 (by decide) (fun c17 => ?_) (fun c17 => ?_)
    · refine z_aload_n (i := 0) (x := 40) dX11_passes_129 rfl rfl ?_
      refine z_getR (j := 39) dX11_passes_130 kl_11 hs40 (by decide) rfl rfl kf_X11_68 ?_
      refine z_bipush (v := 56) dX11_passes_133 (by decide) ?_
      refine z_iload_n (i := 2) (x := 2) dX11_passes_135 rfl rfl ?_
      refine z_iadd dX11_passes_136 ?_
      refine z_topc (y := 58) (by decide) ?_
      refine z_ialdC dX11_passes_137 hs58 (vp_in_iff.mpr (by decide)) ?_
      refine z_aload_n (i := 0) (x := 40) dX11_passes_138 rfl rfl ?_
      refine z_getI (j := 21) dX11_passes_139 kl_11 hs40 (by decide) rfl rfl kf_X11_162 ?_
      refine z_iadd dX11_passes_142 ?_
      exact hJ_F_X11_passes_J143 ((D16 58 (z_ix 58)) + (D16 40 21)) D16
    · refine z_sipush (v := 200) dX11_passes_123 (by decide) ?_
      refine z_goto 143 dX11_passes_126 (by decide) ?_
      exact hJ_F_X11_passes_J143x D16
  have hJ_F_X11_passes_J143xx : ∀ (v13 : Int32) (D14 : z_Dat) , z_F l M_X11_passes (20, 520, 0, 0) 0 0 143 [some (.ref 40), none, some (.int 1), none] [.int v13, .int 57, .ref 58] S D14 (z_ko (z_kV S)) (F_X11_passes_J143xx v13 D14) := by
    intro v13 D14
    unfold F_X11_passes_J143xx
    refine z_iastL dX11_passes_143 hs58 (vp_in_iff.mpr (by decide)) (fun D15 => ?_)
    refine z_iincC (i := 2) (x := 1) (v := 2) (lv' := [some (.ref 40), none, some (.int 2), none]) dX11_passes_144 rfl (by decide) (by decide) rfl rfl ?_
    refine z_goto 90 dX11_passes_147 (by decide) ?_
    exact hJ_F_X11_passes_J90x D15
  have hJ_F_X11_passes_J143xxx : ∀ (D25 : z_Dat) , z_F l M_X11_passes (20, 520, 0, 0) 0 0 143 [some (.ref 40), none, some (.int 1), none] [.int 200, .int 57, .ref 58] S D25 (z_ko (z_kV S)) (F_X11_passes_J143xxx D25) := by
    intro D25
    unfold F_X11_passes_J143xxx
    refine z_iastL dX11_passes_143 hs58 (vp_in_iff.mpr (by decide)) (fun D26 => ?_)
    refine z_iincC (i := 2) (x := 1) (v := 2) (lv' := [some (.ref 40), none, some (.int 2), none]) dX11_passes_144 rfl (by decide) (by decide) rfl rfl ?_
    refine z_goto 90 dX11_passes_147 (by decide) ?_
    exact hJ_F_X11_passes_J90x D26
  have hJ_F_X11_passes_J90xx : ∀ (D11 : z_Dat) , z_F l M_X11_passes (20, 520, 0, 0) 0 0 90 [some (.ref 40), none, some (.int 1), none] [] S D11 (z_ko (z_kV S)) (F_X11_passes_J90xx D11) := by
    intro D11
    unfold F_X11_passes_J90xx
    refine z_iload_n (i := 2) (x := 1) dX11_passes_90 rfl rfl ?_
    refine z_iconst (v := 3) dX11_passes_91 rfl ?_
    refine z_icmp_geN 150 dX11_passes_92 (by decide) (by decide) ?_
    refine z_aload_n (i := 0) (x := 40) dX11_passes_95 rfl rfl ?_
    refine z_getR (j := 39) dX11_passes_96 kl_11 hs40 (by decide) rfl rfl kf_X11_68 ?_
    refine z_bipush (v := 56) dX11_passes_99 (by decide) ?_
    refine z_iload_n (i := 2) (x := 1) dX11_passes_101 rfl rfl ?_
    refine z_iadd dX11_passes_102 ?_
    refine z_topc (y := 57) (by decide) ?_
    refine z_aload_n (i := 0) (x := 40) dX11_passes_103 rfl rfl ?_
    refine z_getR (j := 39) dX11_passes_104 kl_11 hs40 (by decide) rfl rfl kf_X11_68 ?_
    refine z_bipush (v := 56) dX11_passes_107 (by decide) ?_
    refine z_iload_n (i := 2) (x := 1) dX11_passes_109 rfl rfl ?_
    refine z_iadd dX11_passes_110 ?_
    refine z_topc (y := 57) (by decide) ?_
    refine z_ialdC dX11_passes_111 hs58 (vp_in_iff.mpr (by decide)) ?_
    refine z_aload_n (i := 0) (x := 40) dX11_passes_112 rfl rfl ?_
    refine z_getI (j := 21) dX11_passes_113 kl_11 hs40 (by decide) rfl rfl kf_X11_162 ?_
    refine z_iadd dX11_passes_116 ?_
    refine z_sipush (v := 200) dX11_passes_117 (by decide) ?_
    refine z_icmp_le 129 dX11_passes_120 (by decide) (fun c12 => ?_) (fun c12 => ?_)
    · refine z_aload_n (i := 0) (x := 40) dX11_passes_129 rfl rfl ?_
      refine z_getR (j := 39) dX11_passes_130 kl_11 hs40 (by decide) rfl rfl kf_X11_68 ?_
      refine z_bipush (v := 56) dX11_passes_133 (by decide) ?_
      refine z_iload_n (i := 2) (x := 1) dX11_passes_135 rfl rfl ?_
      refine z_iadd dX11_passes_136 ?_
      refine z_topc (y := 57) (by decide) ?_
      refine z_ialdC dX11_passes_137 hs58 (vp_in_iff.mpr (by decide)) ?_
      refine z_aload_n (i := 0) (x := 40) dX11_passes_138 rfl rfl ?_
      refine z_getI (j := 21) dX11_passes_139 kl_11 hs40 (by decide) rfl rfl kf_X11_162 ?_
      refine z_iadd dX11_passes_142 ?_
      exact hJ_F_X11_passes_J143xx ((D11 58 (z_ix 57)) + (D11 40 21)) D11
    · refine z_sipush (v := 200) dX11_passes_123 (by decide) ?_
      refine z_goto 143 dX11_passes_126 (by decide) ?_
      exact hJ_F_X11_passes_J143xxx D11
  have hJ_F_X11_passes_J143xxxx : ∀ (v8 : Int32) (D9 : z_Dat) , z_F l M_X11_passes (20, 520, 0, 0) 0 0 143 [some (.ref 40), none, some (.int 0), none] [.int v8, .int 56, .ref 58] S D9 (z_ko (z_kV S)) (F_X11_passes_J143xxxx v8 D9) := by
    intro v8 D9
    unfold F_X11_passes_J143xxxx
    refine z_iastL dX11_passes_143 hs58 (vp_in_iff.mpr (by decide)) (fun D10 => ?_)
    refine z_iincC (i := 2) (x := 0) (v := 1) (lv' := [some (.ref 40), none, some (.int 1), none]) dX11_passes_144 rfl (by decide) (by decide) rfl rfl ?_
    refine z_goto 90 dX11_passes_147 (by decide) ?_
    exact hJ_F_X11_passes_J90xx D10
  have hJ_F_X11_passes_J143xxxxx : ∀ (D27 : z_Dat) , z_F l M_X11_passes (20, 520, 0, 0) 0 0 143 [some (.ref 40), none, some (.int 0), none] [.int 200, .int 56, .ref 58] S D27 (z_ko (z_kV S)) (F_X11_passes_J143xxxxx D27) := by
    intro D27
    unfold F_X11_passes_J143xxxxx
    refine z_iastL dX11_passes_143 hs58 (vp_in_iff.mpr (by decide)) (fun D28 => ?_)
    refine z_iincC (i := 2) (x := 0) (v := 1) (lv' := [some (.ref 40), none, some (.int 1), none]) dX11_passes_144 rfl (by decide) (by decide) rfl rfl ?_
    refine z_goto 90 dX11_passes_147 (by decide) ?_
    exact hJ_F_X11_passes_J90xx D28
  have hJ_F_X11_passes_J90xxx : ∀ (D6 : z_Dat) , z_F l M_X11_passes (20, 520, 0, 0) 0 0 90 [some (.ref 40), none, some (.int 0), none] [] S D6 (z_ko (z_kV S)) (F_X11_passes_J90xxx D6) := by
    intro D6
    unfold F_X11_passes_J90xxx
    refine z_iload_n (i := 2) (x := 0) dX11_passes_90 rfl rfl ?_
    refine z_iconst (v := 3) dX11_passes_91 rfl ?_
    refine z_icmp_geN 150 dX11_passes_92 (by decide) (by decide) ?_
    refine z_aload_n (i := 0) (x := 40) dX11_passes_95 rfl rfl ?_
    refine z_getR (j := 39) dX11_passes_96 kl_11 hs40 (by decide) rfl rfl kf_X11_68 ?_
    refine z_bipush (v := 56) dX11_passes_99 (by decide) ?_
    refine z_iload_n (i := 2) (x := 0) dX11_passes_101 rfl rfl ?_
    refine z_iadd dX11_passes_102 ?_
    refine z_topc (y := 56) (by decide) ?_
    refine z_aload_n (i := 0) (x := 40) dX11_passes_103 rfl rfl ?_
    refine z_getR (j := 39) dX11_passes_104 kl_11 hs40 (by decide) rfl rfl kf_X11_68 ?_
    refine z_bipush (v := 56) dX11_passes_107 (by decide) ?_
    refine z_iload_n (i := 2) (x := 0) dX11_passes_109 rfl rfl ?_
    refine z_iadd dX11_passes_110 ?_
    refine z_topc (y := 56) (by decide) ?_
    refine z_ialdC dX11_passes_111 hs58 (vp_in_iff.mpr (by decide)) ?_
    refine z_aload_n (i := 0) (x := 40) dX11_passes_112 rfl rfl ?_
    refine z_getI (j := 21) dX11_passes_113 kl_11 hs40 (by decide) rfl rfl kf_X11_162 ?_
    refine z_iadd dX11_passes_116 ?_
    refine z_sipush (v := 200) dX11_passes_117 (by decide) ?_
    refine z_icmp_le 129 dX11_passes_120 (by decide) (fun c7 => ?_) (fun c7 => ?_)
    · refine z_aload_n (i := 0) (x := 40) dX11_passes_129 rfl rfl ?_
      refine z_getR (j := 39) dX11_passes_130 kl_11 hs40 (by decide) rfl rfl kf_X11_68 ?_
      refine z_bipush (v := 56) dX11_passes_133 (by decide) ?_
      refine z_iload_n (i := 2) (x := 0) dX11_passes_135 rfl rfl ?_
      refine z_iadd dX11_passes_136 ?_
      refine z_topc (y := 56) (by decide) ?_
      refine z_ialdC dX11_passes_137 hs58 (vp_in_iff.mpr (by decide)) ?_
      refine z_aload_n (i := 0) (x := 40) dX11_passes_138 rfl rfl ?_
      refine z_getI (j := 21) dX11_passes_139 kl_11 hs40 (by decide) rfl rfl kf_X11_162 ?_
      refine z_iadd dX11_passes_142 ?_
      exact hJ_F_X11_passes_J143xxxx ((D6 58 (z_ix 56)) + (D6 40 21)) D6
    · refine z_sipush (v := 200) dX11_passes_123 (by decide) ?_
      refine z_goto 143 dX11_passes_126 (by decide) ?_
      exact hJ_F_X11_passes_J143xxxxx D6
  refine z_aload_n (i := 0) (x := 40) dX11_passes_0 rfl rfl ?_
  refine z_getR (j := 39) dX11_passes_1 kl_11 hs40 (by decide) rfl rfl kf_X11_68 ?_
  refine z_bipush (v := 59) dX11_passes_4 (by decide) ?_
  refine z_ialdC dX11_passes_6 hs58 (vp_in_iff.mpr (by decide)) ?_
  refine z_iconst (v := 3) dX11_passes_7 rfl ?_
  refine z_iremC dX11_passes_8 (by decide) ?_
  refine z_topi (fun v1 => ?_)
  refine z_istore_n (i := 1) (x := v1) (lv' := [some (.ref 40), some (.int v1), none, none]) dX11_passes_9 rfl (by decide) rfl rfl ?_
  refine z_iconst (v := 0) dX11_passes_10 rfl ?_
  refine z_istore_n (i := 2) (x := 0) (lv' := [some (.ref 40), some (.int v1), some (.int 0), none]) dX11_passes_11 rfl (by decide) rfl rfl ?_
  refine z_loops (lvOf := fun s : Int32 × z_Dat => [some (.ref 40), some (.int v1), some (.int s.1), none]) (dOf := fun s : Int32 × z_Dat => s.2) (fun kc4 hkc4 s => ?_) N (0, D)
  obtain ⟨v2, D3⟩ := s
  show z_F _ _ _ _ _ 12 [some (.ref 40), some (.int v1), some (.int v2), none] [] S D3 _ (F_X11_passes_L12 v1 kc4 v2 D3)
  unfold F_X11_passes_L12
  have hJ_F_X11_passes_J59 : ∀ (v32 : Int32) (D33 : z_Dat) , z_F l M_X11_passes (20, 520, 0, 0) 0 0 59 [some (.ref 40), some (.int v1), some (.int v32), none] [] S D33 (z_ko (z_kV S)) (F_X11_passes_J59 kc4 v32 D33) := by
    intro v32 D33
    unfold F_X11_passes_J59
    refine z_aload_n (i := 0) (x := 40) dX11_passes_59 rfl rfl ?_
    refine z_getR (j := 39) dX11_passes_60 kl_11 hs40 (by decide) rfl rfl kf_X11_68 ?_
    refine z_bipush (v := 24) dX11_passes_63 (by decide) ?_
    refine z_iload_n (i := 2) (x := v32) dX11_passes_65 rfl rfl ?_
    refine z_iadd dX11_passes_66 ?_
    refine z_iconst (v := 0) dX11_passes_67 rfl ?_
    refine z_iast dX11_passes_68 hs58 (fun D34 => ?_)
    refine z_aload_n (i := 0) (x := 40) dX11_passes_69 rfl rfl ?_
    refine z_getR (j := 39) dX11_passes_70 kl_11 hs40 (by decide) rfl rfl kf_X11_68 ?_
    refine z_bipush (v := 48) dX11_passes_73 (by decide) ?_
    refine z_iload_n (i := 2) (x := v32) dX11_passes_75 rfl rfl ?_
    refine z_iadd dX11_passes_76 ?_
    refine z_dup2 dX11_passes_77 rfl rfl ?_
    refine z_iald dX11_passes_78 hs58 ?_
    refine z_iconst (v := 1) dX11_passes_79 rfl ?_
    refine z_iadd dX11_passes_80 ?_
    refine z_iast dX11_passes_81 hs58 (fun D35 => ?_)
    refine z_iinc (i := 2) (x := v32) (y := 1) dX11_passes_82 rfl (by decide) (by decide) rfl (fun v36 => ?_)
    refine z_goto 12 dX11_passes_85 (by decide) ?_
    exact hkc4 (v36, D35)
  refine z_iload_n (i := 2) (x := v2) dX11_passes_12 rfl rfl ?_
  refine z_aload_n (i := 0) (x := 40) dX11_passes_13 rfl rfl ?_
  refine z_getI (j := 20) dX11_passes_14 kl_11 hs40 (by decide) rfl rfl kf_X11_159 ?_
  refine z_icmp_ge 88 dX11_passes_17 (by decide) (fun c5 => ?_) (fun c5 => ?_)
  · refine z_iconst (v := 0) dX11_passes_88 rfl ?_
    refine z_istore_n (i := 2) (x := 0) (lv' := [some (.ref 40), some (.int v1), some (.int 0), none]) dX11_passes_89 rfl (by decide) rfl rfl ?_
    refine z_weak (lv' := [some (.ref 40), none, some (.int 0), none]) ⟨Or.inr rfl, ⟨Or.inl rfl, ⟨Or.inr rfl, ⟨Or.inl rfl, trivial⟩⟩⟩⟩ ?_
    exact hJ_F_X11_passes_J90xxx D3
  · refine z_iconst (v := 0) dX11_passes_20 rfl ?_
    refine z_iconst (v := 3) dX11_passes_21 rfl ?_
    refine z_iload_n (i := 2) (x := v2) dX11_passes_22 rfl rfl ?_
    refine z_imul dX11_passes_23 ?_
    refine z_iadd dX11_passes_24 ?_
    refine z_iload_n (i := 1) (x := v1) dX11_passes_25 rfl rfl ?_
    refine z_iadd dX11_passes_26 ?_
    refine z_topi (fun v29 => ?_)
    refine z_istore_n (i := 3) (x := v29) (lv' := [some (.ref 40), some (.int v1), some (.int v2), some (.int v29)]) dX11_passes_27 rfl (by decide) rfl rfl ?_
    refine z_aload_n (i := 0) (x := 40) dX11_passes_28 rfl rfl ?_
    refine z_getR (j := 39) dX11_passes_29 kl_11 hs40 (by decide) rfl rfl kf_X11_68 ?_
    refine z_bipush (v := 24) dX11_passes_32 (by decide) ?_
    refine z_iload_n (i := 2) (x := v2) dX11_passes_34 rfl rfl ?_
    refine z_iadd dX11_passes_35 ?_
    refine z_iald dX11_passes_36 hs58 ?_
    refine z_if_ne 59 dX11_passes_37 (by decide) (fun c30 => ?_) (fun c30 => ?_)
    · refine z_aload_n (i := 0) (x := 40) dX11_passes_40 rfl rfl ?_
      refine z_getR (j := 39) dX11_passes_41 kl_11 hs40 (by decide) rfl rfl kf_X11_68 ?_
      refine z_iload_n (i := 3) (x := v29) dX11_passes_44 rfl rfl ?_
      refine z_iald dX11_passes_45 hs58 ?_
      refine z_if_le 59 dX11_passes_46 (by decide) (fun c31 => ?_) (fun c31 => ?_)
      · refine z_weak (lv' := [some (.ref 40), some (.int v1), some (.int v2), none]) ⟨Or.inr rfl, ⟨Or.inr rfl, ⟨Or.inr rfl, ⟨Or.inl rfl, trivial⟩⟩⟩⟩ ?_
        exact hJ_F_X11_passes_J59 v2 D3
      · refine z_aload_n (i := 0) (x := 40) dX11_passes_49 rfl rfl ?_
        refine z_getR (j := 39) dX11_passes_50 kl_11 hs40 (by decide) rfl rfl kf_X11_68 ?_
        refine z_iload_n (i := 3) (x := v29) dX11_passes_53 rfl rfl ?_
        refine z_dup2 dX11_passes_54 rfl rfl ?_
        refine z_iald dX11_passes_55 hs58 ?_
        refine z_iconst (v := 1) dX11_passes_56 rfl ?_
        refine z_isub dX11_passes_57 ?_
        refine z_iast dX11_passes_58 hs58 (fun D37 => ?_)
        refine z_weak (lv' := [some (.ref 40), some (.int v1), some (.int v2), none]) ⟨Or.inr rfl, ⟨Or.inr rfl, ⟨Or.inr rfl, ⟨Or.inl rfl, trivial⟩⟩⟩⟩ ?_
        exact hJ_F_X11_passes_J59 v2 D37
    · refine z_weak (lv' := [some (.ref 40), some (.int v1), some (.int v2), none]) ⟨Or.inr rfl, ⟨Or.inr rfl, ⟨Or.inr rfl, ⟨Or.inl rfl, trivial⟩⟩⟩⟩ ?_
      exact hJ_F_X11_passes_J59 v2 D3

def F_X11_goes (N : Nat) (a0 : Int32) (a1 : Int32) (a2 : Int32) (D : z_Dat) : Option (Int32 × z_Dat) :=
  if a0 = 0 then (z_bd (F_X11_dips a1 a2 D) (fun a_3 => some (a_3.1, a_3.2)))
  else (if a0 = 1 then (z_bd (F_X11_washes a1 D) (fun a_6 => some (a_6.1, a_6.2)))
  else (if a0 = 3 then (z_bd (F_X11_rains N D) (fun a_9 => some (a_9.1, a_9.2)))
  else (if a0 = 4 then (z_bd (F_X11_weds a1 a2 D) (fun a_12 => some (a_12.1, a_12.2)))
  else (if a0 = 2 then (if z_inb (24 + a1) 60 then (if (D 58 (z_ix (24 + a1))) = 1 then (some (0, D))
  else (if z_inb (24 + a1) 60 then z_let (z_up D 58 (z_ix (24 + a1)) 1) (fun D15 => some (1, D15)) else none)) else none)
  else (if (D 58 (z_ix 59)) = 300 then (some (0, D))
  else (z_bd (F_X11_passes N D) (fun a_18 => some (1, a_18))))))))
set_option maxRecDepth 100000 in
set_option maxHeartbeats 4000000 in
theorem em_X11_goes {l : Launch} {S : List z_Shp} {oW : Nat} (hl : l.stackTraces = false) (hW : z_W S oW) (N : Nat) (a0 : Int32) (a1 : Int32) (a2 : Int32) (D : z_Dat) : ∀ out, z_ko (z_kI S) (F_X11_goes N a0 a1 a2 D) out → z_EM l M_X11_goes (50, 700, 0, 0) [.ref 40, .int a0, .int a1, .int a2] S D out := by
  have hs40 : S[40]? = some (13, 55, [none, some (some 41), none, none, none, none, none, none, none, some (some 42), some (some 43), some (some 44), some (some 45), some (some 46), some (some 47), some (some 48), none, none, none, none, none, none, some (some 49), some (some 50), some (some 51), some (some 52), some (some 53), none, none, some (some 54), some (some 55), some (some 56), none, none, none, none, none, none, some (some 57), some (some 58), some (some 59), some (some 60), some (some 61), none, some (some 62), some (some 63), none, none, some (some 64), some (some 65), none, none, none, some (some 66), none]) := hW.1 40 _ rfl
  have hs58 : S[58]? = some (0, 60, []) := hW.1 58 _ rfl
  refine z_meth hl rfl kp_X11 (Nat.le_of_ble_eq_true rfl) (lv := [some (.ref 40), some (.int a0), some (.int a1), some (.int a2)]) rfl ?_
  unfold F_X11_goes
  refine z_iload_n (i := 1) (x := a0) dX11_goes_0 rfl rfl ?_
  refine z_if_ne 11 dX11_goes_1 (by decide) (fun c1 => ?_) (fun c1 => ?_)
  · refine z_aload_n (i := 0) (x := 40) dX11_goes_4 rfl rfl ?_
    refine z_iload_n (i := 2) (x := a1) dX11_goes_5 rfl rfl ?_
    refine z_iload_n (i := 3) (x := a2) dX11_goes_6 rfl rfl ?_
    refine z_cWI (As := [.ref 40, .int a1, .int a2]) (rest := []) (em_X11_dips hl hW a1 a2 D) (fun o7 h => z_runV 361 2 h rfl kk_X11_361 hs40 kl_11.1 kq_X11_dips rfl (Nat.le_of_ble_eq_true rfl) ⟨Nat.le_of_ble_eq_true rfl, Nat.le_of_ble_eq_true rfl, Nat.le_of_ble_eq_true rfl, Nat.le_of_ble_eq_true rfl⟩ dX11_goes_7) z_gWI (fun a_3 hz2 => ?_)
    exact z_ireturn dX11_goes_10 z_rWI hz2 (by decide) (by decide)
  · refine z_iload_n (i := 1) (x := a0) dX11_goes_11 rfl rfl ?_
    refine z_iconst (v := 1) dX11_goes_12 rfl ?_
    refine z_icmp_ne 22 dX11_goes_13 (by decide) (fun c4 => ?_) (fun c4 => ?_)
    · refine z_aload_n (i := 0) (x := 40) dX11_goes_16 rfl rfl ?_
      refine z_iload_n (i := 2) (x := a1) dX11_goes_17 rfl rfl ?_
      refine z_cWI (As := [.ref 40, .int a1]) (rest := []) (em_X11_washes hl hW a1 D) (fun o7 h => z_runV 364 1 h rfl kk_X11_364 hs40 kl_11.1 kq_X11_washes rfl (Nat.le_of_ble_eq_true rfl) ⟨Nat.le_of_ble_eq_true rfl, Nat.le_of_ble_eq_true rfl, Nat.le_of_ble_eq_true rfl, Nat.le_of_ble_eq_true rfl⟩ dX11_goes_18) z_gWI (fun a_6 hz5 => ?_)
      exact z_ireturn dX11_goes_21 z_rWI hz5 (by decide) (by decide)
    · refine z_iload_n (i := 1) (x := a0) dX11_goes_22 rfl rfl ?_
      refine z_iconst (v := 3) dX11_goes_23 rfl ?_
      refine z_icmp_ne 32 dX11_goes_24 (by decide) (fun c7 => ?_) (fun c7 => ?_)
      · refine z_aload_n (i := 0) (x := 40) dX11_goes_27 rfl rfl ?_
        refine z_cWI (As := [.ref 40]) (rest := []) (em_X11_rains hl hW N D) (fun o7 h => z_runV 367 0 h rfl kk_X11_367 hs40 kl_11.1 kq_X11_rains rfl (Nat.le_of_ble_eq_true rfl) ⟨Nat.le_of_ble_eq_true rfl, Nat.le_of_ble_eq_true rfl, Nat.le_of_ble_eq_true rfl, Nat.le_of_ble_eq_true rfl⟩ dX11_goes_28) z_gWI (fun a_9 hz8 => ?_)
        exact z_ireturn dX11_goes_31 z_rWI hz8 (by decide) (by decide)
      · refine z_iload_n (i := 1) (x := a0) dX11_goes_32 rfl rfl ?_
        refine z_iconst (v := 4) dX11_goes_33 rfl ?_
        refine z_icmp_ne 44 dX11_goes_34 (by decide) (fun c10 => ?_) (fun c10 => ?_)
        · refine z_aload_n (i := 0) (x := 40) dX11_goes_37 rfl rfl ?_
          refine z_iload_n (i := 2) (x := a1) dX11_goes_38 rfl rfl ?_
          refine z_iload_n (i := 3) (x := a2) dX11_goes_39 rfl rfl ?_
          refine z_cWI (As := [.ref 40, .int a1, .int a2]) (rest := []) (em_X11_weds hl hW a1 a2 D) (fun o7 h => z_runV 370 2 h rfl kk_X11_370 hs40 kl_11.1 kq_X11_weds rfl (Nat.le_of_ble_eq_true rfl) ⟨Nat.le_of_ble_eq_true rfl, Nat.le_of_ble_eq_true rfl, Nat.le_of_ble_eq_true rfl, Nat.le_of_ble_eq_true rfl⟩ dX11_goes_40) z_gWI (fun a_12 hz11 => ?_)
          exact z_ireturn dX11_goes_43 z_rWI hz11 (by decide) (by decide)
        · refine z_iload_n (i := 1) (x := a0) dX11_goes_44 rfl rfl ?_
          refine z_iconst (v := 2) dX11_goes_45 rfl ?_
          refine z_icmp_ne 76 dX11_goes_46 (by decide) (fun c13 => ?_) (fun c13 => ?_)
          · refine z_aload_n (i := 0) (x := 40) dX11_goes_49 rfl rfl ?_
            refine z_getR (j := 39) dX11_goes_50 kl_11 hs40 (by decide) rfl rfl kf_X11_68 ?_
            refine z_bipush (v := 24) dX11_goes_53 (by decide) ?_
            refine z_iload_n (i := 2) (x := a1) dX11_goes_55 rfl rfl ?_
            refine z_iadd dX11_goes_56 ?_
            refine z_iald dX11_goes_57 hs58 ?_
            refine z_iconst (v := 1) dX11_goes_58 rfl ?_
            refine z_icmp_ne 64 dX11_goes_59 (by decide) (fun c14 => ?_) (fun c14 => ?_)
            · refine z_iconst (v := 0) dX11_goes_62 rfl ?_
              exact z_ireturn dX11_goes_63 z_rWI rfl (by decide) (by decide)
            · refine z_aload_n (i := 0) (x := 40) dX11_goes_64 rfl rfl ?_
              refine z_getR (j := 39) dX11_goes_65 kl_11 hs40 (by decide) rfl rfl kf_X11_68 ?_
              refine z_bipush (v := 24) dX11_goes_68 (by decide) ?_
              refine z_iload_n (i := 2) (x := a1) dX11_goes_70 rfl rfl ?_
              refine z_iadd dX11_goes_71 ?_
              refine z_iconst (v := 1) dX11_goes_72 rfl ?_
              refine z_iast dX11_goes_73 hs58 (fun D15 => ?_)
              refine z_iconst (v := 1) dX11_goes_74 rfl ?_
              exact z_ireturn dX11_goes_75 z_rWI rfl (by decide) (by decide)
          · refine z_aload_n (i := 0) (x := 40) dX11_goes_76 rfl rfl ?_
            refine z_getR (j := 39) dX11_goes_77 kl_11 hs40 (by decide) rfl rfl kf_X11_68 ?_
            refine z_bipush (v := 59) dX11_goes_80 (by decide) ?_
            refine z_ialdC dX11_goes_82 hs58 (vp_in_iff.mpr (by decide)) ?_
            refine z_sipush (v := 300) dX11_goes_83 (by decide) ?_
            refine z_icmp_ne 91 dX11_goes_86 (by decide) (fun c16 => ?_) (fun c16 => ?_)
            · refine z_iconst (v := 0) dX11_goes_89 rfl ?_
              exact z_ireturn dX11_goes_90 z_rWI rfl (by decide) (by decide)
            · refine z_aload_n (i := 0) (x := 40) dX11_goes_91 rfl rfl ?_
              refine z_cWV (As := [.ref 40]) (rest := []) (em_X11_passes hl hW N D) (fun o7 h => z_runV 373 0 h rfl kk_X11_373 hs40 kl_11.1 kq_X11_passes rfl (Nat.le_of_ble_eq_true rfl) ⟨Nat.le_of_ble_eq_true rfl, Nat.le_of_ble_eq_true rfl, Nat.le_of_ble_eq_true rfl, Nat.le_of_ble_eq_true rfl⟩ dX11_goes_92) z_gWI (fun a_18 hz17 => ?_)
              refine z_iconst (v := 1) dX11_goes_95 rfl ?_
              exact z_ireturn dX11_goes_96 z_rWI rfl (by decide) (by decide)

def F_X11_goesSteps_L51 (slf : Int32 → Int32 → z_Dat → Option z_Dat) (kc3 : ((Int32 × z_Dat) → Option z_Dat)) (v1 : Int32) (v8 : Int32) (kc11 : ((Int32 × z_Dat) → Option z_Dat)) (v9 : Int32) (D10 : z_Dat) : Option z_Dat :=
  if z_inb (v1 + 1) 150 then (if (D10 56 (z_ix (v1 + 1))) ≤ v9 then (kc3 (v8, D10))
  else (if 200 ≤ (D10 40 35) then (kc3 (v8, D10))
  else (z_bd (slf (v1 + 3) v8 D10) (fun a_15 => z_let (v9 + 1) (fun v16 => kc11 (v16, a_15)))))) else none
def F_X11_goesSteps_L2 (N : Nat) (slf : Int32 → Int32 → z_Dat → Option z_Dat) (a1 : Int32) (kc3 : ((Int32 × z_Dat) → Option z_Dat)) (v1 : Int32) (D2 : z_Dat) : Option z_Dat :=
  if a1 ≤ v1 then (some D2)
  else (if 200 ≤ (D2 40 35) then (some D2)
  else (z_let (z_up D2 40 35 ((D2 40 35) + 1)) (fun D6 => if z_inb v1 150 then (if (D6 56 (z_ix v1)) = 6 then (if z_inb (v1 + 2) 150 then (z_let (D6 56 (z_ix (v1 + 2))) (fun v8 => z_loop (fun kc11 s => F_X11_goesSteps_L51 slf kc3 v1 v8 kc11 s.1 s.2) N (0, D6))) else none)
  else (if z_inb v1 150 then (if z_inb (v1 + 1) 150 then (if z_inb (v1 + 2) 150 then (z_bd (F_X11_goes N (D6 56 (z_ix v1)) (D6 56 (z_ix (v1 + 1))) (D6 56 (z_ix (v1 + 2))) D6) (fun a_19 => if a_19.1 = 0 then (z_let (z_up a_19.2 40 37 ((a_19.2 40 37) + 1)) (fun D21 => z_let (v1 + 3) (fun v22 => kc3 (v22, D21))))
  else (z_let (z_up a_19.2 40 36 ((a_19.2 40 36) + 1)) (fun D23 => z_let (v1 + 3) (fun v24 => kc3 (v24, D23)))))) else none) else none) else none)) else none)))
def F_X11_goesSteps_B (N : Nat) (slf : Int32 → Int32 → z_Dat → Option z_Dat) (a0 : Int32) (a1 : Int32) (D : z_Dat) : Option z_Dat :=
  z_loop (fun kc3 s => F_X11_goesSteps_L2 N slf a1 kc3 s.1 s.2) N (a0, D)
set_option maxRecDepth 100000 in
set_option maxHeartbeats 4000000 in
theorem em_X11_goesSteps_B {l : Launch} {S : List z_Shp} {oW : Nat} (hl : l.stackTraces = false) (hW : z_W S oW) (N : Nat) (K : Nat) (slf : Int32 → Int32 → z_Dat → Option z_Dat) (hs : ∀ (a0 : Int32) (a1 : Int32) (D : z_Dat), ∀ out, z_ko (z_kV S) (slf a0 a1 D) out → z_EM l M_X11_goesSteps (60 + 20 * K, 760 + 300 * K, 0, 0) [.ref 40, .int a0, .int a1] S D out) (a0 : Int32) (a1 : Int32) (D : z_Dat) : ∀ out, z_ko (z_kV S) (F_X11_goesSteps_B N slf a0 a1 D) out → z_EM l M_X11_goesSteps (60 + 20 * (K + 1), 760 + 300 * (K + 1), 0, 0) [.ref 40, .int a0, .int a1] S D out := by
  have hs40 : S[40]? = some (13, 55, [none, some (some 41), none, none, none, none, none, none, none, some (some 42), some (some 43), some (some 44), some (some 45), some (some 46), some (some 47), some (some 48), none, none, none, none, none, none, some (some 49), some (some 50), some (some 51), some (some 52), some (some 53), none, none, some (some 54), some (some 55), some (some 56), none, none, none, none, none, none, some (some 57), some (some 58), some (some 59), some (some 60), some (some 61), none, some (some 62), some (some 63), none, none, some (some 64), some (some 65), none, none, none, some (some 66), none]) := hW.1 40 _ rfl
  have hs56 : S[56]? = some (0, 150, []) := hW.1 56 _ rfl
  refine z_meth hl rfl kp_X11 (Nat.le_of_ble_eq_true rfl) (lv := [some (.ref 40), some (.int a0), some (.int a1), none, none, none]) rfl ?_
  unfold F_X11_goesSteps_B
  refine z_iload_n (i := 1) (x := a0) dX11_goesSteps_0 rfl rfl ?_
  refine z_istore_n (i := 3) (x := a0) (lv' := [some (.ref 40), some (.int a0), some (.int a1), some (.int a0), none, none]) dX11_goesSteps_1 rfl (by decide) rfl rfl ?_
  refine z_weak (lv' := [some (.ref 40), none, some (.int a1), some (.int a0), none, none]) ⟨Or.inr rfl, ⟨Or.inl rfl, ⟨Or.inr rfl, ⟨Or.inr rfl, ⟨Or.inl rfl, ⟨Or.inl rfl, trivial⟩⟩⟩⟩⟩⟩ ?_
  refine z_loops (lvOf := fun s : Int32 × z_Dat => [some (.ref 40), none, some (.int a1), some (.int s.1), none, none]) (dOf := fun s : Int32 × z_Dat => s.2) (fun kc3 hkc3 s => ?_) N (a0, D)
  obtain ⟨v1, D2⟩ := s
  show z_F _ _ _ _ _ 2 [some (.ref 40), none, some (.int a1), some (.int v1), none, none] [] S D2 _ (F_X11_goesSteps_L2 N slf a1 kc3 v1 D2)
  unfold F_X11_goesSteps_L2
  refine z_iload_n (i := 3) (x := v1) dX11_goesSteps_2 rfl rfl ?_
  refine z_iload_n (i := 2) (x := a1) dX11_goesSteps_3 rfl rfl ?_
  refine z_icmp_ge 153 dX11_goesSteps_4 (by decide) (fun c4 => ?_) (fun c4 => ?_)
  · exact z_vreturn dX11_goesSteps_153 z_rWV trivial (Nat.le_refl _) (Nat.le_refl _)
  · refine z_aload_n (i := 0) (x := 40) dX11_goesSteps_7 rfl rfl ?_
    refine z_getI (j := 35) dX11_goesSteps_8 kl_11 hs40 (by decide) rfl rfl kf_X11_311 ?_
    refine z_sipush (v := 200) dX11_goesSteps_11 (by decide) ?_
    refine z_icmp_ge 153 dX11_goesSteps_14 (by decide) (fun c5 => ?_) (fun c5 => ?_)
    · exact z_vreturn dX11_goesSteps_153 z_rWV trivial (Nat.le_refl _) (Nat.le_refl _)
    · refine z_aload_n (i := 0) (x := 40) dX11_goesSteps_17 rfl rfl ?_
      refine z_dup dX11_goesSteps_18 rfl ?_
      refine z_getI (j := 35) dX11_goesSteps_19 kl_11 hs40 (by decide) rfl rfl kf_X11_311 ?_
      refine z_iconst (v := 1) dX11_goesSteps_22 rfl ?_
      refine z_iadd dX11_goesSteps_23 ?_
      refine z_putI (j := 35) dX11_goesSteps_24 kl_11 tyX11_ok nmX11 hs40 (by decide) rfl rfl rfl rfl rfl rfl kf_X11_311 (fun D6 => ?_)
      refine z_aload_n (i := 0) (x := 40) dX11_goesSteps_27 rfl rfl ?_
      refine z_getR (j := 31) dX11_goesSteps_28 kl_11 hs40 (by decide) rfl rfl kf_X11_62 ?_
      refine z_iload_n (i := 3) (x := v1) dX11_goesSteps_31 rfl rfl ?_
      refine z_iald dX11_goesSteps_32 hs56 ?_
      refine z_bipush (v := 6) dX11_goesSteps_33 (by decide) ?_
      refine z_icmp_ne 95 dX11_goesSteps_35 (by decide) (fun c7 => ?_) (fun c7 => ?_)
      · refine z_aload_n (i := 0) (x := 40) dX11_goesSteps_38 rfl rfl ?_
        refine z_getR (j := 31) dX11_goesSteps_39 kl_11 hs40 (by decide) rfl rfl kf_X11_62 ?_
        refine z_iload_n (i := 3) (x := v1) dX11_goesSteps_42 rfl rfl ?_
        refine z_iconst (v := 2) dX11_goesSteps_43 rfl ?_
        refine z_iadd dX11_goesSteps_44 ?_
        refine z_iald dX11_goesSteps_45 hs56 ?_
        refine z_topi (fun v8 => ?_)
        refine z_istore (i := 4) (x := v8) (lv' := [some (.ref 40), none, some (.int a1), some (.int v1), some (.int v8), none]) dX11_goesSteps_46 (by decide) rfl rfl ?_
        refine z_iconst (v := 0) dX11_goesSteps_48 rfl ?_
        refine z_istore (i := 5) (x := 0) (lv' := [some (.ref 40), none, some (.int a1), some (.int v1), some (.int v8), some (.int 0)]) dX11_goesSteps_49 (by decide) rfl rfl ?_
        refine z_loops (lvOf := fun s : Int32 × z_Dat => [some (.ref 40), none, some (.int a1), some (.int v1), some (.int v8), some (.int s.1)]) (dOf := fun s : Int32 × z_Dat => s.2) (fun kc11 hkc11 s => ?_) N (0, D6)
        obtain ⟨v9, D10⟩ := s
        show z_F _ _ _ _ _ 51 [some (.ref 40), none, some (.int a1), some (.int v1), some (.int v8), some (.int v9)] [] S D10 _ (F_X11_goesSteps_L51 slf kc3 v1 v8 kc11 v9 D10)
        unfold F_X11_goesSteps_L51
        refine z_iload (i := 5) (x := v9) dX11_goesSteps_51 rfl ?_
        refine z_aload_n (i := 0) (x := 40) dX11_goesSteps_53 rfl rfl ?_
        refine z_getR (j := 31) dX11_goesSteps_54 kl_11 hs40 (by decide) rfl rfl kf_X11_62 ?_
        refine z_iload_n (i := 3) (x := v1) dX11_goesSteps_57 rfl rfl ?_
        refine z_iconst (v := 1) dX11_goesSteps_58 rfl ?_
        refine z_iadd dX11_goesSteps_59 ?_
        refine z_iald dX11_goesSteps_60 hs56 ?_
        refine z_icmp_ge 89 dX11_goesSteps_61 (by decide) (fun c12 => ?_) (fun c12 => ?_)
        · refine z_iload (i := 4) (x := v8) dX11_goesSteps_89 rfl ?_
          refine z_istore_n (i := 3) (x := v8) (lv' := [some (.ref 40), none, some (.int a1), some (.int v8), some (.int v8), some (.int v9)]) dX11_goesSteps_91 rfl (by decide) rfl rfl ?_
          refine z_goto 2 dX11_goesSteps_92 (by decide) ?_
          refine z_weak (lv' := [some (.ref 40), none, some (.int a1), some (.int v8), none, none]) ⟨Or.inr rfl, ⟨Or.inl rfl, ⟨Or.inr rfl, ⟨Or.inr rfl, ⟨Or.inl rfl, ⟨Or.inl rfl, trivial⟩⟩⟩⟩⟩⟩ ?_
          exact hkc3 (v8, D10)
        · refine z_aload_n (i := 0) (x := 40) dX11_goesSteps_64 rfl rfl ?_
          refine z_getI (j := 35) dX11_goesSteps_65 kl_11 hs40 (by decide) rfl rfl kf_X11_311 ?_
          refine z_sipush (v := 200) dX11_goesSteps_68 (by decide) ?_
          refine z_icmp_ge 89 dX11_goesSteps_71 (by decide) (fun c13 => ?_) (fun c13 => ?_)
          · refine z_iload (i := 4) (x := v8) dX11_goesSteps_89 rfl ?_
            refine z_istore_n (i := 3) (x := v8) (lv' := [some (.ref 40), none, some (.int a1), some (.int v8), some (.int v8), some (.int v9)]) dX11_goesSteps_91 rfl (by decide) rfl rfl ?_
            refine z_goto 2 dX11_goesSteps_92 (by decide) ?_
            refine z_weak (lv' := [some (.ref 40), none, some (.int a1), some (.int v8), none, none]) ⟨Or.inr rfl, ⟨Or.inl rfl, ⟨Or.inr rfl, ⟨Or.inr rfl, ⟨Or.inl rfl, ⟨Or.inl rfl, trivial⟩⟩⟩⟩⟩⟩ ?_
            exact hkc3 (v8, D10)
          · refine z_aload_n (i := 0) (x := 40) dX11_goesSteps_74 rfl rfl ?_
            refine z_iload_n (i := 3) (x := v1) dX11_goesSteps_75 rfl rfl ?_
            refine z_iconst (v := 3) dX11_goesSteps_76 rfl ?_
            refine z_iadd dX11_goesSteps_77 ?_
            refine z_iload (i := 4) (x := v8) dX11_goesSteps_78 rfl ?_
            refine z_cWV (As := [.ref 40, .int (v1 + 3), .int v8]) (rest := []) (hs (v1 + 3) v8 D10) (fun o7 h => z_runV 320 2 h rfl kk_X11_320 hs40 kl_11.1 kq_X11_goesSteps rfl (Nat.le_of_ble_eq_true rfl) ⟨by dsimp only; omega, by dsimp only; omega, Nat.le_of_ble_eq_true rfl, Nat.le_of_ble_eq_true rfl⟩ dX11_goesSteps_80) z_gWV (fun a_15 hz14 => ?_)
            refine z_iinc (i := 5) (x := v9) (y := 1) dX11_goesSteps_83 rfl (by decide) (by decide) rfl (fun v16 => ?_)
            refine z_goto 51 dX11_goesSteps_86 (by decide) ?_
            exact hkc11 (v16, a_15)
      · refine z_aload_n (i := 0) (x := 40) dX11_goesSteps_95 rfl rfl ?_
        refine z_aload_n (i := 0) (x := 40) dX11_goesSteps_96 rfl rfl ?_
        refine z_getR (j := 31) dX11_goesSteps_97 kl_11 hs40 (by decide) rfl rfl kf_X11_62 ?_
        refine z_iload_n (i := 3) (x := v1) dX11_goesSteps_100 rfl rfl ?_
        refine z_iald dX11_goesSteps_101 hs56 ?_
        refine z_aload_n (i := 0) (x := 40) dX11_goesSteps_102 rfl rfl ?_
        refine z_getR (j := 31) dX11_goesSteps_103 kl_11 hs40 (by decide) rfl rfl kf_X11_62 ?_
        refine z_iload_n (i := 3) (x := v1) dX11_goesSteps_106 rfl rfl ?_
        refine z_iconst (v := 1) dX11_goesSteps_107 rfl ?_
        refine z_iadd dX11_goesSteps_108 ?_
        refine z_iald dX11_goesSteps_109 hs56 ?_
        refine z_aload_n (i := 0) (x := 40) dX11_goesSteps_110 rfl rfl ?_
        refine z_getR (j := 31) dX11_goesSteps_111 kl_11 hs40 (by decide) rfl rfl kf_X11_62 ?_
        refine z_iload_n (i := 3) (x := v1) dX11_goesSteps_114 rfl rfl ?_
        refine z_iconst (v := 2) dX11_goesSteps_115 rfl ?_
        refine z_iadd dX11_goesSteps_116 ?_
        refine z_iald dX11_goesSteps_117 hs56 ?_
        refine z_cWI (As := [.ref 40, .int (D6 56 (z_ix v1)), .int (D6 56 (z_ix (v1 + 1))), .int (D6 56 (z_ix (v1 + 2)))]) (rest := []) (em_X11_goes hl hW N (D6 56 (z_ix v1)) (D6 56 (z_ix (v1 + 1))) (D6 56 (z_ix (v1 + 2))) D6) (fun o7 h => z_runV 323 3 h rfl kk_X11_323 hs40 kl_11.1 kq_X11_goes rfl (Nat.le_of_ble_eq_true rfl) ⟨by dsimp only; omega, by dsimp only; omega, Nat.le_of_ble_eq_true rfl, Nat.le_of_ble_eq_true rfl⟩ dX11_goesSteps_118) z_gWV (fun a_19 hz18 => ?_)
        refine z_if_eq 137 dX11_goesSteps_121 (by decide) (fun c20 => ?_) (fun c20 => ?_)
        · refine z_aload_n (i := 0) (x := 40) dX11_goesSteps_137 rfl rfl ?_
          refine z_dup dX11_goesSteps_138 rfl ?_
          refine z_getI (j := 37) dX11_goesSteps_139 kl_11 hs40 (by decide) rfl rfl kf_X11_317 ?_
          refine z_iconst (v := 1) dX11_goesSteps_142 rfl ?_
          refine z_iadd dX11_goesSteps_143 ?_
          refine z_putI (j := 37) dX11_goesSteps_144 kl_11 tyX11_ok nmX11 hs40 (by decide) rfl rfl rfl rfl rfl rfl kf_X11_317 (fun D21 => ?_)
          refine z_iinc (i := 3) (x := v1) (y := 3) dX11_goesSteps_147 rfl (by decide) (by decide) rfl (fun v22 => ?_)
          refine z_goto 2 dX11_goesSteps_150 (by decide) ?_
          exact hkc3 (v22, D21)
        · refine z_aload_n (i := 0) (x := 40) dX11_goesSteps_124 rfl rfl ?_
          refine z_dup dX11_goesSteps_125 rfl ?_
          refine z_getI (j := 36) dX11_goesSteps_126 kl_11 hs40 (by decide) rfl rfl kf_X11_314 ?_
          refine z_iconst (v := 1) dX11_goesSteps_129 rfl ?_
          refine z_iadd dX11_goesSteps_130 ?_
          refine z_putI (j := 36) dX11_goesSteps_131 kl_11 tyX11_ok nmX11 hs40 (by decide) rfl rfl rfl rfl rfl rfl kf_X11_314 (fun D23 => ?_)
          refine z_goto 147 dX11_goesSteps_134 (by decide) ?_
          refine z_iinc (i := 3) (x := v1) (y := 3) dX11_goesSteps_147 rfl (by decide) (by decide) rfl (fun v24 => ?_)
          refine z_goto 2 dX11_goesSteps_150 (by decide) ?_
          exact hkc3 (v24, D23)
def F_X11_goesSteps (N : Nat) : Nat → Int32 → Int32 → z_Dat → Option z_Dat
  | 0 => fun _ _ _ => none
  | K + 1 => F_X11_goesSteps_B N (F_X11_goesSteps N K)
theorem em_X11_goesSteps {l : Launch} {S : List z_Shp} {oW : Nat} (hl : l.stackTraces = false) (hW : z_W S oW) (N : Nat) : ∀ (K : Nat) (a0 : Int32) (a1 : Int32) (D : z_Dat), ∀ out, z_ko (z_kV S) (F_X11_goesSteps N K a0 a1 D) out → z_EM l M_X11_goesSteps (60 + 20 * K, 760 + 300 * K, 0, 0) [.ref 40, .int a0, .int a1] S D out
  | 0, _, _, _, _, ⟨_, h, _⟩ => by cases h
  | K + 1, a0, a1, D, out, h => em_X11_goesSteps_B hl hW N K (F_X11_goesSteps N K) (fun a0 a1 D => em_X11_goesSteps hl hW N K a0 a1 D) a0 a1 D out h

def F_X11_work_L123 (N : Nat) (kc26 : ((Int32 × z_Dat) → Option (Int32 × z_Dat))) (v24 : Int32) (D25 : z_Dat) : Option (Int32 × z_Dat) :=
  if 60 ≤ v24 then (z_let (z_up D25 40 33 ((D25 40 33) + 1)) (fun D28 => z_bd (F_X11_take N D28) (fun a_30 => z_let (z_up a_30 40 35 0) (fun D31 => z_let (z_up D31 40 36 0) (fun D32 => z_let (z_up D32 40 37 0) (fun D33 => z_bd (F_X11_goesSteps N 64 0 (D33 40 32) D33) (fun a_35 => z_bd (F_X11_copies N 58 60 57 60 60 a_35) (fun a_37 => z_let (z_up a_37 40 34 (a_37 40 37)) (fun D38 => some (D38 40 36, D38))))))))))
  else (if z_inb v24 60 then (if z_inb ((60 * (D25 40 33)) + v24) 960 then z_let (z_up D25 59 (z_ix ((60 * (D25 40 33)) + v24)) (D25 57 (z_ix v24))) (fun D39 => z_let (v24 + 1) (fun v40 => kc26 (v40, D39))) else none) else none)
def F_X11_work_J89 (N : Nat) (D18 : z_Dat) : Option (Int32 × z_Dat) :=
  z_let (F_X11_result 0 D18) (fun a_20 => if (a_20.2 40 5) = (-1) then (z_bd (F_X11_copies N 55 150 56 150 (a_20.2 40 32) a_20.2) (fun a_23 => z_loop (fun kc26 s => F_X11_work_L123 N kc26 s.1 s.2) N (0, a_23)))
  else (some (a_20.1, a_20.2)))
def F_X11_work_L68 (N : Nat) (kc15 : (z_Dat → Option (Int32 × z_Dat))) (D14 : z_Dat) : Option (Int32 × z_Dat) :=
  if (F_X11_fine D14) = 0 then (F_X11_work_J89 N D14)
  else (z_bd (F_X11_isMore N D14) (fun a_43 => if a_43.1 = 0 then (F_X11_work_J89 N a_43.2)
  else (z_bd (F_X11_readStep N 64 a_43.2) (fun a_46 => kc15 a_46))))
def F_X11_work_J30 (N : Nat) (a0 : Int32) (D4 : z_Dat) : Option (Int32 × z_Dat) :=
  z_bd (F_X11_may 0 1 1 D4) (fun a_6 => if a_6.1 = 0 then (some (0, a_6.2))
  else (z_let (F_X11_begins a0 a_6.2) (fun a_9 => if (a_9 40 33) = 16 then (z_let (F_X11_result 0 a_9) (fun a_12 => some ((-20), a_12.2)))
  else (z_let (z_up a_9 40 32 0) (fun D13 => z_loop (fun kc15 s => F_X11_work_L68 N kc15 s) N D13)))))
def F_X11_work_J29 (N : Nat) (a0 : Int32) (D3 : z_Dat) : Option (Int32 × z_Dat) :=
  F_X11_work_J30 N a0 D3
def F_X11_work_L68x (N : Nat) (kc61 : (z_Dat → Option (Int32 × z_Dat))) (D60 : z_Dat) : Option (Int32 × z_Dat) :=
  if (F_X11_fine D60) = 0 then (F_X11_work_J89 N D60)
  else (z_bd (F_X11_isMore N D60) (fun a_65 => if a_65.1 = 0 then (F_X11_work_J89 N a_65.2)
  else (z_bd (F_X11_readStep N 64 a_65.2) (fun a_68 => kc61 a_68))))
def F_X11_work_J30x (N : Nat) (a0 : Int32) (D50 : z_Dat) : Option (Int32 × z_Dat) :=
  z_bd (F_X11_may 1 1 1 D50) (fun a_52 => if a_52.1 = 0 then (some (0, a_52.2))
  else (z_let (F_X11_begins a0 a_52.2) (fun a_55 => if (a_55 40 33) = 16 then (z_let (F_X11_result 0 a_55) (fun a_58 => some ((-20), a_58.2)))
  else (z_let (z_up a_55 40 32 0) (fun D59 => z_loop (fun kc61 s => F_X11_work_L68x N kc61 s) N D59)))))
def F_X11_work (N : Nat) (a0 : Int32) (D : z_Dat) : Option (Int32 × z_Dat) :=
  z_let (z_up D 40 0 0) (fun D1 => if a0 < 0 then (F_X11_work_J29 N a0 D1)
  else (if (D1 40 2) < a0 then (F_X11_work_J29 N a0 D1)
  else (if 150 < a0 then (F_X11_work_J29 N a0 D1)
  else (F_X11_work_J30x N a0 D1))))
set_option maxRecDepth 100000 in
set_option maxHeartbeats 4000000 in
theorem em_X11_work {l : Launch} {S : List z_Shp} {oW : Nat} (hl : l.stackTraces = false) (hW : z_W S oW) (N : Nat) (a0 : Int32) (D : z_Dat) : ∀ out, z_ko (z_kI S) (F_X11_work N a0 D) out → z_EM l M_X11_work (1350, 20020, 0, 0) [.ref 40, .int a0] S D out := by
  have hs40 : S[40]? = some (13, 55, [none, some (some 41), none, none, none, none, none, none, none, some (some 42), some (some 43), some (some 44), some (some 45), some (some 46), some (some 47), some (some 48), none, none, none, none, none, none, some (some 49), some (some 50), some (some 51), some (some 52), some (some 53), none, none, some (some 54), some (some 55), some (some 56), none, none, none, none, none, none, some (some 57), some (some 58), some (some 59), some (some 60), some (some 61), none, some (some 62), some (some 63), none, none, some (some 64), some (some 65), none, none, none, some (some 66), none]) := hW.1 40 _ rfl
  have hs55 : S[55]? = some (0, 150, []) := hW.1 55 _ rfl
  have hs56 : S[56]? = some (0, 150, []) := hW.1 56 _ rfl
  have hs57 : S[57]? = some (0, 60, []) := hW.1 57 _ rfl
  have hs58 : S[58]? = some (0, 60, []) := hW.1 58 _ rfl
  have hs59 : S[59]? = some (0, 960, []) := hW.1 59 _ rfl
  refine z_meth hl rfl kp_X11 (Nat.le_of_ble_eq_true rfl) (lv := [some (.ref 40), some (.int a0), none, none]) rfl ?_
  unfold F_X11_work
  have hJ_F_X11_work_J89 : ∀ (D18 : z_Dat) , z_F l M_X11_work (1350, 20020, 0, 0) 0 0 89 [some (.ref 40), none, none, none] [] S D18 (z_ko (z_kI S)) (F_X11_work_J89 N D18) := by
    intro D18
    unfold F_X11_work_J89
    refine z_aload_n (i := 0) (x := 40) dX11_work_89 rfl rfl ?_
    refine z_iconst (v := 0) dX11_work_90 rfl ?_
    refine z_cTI (As := [.ref 40, .int 0]) (rest := []) (em_X11_result hl hW 0 D18) (fun o7 h => z_runV 224 1 h rfl kk_X11_224 hs40 kl_11.1 kq_X11_result rfl (Nat.le_of_ble_eq_true rfl) ⟨Nat.le_of_ble_eq_true rfl, Nat.le_of_ble_eq_true rfl, Nat.le_of_ble_eq_true rfl, Nat.le_of_ble_eq_true rfl⟩ dX11_work_91) z_gWI (fun a_20 hz19 => ?_)
    refine z_istore_n (i := 2) (x := a_20.1) (lv' := [some (.ref 40), none, some (.int a_20.1), none]) dX11_work_94 rfl (by decide) rfl rfl ?_
    refine z_aload_n (i := 0) (x := 40) dX11_work_95 rfl rfl ?_
    refine z_getI (j := 5) dX11_work_96 kl_11 hs40 (by decide) rfl rfl kf_X11_104 ?_
    refine z_iconst (v := (-1)) dX11_work_99 rfl ?_
    refine z_icmp_eq 105 dX11_work_100 (by decide) (fun c21 => ?_) (fun c21 => ?_)
    · refine z_aload_n (i := 0) (x := 40) dX11_work_105 rfl rfl ?_
      refine z_aload_n (i := 0) (x := 40) dX11_work_106 rfl rfl ?_
      refine z_getR (j := 30) dX11_work_107 kl_11 hs40 (by decide) rfl rfl kf_X11_59 ?_
      refine z_aload_n (i := 0) (x := 40) dX11_work_110 rfl rfl ?_
      refine z_getR (j := 31) dX11_work_111 kl_11 hs40 (by decide) rfl rfl kf_X11_62 ?_
      refine z_aload_n (i := 0) (x := 40) dX11_work_114 rfl rfl ?_
      refine z_getI (j := 32) dX11_work_115 kl_11 hs40 (by decide) rfl rfl kf_X11_280 ?_
      refine z_cWV (As := [.ref 40, .ref 55, .ref 56, .int (a_20.2 40 32)]) (rest := []) (em_X11_copies (n0 := 150) (n1 := 150) hl hW hs55 (by decide) hs56 (by decide) N (a_20.2 40 32) a_20.2) (fun o7 h => z_runV 165 3 h rfl kk_X11_165 hs40 kl_11.1 kq_X11_copies rfl (Nat.le_of_ble_eq_true rfl) ⟨Nat.le_of_ble_eq_true rfl, Nat.le_of_ble_eq_true rfl, Nat.le_of_ble_eq_true rfl, Nat.le_of_ble_eq_true rfl⟩ dX11_work_118) z_gWI (fun a_23 hz22 => ?_)
      refine z_iconst (v := 0) dX11_work_121 rfl ?_
      refine z_istore_n (i := 3) (x := 0) (lv' := [some (.ref 40), none, some (.int a_20.1), some (.int 0)]) dX11_work_122 rfl (by decide) rfl rfl ?_
      refine z_weak (lv' := [some (.ref 40), none, none, some (.int 0)]) ⟨Or.inr rfl, ⟨Or.inl rfl, ⟨Or.inl rfl, ⟨Or.inr rfl, trivial⟩⟩⟩⟩ ?_
      refine z_loops (lvOf := fun s : Int32 × z_Dat => [some (.ref 40), none, none, some (.int s.1)]) (dOf := fun s : Int32 × z_Dat => s.2) (fun kc26 hkc26 s => ?_) N (0, a_23)
      obtain ⟨v24, D25⟩ := s
      show z_F _ _ _ _ _ 123 [some (.ref 40), none, none, some (.int v24)] [] S D25 _ (F_X11_work_L123 N kc26 v24 D25)
      unfold F_X11_work_L123
      refine z_iload_n (i := 3) (x := v24) dX11_work_123 rfl rfl ?_
      refine z_bipush (v := 60) dX11_work_124 (by decide) ?_
      refine z_icmp_ge 155 dX11_work_126 (by decide) (fun c27 => ?_) (fun c27 => ?_)
      · refine z_aload_n (i := 0) (x := 40) dX11_work_155 rfl rfl ?_
        refine z_dup dX11_work_156 rfl ?_
        refine z_getI (j := 33) dX11_work_157 kl_11 hs40 (by decide) rfl rfl kf_X11_175 ?_
        refine z_iconst (v := 1) dX11_work_160 rfl ?_
        refine z_iadd dX11_work_161 ?_
        refine z_putI (j := 33) dX11_work_162 kl_11 tyX11_ok nmX11 hs40 (by decide) rfl rfl rfl rfl rfl rfl kf_X11_175 (fun D28 => ?_)
        refine z_aload_n (i := 0) (x := 40) dX11_work_165 rfl rfl ?_
        refine z_cWV (As := [.ref 40]) (rest := []) (em_X11_take hl hW N D28) (fun o7 h => z_runV 308 0 h rfl kk_X11_308 hs40 kl_11.1 kq_X11_take rfl (Nat.le_of_ble_eq_true rfl) ⟨Nat.le_of_ble_eq_true rfl, Nat.le_of_ble_eq_true rfl, Nat.le_of_ble_eq_true rfl, Nat.le_of_ble_eq_true rfl⟩ dX11_work_166) z_gWI (fun a_30 hz29 => ?_)
        refine z_aload_n (i := 0) (x := 40) dX11_work_169 rfl rfl ?_
        refine z_iconst (v := 0) dX11_work_170 rfl ?_
        refine z_putI (j := 35) dX11_work_171 kl_11 tyX11_ok nmX11 hs40 (by decide) rfl rfl rfl rfl rfl rfl kf_X11_311 (fun D31 => ?_)
        refine z_aload_n (i := 0) (x := 40) dX11_work_174 rfl rfl ?_
        refine z_iconst (v := 0) dX11_work_175 rfl ?_
        refine z_putI (j := 36) dX11_work_176 kl_11 tyX11_ok nmX11 hs40 (by decide) rfl rfl rfl rfl rfl rfl kf_X11_314 (fun D32 => ?_)
        refine z_aload_n (i := 0) (x := 40) dX11_work_179 rfl rfl ?_
        refine z_iconst (v := 0) dX11_work_180 rfl ?_
        refine z_putI (j := 37) dX11_work_181 kl_11 tyX11_ok nmX11 hs40 (by decide) rfl rfl rfl rfl rfl rfl kf_X11_317 (fun D33 => ?_)
        refine z_aload_n (i := 0) (x := 40) dX11_work_184 rfl rfl ?_
        refine z_iconst (v := 0) dX11_work_185 rfl ?_
        refine z_aload_n (i := 0) (x := 40) dX11_work_186 rfl rfl ?_
        refine z_getI (j := 32) dX11_work_187 kl_11 hs40 (by decide) rfl rfl kf_X11_280 ?_
        refine z_cWV (As := [.ref 40, .int 0, .int (D33 40 32)]) (rest := []) (em_X11_goesSteps hl hW N 64 0 (D33 40 32) D33) (fun o7 h => z_runV 320 2 h rfl kk_X11_320 hs40 kl_11.1 kq_X11_goesSteps rfl (Nat.le_of_ble_eq_true rfl) ⟨Nat.le_of_ble_eq_true rfl, Nat.le_of_ble_eq_true rfl, Nat.le_of_ble_eq_true rfl, Nat.le_of_ble_eq_true rfl⟩ dX11_work_190) z_gWI (fun a_35 hz34 => ?_)
        refine z_aload_n (i := 0) (x := 40) dX11_work_193 rfl rfl ?_
        refine z_aload_n (i := 0) (x := 40) dX11_work_194 rfl rfl ?_
        refine z_getR (j := 39) dX11_work_195 kl_11 hs40 (by decide) rfl rfl kf_X11_68 ?_
        refine z_aload_n (i := 0) (x := 40) dX11_work_198 rfl rfl ?_
        refine z_getR (j := 38) dX11_work_199 kl_11 hs40 (by decide) rfl rfl kf_X11_65 ?_
        refine z_bipush (v := 60) dX11_work_202 (by decide) ?_
        refine z_cWV (As := [.ref 40, .ref 58, .ref 57, .int 60]) (rest := []) (em_X11_copies (n0 := 60) (n1 := 60) hl hW hs58 (by decide) hs57 (by decide) N 60 a_35) (fun o7 h => z_runV 165 3 h rfl kk_X11_165 hs40 kl_11.1 kq_X11_copies rfl (Nat.le_of_ble_eq_true rfl) ⟨Nat.le_of_ble_eq_true rfl, Nat.le_of_ble_eq_true rfl, Nat.le_of_ble_eq_true rfl, Nat.le_of_ble_eq_true rfl⟩ dX11_work_204) z_gWI (fun a_37 hz36 => ?_)
        refine z_aload_n (i := 0) (x := 40) dX11_work_207 rfl rfl ?_
        refine z_aload_n (i := 0) (x := 40) dX11_work_208 rfl rfl ?_
        refine z_getI (j := 37) dX11_work_209 kl_11 hs40 (by decide) rfl rfl kf_X11_317 ?_
        refine z_putI (j := 34) dX11_work_212 kl_11 tyX11_ok nmX11 hs40 (by decide) rfl rfl rfl rfl rfl rfl kf_X11_181 (fun D38 => ?_)
        refine z_aload_n (i := 0) (x := 40) dX11_work_215 rfl rfl ?_
        refine z_getI (j := 36) dX11_work_216 kl_11 hs40 (by decide) rfl rfl kf_X11_314 ?_
        exact z_ireturn dX11_work_219 z_rWI rfl (by decide) (by decide)
      · refine z_aload_n (i := 0) (x := 40) dX11_work_129 rfl rfl ?_
        refine z_getR (j := 40) dX11_work_130 kl_11 hs40 (by decide) rfl rfl kf_X11_71 ?_
        refine z_bipush (v := 60) dX11_work_133 (by decide) ?_
        refine z_aload_n (i := 0) (x := 40) dX11_work_135 rfl rfl ?_
        refine z_getI (j := 33) dX11_work_136 kl_11 hs40 (by decide) rfl rfl kf_X11_175 ?_
        refine z_imul dX11_work_139 ?_
        refine z_iload_n (i := 3) (x := v24) dX11_work_140 rfl rfl ?_
        refine z_iadd dX11_work_141 ?_
        refine z_aload_n (i := 0) (x := 40) dX11_work_142 rfl rfl ?_
        refine z_getR (j := 38) dX11_work_143 kl_11 hs40 (by decide) rfl rfl kf_X11_65 ?_
        refine z_iload_n (i := 3) (x := v24) dX11_work_146 rfl rfl ?_
        refine z_iald dX11_work_147 hs57 ?_
        refine z_iast dX11_work_148 hs59 (fun D39 => ?_)
        refine z_iinc (i := 3) (x := v24) (y := 1) dX11_work_149 rfl (by decide) (by decide) rfl (fun v40 => ?_)
        refine z_goto 123 dX11_work_152 (by decide) ?_
        exact hkc26 (v40, D39)
    · refine z_iload_n (i := 2) (x := a_20.1) dX11_work_103 rfl rfl ?_
      exact z_ireturn dX11_work_104 z_rWI rfl (by decide) (by decide)
  have hJ_F_X11_work_J30 : ∀ (D4 : z_Dat) , z_F l M_X11_work (1350, 20020, 0, 0) 0 0 30 [some (.ref 40), some (.int a0), none, none] [.int 0, .ref 40] S D4 (z_ko (z_kI S)) (F_X11_work_J30 N a0 D4) := by
    intro D4
    unfold F_X11_work_J30
    refine z_iconst (v := 1) dX11_work_30 rfl ?_
    refine z_iconst (v := 1) dX11_work_31 rfl ?_
    refine z_cWI (As := [.ref 40, .int 0, .int 1, .int 1]) (rest := []) (em_X11_may hl hW 0 1 1 D4) (fun o7 h => z_runV 198 3 h rfl kk_X11_198 hs40 kl_11.1 kq_X11_may rfl (Nat.le_of_ble_eq_true rfl) ⟨Nat.le_of_ble_eq_true rfl, Nat.le_of_ble_eq_true rfl, Nat.le_of_ble_eq_true rfl, Nat.le_of_ble_eq_true rfl⟩ dX11_work_32) z_gWI (fun a_6 hz5 => ?_)
    refine z_if_ne 40 dX11_work_35 (by decide) (fun c7 => ?_) (fun c7 => ?_)
    · refine z_iconst (v := 0) dX11_work_38 rfl ?_
      exact z_ireturn dX11_work_39 z_rWI rfl (by decide) (by decide)
    · refine z_aload_n (i := 0) (x := 40) dX11_work_40 rfl rfl ?_
      refine z_iload_n (i := 1) (x := a0) dX11_work_41 rfl rfl ?_
      refine z_cTV (As := [.ref 40, .int a0]) (rest := []) (em_X11_begins hl hW a0 a_6.2) (fun o7 h => z_runV 202 1 h rfl kk_X11_202 hs40 kl_11.1 kq_X11_begins rfl (Nat.le_of_ble_eq_true rfl) ⟨Nat.le_of_ble_eq_true rfl, Nat.le_of_ble_eq_true rfl, Nat.le_of_ble_eq_true rfl, Nat.le_of_ble_eq_true rfl⟩ dX11_work_42) z_gWI (fun a_9 hz8 => ?_)
      refine z_aload_n (i := 0) (x := 40) dX11_work_45 rfl rfl ?_
      refine z_getI (j := 33) dX11_work_46 kl_11 hs40 (by decide) rfl rfl kf_X11_175 ?_
      refine z_bipush (v := 16) dX11_work_49 (by decide) ?_
      refine z_icmp_ne 63 dX11_work_51 (by decide) (fun c10 => ?_) (fun c10 => ?_)
      · refine z_aload_n (i := 0) (x := 40) dX11_work_54 rfl rfl ?_
        refine z_iconst (v := 0) dX11_work_55 rfl ?_
        refine z_cTI (As := [.ref 40, .int 0]) (rest := []) (em_X11_result hl hW 0 a_9) (fun o7 h => z_runV 224 1 h rfl kk_X11_224 hs40 kl_11.1 kq_X11_result rfl (Nat.le_of_ble_eq_true rfl) ⟨Nat.le_of_ble_eq_true rfl, Nat.le_of_ble_eq_true rfl, Nat.le_of_ble_eq_true rfl, Nat.le_of_ble_eq_true rfl⟩ dX11_work_56) z_gWI (fun a_12 hz11 => ?_)
        refine z_pop dX11_work_59 rfl ?_
        refine z_bipush (v := (-20)) dX11_work_60 (by decide) ?_
        exact z_ireturn dX11_work_62 z_rWI rfl (by decide) (by decide)
      · refine z_aload_n (i := 0) (x := 40) dX11_work_63 rfl rfl ?_
        refine z_iconst (v := 0) dX11_work_64 rfl ?_
        refine z_putI (j := 32) dX11_work_65 kl_11 tyX11_ok nmX11 hs40 (by decide) rfl rfl rfl rfl rfl rfl kf_X11_280 (fun D13 => ?_)
        refine z_weak (lv' := [some (.ref 40), none, none, none]) ⟨Or.inr rfl, ⟨Or.inl rfl, ⟨Or.inl rfl, ⟨Or.inl rfl, trivial⟩⟩⟩⟩ ?_
        refine z_loops (lvOf := fun s : z_Dat => [some (.ref 40), none, none, none]) (dOf := fun s : z_Dat => s) (fun kc15 hkc15 s => ?_) N D13
        obtain ⟨D14, hq⟩ : ∃ z, z = s := ⟨_, rfl⟩
        subst hq
        show z_F _ _ _ _ _ 68 [some (.ref 40), none, none, none] [] S D14 _ (F_X11_work_L68 N kc15 D14)
        unfold F_X11_work_L68
        refine z_aload_n (i := 0) (x := 40) dX11_work_68 rfl rfl ?_
        refine z_cP (As := [.ref 40]) (rest := []) (em_X11_fine hl hW D14) (fun o7 h => z_runV 133 0 h rfl kk_X11_133 hs40 kl_11.1 kq_X11_fine rfl (Nat.le_of_ble_eq_true rfl) ⟨Nat.le_of_ble_eq_true rfl, Nat.le_of_ble_eq_true rfl, Nat.le_of_ble_eq_true rfl, Nat.le_of_ble_eq_true rfl⟩ dX11_work_69) z_gWI (fun hz16 => ?_)
        refine z_if_eq 89 dX11_work_72 (by decide) (fun c17 => ?_) (fun c17 => ?_)
        · exact hJ_F_X11_work_J89 D14
        · refine z_aload_n (i := 0) (x := 40) dX11_work_75 rfl rfl ?_
          refine z_cWI (As := [.ref 40]) (rest := []) (em_X11_isMore hl hW N D14) (fun o7 h => z_runV 206 0 h rfl kk_X11_206 hs40 kl_11.1 kq_X11_isMore rfl (Nat.le_of_ble_eq_true rfl) ⟨Nat.le_of_ble_eq_true rfl, Nat.le_of_ble_eq_true rfl, Nat.le_of_ble_eq_true rfl, Nat.le_of_ble_eq_true rfl⟩ dX11_work_76) z_gWI (fun a_43 hz42 => ?_)
          refine z_if_eq 89 dX11_work_79 (by decide) (fun c44 => ?_) (fun c44 => ?_)
          · exact hJ_F_X11_work_J89 a_43.2
          · refine z_aload_n (i := 0) (x := 40) dX11_work_82 rfl rfl ?_
            refine z_cWV (As := [.ref 40]) (rest := []) (em_X11_readStep hl hW N 64 a_43.2) (fun o7 h => z_runV 305 0 h rfl kk_X11_305 hs40 kl_11.1 kq_X11_readStep rfl (Nat.le_of_ble_eq_true rfl) ⟨Nat.le_of_ble_eq_true rfl, Nat.le_of_ble_eq_true rfl, Nat.le_of_ble_eq_true rfl, Nat.le_of_ble_eq_true rfl⟩ dX11_work_83) z_gWI (fun a_46 hz45 => ?_)
            refine z_goto 68 dX11_work_86 (by decide) ?_
            exact hkc15 a_46
  have hJ_F_X11_work_J29 : ∀ (D3 : z_Dat) , z_F l M_X11_work (1350, 20020, 0, 0) 0 0 29 [some (.ref 40), some (.int a0), none, none] [.ref 40] S D3 (z_ko (z_kI S)) (F_X11_work_J29 N a0 D3) := by
    intro D3
    unfold F_X11_work_J29
    refine z_iconst (v := 0) dX11_work_29 rfl ?_
    exact hJ_F_X11_work_J30 D3
  have hJ_F_X11_work_J30x : ∀ (D50 : z_Dat) , z_F l M_X11_work (1350, 20020, 0, 0) 0 0 30 [some (.ref 40), some (.int a0), none, none] [.int 1, .ref 40] S D50 (z_ko (z_kI S)) (F_X11_work_J30x N a0 D50) := by
    intro D50
    unfold F_X11_work_J30x
    refine z_iconst (v := 1) dX11_work_30 rfl ?_
    refine z_iconst (v := 1) dX11_work_31 rfl ?_
    refine z_cWI (As := [.ref 40, .int 1, .int 1, .int 1]) (rest := []) (em_X11_may hl hW 1 1 1 D50) (fun o7 h => z_runV 198 3 h rfl kk_X11_198 hs40 kl_11.1 kq_X11_may rfl (Nat.le_of_ble_eq_true rfl) ⟨Nat.le_of_ble_eq_true rfl, Nat.le_of_ble_eq_true rfl, Nat.le_of_ble_eq_true rfl, Nat.le_of_ble_eq_true rfl⟩ dX11_work_32) z_gWI (fun a_52 hz51 => ?_)
    refine z_if_ne 40 dX11_work_35 (by decide) (fun c53 => ?_) (fun c53 => ?_)
    · refine z_iconst (v := 0) dX11_work_38 rfl ?_
      exact z_ireturn dX11_work_39 z_rWI rfl (by decide) (by decide)
    · refine z_aload_n (i := 0) (x := 40) dX11_work_40 rfl rfl ?_
      refine z_iload_n (i := 1) (x := a0) dX11_work_41 rfl rfl ?_
      refine z_cTV (As := [.ref 40, .int a0]) (rest := []) (em_X11_begins hl hW a0 a_52.2) (fun o7 h => z_runV 202 1 h rfl kk_X11_202 hs40 kl_11.1 kq_X11_begins rfl (Nat.le_of_ble_eq_true rfl) ⟨Nat.le_of_ble_eq_true rfl, Nat.le_of_ble_eq_true rfl, Nat.le_of_ble_eq_true rfl, Nat.le_of_ble_eq_true rfl⟩ dX11_work_42) z_gWI (fun a_55 hz54 => ?_)
      refine z_aload_n (i := 0) (x := 40) dX11_work_45 rfl rfl ?_
      refine z_getI (j := 33) dX11_work_46 kl_11 hs40 (by decide) rfl rfl kf_X11_175 ?_
      refine z_bipush (v := 16) dX11_work_49 (by decide) ?_
      refine z_icmp_ne 63 dX11_work_51 (by decide) (fun c56 => ?_) (fun c56 => ?_)
      · refine z_aload_n (i := 0) (x := 40) dX11_work_54 rfl rfl ?_
        refine z_iconst (v := 0) dX11_work_55 rfl ?_
        refine z_cTI (As := [.ref 40, .int 0]) (rest := []) (em_X11_result hl hW 0 a_55) (fun o7 h => z_runV 224 1 h rfl kk_X11_224 hs40 kl_11.1 kq_X11_result rfl (Nat.le_of_ble_eq_true rfl) ⟨Nat.le_of_ble_eq_true rfl, Nat.le_of_ble_eq_true rfl, Nat.le_of_ble_eq_true rfl, Nat.le_of_ble_eq_true rfl⟩ dX11_work_56) z_gWI (fun a_58 hz57 => ?_)
        refine z_pop dX11_work_59 rfl ?_
        refine z_bipush (v := (-20)) dX11_work_60 (by decide) ?_
        exact z_ireturn dX11_work_62 z_rWI rfl (by decide) (by decide)
      · refine z_aload_n (i := 0) (x := 40) dX11_work_63 rfl rfl ?_
        refine z_iconst (v := 0) dX11_work_64 rfl ?_
        refine z_putI (j := 32) dX11_work_65 kl_11 tyX11_ok nmX11 hs40 (by decide) rfl rfl rfl rfl rfl rfl kf_X11_280 (fun D59 => ?_)
        refine z_weak (lv' := [some (.ref 40), none, none, none]) ⟨Or.inr rfl, ⟨Or.inl rfl, ⟨Or.inl rfl, ⟨Or.inl rfl, trivial⟩⟩⟩⟩ ?_
        refine z_loops (lvOf := fun s : z_Dat => [some (.ref 40), none, none, none]) (dOf := fun s : z_Dat => s) (fun kc61 hkc61 s => ?_) N D59
        obtain ⟨D60, hq⟩ : ∃ z, z = s := ⟨_, rfl⟩
        subst hq
        show z_F _ _ _ _ _ 68 [some (.ref 40), none, none, none] [] S D60 _ (F_X11_work_L68x N kc61 D60)
        unfold F_X11_work_L68x
        refine z_aload_n (i := 0) (x := 40) dX11_work_68 rfl rfl ?_
        refine z_cP (As := [.ref 40]) (rest := []) (em_X11_fine hl hW D60) (fun o7 h => z_runV 133 0 h rfl kk_X11_133 hs40 kl_11.1 kq_X11_fine rfl (Nat.le_of_ble_eq_true rfl) ⟨Nat.le_of_ble_eq_true rfl, Nat.le_of_ble_eq_true rfl, Nat.le_of_ble_eq_true rfl, Nat.le_of_ble_eq_true rfl⟩ dX11_work_69) z_gWI (fun hz62 => ?_)
        refine z_if_eq 89 dX11_work_72 (by decide) (fun c63 => ?_) (fun c63 => ?_)
        · exact hJ_F_X11_work_J89 D60
        · refine z_aload_n (i := 0) (x := 40) dX11_work_75 rfl rfl ?_
          refine z_cWI (As := [.ref 40]) (rest := []) (em_X11_isMore hl hW N D60) (fun o7 h => z_runV 206 0 h rfl kk_X11_206 hs40 kl_11.1 kq_X11_isMore rfl (Nat.le_of_ble_eq_true rfl) ⟨Nat.le_of_ble_eq_true rfl, Nat.le_of_ble_eq_true rfl, Nat.le_of_ble_eq_true rfl, Nat.le_of_ble_eq_true rfl⟩ dX11_work_76) z_gWI (fun a_65 hz64 => ?_)
          refine z_if_eq 89 dX11_work_79 (by decide) (fun c66 => ?_) (fun c66 => ?_)
          · exact hJ_F_X11_work_J89 a_65.2
          · refine z_aload_n (i := 0) (x := 40) dX11_work_82 rfl rfl ?_
            refine z_cWV (As := [.ref 40]) (rest := []) (em_X11_readStep hl hW N 64 a_65.2) (fun o7 h => z_runV 305 0 h rfl kk_X11_305 hs40 kl_11.1 kq_X11_readStep rfl (Nat.le_of_ble_eq_true rfl) ⟨Nat.le_of_ble_eq_true rfl, Nat.le_of_ble_eq_true rfl, Nat.le_of_ble_eq_true rfl, Nat.le_of_ble_eq_true rfl⟩ dX11_work_83) z_gWI (fun a_68 hz67 => ?_)
            refine z_goto 68 dX11_work_86 (by decide) ?_
            exact hkc61 a_68
  refine z_aload_n (i := 0) (x := 40) dX11_work_0 rfl rfl ?_
  refine z_iconst (v := 0) dX11_work_1 rfl ?_
  refine z_putI (j := 0) dX11_work_2 kl_11 tyX11_ok nmX11 hs40 (by decide) rfl rfl rfl rfl rfl rfl kf_X11_3 (fun D1 => ?_)
  refine z_aload_n (i := 0) (x := 40) dX11_work_5 rfl rfl ?_
  refine z_iload_n (i := 1) (x := a0) dX11_work_6 rfl rfl ?_
  refine z_if_lt 29 dX11_work_7 (by decide) (fun c2 => ?_) (fun c2 => ?_)
  · exact hJ_F_X11_work_J29 D1
  · refine z_iload_n (i := 1) (x := a0) dX11_work_10 rfl rfl ?_
    refine z_aload_n (i := 0) (x := 40) dX11_work_11 rfl rfl ?_
    refine z_getI (j := 2) dX11_work_12 kl_11 hs40 (by decide) rfl rfl kf_X11_101 ?_
    refine z_icmp_gt 29 dX11_work_15 (by decide) (fun c48 => ?_) (fun c48 => ?_)
    · exact hJ_F_X11_work_J29 D1
    · refine z_iload_n (i := 1) (x := a0) dX11_work_18 rfl rfl ?_
      refine z_sipush (v := 150) dX11_work_19 (by decide) ?_
      refine z_icmp_gt 29 dX11_work_22 (by decide) (fun c49 => ?_) (fun c49 => ?_)
      · exact hJ_F_X11_work_J29 D1
      · refine z_iconst (v := 1) dX11_work_25 rfl ?_
        refine z_goto 30 dX11_work_26 (by decide) ?_
        exact hJ_F_X11_work_J30x D1

def F_X11_vatOf (a0 : Int32) (D : z_Dat) : Option Int32 :=
  if z_inb (4 * a0) 24 then (if z_inb ((4 * a0) + 1) 24 then (if z_inb ((4 * a0) + 2) 24 then (some (((100 * (D 47 (z_ix (4 * a0)))) + (10 * (D 47 (z_ix ((4 * a0) + 1))))) + (D 47 (z_ix ((4 * a0) + 2))))) else none) else none) else none
set_option maxRecDepth 100000 in
set_option maxHeartbeats 4000000 in
theorem em_X11_vatOf {l : Launch} {S : List z_Shp} {oW : Nat} (hl : l.stackTraces = false) (hW : z_W S oW) (a0 : Int32) (D : z_Dat) : ∀ out, z_ko (z_kR S D) (F_X11_vatOf a0 D) out → z_EM l M_X11_vatOf (20, 520, 0, 0) [.ref 40, .int a0] S D out := by
  have hs40 : S[40]? = some (13, 55, [none, some (some 41), none, none, none, none, none, none, none, some (some 42), some (some 43), some (some 44), some (some 45), some (some 46), some (some 47), some (some 48), none, none, none, none, none, none, some (some 49), some (some 50), some (some 51), some (some 52), some (some 53), none, none, some (some 54), some (some 55), some (some 56), none, none, none, none, none, none, some (some 57), some (some 58), some (some 59), some (some 60), some (some 61), none, some (some 62), some (some 63), none, none, some (some 64), some (some 65), none, none, none, some (some 66), none]) := hW.1 40 _ rfl
  have hs47 : S[47]? = some (0, 24, []) := hW.1 47 _ rfl
  refine z_meth hl rfl kp_X11 (Nat.le_of_ble_eq_true rfl) (lv := [some (.ref 40), some (.int a0)]) rfl ?_
  unfold F_X11_vatOf
  refine z_bipush (v := 100) dX11_vatOf_0 (by decide) ?_
  refine z_aload_n (i := 0) (x := 40) dX11_vatOf_2 rfl rfl ?_
  refine z_getR (j := 14) dX11_vatOf_3 kl_11 hs40 (by decide) rfl rfl kf_X11_35 ?_
  refine z_iconst (v := 4) dX11_vatOf_6 rfl ?_
  refine z_iload_n (i := 1) (x := a0) dX11_vatOf_7 rfl rfl ?_
  refine z_imul dX11_vatOf_8 ?_
  refine z_iald dX11_vatOf_9 hs47 ?_
  refine z_imul dX11_vatOf_10 ?_
  refine z_bipush (v := 10) dX11_vatOf_11 (by decide) ?_
  refine z_aload_n (i := 0) (x := 40) dX11_vatOf_13 rfl rfl ?_
  refine z_getR (j := 14) dX11_vatOf_14 kl_11 hs40 (by decide) rfl rfl kf_X11_35 ?_
  refine z_iconst (v := 4) dX11_vatOf_17 rfl ?_
  refine z_iload_n (i := 1) (x := a0) dX11_vatOf_18 rfl rfl ?_
  refine z_imul dX11_vatOf_19 ?_
  refine z_iconst (v := 1) dX11_vatOf_20 rfl ?_
  refine z_iadd dX11_vatOf_21 ?_
  refine z_iald dX11_vatOf_22 hs47 ?_
  refine z_imul dX11_vatOf_23 ?_
  refine z_iadd dX11_vatOf_24 ?_
  refine z_aload_n (i := 0) (x := 40) dX11_vatOf_25 rfl rfl ?_
  refine z_getR (j := 14) dX11_vatOf_26 kl_11 hs40 (by decide) rfl rfl kf_X11_35 ?_
  refine z_iconst (v := 4) dX11_vatOf_29 rfl ?_
  refine z_iload_n (i := 1) (x := a0) dX11_vatOf_30 rfl rfl ?_
  refine z_imul dX11_vatOf_31 ?_
  refine z_iconst (v := 2) dX11_vatOf_32 rfl ?_
  refine z_iadd dX11_vatOf_33 ?_
  refine z_iald dX11_vatOf_34 hs47 ?_
  refine z_iadd dX11_vatOf_35 ?_
  exact z_ireturn dX11_vatOf_36 z_rR rfl (by decide) (by decide)

def F_X11_seemsOf_L4 (a0 : Int32) (D : z_Dat) (kc3 : ((Int32 × Int32) → Option Int32)) (v1 : Int32) (v2 : Int32) : Option Int32 :=
  if (D 40 19) ≤ v2 then (some v1)
  else (if v1 = (-1) then (z_let (v2 + 1) (fun v6 => kc3 (v2, v6)))
  else (z_bd (F_X11_vatOf v2 D) (fun a_8 => z_bd (F_X11_vatOf v1 D) (fun a_11 => if (F_X11_apart a0 a_11) ≤ (F_X11_apart a0 a_8) then (z_let (v2 + 1) (fun v14 => kc3 (v1, v14)))
  else (z_let (v2 + 1) (fun v15 => kc3 (v2, v15)))))))
def F_X11_seemsOf (N : Nat) (a0 : Int32) (D : z_Dat) : Option Int32 :=
  z_loop (fun kc3 s => F_X11_seemsOf_L4 a0 D kc3 s.1 s.2) N ((-1), 0)
set_option maxRecDepth 100000 in
set_option maxHeartbeats 4000000 in
theorem em_X11_seemsOf {l : Launch} {S : List z_Shp} {oW : Nat} (hl : l.stackTraces = false) (hW : z_W S oW) (N : Nat) (a0 : Int32) (D : z_Dat) : ∀ out, z_ko (z_kR S D) (F_X11_seemsOf N a0 D) out → z_EM l M_X11_seemsOf (40, 640, 0, 0) [.ref 40, .int a0] S D out := by
  have hs40 : S[40]? = some (13, 55, [none, some (some 41), none, none, none, none, none, none, none, some (some 42), some (some 43), some (some 44), some (some 45), some (some 46), some (some 47), some (some 48), none, none, none, none, none, none, some (some 49), some (some 50), some (some 51), some (some 52), some (some 53), none, none, some (some 54), some (some 55), some (some 56), none, none, none, none, none, none, some (some 57), some (some 58), some (some 59), some (some 60), some (some 61), none, some (some 62), some (some 63), none, none, some (some 64), some (some 65), none, none, none, some (some 66), none]) := hW.1 40 _ rfl
  refine z_meth hl rfl kp_X11 (Nat.le_of_ble_eq_true rfl) (lv := [some (.ref 40), some (.int a0), none, none]) rfl ?_
  unfold F_X11_seemsOf
  refine z_iconst (v := (-1)) dX11_seemsOf_0 rfl ?_
  refine z_istore_n (i := 2) (x := (-1)) (lv' := [some (.ref 40), some (.int a0), some (.int (-1)), none]) dX11_seemsOf_1 rfl (by decide) rfl rfl ?_
  refine z_iconst (v := 0) dX11_seemsOf_2 rfl ?_
  refine z_istore_n (i := 3) (x := 0) (lv' := [some (.ref 40), some (.int a0), some (.int (-1)), some (.int 0)]) dX11_seemsOf_3 rfl (by decide) rfl rfl ?_
  refine z_loops (lvOf := fun s : Int32 × Int32 => [some (.ref 40), some (.int a0), some (.int s.1), some (.int s.2)]) (dOf := fun s : Int32 × Int32 => D) (fun kc3 hkc3 s => ?_) N ((-1), 0)
  obtain ⟨v1, v2⟩ := s
  show z_F _ _ _ _ _ 4 [some (.ref 40), some (.int a0), some (.int v1), some (.int v2)] [] S D _ (F_X11_seemsOf_L4 a0 D kc3 v1 v2)
  unfold F_X11_seemsOf_L4
  refine z_iload_n (i := 3) (x := v2) dX11_seemsOf_4 rfl rfl ?_
  refine z_aload_n (i := 0) (x := 40) dX11_seemsOf_5 rfl rfl ?_
  refine z_getI (j := 19) dX11_seemsOf_6 kl_11 hs40 (by decide) rfl rfl kf_X11_156 ?_
  refine z_icmp_ge 46 dX11_seemsOf_9 (by decide) (fun c4 => ?_) (fun c4 => ?_)
  · refine z_iload_n (i := 2) (x := v1) dX11_seemsOf_46 rfl rfl ?_
    exact z_ireturn dX11_seemsOf_47 z_rR rfl (by decide) (by decide)
  · refine z_iload_n (i := 2) (x := v1) dX11_seemsOf_12 rfl rfl ?_
    refine z_iconst (v := (-1)) dX11_seemsOf_13 rfl ?_
    refine z_icmp_eq 38 dX11_seemsOf_14 (by decide) (fun c5 => ?_) (fun c5 => ?_)
    · refine z_iload_n (i := 3) (x := v2) dX11_seemsOf_38 rfl rfl ?_
      refine z_istore_n (i := 2) (x := v2) (lv' := [some (.ref 40), some (.int a0), some (.int v2), some (.int v2)]) dX11_seemsOf_39 rfl (by decide) rfl rfl ?_
      refine z_iinc (i := 3) (x := v2) (y := 1) dX11_seemsOf_40 rfl (by decide) (by decide) rfl (fun v6 => ?_)
      refine z_goto 4 dX11_seemsOf_43 (by decide) ?_
      exact hkc3 (v2, v6)
    · refine z_iload_n (i := 1) (x := a0) dX11_seemsOf_17 rfl rfl ?_
      refine z_aload_n (i := 0) (x := 40) dX11_seemsOf_18 rfl rfl ?_
      refine z_iload_n (i := 3) (x := v2) dX11_seemsOf_19 rfl rfl ?_
      refine z_cR (As := [.ref 40, .int v2]) (rest := [.int a0]) (em_X11_vatOf hl hW v2 D) (fun o7 h => z_runV 330 1 h rfl kk_X11_330 hs40 kl_11.1 kq_X11_vatOf rfl (Nat.le_of_ble_eq_true rfl) ⟨Nat.le_of_ble_eq_true rfl, Nat.le_of_ble_eq_true rfl, Nat.le_of_ble_eq_true rfl, Nat.le_of_ble_eq_true rfl⟩ dX11_seemsOf_20) z_gR (fun a_8 hz7 => ?_)
      refine z_cP (As := [.int a0, .int a_8]) (rest := []) (em_X11_apart hl a0 a_8 D) (fun o7 h => z_runS 333 2 h rfl kk_X11_333 kq_X11_apart rfl (Nat.le_of_ble_eq_true rfl) ⟨Nat.le_of_ble_eq_true rfl, Nat.le_of_ble_eq_true rfl, Nat.le_of_ble_eq_true rfl, Nat.le_of_ble_eq_true rfl⟩ dX11_seemsOf_23) z_gR (fun hz9 => ?_)
      refine z_iload_n (i := 1) (x := a0) dX11_seemsOf_26 rfl rfl ?_
      refine z_aload_n (i := 0) (x := 40) dX11_seemsOf_27 rfl rfl ?_
      refine z_iload_n (i := 2) (x := v1) dX11_seemsOf_28 rfl rfl ?_
      refine z_cR (As := [.ref 40, .int v1]) (rest := [.int a0, .int (F_X11_apart a0 a_8)]) (em_X11_vatOf hl hW v1 D) (fun o7 h => z_runV 330 1 h rfl kk_X11_330 hs40 kl_11.1 kq_X11_vatOf rfl (Nat.le_of_ble_eq_true rfl) ⟨Nat.le_of_ble_eq_true rfl, Nat.le_of_ble_eq_true rfl, Nat.le_of_ble_eq_true rfl, Nat.le_of_ble_eq_true rfl⟩ dX11_seemsOf_29) z_gR (fun a_11 hz10 => ?_)
      refine z_cP (As := [.int a0, .int a_11]) (rest := [.int (F_X11_apart a0 a_8)]) (em_X11_apart hl a0 a_11 D) (fun o7 h => z_runS 333 2 h rfl kk_X11_333 kq_X11_apart rfl (Nat.le_of_ble_eq_true rfl) ⟨Nat.le_of_ble_eq_true rfl, Nat.le_of_ble_eq_true rfl, Nat.le_of_ble_eq_true rfl, Nat.le_of_ble_eq_true rfl⟩ dX11_seemsOf_32) z_gR (fun hz12 => ?_)
      refine z_icmp_ge 40 dX11_seemsOf_35 (by decide) (fun c13 => ?_) (fun c13 => ?_)
      · refine z_iinc (i := 3) (x := v2) (y := 1) dX11_seemsOf_40 rfl (by decide) (by decide) rfl (fun v14 => ?_)
        refine z_goto 4 dX11_seemsOf_43 (by decide) ?_
        exact hkc3 (v1, v14)
      · refine z_iload_n (i := 3) (x := v2) dX11_seemsOf_38 rfl rfl ?_
        refine z_istore_n (i := 2) (x := v2) (lv' := [some (.ref 40), some (.int a0), some (.int v2), some (.int v2)]) dX11_seemsOf_39 rfl (by decide) rfl rfl ?_
        refine z_iinc (i := 3) (x := v2) (y := 1) dX11_seemsOf_40 rfl (by decide) (by decide) rfl (fun v15 => ?_)
        refine z_goto 4 dX11_seemsOf_43 (by decide) ?_
        exact hkc3 (v2, v15)

def F_X11_sitsBy (N : Nat) (a0 : Int32) (a1 : Int32) (a2 : Int32) (a3 : Int32) (a4 : Int32) (a5 : Int32) (D : z_Dat) : Option (Int32 × z_Dat) :=
  z_let (z_up D 54 (z_ix 0) (F_X11_dyeOf a0 0)) (fun D2 => z_let (z_up D2 54 (z_ix 1) (F_X11_dyeOf a0 1)) (fun D4 => z_let (z_up D4 54 (z_ix 2) (F_X11_dyeOf a0 2)) (fun D6 => z_let (z_up D6 54 (z_ix 3) (((D6 54 (z_ix 0)) + (D6 54 (z_ix 1))) + (D6 54 (z_ix 2)))) (fun D7 => z_let (z_up D7 54 (z_ix 4) a1) (fun D8 => z_let (z_up D8 54 (z_ix 5) a2) (fun D9 => z_let (z_up D9 54 (z_ix 6) a3) (fun D10 => z_let (z_up D10 54 (z_ix 7) a4) (fun D11 => z_let (z_up D11 54 (z_ix 8) a5) (fun D12 => z_bd (F_X11_sitsNow N D12) (fun a_14 => some (a_14.1, a_14.2)))))))))))
set_option maxRecDepth 100000 in
set_option maxHeartbeats 4000000 in
theorem em_X11_sitsBy {l : Launch} {S : List z_Shp} {oW : Nat} (hl : l.stackTraces = false) (hW : z_W S oW) (N : Nat) (a0 : Int32) (a1 : Int32) (a2 : Int32) (a3 : Int32) (a4 : Int32) (a5 : Int32) (D : z_Dat) : ∀ out, z_ko (z_kI S) (F_X11_sitsBy N a0 a1 a2 a3 a4 a5 D) out → z_EM l M_X11_sitsBy (50, 700, 0, 0) [.ref 40, .int a0, .int a1, .int a2, .int a3, .int a4, .int a5] S D out := by
  have hs40 : S[40]? = some (13, 55, [none, some (some 41), none, none, none, none, none, none, none, some (some 42), some (some 43), some (some 44), some (some 45), some (some 46), some (some 47), some (some 48), none, none, none, none, none, none, some (some 49), some (some 50), some (some 51), some (some 52), some (some 53), none, none, some (some 54), some (some 55), some (some 56), none, none, none, none, none, none, some (some 57), some (some 58), some (some 59), some (some 60), some (some 61), none, some (some 62), some (some 63), none, none, some (some 64), some (some 65), none, none, none, some (some 66), none]) := hW.1 40 _ rfl
  have hs54 : S[54]? = some (0, 9, []) := hW.1 54 _ rfl
  refine z_meth hl rfl kp_X11 (Nat.le_of_ble_eq_true rfl) (lv := [some (.ref 40), some (.int a0), some (.int a1), some (.int a2), some (.int a3), some (.int a4), some (.int a5)]) rfl ?_
  unfold F_X11_sitsBy
  refine z_aload_n (i := 0) (x := 40) dX11_sitsBy_0 rfl rfl ?_
  refine z_getR (j := 29) dX11_sitsBy_1 kl_11 hs40 (by decide) rfl rfl kf_X11_56 ?_
  refine z_iconst (v := 0) dX11_sitsBy_4 rfl ?_
  refine z_iload_n (i := 1) (x := a0) dX11_sitsBy_5 rfl rfl ?_
  refine z_iconst (v := 0) dX11_sitsBy_6 rfl ?_
  refine z_cP (As := [.int a0, .int 0]) (rest := [.int 0, .ref 54]) (em_X11_dyeOf hl a0 0 D) (fun o7 h => z_runS 327 2 h rfl kk_X11_327 kq_X11_dyeOf rfl (Nat.le_of_ble_eq_true rfl) ⟨Nat.le_of_ble_eq_true rfl, Nat.le_of_ble_eq_true rfl, Nat.le_of_ble_eq_true rfl, Nat.le_of_ble_eq_true rfl⟩ dX11_sitsBy_7) z_gWI (fun hz1 => ?_)
  refine z_iastL dX11_sitsBy_10 hs54 (vp_in_iff.mpr (by decide)) (fun D2 => ?_)
  refine z_aload_n (i := 0) (x := 40) dX11_sitsBy_11 rfl rfl ?_
  refine z_getR (j := 29) dX11_sitsBy_12 kl_11 hs40 (by decide) rfl rfl kf_X11_56 ?_
  refine z_iconst (v := 1) dX11_sitsBy_15 rfl ?_
  refine z_iload_n (i := 1) (x := a0) dX11_sitsBy_16 rfl rfl ?_
  refine z_iconst (v := 1) dX11_sitsBy_17 rfl ?_
  refine z_cP (As := [.int a0, .int 1]) (rest := [.int 1, .ref 54]) (em_X11_dyeOf hl a0 1 D2) (fun o7 h => z_runS 327 2 h rfl kk_X11_327 kq_X11_dyeOf rfl (Nat.le_of_ble_eq_true rfl) ⟨Nat.le_of_ble_eq_true rfl, Nat.le_of_ble_eq_true rfl, Nat.le_of_ble_eq_true rfl, Nat.le_of_ble_eq_true rfl⟩ dX11_sitsBy_18) z_gWI (fun hz3 => ?_)
  refine z_iastL dX11_sitsBy_21 hs54 (vp_in_iff.mpr (by decide)) (fun D4 => ?_)
  refine z_aload_n (i := 0) (x := 40) dX11_sitsBy_22 rfl rfl ?_
  refine z_getR (j := 29) dX11_sitsBy_23 kl_11 hs40 (by decide) rfl rfl kf_X11_56 ?_
  refine z_iconst (v := 2) dX11_sitsBy_26 rfl ?_
  refine z_iload_n (i := 1) (x := a0) dX11_sitsBy_27 rfl rfl ?_
  refine z_iconst (v := 2) dX11_sitsBy_28 rfl ?_
  refine z_cP (As := [.int a0, .int 2]) (rest := [.int 2, .ref 54]) (em_X11_dyeOf hl a0 2 D4) (fun o7 h => z_runS 327 2 h rfl kk_X11_327 kq_X11_dyeOf rfl (Nat.le_of_ble_eq_true rfl) ⟨Nat.le_of_ble_eq_true rfl, Nat.le_of_ble_eq_true rfl, Nat.le_of_ble_eq_true rfl, Nat.le_of_ble_eq_true rfl⟩ dX11_sitsBy_29) z_gWI (fun hz5 => ?_)
  refine z_iastL dX11_sitsBy_32 hs54 (vp_in_iff.mpr (by decide)) (fun D6 => ?_)
  refine z_aload_n (i := 0) (x := 40) dX11_sitsBy_33 rfl rfl ?_
  refine z_getR (j := 29) dX11_sitsBy_34 kl_11 hs40 (by decide) rfl rfl kf_X11_56 ?_
  refine z_iconst (v := 3) dX11_sitsBy_37 rfl ?_
  refine z_aload_n (i := 0) (x := 40) dX11_sitsBy_38 rfl rfl ?_
  refine z_getR (j := 29) dX11_sitsBy_39 kl_11 hs40 (by decide) rfl rfl kf_X11_56 ?_
  refine z_iconst (v := 0) dX11_sitsBy_42 rfl ?_
  refine z_ialdC dX11_sitsBy_43 hs54 (vp_in_iff.mpr (by decide)) ?_
  refine z_aload_n (i := 0) (x := 40) dX11_sitsBy_44 rfl rfl ?_
  refine z_getR (j := 29) dX11_sitsBy_45 kl_11 hs40 (by decide) rfl rfl kf_X11_56 ?_
  refine z_iconst (v := 1) dX11_sitsBy_48 rfl ?_
  refine z_ialdC dX11_sitsBy_49 hs54 (vp_in_iff.mpr (by decide)) ?_
  refine z_iadd dX11_sitsBy_50 ?_
  refine z_aload_n (i := 0) (x := 40) dX11_sitsBy_51 rfl rfl ?_
  refine z_getR (j := 29) dX11_sitsBy_52 kl_11 hs40 (by decide) rfl rfl kf_X11_56 ?_
  refine z_iconst (v := 2) dX11_sitsBy_55 rfl ?_
  refine z_ialdC dX11_sitsBy_56 hs54 (vp_in_iff.mpr (by decide)) ?_
  refine z_iadd dX11_sitsBy_57 ?_
  refine z_iastL dX11_sitsBy_58 hs54 (vp_in_iff.mpr (by decide)) (fun D7 => ?_)
  refine z_aload_n (i := 0) (x := 40) dX11_sitsBy_59 rfl rfl ?_
  refine z_getR (j := 29) dX11_sitsBy_60 kl_11 hs40 (by decide) rfl rfl kf_X11_56 ?_
  refine z_iconst (v := 4) dX11_sitsBy_63 rfl ?_
  refine z_iload_n (i := 2) (x := a1) dX11_sitsBy_64 rfl rfl ?_
  refine z_iastL dX11_sitsBy_65 hs54 (vp_in_iff.mpr (by decide)) (fun D8 => ?_)
  refine z_aload_n (i := 0) (x := 40) dX11_sitsBy_66 rfl rfl ?_
  refine z_getR (j := 29) dX11_sitsBy_67 kl_11 hs40 (by decide) rfl rfl kf_X11_56 ?_
  refine z_iconst (v := 5) dX11_sitsBy_70 rfl ?_
  refine z_iload_n (i := 3) (x := a2) dX11_sitsBy_71 rfl rfl ?_
  refine z_iastL dX11_sitsBy_72 hs54 (vp_in_iff.mpr (by decide)) (fun D9 => ?_)
  refine z_aload_n (i := 0) (x := 40) dX11_sitsBy_73 rfl rfl ?_
  refine z_getR (j := 29) dX11_sitsBy_74 kl_11 hs40 (by decide) rfl rfl kf_X11_56 ?_
  refine z_bipush (v := 6) dX11_sitsBy_77 (by decide) ?_
  refine z_iload (i := 4) (x := a3) dX11_sitsBy_79 rfl ?_
  refine z_iastL dX11_sitsBy_81 hs54 (vp_in_iff.mpr (by decide)) (fun D10 => ?_)
  refine z_aload_n (i := 0) (x := 40) dX11_sitsBy_82 rfl rfl ?_
  refine z_getR (j := 29) dX11_sitsBy_83 kl_11 hs40 (by decide) rfl rfl kf_X11_56 ?_
  refine z_bipush (v := 7) dX11_sitsBy_86 (by decide) ?_
  refine z_iload (i := 5) (x := a4) dX11_sitsBy_88 rfl ?_
  refine z_iastL dX11_sitsBy_90 hs54 (vp_in_iff.mpr (by decide)) (fun D11 => ?_)
  refine z_aload_n (i := 0) (x := 40) dX11_sitsBy_91 rfl rfl ?_
  refine z_getR (j := 29) dX11_sitsBy_92 kl_11 hs40 (by decide) rfl rfl kf_X11_56 ?_
  refine z_bipush (v := 8) dX11_sitsBy_95 (by decide) ?_
  refine z_iload (i := 6) (x := a5) dX11_sitsBy_97 rfl ?_
  refine z_iastL dX11_sitsBy_99 hs54 (vp_in_iff.mpr (by decide)) (fun D12 => ?_)
  refine z_aload_n (i := 0) (x := 40) dX11_sitsBy_100 rfl rfl ?_
  refine z_cWI (As := [.ref 40]) (rest := []) (em_X11_sitsNow hl hW N D12) (fun o7 h => z_runV 336 0 h rfl kk_X11_336 hs40 kl_11.1 kq_X11_sitsNow rfl (Nat.le_of_ble_eq_true rfl) ⟨Nat.le_of_ble_eq_true rfl, Nat.le_of_ble_eq_true rfl, Nat.le_of_ble_eq_true rfl, Nat.le_of_ble_eq_true rfl⟩ dX11_sitsBy_101) z_gWI (fun a_14 hz13 => ?_)
  exact z_ireturn dX11_sitsBy_104 z_rWI hz13 (by decide) (by decide)

def F_X11_isSitting_J44 (N : Nat) (a0 : Int32) (v8 : Int32) (v9 : Int32) (v10 : Int32) (D11 : z_Dat) : Option (Int32 × z_Dat) :=
  if z_inb (40 + a0) 60 then (if z_inb a0 8 then (if v8 = (D11 48 (z_ix a0)) then (z_bd (F_X11_sitsBy N v9 v10 0 (D11 58 (z_ix (40 + a0))) (D11 58 (z_ix 59)) 1 D11) (fun a_14 => some (a_14.1, a_14.2)))
  else (z_bd (F_X11_sitsBy N v9 v10 0 (D11 58 (z_ix (40 + a0))) (D11 58 (z_ix 59)) 0 D11) (fun a_16 => some (a_16.1, a_16.2)))) else none) else none
def F_X11_isSitting_J44x (N : Nat) (a0 : Int32) (v17 : Int32) (v18 : Int32) (v19 : Int32) (v20 : Int32) (D21 : z_Dat) : Option (Int32 × z_Dat) :=
  if z_inb (40 + a0) 60 then (if z_inb a0 8 then (if v17 = (D21 48 (z_ix a0)) then (z_bd (F_X11_sitsBy N v18 v19 v20 (D21 58 (z_ix (40 + a0))) (D21 58 (z_ix 59)) 1 D21) (fun a_24 => some (a_24.1, a_24.2)))
  else (z_bd (F_X11_sitsBy N v18 v19 v20 (D21 58 (z_ix (40 + a0))) (D21 58 (z_ix 59)) 0 D21) (fun a_26 => some (a_26.1, a_26.2)))) else none) else none
def F_X11_isSitting (N : Nat) (a0 : Int32) (D : z_Dat) : Option (Int32 × z_Dat) :=
  z_bd (F_X11_shadeOf a0 D) (fun a_2 => z_bd (F_X11_seemsOf N a_2 D) (fun a_4 => z_bd (F_X11_shadeOf a0 D) (fun a_6 => if z_inb (48 + a0) 60 then (if a_4 = (-1) then (F_X11_isSitting_J44 N a0 a_4 a_6 (D 58 (z_ix (48 + a0))) D)
  else (if z_inb ((4 * a_4) + 3) 24 then (F_X11_isSitting_J44x N a0 a_4 a_6 (D 58 (z_ix (48 + a0))) (D 47 (z_ix ((4 * a_4) + 3))) D) else none)) else none)))
set_option maxRecDepth 100000 in
set_option maxHeartbeats 4000000 in
theorem em_X11_isSitting {l : Launch} {S : List z_Shp} {oW : Nat} (hl : l.stackTraces = false) (hW : z_W S oW) (N : Nat) (a0 : Int32) (D : z_Dat) : ∀ out, z_ko (z_kI S) (F_X11_isSitting N a0 D) out → z_EM l M_X11_isSitting (60, 760, 0, 0) [.ref 40, .int a0] S D out := by
  have hs40 : S[40]? = some (13, 55, [none, some (some 41), none, none, none, none, none, none, none, some (some 42), some (some 43), some (some 44), some (some 45), some (some 46), some (some 47), some (some 48), none, none, none, none, none, none, some (some 49), some (some 50), some (some 51), some (some 52), some (some 53), none, none, some (some 54), some (some 55), some (some 56), none, none, none, none, none, none, some (some 57), some (some 58), some (some 59), some (some 60), some (some 61), none, some (some 62), some (some 63), none, none, some (some 64), some (some 65), none, none, none, some (some 66), none]) := hW.1 40 _ rfl
  have hs47 : S[47]? = some (0, 24, []) := hW.1 47 _ rfl
  have hs48 : S[48]? = some (0, 8, []) := hW.1 48 _ rfl
  have hs58 : S[58]? = some (0, 60, []) := hW.1 58 _ rfl
  refine z_meth hl rfl kp_X11 (Nat.le_of_ble_eq_true rfl) (lv := [some (.ref 40), some (.int a0), none]) rfl ?_
  unfold F_X11_isSitting
  have hJ_F_X11_isSitting_J44 : ∀ (v8 : Int32) (v9 : Int32) (v10 : Int32) (D11 : z_Dat) , z_F l M_X11_isSitting (60, 760, 0, 0) 0 0 44 [some (.ref 40), some (.int a0), some (.int v8)] [.int 0, .int v10, .int v9, .ref 40] S D11 (z_ko (z_kI S)) (F_X11_isSitting_J44 N a0 v8 v9 v10 D11) := by
    intro v8 v9 v10 D11
    unfold F_X11_isSitting_J44
    refine z_aload_n (i := 0) (x := 40) dX11_isSitting_44 rfl rfl ?_
    refine z_getR (j := 39) dX11_isSitting_45 kl_11 hs40 (by decide) rfl rfl kf_X11_68 ?_
    refine z_bipush (v := 40) dX11_isSitting_48 (by decide) ?_
    refine z_iload_n (i := 1) (x := a0) dX11_isSitting_50 rfl rfl ?_
    refine z_iadd dX11_isSitting_51 ?_
    refine z_iald dX11_isSitting_52 hs58 ?_
    refine z_aload_n (i := 0) (x := 40) dX11_isSitting_53 rfl rfl ?_
    refine z_getR (j := 39) dX11_isSitting_54 kl_11 hs40 (by decide) rfl rfl kf_X11_68 ?_
    refine z_bipush (v := 59) dX11_isSitting_57 (by decide) ?_
    refine z_ialdC dX11_isSitting_59 hs58 (vp_in_iff.mpr (by decide)) ?_
    refine z_iload_n (i := 2) (x := v8) dX11_isSitting_60 rfl rfl ?_
    refine z_aload_n (i := 0) (x := 40) dX11_isSitting_61 rfl rfl ?_
    refine z_getR (j := 15) dX11_isSitting_62 kl_11 hs40 (by decide) rfl rfl kf_X11_38 ?_
    refine z_iload_n (i := 1) (x := a0) dX11_isSitting_65 rfl rfl ?_
    refine z_iald dX11_isSitting_66 hs48 ?_
    refine z_icmp_ne 74 dX11_isSitting_67 (by decide) (fun c12 => ?_) (fun c12 => ?_)
    · refine z_iconst (v := 1) dX11_isSitting_70 rfl ?_
      refine z_goto 75 dX11_isSitting_71 (by decide) ?_
      refine z_cWI (As := [.ref 40, .int v9, .int v10, .int 0, .int (D11 58 (z_ix (40 + a0))), .int (D11 58 (z_ix 59)), .int 1]) (rest := []) (em_X11_sitsBy hl hW N v9 v10 0 (D11 58 (z_ix (40 + a0))) (D11 58 (z_ix 59)) 1 D11) (fun o7 h => z_runV 345 6 h rfl kk_X11_345 hs40 kl_11.1 kq_X11_sitsBy rfl (Nat.le_of_ble_eq_true rfl) ⟨Nat.le_of_ble_eq_true rfl, Nat.le_of_ble_eq_true rfl, Nat.le_of_ble_eq_true rfl, Nat.le_of_ble_eq_true rfl⟩ dX11_isSitting_75) z_gWI (fun a_14 hz13 => ?_)
      exact z_ireturn dX11_isSitting_78 z_rWI hz13 (by decide) (by decide)
    · refine z_iconst (v := 0) dX11_isSitting_74 rfl ?_
      refine z_cWI (As := [.ref 40, .int v9, .int v10, .int 0, .int (D11 58 (z_ix (40 + a0))), .int (D11 58 (z_ix 59)), .int 0]) (rest := []) (em_X11_sitsBy hl hW N v9 v10 0 (D11 58 (z_ix (40 + a0))) (D11 58 (z_ix 59)) 0 D11) (fun o7 h => z_runV 345 6 h rfl kk_X11_345 hs40 kl_11.1 kq_X11_sitsBy rfl (Nat.le_of_ble_eq_true rfl) ⟨Nat.le_of_ble_eq_true rfl, Nat.le_of_ble_eq_true rfl, Nat.le_of_ble_eq_true rfl, Nat.le_of_ble_eq_true rfl⟩ dX11_isSitting_75) z_gWI (fun a_16 hz15 => ?_)
      exact z_ireturn dX11_isSitting_78 z_rWI hz15 (by decide) (by decide)
  have hJ_F_X11_isSitting_J44x : ∀ (v17 : Int32) (v18 : Int32) (v19 : Int32) (v20 : Int32) (D21 : z_Dat) , z_F l M_X11_isSitting (60, 760, 0, 0) 0 0 44 [some (.ref 40), some (.int a0), some (.int v17)] [.int v20, .int v19, .int v18, .ref 40] S D21 (z_ko (z_kI S)) (F_X11_isSitting_J44x N a0 v17 v18 v19 v20 D21) := by
    intro v17 v18 v19 v20 D21
    unfold F_X11_isSitting_J44x
    refine z_aload_n (i := 0) (x := 40) dX11_isSitting_44 rfl rfl ?_
    refine z_getR (j := 39) dX11_isSitting_45 kl_11 hs40 (by decide) rfl rfl kf_X11_68 ?_
    refine z_bipush (v := 40) dX11_isSitting_48 (by decide) ?_
    refine z_iload_n (i := 1) (x := a0) dX11_isSitting_50 rfl rfl ?_
    refine z_iadd dX11_isSitting_51 ?_
    refine z_iald dX11_isSitting_52 hs58 ?_
    refine z_aload_n (i := 0) (x := 40) dX11_isSitting_53 rfl rfl ?_
    refine z_getR (j := 39) dX11_isSitting_54 kl_11 hs40 (by decide) rfl rfl kf_X11_68 ?_
    refine z_bipush (v := 59) dX11_isSitting_57 (by decide) ?_
    refine z_ialdC dX11_isSitting_59 hs58 (vp_in_iff.mpr (by decide)) ?_
    refine z_iload_n (i := 2) (x := v17) dX11_isSitting_60 rfl rfl ?_
    refine z_aload_n (i := 0) (x := 40) dX11_isSitting_61 rfl rfl ?_
    refine z_getR (j := 15) dX11_isSitting_62 kl_11 hs40 (by decide) rfl rfl kf_X11_38 ?_
    refine z_iload_n (i := 1) (x := a0) dX11_isSitting_65 rfl rfl ?_
    refine z_iald dX11_isSitting_66 hs48 ?_
    refine z_icmp_ne 74 dX11_isSitting_67 (by decide) (fun c22 => ?_) (fun c22 => ?_)
    · refine z_iconst (v := 1) dX11_isSitting_70 rfl ?_
      refine z_goto 75 dX11_isSitting_71 (by decide) ?_
      refine z_cWI (As := [.ref 40, .int v18, .int v19, .int v20, .int (D21 58 (z_ix (40 + a0))), .int (D21 58 (z_ix 59)), .int 1]) (rest := []) (em_X11_sitsBy hl hW N v18 v19 v20 (D21 58 (z_ix (40 + a0))) (D21 58 (z_ix 59)) 1 D21) (fun o7 h => z_runV 345 6 h rfl kk_X11_345 hs40 kl_11.1 kq_X11_sitsBy rfl (Nat.le_of_ble_eq_true rfl) ⟨Nat.le_of_ble_eq_true rfl, Nat.le_of_ble_eq_true rfl, Nat.le_of_ble_eq_true rfl, Nat.le_of_ble_eq_true rfl⟩ dX11_isSitting_75) z_gWI (fun a_24 hz23 => ?_)
      exact z_ireturn dX11_isSitting_78 z_rWI hz23 (by decide) (by decide)
    · refine z_iconst (v := 0) dX11_isSitting_74 rfl ?_
      refine z_cWI (As := [.ref 40, .int v18, .int v19, .int v20, .int (D21 58 (z_ix (40 + a0))), .int (D21 58 (z_ix 59)), .int 0]) (rest := []) (em_X11_sitsBy hl hW N v18 v19 v20 (D21 58 (z_ix (40 + a0))) (D21 58 (z_ix 59)) 0 D21) (fun o7 h => z_runV 345 6 h rfl kk_X11_345 hs40 kl_11.1 kq_X11_sitsBy rfl (Nat.le_of_ble_eq_true rfl) ⟨Nat.le_of_ble_eq_true rfl, Nat.le_of_ble_eq_true rfl, Nat.le_of_ble_eq_true rfl, Nat.le_of_ble_eq_true rfl⟩ dX11_isSitting_75) z_gWI (fun a_26 hz25 => ?_)
      exact z_ireturn dX11_isSitting_78 z_rWI hz25 (by decide) (by decide)
  refine z_aload_n (i := 0) (x := 40) dX11_isSitting_0 rfl rfl ?_
  refine z_aload_n (i := 0) (x := 40) dX11_isSitting_1 rfl rfl ?_
  refine z_iload_n (i := 1) (x := a0) dX11_isSitting_2 rfl rfl ?_
  refine z_cR (As := [.ref 40, .int a0]) (rest := [.ref 40]) (em_X11_shadeOf hl hW a0 D) (fun o7 h => z_runV 339 1 h rfl kk_X11_339 hs40 kl_11.1 kq_X11_shadeOf rfl (Nat.le_of_ble_eq_true rfl) ⟨Nat.le_of_ble_eq_true rfl, Nat.le_of_ble_eq_true rfl, Nat.le_of_ble_eq_true rfl, Nat.le_of_ble_eq_true rfl⟩ dX11_isSitting_3) z_gWI (fun a_2 hz1 => ?_)
  refine z_cR (As := [.ref 40, .int a_2]) (rest := []) (em_X11_seemsOf hl hW N a_2 D) (fun o7 h => z_runV 342 1 h rfl kk_X11_342 hs40 kl_11.1 kq_X11_seemsOf rfl (Nat.le_of_ble_eq_true rfl) ⟨Nat.le_of_ble_eq_true rfl, Nat.le_of_ble_eq_true rfl, Nat.le_of_ble_eq_true rfl, Nat.le_of_ble_eq_true rfl⟩ dX11_isSitting_6) z_gWI (fun a_4 hz3 => ?_)
  refine z_istore_n (i := 2) (x := a_4) (lv' := [some (.ref 40), some (.int a0), some (.int a_4)]) dX11_isSitting_9 rfl (by decide) rfl rfl ?_
  refine z_aload_n (i := 0) (x := 40) dX11_isSitting_10 rfl rfl ?_
  refine z_aload_n (i := 0) (x := 40) dX11_isSitting_11 rfl rfl ?_
  refine z_iload_n (i := 1) (x := a0) dX11_isSitting_12 rfl rfl ?_
  refine z_cR (As := [.ref 40, .int a0]) (rest := [.ref 40]) (em_X11_shadeOf hl hW a0 D) (fun o7 h => z_runV 339 1 h rfl kk_X11_339 hs40 kl_11.1 kq_X11_shadeOf rfl (Nat.le_of_ble_eq_true rfl) ⟨Nat.le_of_ble_eq_true rfl, Nat.le_of_ble_eq_true rfl, Nat.le_of_ble_eq_true rfl, Nat.le_of_ble_eq_true rfl⟩ dX11_isSitting_13) z_gWI (fun a_6 hz5 => ?_)
  refine z_aload_n (i := 0) (x := 40) dX11_isSitting_16 rfl rfl ?_
  refine z_getR (j := 39) dX11_isSitting_17 kl_11 hs40 (by decide) rfl rfl kf_X11_68 ?_
  refine z_bipush (v := 48) dX11_isSitting_20 (by decide) ?_
  refine z_iload_n (i := 1) (x := a0) dX11_isSitting_22 rfl rfl ?_
  refine z_iadd dX11_isSitting_23 ?_
  refine z_iald dX11_isSitting_24 hs58 ?_
  refine z_iload_n (i := 2) (x := a_4) dX11_isSitting_25 rfl rfl ?_
  refine z_iconst (v := (-1)) dX11_isSitting_26 rfl ?_
  refine z_icmp_ne 34 dX11_isSitting_27 (by decide) (fun c7 => ?_) (fun c7 => ?_)
  · refine z_iconst (v := 0) dX11_isSitting_30 rfl ?_
    refine z_goto 44 dX11_isSitting_31 (by decide) ?_
    exact hJ_F_X11_isSitting_J44 a_4 a_6 (D 58 (z_ix (48 + a0))) D
  · refine z_aload_n (i := 0) (x := 40) dX11_isSitting_34 rfl rfl ?_
    refine z_getR (j := 14) dX11_isSitting_35 kl_11 hs40 (by decide) rfl rfl kf_X11_35 ?_
    refine z_iconst (v := 4) dX11_isSitting_38 rfl ?_
    refine z_iload_n (i := 2) (x := a_4) dX11_isSitting_39 rfl rfl ?_
    refine z_imul dX11_isSitting_40 ?_
    refine z_iconst (v := 3) dX11_isSitting_41 rfl ?_
    refine z_iadd dX11_isSitting_42 ?_
    refine z_iald dX11_isSitting_43 hs47 ?_
    exact hJ_F_X11_isSitting_J44x a_4 a_6 (D 58 (z_ix (48 + a0))) (D 47 (z_ix ((4 * a_4) + 3))) D

def F_X11_sitting_L4 (N : Nat) (kc4 : ((Int32 × Int32 × z_Dat) → Option (Int32 × z_Dat))) (v1 : Int32) (v2 : Int32) (D3 : z_Dat) : Option (Int32 × z_Dat) :=
  if (D3 40 20) ≤ v2 then (some (v1, D3))
  else (z_bd (F_X11_isSitting N v2 D3) (fun a_7 => if a_7.1 = 0 then (z_let (v1 + 0) (fun v9 => z_let (v2 + 1) (fun v10 => kc4 (v9, v10, a_7.2))))
  else (z_let (v1 + 1) (fun v11 => z_let (v2 + 1) (fun v12 => kc4 (v11, v12, a_7.2))))))
def F_X11_sitting (N : Nat) (D : z_Dat) : Option (Int32 × z_Dat) :=
  z_loop (fun kc4 s => F_X11_sitting_L4 N kc4 s.1 s.2.1 s.2.2) N (0, 0, D)
set_option maxRecDepth 100000 in
set_option maxHeartbeats 4000000 in
theorem em_X11_sitting {l : Launch} {S : List z_Shp} {oW : Nat} (hl : l.stackTraces = false) (hW : z_W S oW) (N : Nat) (D : z_Dat) : ∀ out, z_ko (z_kI S) (F_X11_sitting N D) out → z_EM l M_X11_sitting (70, 820, 0, 0) [.ref 40] S D out := by
  have hs40 : S[40]? = some (13, 55, [none, some (some 41), none, none, none, none, none, none, none, some (some 42), some (some 43), some (some 44), some (some 45), some (some 46), some (some 47), some (some 48), none, none, none, none, none, none, some (some 49), some (some 50), some (some 51), some (some 52), some (some 53), none, none, some (some 54), some (some 55), some (some 56), none, none, none, none, none, none, some (some 57), some (some 58), some (some 59), some (some 60), some (some 61), none, some (some 62), some (some 63), none, none, some (some 64), some (some 65), none, none, none, some (some 66), none]) := hW.1 40 _ rfl
  refine z_meth hl rfl kp_X11 (Nat.le_of_ble_eq_true rfl) (lv := [some (.ref 40), none, none]) rfl ?_
  unfold F_X11_sitting
  refine z_iconst (v := 0) dX11_sitting_0 rfl ?_
  refine z_istore_n (i := 1) (x := 0) (lv' := [some (.ref 40), some (.int 0), none]) dX11_sitting_1 rfl (by decide) rfl rfl ?_
  refine z_iconst (v := 0) dX11_sitting_2 rfl ?_
  refine z_istore_n (i := 2) (x := 0) (lv' := [some (.ref 40), some (.int 0), some (.int 0)]) dX11_sitting_3 rfl (by decide) rfl rfl ?_
  refine z_loops (lvOf := fun s : Int32 × Int32 × z_Dat => [some (.ref 40), some (.int s.1), some (.int s.2.1)]) (dOf := fun s : Int32 × Int32 × z_Dat => s.2.2) (fun kc4 hkc4 s => ?_) N (0, 0, D)
  obtain ⟨v1, v2, D3⟩ := s
  show z_F _ _ _ _ _ 4 [some (.ref 40), some (.int v1), some (.int v2)] [] S D3 _ (F_X11_sitting_L4 N kc4 v1 v2 D3)
  unfold F_X11_sitting_L4
  refine z_iload_n (i := 2) (x := v2) dX11_sitting_4 rfl rfl ?_
  refine z_aload_n (i := 0) (x := 40) dX11_sitting_5 rfl rfl ?_
  refine z_getI (j := 20) dX11_sitting_6 kl_11 hs40 (by decide) rfl rfl kf_X11_159 ?_
  refine z_icmp_ge 34 dX11_sitting_9 (by decide) (fun c5 => ?_) (fun c5 => ?_)
  · refine z_iload_n (i := 1) (x := v1) dX11_sitting_34 rfl rfl ?_
    exact z_ireturn dX11_sitting_35 z_rWI rfl (by decide) (by decide)
  · refine z_iload_n (i := 1) (x := v1) dX11_sitting_12 rfl rfl ?_
    refine z_aload_n (i := 0) (x := 40) dX11_sitting_13 rfl rfl ?_
    refine z_iload_n (i := 2) (x := v2) dX11_sitting_14 rfl rfl ?_
    refine z_cWI (As := [.ref 40, .int v2]) (rest := [.int v1]) (em_X11_isSitting hl hW N v2 D3) (fun o7 h => z_runV 349 1 h rfl kk_X11_349 hs40 kl_11.1 kq_X11_isSitting rfl (Nat.le_of_ble_eq_true rfl) ⟨Nat.le_of_ble_eq_true rfl, Nat.le_of_ble_eq_true rfl, Nat.le_of_ble_eq_true rfl, Nat.le_of_ble_eq_true rfl⟩ dX11_sitting_15) z_gWI (fun a_7 hz6 => ?_)
    refine z_if_eq 25 dX11_sitting_18 (by decide) (fun c8 => ?_) (fun c8 => ?_)
    · refine z_iconst (v := 0) dX11_sitting_25 rfl ?_
      refine z_iadd dX11_sitting_26 ?_
      refine z_topi (fun v9 => ?_)
      refine z_istore_n (i := 1) (x := v9) (lv' := [some (.ref 40), some (.int v9), some (.int v2)]) dX11_sitting_27 rfl (by decide) rfl rfl ?_
      refine z_iinc (i := 2) (x := v2) (y := 1) dX11_sitting_28 rfl (by decide) (by decide) rfl (fun v10 => ?_)
      refine z_goto 4 dX11_sitting_31 (by decide) ?_
      exact hkc4 (v9, v10, a_7.2)
    · refine z_iconst (v := 1) dX11_sitting_21 rfl ?_
      refine z_goto 26 dX11_sitting_22 (by decide) ?_
      refine z_iadd dX11_sitting_26 ?_
      refine z_topi (fun v11 => ?_)
      refine z_istore_n (i := 1) (x := v11) (lv' := [some (.ref 40), some (.int v11), some (.int v2)]) dX11_sitting_27 rfl (by decide) rfl rfl ?_
      refine z_iinc (i := 2) (x := v2) (y := 1) dX11_sitting_28 rfl (by decide) (by decide) rfl (fun v12 => ?_)
      refine z_goto 4 dX11_sitting_31 (by decide) ?_
      exact hkc4 (v11, v12, a_7.2)

def F_X11_unlikeShades_L17 (kc3 : ((Int32 × Int32) → Option Int32)) (v1 : Int32) (v2 : Int32) (D : z_Dat) (kc7 : ((Int32 × Int32) → Option Int32)) (v5 : Int32) (v6 : Int32) : Option Int32 :=
  if v2 ≤ v6 then (if v5 = 0 then (z_let (v1 + 0) (fun v10 => z_let (v2 + 1) (fun v11 => kc3 (v10, v11))))
  else (z_let (v1 + 1) (fun v12 => z_let (v2 + 1) (fun v13 => kc3 (v12, v13)))))
  else (if v5 = 0 then (z_let (v6 + 1) (fun v15 => kc7 (0, v15)))
  else (z_bd (F_X11_shadeOf v6 D) (fun a_17 => z_bd (F_X11_shadeOf v2 D) (fun a_19 => if a_17 = a_19 then (z_let (v6 + 1) (fun v21 => kc7 (0, v21)))
  else (z_let (v6 + 1) (fun v22 => kc7 (1, v22)))))))
def F_X11_unlikeShades_L4 (N : Nat) (D : z_Dat) (kc3 : ((Int32 × Int32) → Option Int32)) (v1 : Int32) (v2 : Int32) : Option Int32 :=
  if (D 40 20) ≤ v2 then (some v1)
  else (z_loop (fun kc7 s => F_X11_unlikeShades_L17 kc3 v1 v2 D kc7 s.1 s.2) N (1, 0))
def F_X11_unlikeShades (N : Nat) (D : z_Dat) : Option Int32 :=
  z_loop (fun kc3 s => F_X11_unlikeShades_L4 N D kc3 s.1 s.2) N (0, 0)
set_option maxRecDepth 100000 in
set_option maxHeartbeats 4000000 in
theorem em_X11_unlikeShades {l : Launch} {S : List z_Shp} {oW : Nat} (hl : l.stackTraces = false) (hW : z_W S oW) (N : Nat) (D : z_Dat) : ∀ out, z_ko (z_kR S D) (F_X11_unlikeShades N D) out → z_EM l M_X11_unlikeShades (30, 580, 0, 0) [.ref 40] S D out := by
  have hs40 : S[40]? = some (13, 55, [none, some (some 41), none, none, none, none, none, none, none, some (some 42), some (some 43), some (some 44), some (some 45), some (some 46), some (some 47), some (some 48), none, none, none, none, none, none, some (some 49), some (some 50), some (some 51), some (some 52), some (some 53), none, none, some (some 54), some (some 55), some (some 56), none, none, none, none, none, none, some (some 57), some (some 58), some (some 59), some (some 60), some (some 61), none, some (some 62), some (some 63), none, none, some (some 64), some (some 65), none, none, none, some (some 66), none]) := hW.1 40 _ rfl
  refine z_meth hl rfl kp_X11 (Nat.le_of_ble_eq_true rfl) (lv := [some (.ref 40), none, none, none, none]) rfl ?_
  unfold F_X11_unlikeShades
  refine z_iconst (v := 0) dX11_unlikeShades_0 rfl ?_
  refine z_istore_n (i := 1) (x := 0) (lv' := [some (.ref 40), some (.int 0), none, none, none]) dX11_unlikeShades_1 rfl (by decide) rfl rfl ?_
  refine z_iconst (v := 0) dX11_unlikeShades_2 rfl ?_
  refine z_istore_n (i := 2) (x := 0) (lv' := [some (.ref 40), some (.int 0), some (.int 0), none, none]) dX11_unlikeShades_3 rfl (by decide) rfl rfl ?_
  refine z_loops (lvOf := fun s : Int32 × Int32 => [some (.ref 40), some (.int s.1), some (.int s.2), none, none]) (dOf := fun s : Int32 × Int32 => D) (fun kc3 hkc3 s => ?_) N (0, 0)
  obtain ⟨v1, v2⟩ := s
  show z_F _ _ _ _ _ 4 [some (.ref 40), some (.int v1), some (.int v2), none, none] [] S D _ (F_X11_unlikeShades_L4 N D kc3 v1 v2)
  unfold F_X11_unlikeShades_L4
  refine z_iload_n (i := 2) (x := v2) dX11_unlikeShades_4 rfl rfl ?_
  refine z_aload_n (i := 0) (x := 40) dX11_unlikeShades_5 rfl rfl ?_
  refine z_getI (j := 20) dX11_unlikeShades_6 kl_11 hs40 (by decide) rfl rfl kf_X11_159 ?_
  refine z_icmp_ge 71 dX11_unlikeShades_9 (by decide) (fun c4 => ?_) (fun c4 => ?_)
  · refine z_iload_n (i := 1) (x := v1) dX11_unlikeShades_71 rfl rfl ?_
    exact z_ireturn dX11_unlikeShades_72 z_rR rfl (by decide) (by decide)
  · refine z_iconst (v := 1) dX11_unlikeShades_12 rfl ?_
    refine z_istore_n (i := 3) (x := 1) (lv' := [some (.ref 40), some (.int v1), some (.int v2), some (.int 1), none]) dX11_unlikeShades_13 rfl (by decide) rfl rfl ?_
    refine z_iconst (v := 0) dX11_unlikeShades_14 rfl ?_
    refine z_istore (i := 4) (x := 0) (lv' := [some (.ref 40), some (.int v1), some (.int v2), some (.int 1), some (.int 0)]) dX11_unlikeShades_15 (by decide) rfl rfl ?_
    refine z_loops (lvOf := fun s : Int32 × Int32 => [some (.ref 40), some (.int v1), some (.int v2), some (.int s.1), some (.int s.2)]) (dOf := fun s : Int32 × Int32 => D) (fun kc7 hkc7 s => ?_) N (1, 0)
    obtain ⟨v5, v6⟩ := s
    show z_F _ _ _ _ _ 17 [some (.ref 40), some (.int v1), some (.int v2), some (.int v5), some (.int v6)] [] S D _ (F_X11_unlikeShades_L17 kc3 v1 v2 D kc7 v5 v6)
    unfold F_X11_unlikeShades_L17
    refine z_iload (i := 4) (x := v6) dX11_unlikeShades_17 rfl ?_
    refine z_iload_n (i := 2) (x := v2) dX11_unlikeShades_19 rfl rfl ?_
    refine z_icmp_ge 53 dX11_unlikeShades_20 (by decide) (fun c8 => ?_) (fun c8 => ?_)
    · refine z_iload_n (i := 1) (x := v1) dX11_unlikeShades_53 rfl rfl ?_
      refine z_iload_n (i := 3) (x := v5) dX11_unlikeShades_54 rfl rfl ?_
      refine z_if_eq 62 dX11_unlikeShades_55 (by decide) (fun c9 => ?_) (fun c9 => ?_)
      · refine z_iconst (v := 0) dX11_unlikeShades_62 rfl ?_
        refine z_iadd dX11_unlikeShades_63 ?_
        refine z_topi (fun v10 => ?_)
        refine z_istore_n (i := 1) (x := v10) (lv' := [some (.ref 40), some (.int v10), some (.int v2), some (.int v5), some (.int v6)]) dX11_unlikeShades_64 rfl (by decide) rfl rfl ?_
        refine z_iinc (i := 2) (x := v2) (y := 1) dX11_unlikeShades_65 rfl (by decide) (by decide) rfl (fun v11 => ?_)
        refine z_goto 4 dX11_unlikeShades_68 (by decide) ?_
        refine z_weak (lv' := [some (.ref 40), some (.int v10), some (.int v11), none, none]) ⟨Or.inr rfl, ⟨Or.inr rfl, ⟨Or.inr rfl, ⟨Or.inl rfl, ⟨Or.inl rfl, trivial⟩⟩⟩⟩⟩ ?_
        exact hkc3 (v10, v11)
      · refine z_iconst (v := 1) dX11_unlikeShades_58 rfl ?_
        refine z_goto 63 dX11_unlikeShades_59 (by decide) ?_
        refine z_iadd dX11_unlikeShades_63 ?_
        refine z_topi (fun v12 => ?_)
        refine z_istore_n (i := 1) (x := v12) (lv' := [some (.ref 40), some (.int v12), some (.int v2), some (.int v5), some (.int v6)]) dX11_unlikeShades_64 rfl (by decide) rfl rfl ?_
        refine z_iinc (i := 2) (x := v2) (y := 1) dX11_unlikeShades_65 rfl (by decide) (by decide) rfl (fun v13 => ?_)
        refine z_goto 4 dX11_unlikeShades_68 (by decide) ?_
        refine z_weak (lv' := [some (.ref 40), some (.int v12), some (.int v13), none, none]) ⟨Or.inr rfl, ⟨Or.inr rfl, ⟨Or.inr rfl, ⟨Or.inl rfl, ⟨Or.inl rfl, trivial⟩⟩⟩⟩⟩ ?_
        exact hkc3 (v12, v13)
    · refine z_iload_n (i := 3) (x := v5) dX11_unlikeShades_23 rfl rfl ?_
      refine z_if_eq 45 dX11_unlikeShades_24 (by decide) (fun c14 => ?_) (fun c14 => ?_)
      · refine z_iconst (v := 0) dX11_unlikeShades_45 rfl ?_
        refine z_istore_n (i := 3) (x := 0) (lv' := [some (.ref 40), some (.int v1), some (.int v2), some (.int 0), some (.int v6)]) dX11_unlikeShades_46 rfl (by decide) rfl rfl ?_
        refine z_iinc (i := 4) (x := v6) (y := 1) dX11_unlikeShades_47 rfl (by decide) (by decide) rfl (fun v15 => ?_)
        refine z_goto 17 dX11_unlikeShades_50 (by decide) ?_
        exact hkc7 (0, v15)
      · refine z_aload_n (i := 0) (x := 40) dX11_unlikeShades_27 rfl rfl ?_
        refine z_iload (i := 4) (x := v6) dX11_unlikeShades_28 rfl ?_
        refine z_cR (As := [.ref 40, .int v6]) (rest := []) (em_X11_shadeOf hl hW v6 D) (fun o7 h => z_runV 339 1 h rfl kk_X11_339 hs40 kl_11.1 kq_X11_shadeOf rfl (Nat.le_of_ble_eq_true rfl) ⟨Nat.le_of_ble_eq_true rfl, Nat.le_of_ble_eq_true rfl, Nat.le_of_ble_eq_true rfl, Nat.le_of_ble_eq_true rfl⟩ dX11_unlikeShades_30) z_gR (fun a_17 hz16 => ?_)
        refine z_aload_n (i := 0) (x := 40) dX11_unlikeShades_33 rfl rfl ?_
        refine z_iload_n (i := 2) (x := v2) dX11_unlikeShades_34 rfl rfl ?_
        refine z_cR (As := [.ref 40, .int v2]) (rest := [.int a_17]) (em_X11_shadeOf hl hW v2 D) (fun o7 h => z_runV 339 1 h rfl kk_X11_339 hs40 kl_11.1 kq_X11_shadeOf rfl (Nat.le_of_ble_eq_true rfl) ⟨Nat.le_of_ble_eq_true rfl, Nat.le_of_ble_eq_true rfl, Nat.le_of_ble_eq_true rfl, Nat.le_of_ble_eq_true rfl⟩ dX11_unlikeShades_35) z_gR (fun a_19 hz18 => ?_)
        refine z_icmp_eq 45 dX11_unlikeShades_38 (by decide) (fun c20 => ?_) (fun c20 => ?_)
        · refine z_iconst (v := 0) dX11_unlikeShades_45 rfl ?_
          refine z_istore_n (i := 3) (x := 0) (lv' := [some (.ref 40), some (.int v1), some (.int v2), some (.int 0), some (.int v6)]) dX11_unlikeShades_46 rfl (by decide) rfl rfl ?_
          refine z_iinc (i := 4) (x := v6) (y := 1) dX11_unlikeShades_47 rfl (by decide) (by decide) rfl (fun v21 => ?_)
          refine z_goto 17 dX11_unlikeShades_50 (by decide) ?_
          exact hkc7 (0, v21)
        · refine z_iconst (v := 1) dX11_unlikeShades_41 rfl ?_
          refine z_goto 46 dX11_unlikeShades_42 (by decide) ?_
          refine z_istore_n (i := 3) (x := 1) (lv' := [some (.ref 40), some (.int v1), some (.int v2), some (.int 1), some (.int v6)]) dX11_unlikeShades_46 rfl (by decide) rfl rfl ?_
          refine z_iinc (i := 4) (x := v6) (y := 1) dX11_unlikeShades_47 rfl (by decide) (by decide) rfl (fun v22 => ?_)
          refine z_goto 17 dX11_unlikeShades_50 (by decide) ?_
          exact hkc7 (1, v22)
