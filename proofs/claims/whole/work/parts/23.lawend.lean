/-! ===== the law's own body, whole: what each step wants (P_..), the case that makes a city, the switch, the loop, the start (by program) ===== -/
def P_0_feed (N o : Nat) (a1 a2 a3 a4 a5 a6 : Int32) (D : z_Dat) (J : z_Dat → Prop) : Prop := ∃ r1 : Int32, ∃ r2 : Int32, ∃ D1 : z_Dat, ∃ D2 : z_Dat, (F_X10_feed a1 a2 a3 a4 a5 D = (r1, D1)) ∧ (F_X11_feed a1 a2 a3 a4 a5 D1 = some (r2, D2)) ∧ (r1 = r2) ∧ J D2
def P_2_law (N o : Nat) (a1 a2 a3 a4 a5 a6 : Int32) (D : z_Dat) (J : z_Dat → Prop) : Prop := ∃ r1 : Int32, ∃ r2 : Int32, ∃ D1 : z_Dat, ∃ D2 : z_Dat, (F_L_law N a1 D = some (r1, D1)) ∧ (F_X11_law N a1 D1 = some (r2, D2)) ∧ ((F_X11_thrown D2) = r1) ∧ (r1 = 0 → lg_cmp ((z_ldJ D2 67 0)) ((r2).toInt64) = 0) ∧ J D2
def P_3_work (N o : Nat) (a1 a2 a3 a4 a5 a6 : Int32) (D : z_Dat) (J : z_Dat → Prop) : Prop := ∃ r1 : Int32, ∃ r2 : Int32, ∃ D1 : z_Dat, ∃ D2 : z_Dat, (F_L_work N o a1 D = some (r1, D1)) ∧ (F_X11_work N a1 D1 = some (r2, D2)) ∧ ((F_X11_thrown D2) = r1) ∧ (r1 = 0 → lg_cmp ((z_ldJ D2 67 0)) ((r2).toInt64) = 0) ∧ J D2
def P_4_book (N o : Nat) (a1 a2 a3 a4 a5 a6 : Int32) (D : z_Dat) (J : z_Dat → Prop) : Prop := ∃ r1 : Int32, ∃ r2 : Int32, ∃ D1 : z_Dat, ∃ D2 : z_Dat, (F_L_book N a1 D = some (r1, D1)) ∧ (F_X11_book N a1 D1 = some (r2, D2)) ∧ ((F_X11_thrown D2) = r1) ∧ (r1 = 0 → lg_cmp ((z_ldJ D2 67 0)) ((r2).toInt64) = 0) ∧ J D2
def P_5_fault (N o : Nat) (a1 a2 a3 a4 a5 a6 : Int32) (D : z_Dat) (J : z_Dat → Prop) : Prop := ∃ r2 : Int32, ∃ D1 : z_Dat, (F_X11_fault D = (r2, D1)) ∧ ((F_X10_fault D) = r2) ∧ J D1
def P_6_undo (N o : Nat) (a1 a2 a3 a4 a5 a6 : Int32) (D : z_Dat) (J : z_Dat → Prop) : Prop := ∃ r1 : Int32, ∃ r2 : Int32, ∃ D1 : z_Dat, ∃ D2 : z_Dat, (F_X10_undo N D = some (r1, D1)) ∧ (F_X11_undo N D1 = some (r2, D2)) ∧ (r1 = r2) ∧ J D2
def P_7_told (N o : Nat) (a1 a2 a3 a4 a5 a6 : Int32) (D : z_Dat) (J : z_Dat → Prop) : Prop := ∃ r1 : Int32, ∃ r2 : Int32, ∃ D1 : z_Dat, ∃ D2 : z_Dat, (F_L_told N o a1 D = some (r1, D1)) ∧ (F_X11_told N a1 D1 = some (r2, D2)) ∧ ((F_X11_thrown D2) = r1) ∧ (r1 = 0 → lg_cmp ((z_ldJ D2 67 0)) ((r2).toInt64) = 0) ∧ J D2
def P_8_street (N o : Nat) (a1 a2 a3 a4 a5 a6 : Int32) (D : z_Dat) (J : z_Dat → Prop) : Prop := ∃ r1 : Int32, ∃ r2 : Int32, ∃ D1 : z_Dat, ∃ D2 : z_Dat, (F_L_street N o a1 a2 D = some (r1, D1)) ∧ (F_X11_street N a1 a2 D1 = some (r2, D2)) ∧ ((F_X11_thrown D2) = r1) ∧ (r1 = 0 → lg_cmp ((z_ldJ D2 67 0)) ((r2).toInt64) = 0) ∧ J D2
def P_9_person (N o : Nat) (a1 a2 a3 a4 a5 a6 : Int32) (D : z_Dat) (J : z_Dat → Prop) : Prop := ∃ r1 : Int32, ∃ r2 : Int32, ∃ D1 : z_Dat, ∃ D2 : z_Dat, (F_L_person N o a1 a2 D = some (r1, D1)) ∧ (F_X11_person N a1 a2 D1 = some (r2, D2)) ∧ ((F_X11_thrown D2) = r1) ∧ (r1 = 0 → lg_cmp ((z_ldJ D2 67 0)) ((r2).toInt64) = 0) ∧ J D2
def P_10_stock (N o : Nat) (a1 a2 a3 a4 a5 a6 : Int32) (D : z_Dat) (J : z_Dat → Prop) : Prop := ∃ r1 : Int32, ∃ r2 : Int32, ∃ D1 : z_Dat, ∃ D2 : z_Dat, (F_L_stock a1 D = some (r1, D1)) ∧ (F_X11_stock a1 D1 = some (r2, D2)) ∧ ((F_X11_thrown D2) = r1) ∧ (r1 = 0 → lg_cmp ((z_ldJ D2 67 0)) ((r2).toInt64) = 0) ∧ J D2
def P_11_would (N o : Nat) (a1 a2 a3 a4 a5 a6 : Int32) (D : z_Dat) (J : z_Dat → Prop) : Prop := ∃ r1 : Int32, ∃ r2 : Int32, ∃ D1 : z_Dat, ∃ D2 : z_Dat, (F_L_would N a1 a2 a3 a4 a5 a6 D = some (r1, D1)) ∧ (F_X11_would N a1 a2 a3 a4 a5 a6 D1 = some (r2, D2)) ∧ ((F_X11_thrown D2) = r1) ∧ (r1 = 0 → lg_cmp ((z_ldJ D2 67 0)) (if r2 = 0 then 0 else 1) = 0) ∧ J D2
def P_12_distance (N o : Nat) (a1 a2 a3 a4 a5 a6 : Int32) (D : z_Dat) (J : z_Dat → Prop) : Prop := ∃ r1 : Int32, ∃ r2 : Int32, ∃ D1 : z_Dat, ∃ D2 : z_Dat, (F_L_distance a1 a2 D = some (r1, D1)) ∧ (F_X11_distance a1 a2 D1 = some (r2, D2)) ∧ ((F_X11_thrown D2) = r1) ∧ (r1 = 0 → lg_cmp ((z_ldJ D2 67 0)) ((r2).toInt64) = 0) ∧ J D2
def P_13_seems (N o : Nat) (a1 a2 a3 a4 a5 a6 : Int32) (D : z_Dat) (J : z_Dat → Prop) : Prop := ∃ r1 : Int32, ∃ r2 : Int32, ∃ D1 : z_Dat, ∃ D2 : z_Dat, (F_L_seems N o a1 D = some (r1, D1)) ∧ (F_X11_seems N a1 D1 = some (r2, D2)) ∧ ((F_X11_thrown D2) = r1) ∧ (r1 = 0 → lg_cmp ((z_ldJ D2 67 0)) ((r2).toInt64) = 0) ∧ J D2
def P_14_dipped (N o : Nat) (a1 a2 a3 a4 a5 a6 : Int32) (D : z_Dat) (J : z_Dat → Prop) : Prop := ∃ r1 : Int32, ∃ r2 : Int32, ∃ D1 : z_Dat, ∃ D2 : z_Dat, (F_L_dipped o a1 a2 D = some (r1, D1)) ∧ (F_X11_dipped a1 a2 D1 = some (r2, D2)) ∧ ((F_X11_thrown D2) = r1) ∧ (r1 = 0 → lg_cmp ((z_ldJ D2 67 0)) ((r2).toInt64) = 0) ∧ J D2
def P_15_cousins (N o : Nat) (a1 a2 a3 a4 a5 a6 : Int32) (D : z_Dat) (J : z_Dat → Prop) : Prop := ∃ r1 : Int32, ∃ r2 : Int32, ∃ D1 : z_Dat, (F_X10_cousins N o D = some r1) ∧ (F_X11_cousins N D = some (r2, D1)) ∧ (r1 = r2) ∧ J D1
def P_16_when (N o : Nat) (a1 a2 a3 a4 a5 a6 : Int32) (D : z_Dat) (J : z_Dat → Prop) : Prop := ∃ r1 : Int32, ∃ r2 : Int32, ∃ D1 : z_Dat, ∃ D2 : z_Dat, (F_L_when N o a1 a2 D = some (r1, D1)) ∧ (F_X11_when N a1 a2 D1 = some (r2, D2)) ∧ ((F_X11_thrown D2) = r1) ∧ (r1 = 0 → lg_cmp ((z_ldJ D2 67 0)) ((r2).toInt64) = 0) ∧ J D2
def P_17_sits (N o : Nat) (a1 a2 a3 a4 a5 a6 : Int32) (D : z_Dat) (J : z_Dat → Prop) : Prop := ∃ r1 : Int32, ∃ r2 : Int32, ∃ D1 : z_Dat, ∃ D2 : z_Dat, (F_L_sits N o a1 a2 D = some (r1, D1)) ∧ (F_X11_sits N a1 a2 D1 = some (r2, D2)) ∧ ((F_X11_thrown D2) = r1) ∧ (r1 = 0 → lg_cmp ((z_ldJ D2 67 0)) ((r2).toInt64) = 0) ∧ J D2
def P_18_way (N o : Nat) (a1 a2 a3 a4 a5 a6 : Int32) (D : z_Dat) (J : z_Dat → Prop) : Prop := ∃ r1 : Int32, ∃ r2 : Int32, ∃ D1 : z_Dat, ∃ D2 : z_Dat, (F_L_way N o a1 a2 D = some (r1, D1)) ∧ (F_X11_way N a1 a2 D1 = some (r2, D2)) ∧ ((F_X11_thrown D2) = r1) ∧ (r1 = 0 → lg_cmp ((z_ldJ D2 67 0)) ((r2).toInt64) = 0) ∧ J D2
def P_19_step (N o : Nat) (a1 a2 a3 a4 a5 a6 : Int32) (D : z_Dat) (J : z_Dat → Prop) : Prop := ∃ r1 : Int32, ∃ r2 : Int32, ∃ D1 : z_Dat, ∃ D2 : z_Dat, (F_L_step N o a1 a2 a3 D = some (r1, D1)) ∧ (F_X11_step N a1 a2 a3 D1 = some (r2, D2)) ∧ ((F_X11_thrown D2) = r1) ∧ (r1 = 0 → lg_cmp ((z_ldJ D2 67 0)) ((r2).toInt64) = 0) ∧ J D2
def P_20_sums (N o : Nat) (a1 a2 a3 a4 a5 a6 : Int32) (D : z_Dat) (J : z_Dat → Prop) : Prop := ∃ r1 : Int32, ∃ r2 : Int32, ∃ D1 : z_Dat, ∃ D2 : z_Dat, (F_L_sums N o a1 a2 D = some (r1, D1)) ∧ (F_X11_sums N a1 a2 D1 = some (r2, D2)) ∧ ((F_X11_thrown D2) = r1) ∧ (r1 = 0 → lg_cmp ((z_ldJ D2 67 0)) ((r2).toInt64) = 0) ∧ J D2
def P_21_tones (N o : Nat) (a1 a2 a3 a4 a5 a6 : Int32) (D : z_Dat) (J : z_Dat → Prop) : Prop := ∃ r1 : Int32, ∃ r2 : Int32, ∃ D1 : z_Dat, ∃ D2 : z_Dat, (F_L_tones N o a1 D = some (r1, D1)) ∧ (F_X11_tones N a1 D1 = some (r2, D2)) ∧ ((F_X11_thrown D2) = r1) ∧ (r1 = 0 → lg_cmp ((z_ldJ D2 67 0)) ((r2).toInt64) = 0) ∧ J D2
def P_22_fits (N o : Nat) (a1 a2 a3 a4 a5 a6 : Int32) (D : z_Dat) (J : z_Dat → Prop) : Prop := ∃ r1 : Int32, ∃ r2 : Int32, ∃ D1 : z_Dat, ∃ D2 : z_Dat, (F_L_fits N o a1 D = some (r1, D1)) ∧ (F_X11_fits N a1 D1 = some (r2, D2)) ∧ ((F_X11_thrown D2) = r1) ∧ (r1 = 0 → lg_cmp ((z_ldJ D2 67 0)) ((r2).toInt64) = 0) ∧ J D2
def P_23_look (N o : Nat) (a1 a2 a3 a4 a5 a6 : Int32) (D : z_Dat) (J : z_Dat → Prop) : Prop := ∃ r1 : Int32, ∃ r2 : Int32, ∃ D1 : z_Dat, ∃ D2 : z_Dat, (F_L_look N o a1 D = some (r1, D1)) ∧ (F_X11_look N a1 D1 = some (r2, D2)) ∧ ((F_X11_thrown D2) = r1) ∧ (r1 = 0 → lg_cmp ((z_ldJ D2 67 0)) ((r2).toInt64) = 0) ∧ J D2
def P_24_match (N o : Nat) (a1 a2 a3 a4 a5 a6 : Int32) (D : z_Dat) (J : z_Dat → Prop) : Prop := ∃ r1 : Int32, ∃ r2 : Int32, ∃ D1 : z_Dat, ∃ D2 : z_Dat, (F_L_match N o a1 D = some (r1, D1)) ∧ (F_X11_match N a1 D1 = some (r2, D2)) ∧ ((F_X11_thrown D2) = r1) ∧ (r1 = 0 → lg_cmp ((z_ldJ D2 67 0)) ((r2).toInt64) = 0) ∧ J D2
def P_25_bride (N o : Nat) (a1 a2 a3 a4 a5 a6 : Int32) (D : z_Dat) (J : z_Dat → Prop) : Prop := ∃ r1 : Int32, ∃ r2 : Int32, ∃ D1 : z_Dat, ∃ D2 : z_Dat, (F_L_bride N o a1 D = some (r1, D1)) ∧ (F_X11_bride N a1 D1 = some (r2, D2)) ∧ ((F_X11_thrown D2) = r1) ∧ (r1 = 0 → lg_cmp ((z_ldJ D2 67 0)) ((r2).toInt64) = 0) ∧ J D2
def P_26_enough (N o : Nat) (a1 a2 a3 a4 a5 a6 : Int32) (D : z_Dat) (J : z_Dat → Prop) : Prop := ∃ r1 : Int32, ∃ r2 : Int32, ∃ D1 : z_Dat, ∃ D2 : z_Dat, (F_L_enough N o a1 D = some (r1, D1)) ∧ (F_X11_enough N a1 D1 = some (r2, D2)) ∧ ((F_X11_thrown D2) = r1) ∧ (r1 = 0 → lg_cmp ((z_ldJ D2 67 0)) ((r2).toInt64) = 0) ∧ J D2
def P_27_level (N o : Nat) (a1 a2 a3 a4 a5 a6 : Int32) (D : z_Dat) (J : z_Dat → Prop) : Prop := ∃ r1 : Int32, ∃ r2 : Int32, ∃ D1 : z_Dat, ∃ D2 : z_Dat, (F_L_level N a1 a2 D = some (r1, D1)) ∧ (F_X11_level a1 a2 D1 = some (r2, D2)) ∧ ((F_X11_thrown D2) = r1) ∧ (r1 = 0 → lg_cmp ((z_ldJ D2 67 0)) ((r2).toInt64) = 0) ∧ J D2
def P_28_night (N o : Nat) (a1 a2 a3 a4 a5 a6 : Int32) (D : z_Dat) (J : z_Dat → Prop) : Prop := ∃ r1 : Int32, ∃ r2 : Int64, ∃ D1 : z_Dat, ∃ D2 : z_Dat, (F_L_night N a1 a2 a3 D = some (r1, D1)) ∧ (F_X11_night N a1 a2 a3 D1 = some (r2, D2)) ∧ ((F_X11_thrown D2) = r1) ∧ (r1 = 0 → lg_cmp ((z_ldJ D2 67 0)) (r2) = 0) ∧ J D2
def P_29_guilds (N o : Nat) (a1 a2 a3 a4 a5 a6 : Int32) (D : z_Dat) (J : z_Dat → Prop) : Prop := ∃ r1 : Int32, ∃ r2 : Int32, ∃ D1 : z_Dat, ∃ D2 : z_Dat, (F_L_guilds N o a1 D = some (r1, D1)) ∧ (F_X11_guilds N a1 D1 = some (r2, D2)) ∧ ((F_X11_thrown D2) = r1) ∧ (r1 = 0 → lg_cmp ((z_ldJ D2 67 0)) ((r2).toInt64) = 0) ∧ J D2
def P_30_follows (N o : Nat) (a1 a2 a3 a4 a5 a6 : Int32) (D : z_Dat) (J : z_Dat → Prop) : Prop := ∃ r1 : Int32, ∃ r2 : Int32, ∃ D1 : z_Dat, ∃ D2 : z_Dat, (F_L_follows N o a1 a2 D = some (r1, D1)) ∧ (F_X11_follows N a1 a2 D1 = some (r2, D2)) ∧ ((F_X11_thrown D2) = r1) ∧ (r1 = 0 → lg_cmp ((z_ldJ D2 67 0)) ((r2).toInt64) = 0) ∧ J D2
def P_31_ahead (N o : Nat) (a1 a2 a3 a4 a5 a6 : Int32) (D : z_Dat) (J : z_Dat → Prop) : Prop := ∃ r1 : Int32, ∃ r2 : Int32, ∃ D1 : z_Dat, ∃ D2 : z_Dat, (F_L_ahead N o a1 a2 D = some (r1, D1)) ∧ (F_X11_ahead N a1 a2 D1 = some (r2, D2)) ∧ ((F_X11_thrown D2) = r1) ∧ (r1 = 0 → lg_cmp ((z_ldJ D2 67 0)) ((r2).toInt64) = 0) ∧ J D2
def P_32_ages (N o : Nat) (a1 a2 a3 a4 a5 a6 : Int32) (D : z_Dat) (J : z_Dat → Prop) : Prop := ∃ r1 : Int32, ∃ r2 : Int32, ∃ D1 : z_Dat, ∃ D2 : z_Dat, (F_L_ages N o a1 a2 a3 a4 D = some (r1, D1)) ∧ (F_X11_ages N a1 a2 a3 a4 D1 = some (r2, D2)) ∧ ((F_X11_thrown D2) = r1) ∧ (r1 = 0 → lg_cmp ((z_ldJ D2 67 0)) ((r2).toInt64) = 0) ∧ J D2
def P_33_span (N o : Nat) (a1 a2 a3 a4 a5 a6 : Int32) (D : z_Dat) (J : z_Dat → Prop) : Prop := ∃ r1 : Int32, ∃ r2 : Int32, ∃ D1 : z_Dat, ∃ D2 : z_Dat, (F_L_span N o a1 a2 a3 a4 a5 D = some (r1, D1)) ∧ (F_X11_span N a1 a2 a3 a4 a5 D1 = some (r2, D2)) ∧ ((F_X11_thrown D2) = r1) ∧ (r1 = 0 → lg_cmp ((z_ldJ D2 67 0)) ((r2).toInt64) = 0) ∧ J D2
def P_34_image (N o : Nat) (a1 a2 a3 a4 a5 a6 : Int32) (D : z_Dat) (J : z_Dat → Prop) : Prop := ∃ r1 : Int32, ∃ r2 : Int32, ∃ D1 : z_Dat, ∃ D2 : z_Dat, (F_X10_image N D = some (r1, D1)) ∧ (F_X11_image N D1 = some (r2, D2)) ∧ (r1 = r2) ∧ J D2
def P_35_restore (N o : Nat) (a1 a2 a3 a4 a5 a6 : Int32) (D : z_Dat) (J : z_Dat → Prop) : Prop := ∃ r1 : Int32, ∃ r2 : Int32, ∃ D1 : z_Dat, ∃ D2 : z_Dat, (F_X10_restore N D = some (r1, D1)) ∧ (F_X11_restore N D1 = some (r2, D2)) ∧ (r1 = r2) ∧ J D2
def P_36_status (N o : Nat) (a1 a2 a3 a4 a5 a6 : Int32) (D : z_Dat) (J : z_Dat → Prop) : Prop := ∃ r2 : Int32, ∃ D1 : z_Dat, (F_X11_status a1 D = some (r2, D1)) ∧ ((F_X10_status a1 D) = r2) ∧ J D1
def P_37_count (N o : Nat) (a1 a2 a3 a4 a5 a6 : Int32) (D : z_Dat) (J : z_Dat → Prop) : Prop := ∃ r2 : Int32, ∃ D1 : z_Dat, (F_X11_count a1 D = (r2, D1)) ∧ ((F_X10_count a1 D) = r2) ∧ J D1
def P_1_city (N o n : Nat) (a1 : Int32) (D : z_Dat) (J : Nat → Nat → z_Dat → Prop) : Prop := ∃ r1 : Int32, ∃ m : Nat, ∃ r2 : Int32, ∃ D1 : z_Dat, ∃ D2 : z_Dat, (F_L_city N n a1 D = some (r1, m, D1)) ∧ (F_X11_city N a1 D1 = some (r2, D2)) ∧ (F_X11_thrown D2 = r1) ∧ (r1 = 0 → lg_cmp (z_ldJ D2 67 0) (r2.toInt64) = 0) ∧ J (if 2 ≤ m then n else o) (if m = 0 then n else n + 6) D2
def z_okS (J : Nat → Nat → z_Dat → Prop) (N o n : Nat) (a1 a2 a3 a4 a5 a6 : Int32) (D : z_Dat) (k : Nat) : Prop := match k with
  | 0 => P_0_feed N o a1 a2 a3 a4 a5 a6 D (J o n)
  | 1 => P_1_city N o n a1 D J
  | 2 => P_2_law N o a1 a2 a3 a4 a5 a6 D (J o n)
  | 3 => P_3_work N o a1 a2 a3 a4 a5 a6 D (J o n)
  | 4 => P_4_book N o a1 a2 a3 a4 a5 a6 D (J o n)
  | 5 => P_5_fault N o a1 a2 a3 a4 a5 a6 D (J o n)
  | 6 => P_6_undo N o a1 a2 a3 a4 a5 a6 D (J o n)
  | 7 => P_7_told N o a1 a2 a3 a4 a5 a6 D (J o n)
  | 8 => P_8_street N o a1 a2 a3 a4 a5 a6 D (J o n)
  | 9 => P_9_person N o a1 a2 a3 a4 a5 a6 D (J o n)
  | 10 => P_10_stock N o a1 a2 a3 a4 a5 a6 D (J o n)
  | 11 => P_11_would N o a1 a2 a3 a4 a5 a6 D (J o n)
  | 12 => P_12_distance N o a1 a2 a3 a4 a5 a6 D (J o n)
  | 13 => P_13_seems N o a1 a2 a3 a4 a5 a6 D (J o n)
  | 14 => P_14_dipped N o a1 a2 a3 a4 a5 a6 D (J o n)
  | 15 => P_15_cousins N o a1 a2 a3 a4 a5 a6 D (J o n)
  | 16 => P_16_when N o a1 a2 a3 a4 a5 a6 D (J o n)
  | 17 => P_17_sits N o a1 a2 a3 a4 a5 a6 D (J o n)
  | 18 => P_18_way N o a1 a2 a3 a4 a5 a6 D (J o n)
  | 19 => P_19_step N o a1 a2 a3 a4 a5 a6 D (J o n)
  | 20 => P_20_sums N o a1 a2 a3 a4 a5 a6 D (J o n)
  | 21 => P_21_tones N o a1 a2 a3 a4 a5 a6 D (J o n)
  | 22 => P_22_fits N o a1 a2 a3 a4 a5 a6 D (J o n)
  | 23 => P_23_look N o a1 a2 a3 a4 a5 a6 D (J o n)
  | 24 => P_24_match N o a1 a2 a3 a4 a5 a6 D (J o n)
  | 25 => P_25_bride N o a1 a2 a3 a4 a5 a6 D (J o n)
  | 26 => P_26_enough N o a1 a2 a3 a4 a5 a6 D (J o n)
  | 27 => P_27_level N o a1 a2 a3 a4 a5 a6 D (J o n)
  | 28 => P_28_night N o a1 a2 a3 a4 a5 a6 D (J o n)
  | 29 => P_29_guilds N o a1 a2 a3 a4 a5 a6 D (J o n)
  | 30 => P_30_follows N o a1 a2 a3 a4 a5 a6 D (J o n)
  | 31 => P_31_ahead N o a1 a2 a3 a4 a5 a6 D (J o n)
  | 32 => P_32_ages N o a1 a2 a3 a4 a5 a6 D (J o n)
  | 33 => P_33_span N o a1 a2 a3 a4 a5 a6 D (J o n)
  | 34 => P_34_image N o a1 a2 a3 a4 a5 a6 D (J o n)
  | 35 => P_35_restore N o a1 a2 a3 a4 a5 a6 D (J o n)
  | 36 => P_36_status N o a1 a2 a3 a4 a5 a6 D (J o n)
  | 37 => P_37_count N o a1 a2 a3 a4 a5 a6 D (J o n)
  | _ => True
theorem z_wfb_set {S : List z_Shp} {n k : Nat} {sp : z_Shp} (h : z_wfb S n = true) (hsp : ∀ r, some (some r) ∈ sp.2.2 → r < n) : z_wfb (S.set k sp) n = true := by
  unfold z_wfb
  rw [List.all_eq_true]
  intro x hx
  rw [List.all_eq_true]
  intro r hr
  rcases List.mem_or_eq_of_mem_set hx with h1 | h1
  · obtain ⟨j, hj⟩ := List.getElem?_of_mem h1
    match r, hr with
    | none, _ => rfl
    | some none, _ => rfl
    | some (some r), hr => exact decide_eq_true (z_wfb_at h hj r hr)
  · subst h1
    match r, hr with
    | none, _ => rfl
    | some none, _ => rfl
    | some (some r), hr => exact decide_eq_true (hsp r hr)
theorem z_wfb_Sx {S : List z_Shp} {n : Nat} {b : Bool} (h : z_wfb S n = true) (hn : 67 < n) : z_wfb (z_Sx S n b) (n + 6) = true := by
  have h1 : z_wfb (S ++ z_city n) (n + 6) = true := z_wfbA h (by omega) (fun sp hsp r hr => by
    simp only [z_city, List.mem_cons, List.not_mem_nil, or_false] at hsp
    rcases hsp with rfl | rfl | rfl | rfl | rfl | rfl
    · simp only [List.mem_cons, Option.some.injEq, List.not_mem_nil, or_false, reduceCtorEq] at hr
      omega
    all_goals exact absurd hr List.not_mem_nil)
  cases b
  · exact h1
  · refine z_wfb_set h1 (fun r hr => ?_)
    simp only [z_o0, List.mem_cons, Option.some.injEq, List.not_mem_nil, or_false, reduceCtorEq] at hr
    omega
theorem z_W_Sx {S : List z_Shp} {o n : Nat} {b : Bool} (hW : z_W S o) (hn : S.length = n) (h0 : 0 < n) : z_W (z_Sx S n b) (if b then n else o) := by
  cases b
  · exact z_W_app hW
  · exact z_W_turn (z_W_app hW) (z_isC_new hn) h0
set_option maxRecDepth 100000 in
set_option maxHeartbeats 4000000 in
theorem case_1_city {X : Nat × (Nat → Int32)} {l : Launch} {S : List z_Shp} {o n : Nat} {D : z_Dat} {out : z_Out} {cu su : Nat} {i : Int32} (hl : l.stackTraces = false) (hW : z_W S o) (hO : S[67]? = some (1, 1, [])) (hn : S.length = n) (hwf : z_wfb S n = true) (N : Nat) (hin : ∀ k : Int32, 0 ≤ k → k ≤ 6 → vp_in (i + k) X.1) (hc : cu + 60 ≤ 601024) (hs : su + 400 ≤ 7293034) {r1 : Int32} {m : Nat} {r2 : Int32} {D1 D2 : z_Dat} {o2 : Nat} (hle : S.length ≤ (z_Sy S n m).length) (hg : (z_Sy S n m).length ≤ out.2.1.length) (h1 : F_L_city N n (z_sx X i 1) D = some (r1, m, D1)) (h2 : F_X11_city N (z_sx X i 1) D1 = some (r2, D2)) (he : F_X11_thrown D2 = r1) (h0 : r1 = 0 → lg_cmp (z_ldJ D2 67 0) (r2.toInt64) = 0) (hW2 : z_W (z_Sy S n m) o2) (hO2 : (z_Sy S n m)[67]? = some (1, 1, []))
    (kk : z_G X l M_L_law_ (2048, 84000, 601024, 7293034) (cu + 7 + 0 + 0) (su + 45 + 0 + 0) 2408 [some (.retAddr 1000), some (.ref 0), some (.ref 40), some (.ref 67), some (.int i), none, none, none] [] (z_Sy S n m) D2 out) : z_G X l M_L_law_ (2048, 84000, 601024, 7293034) cu su 281 [some (.retAddr 1000), some (.ref 0), some (.ref 40), some (.ref 67), some (.int i), none, none, none] [] S D out := by
  have hlt : 67 < S.length := (List.getElem?_eq_some_iff.mp hO).1
  have hs40 := hW2.1 40 _ rfl
  have hv2 : ∀ v : Value, some v ∈ [some (Value.retAddr 1000), some (Value.ref 0), some (Value.ref 40), some (Value.ref 67), some (Value.int i), none, none, none] → z_vok S.length v := fun v hv => by
    simp only [List.mem_cons, List.not_mem_nil, or_false, Option.some.injEq, reduceCtorEq] at hv
    rcases hv with rfl | rfl | rfl | rfl | rfl
    · trivial
    · show 0 < S.length
      omega
    · show 40 < S.length
      omega
    · exact hlt
    · trivial
  refine g_aload_n (i := 1) (x := 0) dL_law__281 rfl rfl ?_
  refine g_aloadC_n (i := 0) (x := 1000) dL_law__282 rfl rfl ?_
  refine g_iload (i := 4) (x := i) dL_law__283 rfl ?_
  refine g_iconst (v := 1) dL_law__285 rfl ?_
  refine g_iadd dL_law__286 ?_
  refine g_scr dL_law__287 (hin 1 (by decide) (by decide)) ?_
  refine g_aload_n (i := 3) (x := 67) dL_law__288 rfl rfl ?_
  refine g_call (M' := M_L_city) (B' := (100, 1000, 7, 45)) (As := [.ref 0, .int (z_sx X i 1), .ref 67]) (rest := []) (o' := (.inl (some (.int r1)), z_Sy S n m, D1)) (v := some (.int r1)) (z_runSX 118 3 (em_L_city hl hW hO hn hwf N (z_sx X i 1) D _ ⟨_, h1, rfl⟩) rfl kk_L_118 kq_L_city rfl (Nat.le_of_ble_eq_true rfl) ⟨Nat.le_of_ble_eq_true rfl, Nat.le_of_ble_eq_true rfl, by show cu + 7 ≤ 601024; omega, by show su + 45 ≤ 7293034; omega⟩ dL_law__289) rfl (fun _ => rfl) (z_same_of (fun v hv => absurd hv List.not_mem_nil) hv2) hle hg ?_
  refine g_istore (i := 5) (lv' := [some (.retAddr 1000), some (.ref 0), some (.ref 40), some (.ref 67), some (.int i), some (.int r1), none, none]) dL_law__292 (by decide) rfl rfl ?_
  refine g_aload_n (i := 2) (x := 40) dL_law__294 rfl rfl ?_
  refine g_aloadC_n (i := 0) (x := 1000) dL_law__295 rfl rfl ?_
  refine g_iload (i := 4) (x := i) dL_law__296 rfl ?_
  refine g_iconst (v := 1) dL_law__298 rfl ?_
  refine g_iadd dL_law__299 ?_
  refine g_scr dL_law__300 (hin 1 (by decide) (by decide)) ?_
  refine g_cE (As := [.ref 40, .int (z_sx X i 1)]) (rest := []) (D2 := D2) (v := some (.int r2)) (em_X11_city hl hW2 N (z_sx X i 1) D1 _ ⟨_, h2, rfl⟩) (fun _ => rfl) (fun o7 h => z_runV 123 1 h rfl kk_L_123 hs40 kl_11.1 kq_X11_city rfl (Nat.le_of_ble_eq_true rfl) ⟨Nat.le_of_ble_eq_true rfl, Nat.le_of_ble_eq_true rfl, by show cu + 7 + 0 ≤ 601024; omega, by show su + 45 + 0 ≤ 7293034; omega⟩ dL_law__301) hg ?_
  refine g_istore (i := 6) (lv' := [some (.retAddr 1000), some (.ref 0), some (.ref 40), some (.ref 67), some (.int i), some (.int r1), some (.int r2), none]) dL_law__304 (by decide) rfl rfl ?_
  refine g_aload_n (i := 2) (x := 40) dL_law__306 rfl rfl ?_
  refine g_cE (As := [.ref 40]) (rest := []) (D2 := D2) (v := some (.int (F_X11_thrown D2))) (em_X11_thrown hl hW2 D2 _ rfl) (fun _ => rfl) (fun o7 h => z_runV 124 0 h rfl kk_L_124 hs40 kl_11.1 kq_X11_thrown rfl (Nat.le_of_ble_eq_true rfl) ⟨Nat.le_of_ble_eq_true rfl, Nat.le_of_ble_eq_true rfl, by show cu + 7 + 0 + 0 ≤ 601024; omega, by show su + 45 + 0 + 0 ≤ 7293034; omega⟩ dL_law__307) hg ?_
  refine g_iload (i := 5) (x := r1) dL_law__310 rfl ?_
  refine g_icmp_eqJ 317 dL_law__312 (by decide) he ?_
  refine g_iload (i := 5) (x := r1) dL_law__317 rfl ?_
  refine (Decidable.em (¬ r1 = 0)).elim (fun c0 => ?_) (fun c0n => ?_)
  · refine g_if_neJ 334 dL_law__319 (by decide) c0 ?_
    refine g_goto 2408 dL_law__334 (by decide) ?_
    exact g_weak (lv' := z_lv0 i) rfl g_lvw kk
  have c0 := Decidable.not_not.mp c0n
  refine g_if_neN 334 dL_law__319 (by decide) c0 ?_
  refine g_aload_n (i := 3) (x := 67) dL_law__322 rfl rfl ?_
  refine g_iconst (v := 0) dL_law__323 rfl ?_
  refine g_lald (k := 67) dL_law__324 hO2 (vp_in_iff.mpr (by decide)) ?_
  refine g_iload (i := 6) (x := r2) dL_law__325 rfl ?_
  refine g_i2l dL_law__327 ?_
  refine g_lcmp dL_law__328 ?_
  refine g_if_eqJ 334 dL_law__329 (by decide) (h0 c0) ?_
  refine g_goto 2408 dL_law__334 (by decide) ?_
  exact g_weak (lv' := z_lv0 i) rfl g_lvw kk
theorem z_sw (c : Int32) {P : Prop} (h : ∀ k : Nat, k ≤ 37 → c = Int32.ofNat k → P) (hd : (c.toInt < 0 ∨ 37 < c.toInt) → P) : P := by
  by_cases h1 : c.toInt < 0 ∨ 37 < c.toInt
  · exact hd h1
  · refine h c.toInt.toNat (by omega) (Int32.toInt_inj.mp ?_)
    have e : (Int32.ofNat c.toInt.toNat).toInt = (c.toInt.toNat : Int) := Int32.toInt_ofNat_of_lt (by omega)
    rw [e]
    omega
theorem g_tswD {X : Nat × (Nat → Int32)} {l : Launch} {M : z_M} {B : z_B} {cu su pc : Nat} {lv : List (Option Value)} {st : List Value} {S : List z_Shp} {D : z_Dat} {out : z_Out} {dflt lo hi : Int} {offs : Array Int} {len : Nat} {x : Int32} (tgt : Nat) (hdg : decode M.2.1 pc = .ok (.tableswitch dflt lo hi offs, len)) (h : x.toInt < lo ∨ hi < x.toInt) (ht : (pc : Int) + dflt = (tgt : Int)) (k : z_G X l M B cu su tgt lv st S D out) : z_G X l M B cu su pc lv (.int x :: st) S D out := by
  intro p e R s m args below meth cc Q G cI cJ A ρ H locs ls C hP hD hS hl hend
  exact lv_tableOut C.1 C.2.1 hdg h ht (k p e R s m args below meth cc Q G cI cJ A ρ H locs ls C hP hD hS hl hend)
/-- what stands of a run: it will answer 1 -/
def z_Go (X : Nat × (Nat → Int32)) (l : Launch) (cu su pc : Nat) (lv : List (Option Value)) (st : List Value) (S : List z_Shp) (D : z_Dat) : Prop :=
  ∃ out : z_Out, out.1 = .inl (some (.int 1)) ∧ S.length ≤ out.2.1.length ∧ z_G X l M_L_law_ (2048, 84000, 601024, 7293034) cu su pc lv st S D out

set_option maxRecDepth 100000 in
set_option maxHeartbeats 4000000 in
theorem law_step {X : Nat × (Nat → Int32)} {l : Launch} {S : List z_Shp} {o n : Nat} {D : z_Dat} {cu su : Nat} {i : Int32} (hl : l.stackTraces = false) (hW : z_W S o) (hO : S[67]? = some (1, 1, [])) (hn : S.length = n) (hwf : z_wfb S n = true) (N : Nat) (hin : ∀ k : Int32, 0 ≤ k → k ≤ 6 → vp_in (i + k) X.1) (hc : cu + 60 ≤ 601024) (hs : su + 400 ≤ 7293034) (J : Nat → Nat → z_Dat → Prop) (hJ : J o n D)
    (hstep : ∀ k, k ≤ 37 → z_okS J N o n (z_sx X i 1) (z_sx X i 2) (z_sx X i 3) (z_sx X i 4) (z_sx X i 5) (z_sx X i 6) D k)
    (next : ∀ S' o' n' D', z_W S' o' → S'.length = n' → z_wfb S' n' = true → S'[67]? = some (1, 1, []) → S.length ≤ S'.length → J o' n' D' → z_Go X l (cu + 60) (su + 400) 2408 (z_lv0 i) [] S' D') (c : Int32) :
    z_Go X l cu su 40 (z_lv0 i) [.int c] S D := by
  refine z_sw c (fun k hk hck => ?_) (fun hd => ?_)
  · have H := hstep k hk
    match k, hk, hck, H with
    | 0, _, hck, H =>
      obtain ⟨r1, r2, D1, D2, q0, q1, q2, hJ2⟩ := H
      obtain ⟨out, g1, g2, kk⟩ := next S o n D2 hW hn hwf hO (Nat.le_refl _) hJ2
      exact ⟨out, g1, g2, g_tswC (c := 0) 208 dL_law__40 hck (by decide) (by decide) rfl (by decide) (case_0_feed hl hW hO N hin hc hs g2 q0 q1 q2 (g_room (by omega) (by omega) kk))⟩
    | 1, _, hck, H =>
      obtain ⟨r1, m, r2, D1, D2, h1, h2, he, h0, hJ2⟩ := H
      have h67 : 67 < S.length := (List.getElem?_eq_some_iff.mp hO).1
      have hs : z_W (z_Sy S n m) (if 2 ≤ m then n else o) ∧ (z_Sy S n m).length = (if m = 0 then n else n + 6) ∧ z_wfb (z_Sy S n m) (if m = 0 then n else n + 6) = true ∧ (z_Sy S n m)[67]? = some (1, 1, []) := by
        match m with
        | 0 => exact ⟨hW, hn, hwf, hO⟩
        | 1 => exact ⟨z_W_Sx (b := false) hW hn (by omega), by show (z_Sx S n false).length = n + 6; rw [z_Sx_len]; omega, z_wfb_Sx hwf (by omega), z_Sx_at hO (by decide)⟩
        | m + 2 => exact ⟨by rw [if_pos (by omega)]; exact z_W_Sx (b := true) hW hn (by omega), by rw [if_neg (by omega)]; show (z_Sx S n true).length = n + 6; rw [z_Sx_len]; omega, by rw [if_neg (by omega)]; exact z_wfb_Sx hwf (by omega), z_Sx_at hO (by decide)⟩
      have hle : S.length ≤ (z_Sy S n m).length := by
        rw [hs.2.1]
        split <;> omega
      obtain ⟨out, g1, g2, kk⟩ := next (z_Sy S n m) _ _ D2 hs.1 hs.2.1 hs.2.2.1 hs.2.2.2 hle hJ2
      exact ⟨out, g1, Nat.le_trans hle g2, g_tswC (c := 1) 281 dL_law__40 hck (by decide) (by decide) rfl (by decide) (case_1_city hl hW hO hn hwf N hin hc ‹su + 400 ≤ 7293034› hle g2 h1 h2 he h0 hs.1 hs.2.2.2 (g_room (by omega) (by omega) kk))⟩
    | 2, _, hck, H =>
      obtain ⟨r1, r2, D1, D2, q0, q1, q2, q3, hJ2⟩ := H
      obtain ⟨out, g1, g2, kk⟩ := next S o n D2 hW hn hwf hO (Nat.le_refl _) hJ2
      exact ⟨out, g1, g2, g_tswC (c := 2) 337 dL_law__40 hck (by decide) (by decide) rfl (by decide) (case_2_law hl hW hO N hin hc hs g2 q0 q1 q2 q3 (g_room (by omega) (by omega) kk))⟩
    | 3, _, hck, H =>
      obtain ⟨r1, r2, D1, D2, q0, q1, q2, q3, hJ2⟩ := H
      obtain ⟨out, g1, g2, kk⟩ := next S o n D2 hW hn hwf hO (Nat.le_refl _) hJ2
      exact ⟨out, g1, g2, g_tswC (c := 3) 393 dL_law__40 hck (by decide) (by decide) rfl (by decide) (case_3_work hl hW hO N hin hc hs g2 q0 q1 q2 q3 (g_room (by omega) (by omega) kk))⟩
    | 4, _, hck, H =>
      obtain ⟨r1, r2, D1, D2, q0, q1, q2, q3, hJ2⟩ := H
      obtain ⟨out, g1, g2, kk⟩ := next S o n D2 hW hn hwf hO (Nat.le_refl _) hJ2
      exact ⟨out, g1, g2, g_tswC (c := 4) 449 dL_law__40 hck (by decide) (by decide) rfl (by decide) (case_4_book hl hW hO N hin hc hs g2 q0 q1 q2 q3 (g_room (by omega) (by omega) kk))⟩
    | 5, _, hck, H =>
      obtain ⟨r2, D1, q0, q1, hJ2⟩ := H
      obtain ⟨out, g1, g2, kk⟩ := next S o n D1 hW hn hwf hO (Nat.le_refl _) hJ2
      exact ⟨out, g1, g2, g_tswC (c := 5) 505 dL_law__40 hck (by decide) (by decide) rfl (by decide) (case_5_fault hl hW hO N hin hc hs g2 q0 q1 (g_room (by omega) (by omega) kk))⟩
    | 6, _, hck, H =>
      obtain ⟨r1, r2, D1, D2, q0, q1, q2, hJ2⟩ := H
      obtain ⟨out, g1, g2, kk⟩ := next S o n D2 hW hn hwf hO (Nat.le_refl _) hJ2
      exact ⟨out, g1, g2, g_tswC (c := 6) 518 dL_law__40 hck (by decide) (by decide) rfl (by decide) (case_6_undo hl hW hO N hin hc hs g2 q0 q1 q2 (g_room (by omega) (by omega) kk))⟩
    | 7, _, hck, H =>
      obtain ⟨r1, r2, D1, D2, q0, q1, q2, q3, hJ2⟩ := H
      obtain ⟨out, g1, g2, kk⟩ := next S o n D2 hW hn hwf hO (Nat.le_refl _) hJ2
      exact ⟨out, g1, g2, g_tswC (c := 7) 531 dL_law__40 hck (by decide) (by decide) rfl (by decide) (case_7_told hl hW hO N hin hc hs g2 q0 q1 q2 q3 (g_room (by omega) (by omega) kk))⟩
    | 8, _, hck, H =>
      obtain ⟨r1, r2, D1, D2, q0, q1, q2, q3, hJ2⟩ := H
      obtain ⟨out, g1, g2, kk⟩ := next S o n D2 hW hn hwf hO (Nat.le_refl _) hJ2
      exact ⟨out, g1, g2, g_tswC (c := 8) 587 dL_law__40 hck (by decide) (by decide) rfl (by decide) (case_8_street hl hW hO N hin hc hs g2 q0 q1 q2 q3 (g_room (by omega) (by omega) kk))⟩
    | 9, _, hck, H =>
      obtain ⟨r1, r2, D1, D2, q0, q1, q2, q3, hJ2⟩ := H
      obtain ⟨out, g1, g2, kk⟩ := next S o n D2 hW hn hwf hO (Nat.le_refl _) hJ2
      exact ⟨out, g1, g2, g_tswC (c := 9) 655 dL_law__40 hck (by decide) (by decide) rfl (by decide) (case_9_person hl hW hO N hin hc hs g2 q0 q1 q2 q3 (g_room (by omega) (by omega) kk))⟩
    | 10, _, hck, H =>
      obtain ⟨r1, r2, D1, D2, q0, q1, q2, q3, hJ2⟩ := H
      obtain ⟨out, g1, g2, kk⟩ := next S o n D2 hW hn hwf hO (Nat.le_refl _) hJ2
      exact ⟨out, g1, g2, g_tswC (c := 10) 723 dL_law__40 hck (by decide) (by decide) rfl (by decide) (case_10_stock hl hW hO N hin hc hs g2 q0 q1 q2 q3 (g_room (by omega) (by omega) kk))⟩
    | 11, _, hck, H =>
      obtain ⟨r1, r2, D1, D2, q0, q1, q2, q3, hJ2⟩ := H
      obtain ⟨out, g1, g2, kk⟩ := next S o n D2 hW hn hwf hO (Nat.le_refl _) hJ2
      exact ⟨out, g1, g2, g_tswC (c := 11) 779 dL_law__40 hck (by decide) (by decide) rfl (by decide) (case_11_would hl hW hO N hin hc hs g2 q0 q1 q2 q3 (g_room (by omega) (by omega) kk))⟩
    | 12, _, hck, H =>
      obtain ⟨r1, r2, D1, D2, q0, q1, q2, q3, hJ2⟩ := H
      obtain ⟨out, g1, g2, kk⟩ := next S o n D2 hW hn hwf hO (Nat.le_refl _) hJ2
      exact ⟨out, g1, g2, g_tswC (c := 12) 904 dL_law__40 hck (by decide) (by decide) rfl (by decide) (case_12_distance hl hW hO N hin hc hs g2 q0 q1 q2 q3 (g_room (by omega) (by omega) kk))⟩
    | 13, _, hck, H =>
      obtain ⟨r1, r2, D1, D2, q0, q1, q2, q3, hJ2⟩ := H
      obtain ⟨out, g1, g2, kk⟩ := next S o n D2 hW hn hwf hO (Nat.le_refl _) hJ2
      exact ⟨out, g1, g2, g_tswC (c := 13) 972 dL_law__40 hck (by decide) (by decide) rfl (by decide) (case_13_seems hl hW hO N hin hc hs g2 q0 q1 q2 q3 (g_room (by omega) (by omega) kk))⟩
    | 14, _, hck, H =>
      obtain ⟨r1, r2, D1, D2, q0, q1, q2, q3, hJ2⟩ := H
      obtain ⟨out, g1, g2, kk⟩ := next S o n D2 hW hn hwf hO (Nat.le_refl _) hJ2
      exact ⟨out, g1, g2, g_tswC (c := 14) 1028 dL_law__40 hck (by decide) (by decide) rfl (by decide) (case_14_dipped hl hW hO N hin hc hs g2 q0 q1 q2 q3 (g_room (by omega) (by omega) kk))⟩
    | 15, _, hck, H =>
      obtain ⟨r1, r2, D1, q0, q1, q2, hJ2⟩ := H
      obtain ⟨out, g1, g2, kk⟩ := next S o n D1 hW hn hwf hO (Nat.le_refl _) hJ2
      exact ⟨out, g1, g2, g_tswC (c := 15) 1096 dL_law__40 hck (by decide) (by decide) rfl (by decide) (case_15_cousins hl hW hO N hin hc hs g2 q0 q1 q2 (g_room (by omega) (by omega) kk))⟩
    | 16, _, hck, H =>
      obtain ⟨r1, r2, D1, D2, q0, q1, q2, q3, hJ2⟩ := H
      obtain ⟨out, g1, g2, kk⟩ := next S o n D2 hW hn hwf hO (Nat.le_refl _) hJ2
      exact ⟨out, g1, g2, g_tswC (c := 16) 1109 dL_law__40 hck (by decide) (by decide) rfl (by decide) (case_16_when hl hW hO N hin hc hs g2 q0 q1 q2 q3 (g_room (by omega) (by omega) kk))⟩
    | 17, _, hck, H =>
      obtain ⟨r1, r2, D1, D2, q0, q1, q2, q3, hJ2⟩ := H
      obtain ⟨out, g1, g2, kk⟩ := next S o n D2 hW hn hwf hO (Nat.le_refl _) hJ2
      exact ⟨out, g1, g2, g_tswC (c := 17) 1177 dL_law__40 hck (by decide) (by decide) rfl (by decide) (case_17_sits hl hW hO N hin hc hs g2 q0 q1 q2 q3 (g_room (by omega) (by omega) kk))⟩
    | 18, _, hck, H =>
      obtain ⟨r1, r2, D1, D2, q0, q1, q2, q3, hJ2⟩ := H
      obtain ⟨out, g1, g2, kk⟩ := next S o n D2 hW hn hwf hO (Nat.le_refl _) hJ2
      exact ⟨out, g1, g2, g_tswC (c := 18) 1245 dL_law__40 hck (by decide) (by decide) rfl (by decide) (case_18_way hl hW hO N hin hc hs g2 q0 q1 q2 q3 (g_room (by omega) (by omega) kk))⟩
    | 19, _, hck, H =>
      obtain ⟨r1, r2, D1, D2, q0, q1, q2, q3, hJ2⟩ := H
      obtain ⟨out, g1, g2, kk⟩ := next S o n D2 hW hn hwf hO (Nat.le_refl _) hJ2
      exact ⟨out, g1, g2, g_tswC (c := 19) 1313 dL_law__40 hck (by decide) (by decide) rfl (by decide) (case_19_step hl hW hO N hin hc hs g2 q0 q1 q2 q3 (g_room (by omega) (by omega) kk))⟩
    | 20, _, hck, H =>
      obtain ⟨r1, r2, D1, D2, q0, q1, q2, q3, hJ2⟩ := H
      obtain ⟨out, g1, g2, kk⟩ := next S o n D2 hW hn hwf hO (Nat.le_refl _) hJ2
      exact ⟨out, g1, g2, g_tswC (c := 20) 1393 dL_law__40 hck (by decide) (by decide) rfl (by decide) (case_20_sums hl hW hO N hin hc hs g2 q0 q1 q2 q3 (g_room (by omega) (by omega) kk))⟩
    | 21, _, hck, H =>
      obtain ⟨r1, r2, D1, D2, q0, q1, q2, q3, hJ2⟩ := H
      obtain ⟨out, g1, g2, kk⟩ := next S o n D2 hW hn hwf hO (Nat.le_refl _) hJ2
      exact ⟨out, g1, g2, g_tswC (c := 21) 1461 dL_law__40 hck (by decide) (by decide) rfl (by decide) (case_21_tones hl hW hO N hin hc hs g2 q0 q1 q2 q3 (g_room (by omega) (by omega) kk))⟩
    | 22, _, hck, H =>
      obtain ⟨r1, r2, D1, D2, q0, q1, q2, q3, hJ2⟩ := H
      obtain ⟨out, g1, g2, kk⟩ := next S o n D2 hW hn hwf hO (Nat.le_refl _) hJ2
      exact ⟨out, g1, g2, g_tswC (c := 22) 1517 dL_law__40 hck (by decide) (by decide) rfl (by decide) (case_22_fits hl hW hO N hin hc hs g2 q0 q1 q2 q3 (g_room (by omega) (by omega) kk))⟩
    | 23, _, hck, H =>
      obtain ⟨r1, r2, D1, D2, q0, q1, q2, q3, hJ2⟩ := H
      obtain ⟨out, g1, g2, kk⟩ := next S o n D2 hW hn hwf hO (Nat.le_refl _) hJ2
      exact ⟨out, g1, g2, g_tswC (c := 23) 1573 dL_law__40 hck (by decide) (by decide) rfl (by decide) (case_23_look hl hW hO N hin hc hs g2 q0 q1 q2 q3 (g_room (by omega) (by omega) kk))⟩
    | 24, _, hck, H =>
      obtain ⟨r1, r2, D1, D2, q0, q1, q2, q3, hJ2⟩ := H
      obtain ⟨out, g1, g2, kk⟩ := next S o n D2 hW hn hwf hO (Nat.le_refl _) hJ2
      exact ⟨out, g1, g2, g_tswC (c := 24) 1629 dL_law__40 hck (by decide) (by decide) rfl (by decide) (case_24_match hl hW hO N hin hc hs g2 q0 q1 q2 q3 (g_room (by omega) (by omega) kk))⟩
    | 25, _, hck, H =>
      obtain ⟨r1, r2, D1, D2, q0, q1, q2, q3, hJ2⟩ := H
      obtain ⟨out, g1, g2, kk⟩ := next S o n D2 hW hn hwf hO (Nat.le_refl _) hJ2
      exact ⟨out, g1, g2, g_tswC (c := 25) 1685 dL_law__40 hck (by decide) (by decide) rfl (by decide) (case_25_bride hl hW hO N hin hc hs g2 q0 q1 q2 q3 (g_room (by omega) (by omega) kk))⟩
    | 26, _, hck, H =>
      obtain ⟨r1, r2, D1, D2, q0, q1, q2, q3, hJ2⟩ := H
      obtain ⟨out, g1, g2, kk⟩ := next S o n D2 hW hn hwf hO (Nat.le_refl _) hJ2
      exact ⟨out, g1, g2, g_tswC (c := 26) 1741 dL_law__40 hck (by decide) (by decide) rfl (by decide) (case_26_enough hl hW hO N hin hc hs g2 q0 q1 q2 q3 (g_room (by omega) (by omega) kk))⟩
    | 27, _, hck, H =>
      obtain ⟨r1, r2, D1, D2, q0, q1, q2, q3, hJ2⟩ := H
      obtain ⟨out, g1, g2, kk⟩ := next S o n D2 hW hn hwf hO (Nat.le_refl _) hJ2
      exact ⟨out, g1, g2, g_tswC (c := 27) 1797 dL_law__40 hck (by decide) (by decide) rfl (by decide) (case_27_level hl hW hO N hin hc hs g2 q0 q1 q2 q3 (g_room (by omega) (by omega) kk))⟩
    | 28, _, hck, H =>
      obtain ⟨r1, r2, D1, D2, q0, q1, q2, q3, hJ2⟩ := H
      obtain ⟨out, g1, g2, kk⟩ := next S o n D2 hW hn hwf hO (Nat.le_refl _) hJ2
      exact ⟨out, g1, g2, g_tswC (c := 28) 1865 dL_law__40 hck (by decide) (by decide) rfl (by decide) (case_28_night hl hW hO N hin hc hs g2 q0 q1 q2 q3 (g_room (by omega) (by omega) kk))⟩
    | 29, _, hck, H =>
      obtain ⟨r1, r2, D1, D2, q0, q1, q2, q3, hJ2⟩ := H
      obtain ⟨out, g1, g2, kk⟩ := next S o n D2 hW hn hwf hO (Nat.le_refl _) hJ2
      exact ⟨out, g1, g2, g_tswC (c := 29) 1944 dL_law__40 hck (by decide) (by decide) rfl (by decide) (case_29_guilds hl hW hO N hin hc hs g2 q0 q1 q2 q3 (g_room (by omega) (by omega) kk))⟩
    | 30, _, hck, H =>
      obtain ⟨r1, r2, D1, D2, q0, q1, q2, q3, hJ2⟩ := H
      obtain ⟨out, g1, g2, kk⟩ := next S o n D2 hW hn hwf hO (Nat.le_refl _) hJ2
      exact ⟨out, g1, g2, g_tswC (c := 30) 2000 dL_law__40 hck (by decide) (by decide) rfl (by decide) (case_30_follows hl hW hO N hin hc hs g2 q0 q1 q2 q3 (g_room (by omega) (by omega) kk))⟩
    | 31, _, hck, H =>
      obtain ⟨r1, r2, D1, D2, q0, q1, q2, q3, hJ2⟩ := H
      obtain ⟨out, g1, g2, kk⟩ := next S o n D2 hW hn hwf hO (Nat.le_refl _) hJ2
      exact ⟨out, g1, g2, g_tswC (c := 31) 2068 dL_law__40 hck (by decide) (by decide) rfl (by decide) (case_31_ahead hl hW hO N hin hc hs g2 q0 q1 q2 q3 (g_room (by omega) (by omega) kk))⟩
    | 32, _, hck, H =>
      obtain ⟨r1, r2, D1, D2, q0, q1, q2, q3, hJ2⟩ := H
      obtain ⟨out, g1, g2, kk⟩ := next S o n D2 hW hn hwf hO (Nat.le_refl _) hJ2
      exact ⟨out, g1, g2, g_tswC (c := 32) 2136 dL_law__40 hck (by decide) (by decide) rfl (by decide) (case_32_ages hl hW hO N hin hc hs g2 q0 q1 q2 q3 (g_room (by omega) (by omega) kk))⟩
    | 33, _, hck, H =>
      obtain ⟨r1, r2, D1, D2, q0, q1, q2, q3, hJ2⟩ := H
      obtain ⟨out, g1, g2, kk⟩ := next S o n D2 hW hn hwf hO (Nat.le_refl _) hJ2
      exact ⟨out, g1, g2, g_tswC (c := 33) 2228 dL_law__40 hck (by decide) (by decide) rfl (by decide) (case_33_span hl hW hO N hin hc hs g2 q0 q1 q2 q3 (g_room (by omega) (by omega) kk))⟩
    | 34, _, hck, H =>
      obtain ⟨r1, r2, D1, D2, q0, q1, q2, hJ2⟩ := H
      obtain ⟨out, g1, g2, kk⟩ := next S o n D2 hW hn hwf hO (Nat.le_refl _) hJ2
      exact ⟨out, g1, g2, g_tswC (c := 34) 2332 dL_law__40 hck (by decide) (by decide) rfl (by decide) (case_34_image hl hW hO N hin hc hs g2 q0 q1 q2 (g_room (by omega) (by omega) kk))⟩
    | 35, _, hck, H =>
      obtain ⟨r1, r2, D1, D2, q0, q1, q2, hJ2⟩ := H
      obtain ⟨out, g1, g2, kk⟩ := next S o n D2 hW hn hwf hO (Nat.le_refl _) hJ2
      exact ⟨out, g1, g2, g_tswC (c := 35) 2345 dL_law__40 hck (by decide) (by decide) rfl (by decide) (case_35_restore hl hW hO N hin hc hs g2 q0 q1 q2 (g_room (by omega) (by omega) kk))⟩
    | 36, _, hck, H =>
      obtain ⟨r2, D1, q0, q1, hJ2⟩ := H
      obtain ⟨out, g1, g2, kk⟩ := next S o n D1 hW hn hwf hO (Nat.le_refl _) hJ2
      exact ⟨out, g1, g2, g_tswC (c := 36) 2358 dL_law__40 hck (by decide) (by decide) rfl (by decide) (case_36_status hl hW hO N hin hc hs g2 q0 q1 (g_room (by omega) (by omega) kk))⟩
    | 37, _, hck, H =>
      obtain ⟨r2, D1, q0, q1, hJ2⟩ := H
      obtain ⟨out, g1, g2, kk⟩ := next S o n D1 hW hn hwf hO (Nat.le_refl _) hJ2
      exact ⟨out, g1, g2, g_tswC (c := 37) 2383 dL_law__40 hck (by decide) (by decide) rfl (by decide) (case_37_count hl hW hO N hin hc hs g2 q0 q1 (g_room (by omega) (by omega) kk))⟩
    | k + 38, hk, _, _ => exact absurd hk (by omega)
  · obtain ⟨out, g1, g2, kk⟩ := next S o n D hW hn hwf hO (Nat.le_refl _) hJ
    exact ⟨out, g1, g2, g_tswD 2408 dL_law__40 hd (by decide) (g_room (by omega) (by omega) kk)⟩
theorem z_i7 (j : Nat) : Int32.ofNat (7 * j) + 7 = Int32.ofNat (7 * (j + 1)) := by
  rw [show 7 * (j + 1) = 7 * j + 7 from rfl, Int32.ofNat_add]
  rfl
theorem z_i7v {j L : Nat} (hL : L ≤ 3584) (h : 7 * j + 7 ≤ L) (k : Int32) (h0 : 0 ≤ k) (h6 : k ≤ 6) : vp_in (Int32.ofNat (7 * j) + k) L := by
  have e0 : (0 : Int32).toInt = 0 := rfl
  have e6 : (6 : Int32).toInt = 6 := rfl
  have k0 : 0 ≤ k.toInt := by
    have := Int32.le_iff_toInt_le.mp h0
    omega
  have k6 : k.toInt ≤ 6 := by
    have := Int32.le_iff_toInt_le.mp h6
    omega
  have ej : (Int32.ofNat (7 * j)).toInt = ((7 * j : Nat) : Int) := Int32.toInt_ofNat_of_lt (by omega)
  have e : (Int32.ofNat (7 * j) + k).toInt = ((7 * j : Nat) : Int) + k.toInt := by
    rw [Int32.toInt_add, ej, Int.bmod_eq_of_le (by omega) (by omega)]
  exact vp_in_iff.mpr ⟨by omega, by omega⟩
set_option maxRecDepth 100000 in
set_option maxHeartbeats 4000000 in
theorem law_loop {X : Nat × (Nat → Int32)} {l : Launch} (hl : l.stackTraces = false) (N : Nat) (hX : X.1 ≤ 3584) (J : Nat → Nat → z_Dat → Prop)
    (hstep : ∀ o n D, J o n D → ∀ a1 a2 a3 a4 a5 a6 k, k ≤ 37 → z_okS J N o n a1 a2 a3 a4 a5 a6 D k) :
    ∀ (k j : Nat) (S : List z_Shp) (o n : Nat) (D : z_Dat) (cu su : Nat), X.1 < 7 * (j + k) + 7 → 7 * j ≤ X.1 → z_W S o → S.length = n → z_wfb S n = true → S[67]? = some (1, 1, []) → cu + 60 * k + 60 ≤ 601024 → su + 400 * k + 400 ≤ 7293034 → J o n D → z_Go X l cu su 23 (z_lv0 (Int32.ofNat (7 * j))) [] S D := by
  have e7 : (7 : Int32).toInt = 7 := rfl
  have head : ∀ (j : Nat) (S : List z_Shp) (D : z_Dat) (cu su : Nat) (out : z_Out), z_G X l M_L_law_ (2048, 84000, 601024, 7293034) cu su 30 (z_lv0 (Int32.ofNat (7 * j))) [.int (Int32.ofNat X.1 - 7), .int (Int32.ofNat (7 * j))] S D out → z_G X l M_L_law_ (2048, 84000, 601024, 7293034) cu su 23 (z_lv0 (Int32.ofNat (7 * j))) [] S D out := fun j S D cu su out kk => by
    refine g_iload (i := 4) (x := Int32.ofNat (7 * j)) dL_law__23 rfl ?_
    refine g_aloadC_n (i := 0) (x := 1000) dL_law__25 rfl rfl ?_
    refine g_slen dL_law__26 ?_
    refine g_bipush (v := 7) dL_law__27 (by decide) ?_
    exact g_isub dL_law__29 kk
  have eL : (Int32.ofNat X.1 - 7).toInt = (X.1 : Int) - 7 := by
    rw [Int32.toInt_sub, Int32.toInt_ofNat_of_lt (show X.1 < 2 ^ 31 by omega), e7, Int.bmod_eq_of_le (by omega) (by omega)]
  intro k
  induction k with
  | zero =>
    intro j S o n D cu su h1 h2 hW hn hwf hO hc hs hJ
    have ej : (Int32.ofNat (7 * j)).toInt = ((7 * j : Nat) : Int) := Int32.toInt_ofNat_of_lt (by omega)
    refine ⟨(.inl (some (.int 1)), S, D), rfl, Nat.le_refl _, head j S D cu su _ ?_⟩
    refine g_icmp_gtJ 2414 dL_law__30 (by decide) (Int32.lt_iff_toInt_lt.mpr (by omega)) ?_
    refine g_iconst (v := 1) dL_law__2414 rfl ?_
    exact g_ret dL_law__2415 rfl (by show cu ≤ 601024; omega) (by show su ≤ 7293034; omega)
  | succ k ih =>
    intro j S o n D cu su h1 h2 hW hn hwf hO hc hs hJ
    have ej : (Int32.ofNat (7 * j)).toInt = ((7 * j : Nat) : Int) := Int32.toInt_ofNat_of_lt (by omega)
    by_cases hL : X.1 < 7 * j + 7
    · refine ⟨(.inl (some (.int 1)), S, D), rfl, Nat.le_refl _, head j S D cu su _ ?_⟩
      refine g_icmp_gtJ 2414 dL_law__30 (by decide) (Int32.lt_iff_toInt_lt.mpr (by omega)) ?_
      refine g_iconst (v := 1) dL_law__2414 rfl ?_
      exact g_ret dL_law__2415 rfl (by show cu ≤ 601024; omega) (by show su ≤ 7293034; omega)
    · obtain ⟨out, g1, g2, kk⟩ := law_step (cu := cu) (su := su) hl hW hO hn hwf N (z_i7v (j := j) hX (by omega)) (by omega) (by omega) J hJ (hstep o n D hJ _ _ _ _ _ _) (fun S' o' n' D' hW' hn' hwf' hO' hle hJ' => by
        obtain ⟨out, g1, g2, kk⟩ := ih (j + 1) S' o' n' D' (cu + 60) (su + 400) (by omega) (by omega) hW' hn' hwf' hO' (by omega) (by omega) hJ'
        refine ⟨out, g1, g2, ?_⟩
        refine g_iincC (i := 4) (x := Int32.ofNat (7 * j)) (v := Int32.ofNat (7 * (j + 1))) (lv' := z_lv0 (Int32.ofNat (7 * (j + 1)))) dL_law__2408 rfl (z_i7 j) (by decide) rfl rfl ?_
        exact g_goto 23 dL_law__2411 (by decide) kk) (X.2 (Int32.ofNat (7 * j)).toNatClampNeg &&& 63)
      refine ⟨out, g1, g2, head j S D cu su _ ?_⟩
      refine g_icmp_gtN 2414 dL_law__30 (by decide) (fun h => ?_) ?_
      · have := Int32.lt_iff_toInt_lt.mp h
        omega
      refine g_aloadC_n (i := 0) (x := 1000) dL_law__33 rfl rfl ?_
      refine g_iload (i := 4) (x := Int32.ofNat (7 * j)) dL_law__34 rfl ?_
      refine g_scr dL_law__36 (vp_in_iff.mpr ⟨by omega, by omega⟩) ?_
      refine g_bipush (v := 63) dL_law__37 (by decide) ?_
      exact g_iand dL_law__39 kk
set_option maxRecDepth 100000 in
set_option maxHeartbeats 4000000 in
theorem law_whole {X : Nat × (Nat → Int32)} {l : Launch} (hl : l.stackTraces = false) (N : Nat) (hX : X.1 ≤ 3584) (J : Nat → Nat → z_Dat → Prop) (D : z_Dat) (D2 : z_Dat) (hi : F_X11_init_40 N (z_new (F_X10_init_0 (z_new D 0)) 40) = some D2) (h0 : J 34 68 (z_new D2 67))
    (hstep : ∀ o n D, J o n D → ∀ a1 a2 a3 a4 a5 a6 k, k ≤ 37 → z_okS J N o n a1 a2 a3 a4 a5 a6 D k) :
    z_Go X l 0 0 0 [some (.retAddr 1000), none, none, none, none, none, none, none] [] [] D := by
  have hW : z_W (zs122 ++ [(1, 1, [])]) 34 := z_W_app ⟨fun _ _ h => h, rfl, rfl, rfl, rfl, rfl, rfl⟩
  obtain ⟨out, g1, g2, kk⟩ := law_loop hl N hX J hstep 512 0 (zs122 ++ [(1, 1, [])]) 34 68 (z_new D2 67) 68 14893 (by omega) (by omega) hW rfl (by decide) rfl (by decide) (by decide) h0
  have hg : 68 ≤ out.2.1.length := g2
  refine ⟨out, g1, Nat.zero_le _, ?_⟩
  refine g_newO (n := 0) (ci := 10) (N := 15) (rs := [some none, some none, some none, some none, some none, some none, some none, some none, some none, some none, some none, some none, none, none, none]) (S' := zs0) dL_law__0 kl_10 tyX10_ok kw_L_8 (by decide) (by decide +kernel) rfl rfl (by decide) (z_same_of (by simp [z_vok]) (by simp [z_vok])) (by omega) ⟨Nat.le_of_ble_eq_true rfl, Nat.le_of_ble_eq_true rfl⟩ ?_
  refine g_dup dL_law__3 rfl ?_
  refine g_cK (As := [.ref 0]) (rest := [.ref 0]) (S2 := zs69) (D2 := F_X10_init_0 (z_new D 0)) (B' := (30, 580, 39, 6673)) (M' := M_X10_init) (em_X10_init_0 hl (z_new D 0)) (fun o7 h => z_runI 110 0 h rfl rfl rfl kk_L_110 kq_X10_init rfl (Nat.le_of_ble_eq_true rfl) ⟨Nat.le_of_ble_eq_true rfl, Nat.le_of_ble_eq_true rfl, Nat.le_of_ble_eq_true rfl, Nat.le_of_ble_eq_true rfl⟩ dL_law__4) (z_same_of (by simp [z_vok]) (by simp [z_vok])) (by decide) (by show 40 ≤ _; omega) ?_
  refine g_astore_n (i := 1) (lv' := [some (.retAddr 1000), some (.ref 0), none, none, none, none, none, none]) dL_law__7 rfl (by decide) rfl rfl ?_
  refine g_newO (n := 40) (ci := 11) (N := 55) (rs := [none, some none, none, none, none, none, none, none, none, some none, some none, some none, some none, some none, some none, some none, none, none, none, none, none, none, some none, some none, some none, some none, some none, none, none, some none, some none, some none, none, none, none, none, none, none, some none, some none, some none, some none, some none, none, some none, some none, none, none, some none, some none, none, none, none, some none, none]) (S' := zs70) dL_law__8 kl_11 tyX11_ok kw_L_111 (by decide) (by decide +kernel) rfl rfl (by decide) (z_same_of (by simp [z_vok]) (by simp [z_vok])) (by omega) ⟨Nat.le_of_ble_eq_true rfl, Nat.le_of_ble_eq_true rfl⟩ ?_
  refine g_dup dL_law__11 rfl ?_
  refine g_cK (As := [.ref 40]) (rest := [.ref 40]) (S2 := zs122) (D2 := D2) (B' := (40, 640, 26, 8149)) (M' := M_X11_init) (em_X11_init_40 hl N _ _ ⟨_, hi, rfl⟩) (fun o7 h => z_runI 113 0 h rfl rfl rfl kk_L_113 kq_X11_init rfl (Nat.le_of_ble_eq_true rfl) ⟨Nat.le_of_ble_eq_true rfl, Nat.le_of_ble_eq_true rfl, Nat.le_of_ble_eq_true rfl, Nat.le_of_ble_eq_true rfl⟩ dL_law__12) (z_same_of (by simp [z_vok]) (by simp [z_vok])) (by decide) (by show 67 ≤ _; omega) ?_
  refine g_astore_n (i := 2) (lv' := [some (.retAddr 1000), some (.ref 0), some (.ref 40), none, none, none, none, none]) dL_law__15 rfl (by decide) rfl rfl ?_
  refine g_iconst (v := 1) dL_law__16 rfl ?_
  refine g_newaJ (n := 67) (N := 1) (S' := zs122 ++ [(1, 1, [])]) dL_law__17 kz_arrJ (by decide) (by decide) (by decide) rfl rfl (by decide) (z_same_of (by simp [z_vok]) (by simp [z_vok])) (by omega) ⟨Nat.le_of_ble_eq_true rfl, Nat.le_of_ble_eq_true rfl⟩ ?_
  refine g_astore_n (i := 3) (lv' := [some (.retAddr 1000), some (.ref 0), some (.ref 40), some (.ref 67), none, none, none, none]) dL_law__19 rfl (by decide) rfl rfl ?_
  refine g_iconst (v := 0) dL_law__20 rfl ?_
  refine g_istore (i := 4) (lv' := z_lv0 0) dL_law__21 (by decide) rfl rfl ?_
  exact g_room (by decide) (by decide) kk
