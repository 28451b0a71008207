/-! ===== methods as functions, and their walks (by program) ===== -/
def F_X11_book_J157 (N : Nat) (v22 : Int32) (D23 : z_Dat) : Option (Int32 × z_Dat) :=
  z_let (F_X11_result v22 D23) (fun a_25 => if (a_25.2 40 5) = (-1) then (z_let (z_up a_25.2 40 43 v22) (fun D27 => z_bd (F_X11_copies N 60 3 61 3 3 D27) (fun a_29 => some (a_25.1, a_29))))
  else (some (a_25.1, a_25.2)))
def F_X11_book_J117 (N : Nat) (kc19 : ((Int32 × z_Dat) → Option (Int32 × z_Dat))) (v38 : Int32) (v39 : Int32) (D40 : z_Dat) : Option (Int32 × z_Dat) :=
  z_bd (F_X11_readNumber N 0 9 D40) (fun a_42 => z_bd (F_X11_sign N 59 a_42.2) (fun a_44 => if (F_X11_fine a_44) = 0 then (F_X11_book_J157 N v38 a_44)
  else (if z_inb v39 3 then z_let (z_up a_44 60 (z_ix v39) a_42.1) (fun D47 => z_let (v38 + 1) (fun v48 => kc19 (v48, D47))) else none)))
def F_X11_book_L66 (N : Nat) (kc19 : ((Int32 × z_Dat) → Option (Int32 × z_Dat))) (v17 : Int32) (D18 : z_Dat) : Option (Int32 × z_Dat) :=
  if (F_X11_fine D18) = 0 then (F_X11_book_J157 N v17 D18)
  else (z_bd (F_X11_isMore N D18) (fun a_31 => if a_31.1 = 0 then (F_X11_book_J157 N v17 a_31.2)
  else (z_let (a_31.2 40 4) (fun v33 => z_bd (F_X11_readNumber N 0 2 a_31.2) (fun a_35 => if (F_X11_fine a_35.2) = 0 then (F_X11_book_J117 N kc19 v17 a_35.1 a_35.2)
  else (if z_inb a_35.1 3 then (if (a_35.2 60 (z_ix a_35.1)) = (-1) then (F_X11_book_J117 N kc19 v17 a_35.1 a_35.2)
  else (z_let (F_X11_wrong 2 v33 a_35.2) (fun a_51 => F_X11_book_J117 N kc19 v17 a_35.1 a_51))) else none))))))
def F_X11_book_J46 (N : Nat) (D16 : z_Dat) : Option (Int32 × z_Dat) :=
  z_loop (fun kc19 s => F_X11_book_L66 N kc19 s.1 s.2) N (0, D16)
def F_X11_book_J46x (N : Nat) (D14 : z_Dat) : Option (Int32 × z_Dat) :=
  z_let (z_up D14 60 (z_ix 2) (-1)) (fun D15 => F_X11_book_J46 N D15)
def F_X11_book_J46xx (N : Nat) (D12 : z_Dat) : Option (Int32 × z_Dat) :=
  z_let (z_up D12 60 (z_ix 1) (-1)) (fun D13 => F_X11_book_J46x N D13)
def F_X11_book_J46xxx (N : Nat) (D10 : z_Dat) : Option (Int32 × z_Dat) :=
  z_let (z_up D10 60 (z_ix 0) (-1)) (fun D11 => F_X11_book_J46xx N D11)
def F_X11_book_J29 (N : Nat) (a0 : Int32) (D4 : z_Dat) : Option (Int32 × z_Dat) :=
  z_bd (F_X11_may 0 1 1 D4) (fun a_6 => if a_6.1 = 0 then (some (0, a_6.2))
  else (z_let (F_X11_begins a0 a_6.2) (fun a_9 => F_X11_book_J46xxx N a_9)))
def F_X11_book_J28 (N : Nat) (a0 : Int32) (D3 : z_Dat) : Option (Int32 × z_Dat) :=
  F_X11_book_J29 N a0 D3
def F_X11_book_J29x (N : Nat) (a0 : Int32) (D55 : z_Dat) : Option (Int32 × z_Dat) :=
  z_bd (F_X11_may 1 1 1 D55) (fun a_57 => if a_57.1 = 0 then (some (0, a_57.2))
  else (z_let (F_X11_begins a0 a_57.2) (fun a_60 => F_X11_book_J46xxx N a_60)))
def F_X11_book (N : Nat) (a0 : Int32) (D : z_Dat) : Option (Int32 × z_Dat) :=
  z_let (z_up D 40 0 0) (fun D1 => if a0 < 0 then (F_X11_book_J28 N a0 D1)
  else (if (D1 40 2) < a0 then (F_X11_book_J28 N a0 D1)
  else (if 60 < a0 then (F_X11_book_J28 N a0 D1)
  else (F_X11_book_J29x N a0 D1))))
set_option maxRecDepth 100000 in
set_option maxHeartbeats 4000000 in
theorem em_X11_book {l : Launch} {S : List z_Shp} {oW : Nat} (hl : l.stackTraces = false) (hW : z_W S oW) (N : Nat) (a0 : Int32) (D : z_Dat) : ∀ out, z_ko (z_kI S) (F_X11_book N a0 D) out → z_EM l M_X11_book (40, 640, 0, 0) [.ref 40, .int a0] S D out := by
  have hs40 : S[40]? = some (13, 55, [none, some (some 41), none, none, none, none, none, none, none, some (some 42), some (some 43), some (some 44), some (some 45), some (some 46), some (some 47), some (some 48), none, none, none, none, none, none, some (some 49), some (some 50), some (some 51), some (some 52), some (some 53), none, none, some (some 54), some (some 55), some (some 56), none, none, none, none, none, none, some (some 57), some (some 58), some (some 59), some (some 60), some (some 61), none, some (some 62), some (some 63), none, none, some (some 64), some (some 65), none, none, none, some (some 66), none]) := hW.1 40 _ rfl
  have hs60 : S[60]? = some (0, 3, []) := hW.1 60 _ rfl
  have hs61 : S[61]? = some (0, 3, []) := hW.1 61 _ rfl
  refine z_meth hl rfl kp_X11 (Nat.le_of_ble_eq_true rfl) (lv := [some (.ref 40), some (.int a0), none, none, none, none]) rfl ?_
  unfold F_X11_book
  have hJ_F_X11_book_J157 : ∀ (v22 : Int32) (D23 : z_Dat) , z_F l M_X11_book (40, 640, 0, 0) 0 0 157 [some (.ref 40), none, some (.int v22), none, none, none] [] S D23 (z_ko (z_kI S)) (F_X11_book_J157 N v22 D23) := by
    intro v22 D23
    unfold F_X11_book_J157
    refine z_aload_n (i := 0) (x := 40) dX11_book_157 rfl rfl ?_
    refine z_iload_n (i := 2) (x := v22) dX11_book_158 rfl rfl ?_
    refine z_cTI (As := [.ref 40, .int v22]) (rest := []) (em_X11_result hl hW v22 D23) (fun o7 h => z_runV 224 1 h rfl kk_X11_224 hs40 kl_11.1 kq_X11_result rfl (Nat.le_of_ble_eq_true rfl) ⟨Nat.le_of_ble_eq_true rfl, Nat.le_of_ble_eq_true rfl, Nat.le_of_ble_eq_true rfl, Nat.le_of_ble_eq_true rfl⟩ dX11_book_159) z_gWI (fun a_25 hz24 => ?_)
    refine z_istore_n (i := 3) (x := a_25.1) (lv' := [some (.ref 40), none, some (.int v22), some (.int a_25.1), none, none]) dX11_book_162 rfl (by decide) rfl rfl ?_
    refine z_aload_n (i := 0) (x := 40) dX11_book_163 rfl rfl ?_
    refine z_getI (j := 5) dX11_book_164 kl_11 hs40 (by decide) rfl rfl kf_X11_104 ?_
    refine z_iconst (v := (-1)) dX11_book_167 rfl ?_
    refine z_icmp_eq 173 dX11_book_168 (by decide) (fun c26 => ?_) (fun c26 => ?_)
    · refine z_aload_n (i := 0) (x := 40) dX11_book_173 rfl rfl ?_
      refine z_iload_n (i := 2) (x := v22) dX11_book_174 rfl rfl ?_
      refine z_putI (j := 43) dX11_book_175 kl_11 tyX11_ok nmX11 hs40 (by decide) rfl rfl rfl rfl rfl rfl kf_X11_172 (fun D27 => ?_)
      refine z_aload_n (i := 0) (x := 40) dX11_book_178 rfl rfl ?_
      refine z_aload_n (i := 0) (x := 40) dX11_book_179 rfl rfl ?_
      refine z_getR (j := 41) dX11_book_180 kl_11 hs40 (by decide) rfl rfl kf_X11_74 ?_
      refine z_aload_n (i := 0) (x := 40) dX11_book_183 rfl rfl ?_
      refine z_getR (j := 42) dX11_book_184 kl_11 hs40 (by decide) rfl rfl kf_X11_77 ?_
      refine z_iconst (v := 3) dX11_book_187 rfl ?_
      refine z_cWV (As := [.ref 40, .ref 60, .ref 61, .int 3]) (rest := []) (em_X11_copies (n0 := 3) (n1 := 3) hl hW hs60 (by decide) hs61 (by decide) N 3 D27) (fun o7 h => z_runV 165 3 h rfl kk_X11_165 hs40 kl_11.1 kq_X11_copies rfl (Nat.le_of_ble_eq_true rfl) ⟨Nat.le_of_ble_eq_true rfl, Nat.le_of_ble_eq_true rfl, Nat.le_of_ble_eq_true rfl, Nat.le_of_ble_eq_true rfl⟩ dX11_book_188) z_gWI (fun a_29 hz28 => ?_)
      refine z_iload_n (i := 3) (x := a_25.1) dX11_book_191 rfl rfl ?_
      exact z_ireturn dX11_book_192 z_rWI rfl (by decide) (by decide)
    · refine z_iload_n (i := 3) (x := a_25.1) dX11_book_171 rfl rfl ?_
      exact z_ireturn dX11_book_172 z_rWI rfl (by decide) (by decide)
  have hJ_F_X11_book_J46 : ∀ (D16 : z_Dat) , z_F l M_X11_book (40, 640, 0, 0) 0 0 46 [some (.ref 40), none, some (.int 3), none, none, none] [] S D16 (z_ko (z_kI S)) (F_X11_book_J46 N D16) := by
    intro D16
    unfold F_X11_book_J46
    refine z_iload_n (i := 2) (x := 3) dX11_book_46 rfl rfl ?_
    refine z_iconst (v := 3) dX11_book_47 rfl ?_
    refine z_icmp_geJ 64 dX11_book_48 (by decide) (by decide) ?_
    refine z_iconst (v := 0) dX11_book_64 rfl ?_
    refine z_istore_n (i := 2) (x := 0) (lv' := [some (.ref 40), none, some (.int 0), none, none, none]) dX11_book_65 rfl (by decide) rfl rfl ?_
    refine z_loops (lvOf := fun s : Int32 × z_Dat => [some (.ref 40), none, some (.int s.1), none, none, none]) (dOf := fun s : Int32 × z_Dat => s.2) (fun kc19 hkc19 s => ?_) N (0, D16)
    obtain ⟨v17, D18⟩ := s
    show z_F _ _ _ _ _ 66 [some (.ref 40), none, some (.int v17), none, none, none] [] S D18 _ (F_X11_book_L66 N kc19 v17 D18)
    unfold F_X11_book_L66
    have hJ_F_X11_book_J117 : ∀ (v38 : Int32) (v39 : Int32) (D40 : z_Dat) , z_F l M_X11_book (40, 640, 0, 0) 0 0 117 [some (.ref 40), none, some (.int v38), none, some (.int v39), none] [] S D40 (z_ko (z_kI S)) (F_X11_book_J117 N kc19 v38 v39 D40) := by
      intro v38 v39 D40
      unfold F_X11_book_J117
      refine z_aload_n (i := 0) (x := 40) dX11_book_117 rfl rfl ?_
      refine z_iconst (v := 0) dX11_book_118 rfl ?_
      refine z_bipush (v := 9) dX11_book_119 (by decide) ?_
      refine z_cWI (As := [.ref 40, .int 0, .int 9]) (rest := []) (em_X11_readNumber hl hW N 0 9 D40) (fun o7 h => z_runV 194 2 h rfl kk_X11_194 hs40 kl_11.1 kq_X11_readNumber rfl (Nat.le_of_ble_eq_true rfl) ⟨Nat.le_of_ble_eq_true rfl, Nat.le_of_ble_eq_true rfl, Nat.le_of_ble_eq_true rfl, Nat.le_of_ble_eq_true rfl⟩ dX11_book_121) z_gWI (fun a_42 hz41 => ?_)
      refine z_istore (i := 5) (x := a_42.1) (lv' := [some (.ref 40), none, some (.int v38), none, some (.int v39), some (.int a_42.1)]) dX11_book_124 (by decide) rfl rfl ?_
      refine z_aload_n (i := 0) (x := 40) dX11_book_126 rfl rfl ?_
      refine z_bipush (v := 59) dX11_book_127 (by decide) ?_
      refine z_cWV (As := [.ref 40, .int 59]) (rest := []) (em_X11_sign hl hW N 59 a_42.2) (fun o7 h => z_runV 221 1 h rfl kk_X11_221 hs40 kl_11.1 kq_X11_sign rfl (Nat.le_of_ble_eq_true rfl) ⟨Nat.le_of_ble_eq_true rfl, Nat.le_of_ble_eq_true rfl, Nat.le_of_ble_eq_true rfl, Nat.le_of_ble_eq_true rfl⟩ dX11_book_129) z_gWI (fun a_44 hz43 => ?_)
      refine z_aload_n (i := 0) (x := 40) dX11_book_132 rfl rfl ?_
      refine z_cP (As := [.ref 40]) (rest := []) (em_X11_fine hl hW a_44) (fun o7 h => z_runV 133 0 h rfl kk_X11_133 hs40 kl_11.1 kq_X11_fine rfl (Nat.le_of_ble_eq_true rfl) ⟨Nat.le_of_ble_eq_true rfl, Nat.le_of_ble_eq_true rfl, Nat.le_of_ble_eq_true rfl, Nat.le_of_ble_eq_true rfl⟩ dX11_book_133) z_gWI (fun hz45 => ?_)
      refine z_if_ne 142 dX11_book_136 (by decide) (fun c46 => ?_) (fun c46 => ?_)
      · refine z_goto 157 dX11_book_139 (by decide) ?_
        refine z_weak (lv' := [some (.ref 40), none, some (.int v38), none, none, none]) ⟨Or.inr rfl, ⟨Or.inl rfl, ⟨Or.inr rfl, ⟨Or.inl rfl, ⟨Or.inl rfl, ⟨Or.inl rfl, trivial⟩⟩⟩⟩⟩⟩ ?_
        exact hJ_F_X11_book_J157 v38 a_44
      · refine z_aload_n (i := 0) (x := 40) dX11_book_142 rfl rfl ?_
        refine z_getR (j := 41) dX11_book_143 kl_11 hs40 (by decide) rfl rfl kf_X11_74 ?_
        refine z_iload (i := 4) (x := v39) dX11_book_146 rfl ?_
        refine z_iload (i := 5) (x := a_42.1) dX11_book_148 rfl ?_
        refine z_iast dX11_book_150 hs60 (fun D47 => ?_)
        refine z_iinc (i := 2) (x := v38) (y := 1) dX11_book_151 rfl (by decide) (by decide) rfl (fun v48 => ?_)
        refine z_goto 66 dX11_book_154 (by decide) ?_
        refine z_weak (lv' := [some (.ref 40), none, some (.int v48), none, none, none]) ⟨Or.inr rfl, ⟨Or.inl rfl, ⟨Or.inr rfl, ⟨Or.inl rfl, ⟨Or.inl rfl, ⟨Or.inl rfl, trivial⟩⟩⟩⟩⟩⟩ ?_
        exact hkc19 (v48, D47)
    refine z_aload_n (i := 0) (x := 40) dX11_book_66 rfl rfl ?_
    refine z_cP (As := [.ref 40]) (rest := []) (em_X11_fine hl hW D18) (fun o7 h => z_runV 133 0 h rfl kk_X11_133 hs40 kl_11.1 kq_X11_fine rfl (Nat.le_of_ble_eq_true rfl) ⟨Nat.le_of_ble_eq_true rfl, Nat.le_of_ble_eq_true rfl, Nat.le_of_ble_eq_true rfl, Nat.le_of_ble_eq_true rfl⟩ dX11_book_67) z_gWI (fun hz20 => ?_)
    refine z_if_eq 157 dX11_book_70 (by decide) (fun c21 => ?_) (fun c21 => ?_)
    · exact hJ_F_X11_book_J157 v17 D18
    · refine z_aload_n (i := 0) (x := 40) dX11_book_73 rfl rfl ?_
      refine z_cWI (As := [.ref 40]) (rest := []) (em_X11_isMore hl hW N D18) (fun o7 h => z_runV 206 0 h rfl kk_X11_206 hs40 kl_11.1 kq_X11_isMore rfl (Nat.le_of_ble_eq_true rfl) ⟨Nat.le_of_ble_eq_true rfl, Nat.le_of_ble_eq_true rfl, Nat.le_of_ble_eq_true rfl, Nat.le_of_ble_eq_true rfl⟩ dX11_book_74) z_gWI (fun a_31 hz30 => ?_)
      refine z_if_eq 157 dX11_book_77 (by decide) (fun c32 => ?_) (fun c32 => ?_)
      · exact hJ_F_X11_book_J157 v17 a_31.2
      · refine z_aload_n (i := 0) (x := 40) dX11_book_80 rfl rfl ?_
        refine z_getI (j := 4) dX11_book_81 kl_11 hs40 (by decide) rfl rfl kf_X11_110 ?_
        refine z_topi (fun v33 => ?_)
        refine z_istore_n (i := 3) (x := v33) (lv' := [some (.ref 40), none, some (.int v17), some (.int v33), none, none]) dX11_book_84 rfl (by decide) rfl rfl ?_
        refine z_aload_n (i := 0) (x := 40) dX11_book_85 rfl rfl ?_
        refine z_iconst (v := 0) dX11_book_86 rfl ?_
        refine z_iconst (v := 2) dX11_book_87 rfl ?_
        refine z_cWI (As := [.ref 40, .int 0, .int 2]) (rest := []) (em_X11_readNumber hl hW N 0 2 a_31.2) (fun o7 h => z_runV 194 2 h rfl kk_X11_194 hs40 kl_11.1 kq_X11_readNumber rfl (Nat.le_of_ble_eq_true rfl) ⟨Nat.le_of_ble_eq_true rfl, Nat.le_of_ble_eq_true rfl, Nat.le_of_ble_eq_true rfl, Nat.le_of_ble_eq_true rfl⟩ dX11_book_88) z_gWI (fun a_35 hz34 => ?_)
        refine z_istore (i := 4) (x := a_35.1) (lv' := [some (.ref 40), none, some (.int v17), some (.int v33), some (.int a_35.1), none]) dX11_book_91 (by decide) rfl rfl ?_
        refine z_aload_n (i := 0) (x := 40) dX11_book_93 rfl rfl ?_
        refine z_cP (As := [.ref 40]) (rest := []) (em_X11_fine hl hW a_35.2) (fun o7 h => z_runV 133 0 h rfl kk_X11_133 hs40 kl_11.1 kq_X11_fine rfl (Nat.le_of_ble_eq_true rfl) ⟨Nat.le_of_ble_eq_true rfl, Nat.le_of_ble_eq_true rfl, Nat.le_of_ble_eq_true rfl, Nat.le_of_ble_eq_true rfl⟩ dX11_book_94) z_gWI (fun hz36 => ?_)
        refine z_if_eq 117 dX11_book_97 (by decide) (fun c37 => ?_) (fun c37 => ?_)
        · refine z_weak (lv' := [some (.ref 40), none, some (.int v17), none, some (.int a_35.1), none]) ⟨Or.inr rfl, ⟨Or.inl rfl, ⟨Or.inr rfl, ⟨Or.inl rfl, ⟨Or.inr rfl, ⟨Or.inl rfl, trivial⟩⟩⟩⟩⟩⟩ ?_
          exact hJ_F_X11_book_J117 v17 a_35.1 a_35.2
        · refine z_aload_n (i := 0) (x := 40) dX11_book_100 rfl rfl ?_
          refine z_getR (j := 41) dX11_book_101 kl_11 hs40 (by decide) rfl rfl kf_X11_74 ?_
          refine z_iload (i := 4) (x := a_35.1) dX11_book_104 rfl ?_
          refine z_iald dX11_book_106 hs60 ?_
          refine z_iconst (v := (-1)) dX11_book_107 rfl ?_
          refine z_icmp_eq 117 dX11_book_108 (by decide) (fun c49 => ?_) (fun c49 => ?_)
          · refine z_weak (lv' := [some (.ref 40), none, some (.int v17), none, some (.int a_35.1), none]) ⟨Or.inr rfl, ⟨Or.inl rfl, ⟨Or.inr rfl, ⟨Or.inl rfl, ⟨Or.inr rfl, ⟨Or.inl rfl, trivial⟩⟩⟩⟩⟩⟩ ?_
            exact hJ_F_X11_book_J117 v17 a_35.1 a_35.2
          · refine z_aload_n (i := 0) (x := 40) dX11_book_111 rfl rfl ?_
            refine z_iconst (v := 2) dX11_book_112 rfl ?_
            refine z_iload_n (i := 3) (x := v33) dX11_book_113 rfl rfl ?_
            refine z_cTV (As := [.ref 40, .int 2, .int v33]) (rest := []) (em_X11_wrong hl hW 2 v33 a_35.2) (fun o7 h => z_runV 140 2 h rfl kk_X11_140 hs40 kl_11.1 kq_X11_wrong rfl (Nat.le_of_ble_eq_true rfl) ⟨Nat.le_of_ble_eq_true rfl, Nat.le_of_ble_eq_true rfl, Nat.le_of_ble_eq_true rfl, Nat.le_of_ble_eq_true rfl⟩ dX11_book_114) z_gWI (fun a_51 hz50 => ?_)
            refine z_weak (lv' := [some (.ref 40), none, some (.int v17), none, some (.int a_35.1), none]) ⟨Or.inr rfl, ⟨Or.inl rfl, ⟨Or.inr rfl, ⟨Or.inl rfl, ⟨Or.inr rfl, ⟨Or.inl rfl, trivial⟩⟩⟩⟩⟩⟩ ?_
            exact hJ_F_X11_book_J117 v17 a_35.1 a_51
  have hJ_F_X11_book_J46x : ∀ (D14 : z_Dat) , z_F l M_X11_book (40, 640, 0, 0) 0 0 46 [some (.ref 40), none, some (.int 2), none, none, none] [] S D14 (z_ko (z_kI S)) (F_X11_book_J46x N D14) := by
    intro D14
    unfold F_X11_book_J46x
    refine z_iload_n (i := 2) (x := 2) dX11_book_46 rfl rfl ?_
    refine z_iconst (v := 3) dX11_book_47 rfl ?_
    refine z_icmp_geN 64 dX11_book_48 (by decide) (by decide) ?_
    refine z_aload_n (i := 0) (x := 40) dX11_book_51 rfl rfl ?_
    refine z_getR (j := 41) dX11_book_52 kl_11 hs40 (by decide) rfl rfl kf_X11_74 ?_
    refine z_iload_n (i := 2) (x := 2) dX11_book_55 rfl rfl ?_
    refine z_iconst (v := (-1)) dX11_book_56 rfl ?_
    refine z_iastL dX11_book_57 hs60 (vp_in_iff.mpr (by decide)) (fun D15 => ?_)
    refine z_iincC (i := 2) (x := 2) (v := 3) (lv' := [some (.ref 40), none, some (.int 3), none, none, none]) dX11_book_58 rfl (by decide) (by decide) rfl rfl ?_
    refine z_goto 46 dX11_book_61 (by decide) ?_
    exact hJ_F_X11_book_J46 D15
  have hJ_F_X11_book_J46xx : ∀ (D12 : z_Dat) , z_F l M_X11_book (40, 640, 0, 0) 0 0 46 [some (.ref 40), none, some (.int 1), none, none, none] [] S D12 (z_ko (z_kI S)) (F_X11_book_J46xx N D12) := by
    intro D12
    unfold F_X11_book_J46xx
    refine z_iload_n (i := 2) (x := 1) dX11_book_46 rfl rfl ?_
    refine z_iconst (v := 3) dX11_book_47 rfl ?_
    refine z_icmp_geN 64 dX11_book_48 (by decide) (by decide) ?_
    refine z_aload_n (i := 0) (x := 40) dX11_book_51 rfl rfl ?_
    refine z_getR (j := 41) dX11_book_52 kl_11 hs40 (by decide) rfl rfl kf_X11_74 ?_
    refine z_iload_n (i := 2) (x := 1) dX11_book_55 rfl rfl ?_
    refine z_iconst (v := (-1)) dX11_book_56 rfl ?_
    refine z_iastL dX11_book_57 hs60 (vp_in_iff.mpr (by decide)) (fun D13 => ?_)
    refine z_iincC (i := 2) (x := 1) (v := 2) (lv' := [some (.ref 40), none, some (.int 2), none, none, none]) dX11_book_58 rfl (by decide) (by decide) rfl rfl ?_
    refine z_goto 46 dX11_book_61 (by decide) ?_
    exact hJ_F_X11_book_J46x D13
  have hJ_F_X11_book_J46xxx : ∀ (D10 : z_Dat) , z_F l M_X11_book (40, 640, 0, 0) 0 0 46 [some (.ref 40), none, some (.int 0), none, none, none] [] S D10 (z_ko (z_kI S)) (F_X11_book_J46xxx N D10) := by
    intro D10
    unfold F_X11_book_J46xxx
    refine z_iload_n (i := 2) (x := 0) dX11_book_46 rfl rfl ?_
    refine z_iconst (v := 3) dX11_book_47 rfl ?_
    refine z_icmp_geN 64 dX11_book_48 (by decide) (by decide) ?_
    refine z_aload_n (i := 0) (x := 40) dX11_book_51 rfl rfl ?_
    refine z_getR (j := 41) dX11_book_52 kl_11 hs40 (by decide) rfl rfl kf_X11_74 ?_
    refine z_iload_n (i := 2) (x := 0) dX11_book_55 rfl rfl ?_
    refine z_iconst (v := (-1)) dX11_book_56 rfl ?_
    refine z_iastL dX11_book_57 hs60 (vp_in_iff.mpr (by decide)) (fun D11 => ?_)
    refine z_iincC (i := 2) (x := 0) (v := 1) (lv' := [some (.ref 40), none, some (.int 1), none, none, none]) dX11_book_58 rfl (by decide) (by decide) rfl rfl ?_
    refine z_goto 46 dX11_book_61 (by decide) ?_
    exact hJ_F_X11_book_J46xx D11
  have hJ_F_X11_book_J29 : ∀ (D4 : z_Dat) , z_F l M_X11_book (40, 640, 0, 0) 0 0 29 [some (.ref 40), some (.int a0), none, none, none, none] [.int 0, .ref 40] S D4 (z_ko (z_kI S)) (F_X11_book_J29 N a0 D4) := by
    intro D4
    unfold F_X11_book_J29
    refine z_iconst (v := 1) dX11_book_29 rfl ?_
    refine z_iconst (v := 1) dX11_book_30 rfl ?_
    refine z_cWI (As := [.ref 40, .int 0, .int 1, .int 1]) (rest := []) (em_X11_may hl hW 0 1 1 D4) (fun o7 h => z_runV 198 3 h rfl kk_X11_198 hs40 kl_11.1 kq_X11_may rfl (Nat.le_of_ble_eq_true rfl) ⟨Nat.le_of_ble_eq_true rfl, Nat.le_of_ble_eq_true rfl, Nat.le_of_ble_eq_true rfl, Nat.le_of_ble_eq_true rfl⟩ dX11_book_31) z_gWI (fun a_6 hz5 => ?_)
    refine z_if_ne 39 dX11_book_34 (by decide) (fun c7 => ?_) (fun c7 => ?_)
    · refine z_iconst (v := 0) dX11_book_37 rfl ?_
      exact z_ireturn dX11_book_38 z_rWI rfl (by decide) (by decide)
    · refine z_aload_n (i := 0) (x := 40) dX11_book_39 rfl rfl ?_
      refine z_iload_n (i := 1) (x := a0) dX11_book_40 rfl rfl ?_
      refine z_cTV (As := [.ref 40, .int a0]) (rest := []) (em_X11_begins hl hW a0 a_6.2) (fun o7 h => z_runV 202 1 h rfl kk_X11_202 hs40 kl_11.1 kq_X11_begins rfl (Nat.le_of_ble_eq_true rfl) ⟨Nat.le_of_ble_eq_true rfl, Nat.le_of_ble_eq_true rfl, Nat.le_of_ble_eq_true rfl, Nat.le_of_ble_eq_true rfl⟩ dX11_book_41) z_gWI (fun a_9 hz8 => ?_)
      refine z_iconst (v := 0) dX11_book_44 rfl ?_
      refine z_istore_n (i := 2) (x := 0) (lv' := [some (.ref 40), some (.int a0), some (.int 0), none, none, none]) dX11_book_45 rfl (by decide) rfl rfl ?_
      refine z_weak (lv' := [some (.ref 40), none, some (.int 0), none, none, none]) ⟨Or.inr rfl, ⟨Or.inl rfl, ⟨Or.inr rfl, ⟨Or.inl rfl, ⟨Or.inl rfl, ⟨Or.inl rfl, trivial⟩⟩⟩⟩⟩⟩ ?_
      exact hJ_F_X11_book_J46xxx a_9
  have hJ_F_X11_book_J28 : ∀ (D3 : z_Dat) , z_F l M_X11_book (40, 640, 0, 0) 0 0 28 [some (.ref 40), some (.int a0), none, none, none, none] [.ref 40] S D3 (z_ko (z_kI S)) (F_X11_book_J28 N a0 D3) := by
    intro D3
    unfold F_X11_book_J28
    refine z_iconst (v := 0) dX11_book_28 rfl ?_
    exact hJ_F_X11_book_J29 D3
  have hJ_F_X11_book_J29x : ∀ (D55 : z_Dat) , z_F l M_X11_book (40, 640, 0, 0) 0 0 29 [some (.ref 40), some (.int a0), none, none, none, none] [.int 1, .ref 40] S D55 (z_ko (z_kI S)) (F_X11_book_J29x N a0 D55) := by
    intro D55
    unfold F_X11_book_J29x
    refine z_iconst (v := 1) dX11_book_29 rfl ?_
    refine z_iconst (v := 1) dX11_book_30 rfl ?_
    refine z_cWI (As := [.ref 40, .int 1, .int 1, .int 1]) (rest := []) (em_X11_may hl hW 1 1 1 D55) (fun o7 h => z_runV 198 3 h rfl kk_X11_198 hs40 kl_11.1 kq_X11_may rfl (Nat.le_of_ble_eq_true rfl) ⟨Nat.le_of_ble_eq_true rfl, Nat.le_of_ble_eq_true rfl, Nat.le_of_ble_eq_true rfl, Nat.le_of_ble_eq_true rfl⟩ dX11_book_31) z_gWI (fun a_57 hz56 => ?_)
    refine z_if_ne 39 dX11_book_34 (by decide) (fun c58 => ?_) (fun c58 => ?_)
    · refine z_iconst (v := 0) dX11_book_37 rfl ?_
      exact z_ireturn dX11_book_38 z_rWI rfl (by decide) (by decide)
    · refine z_aload_n (i := 0) (x := 40) dX11_book_39 rfl rfl ?_
      refine z_iload_n (i := 1) (x := a0) dX11_book_40 rfl rfl ?_
      refine z_cTV (As := [.ref 40, .int a0]) (rest := []) (em_X11_begins hl hW a0 a_57.2) (fun o7 h => z_runV 202 1 h rfl kk_X11_202 hs40 kl_11.1 kq_X11_begins rfl (Nat.le_of_ble_eq_true rfl) ⟨Nat.le_of_ble_eq_true rfl, Nat.le_of_ble_eq_true rfl, Nat.le_of_ble_eq_true rfl, Nat.le_of_ble_eq_true rfl⟩ dX11_book_41) z_gWI (fun a_60 hz59 => ?_)
      refine z_iconst (v := 0) dX11_book_44 rfl ?_
      refine z_istore_n (i := 2) (x := 0) (lv' := [some (.ref 40), some (.int a0), some (.int 0), none, none, none]) dX11_book_45 rfl (by decide) rfl rfl ?_
      refine z_weak (lv' := [some (.ref 40), none, some (.int 0), none, none, none]) ⟨Or.inr rfl, ⟨Or.inl rfl, ⟨Or.inr rfl, ⟨Or.inl rfl, ⟨Or.inl rfl, ⟨Or.inl rfl, trivial⟩⟩⟩⟩⟩⟩ ?_
      exact hJ_F_X11_book_J46xxx a_60
  refine z_aload_n (i := 0) (x := 40) dX11_book_0 rfl rfl ?_
  refine z_iconst (v := 0) dX11_book_1 rfl ?_
  refine z_putI (j := 0) dX11_book_2 kl_11 tyX11_ok nmX11 hs40 (by decide) rfl rfl rfl rfl rfl rfl kf_X11_3 (fun D1 => ?_)
  refine z_aload_n (i := 0) (x := 40) dX11_book_5 rfl rfl ?_
  refine z_iload_n (i := 1) (x := a0) dX11_book_6 rfl rfl ?_
  refine z_if_lt 28 dX11_book_7 (by decide) (fun c2 => ?_) (fun c2 => ?_)
  · exact hJ_F_X11_book_J28 D1
  · refine z_iload_n (i := 1) (x := a0) dX11_book_10 rfl rfl ?_
    refine z_aload_n (i := 0) (x := 40) dX11_book_11 rfl rfl ?_
    refine z_getI (j := 2) dX11_book_12 kl_11 hs40 (by decide) rfl rfl kf_X11_101 ?_
    refine z_icmp_gt 28 dX11_book_15 (by decide) (fun c53 => ?_) (fun c53 => ?_)
    · exact hJ_F_X11_book_J28 D1
    · refine z_iload_n (i := 1) (x := a0) dX11_book_18 rfl rfl ?_
      refine z_bipush (v := 60) dX11_book_19 (by decide) ?_
      refine z_icmp_gt 28 dX11_book_21 (by decide) (fun c54 => ?_) (fun c54 => ?_)
      · exact hJ_F_X11_book_J28 D1
      · refine z_iconst (v := 1) dX11_book_24 rfl ?_
        refine z_goto 29 dX11_book_25 (by decide) ?_
        exact hJ_F_X11_book_J29x D1

def F_X11_undo_L26 (kc6 : ((Int32 × z_Dat) → Option (Int32 × z_Dat))) (v4 : Int32) (D5 : z_Dat) : Option (Int32 × z_Dat) :=
  if 60 ≤ v4 then (z_let (z_up D5 40 34 0) (fun D8 => some (D8 40 33, D8)))
  else (if z_inb ((60 * (D5 40 33)) + v4) 960 then (if z_inb v4 60 then z_let (z_up D5 57 (z_ix v4) (D5 59 (z_ix ((60 * (D5 40 33)) + v4)))) (fun D9 => z_let (v4 + 1) (fun v10 => kc6 (v10, D9))) else none) else none)
def F_X11_undo (N : Nat) (D : z_Dat) : Option (Int32 × z_Dat) :=
  z_let (z_up D 40 0 0) (fun D1 => if (D1 40 33) = 0 then (some ((-1), D1))
  else (z_let (z_up D1 40 33 ((D1 40 33) - 1)) (fun D3 => z_loop (fun kc6 s => F_X11_undo_L26 kc6 s.1 s.2) N (0, D3))))
set_option maxRecDepth 100000 in
set_option maxHeartbeats 4000000 in
theorem em_X11_undo {l : Launch} {S : List z_Shp} {oW : Nat} (hl : l.stackTraces = false) (hW : z_W S oW) (N : Nat) (D : z_Dat) : ∀ out, z_ko (z_kI S) (F_X11_undo N D) out → z_EM l M_X11_undo (20, 520, 0, 0) [.ref 40] S D out := by
  have hs40 : S[40]? = some (13, 55, [none, some (some 41), none, none, none, none, none, none, none, some (some 42), some (some 43), some (some 44), some (some 45), some (some 46), some (some 47), some (some 48), none, none, none, none, none, none, some (some 49), some (some 50), some (some 51), some (some 52), some (some 53), none, none, some (some 54), some (some 55), some (some 56), none, none, none, none, none, none, some (some 57), some (some 58), some (some 59), some (some 60), some (some 61), none, some (some 62), some (some 63), none, none, some (some 64), some (some 65), none, none, none, some (some 66), none]) := hW.1 40 _ rfl
  have hs57 : S[57]? = some (0, 60, []) := hW.1 57 _ rfl
  have hs59 : S[59]? = some (0, 960, []) := hW.1 59 _ rfl
  refine z_meth hl rfl kp_X11 (Nat.le_of_ble_eq_true rfl) (lv := [some (.ref 40), none]) rfl ?_
  unfold F_X11_undo
  refine z_aload_n (i := 0) (x := 40) dX11_undo_0 rfl rfl ?_
  refine z_iconst (v := 0) dX11_undo_1 rfl ?_
  refine z_putI (j := 0) dX11_undo_2 kl_11 tyX11_ok nmX11 hs40 (by decide) rfl rfl rfl rfl rfl rfl kf_X11_3 (fun D1 => ?_)
  refine z_aload_n (i := 0) (x := 40) dX11_undo_5 rfl rfl ?_
  refine z_getI (j := 33) dX11_undo_6 kl_11 hs40 (by decide) rfl rfl kf_X11_175 ?_
  refine z_if_ne 14 dX11_undo_9 (by decide) (fun c2 => ?_) (fun c2 => ?_)
  · refine z_iconst (v := (-1)) dX11_undo_12 rfl ?_
    exact z_ireturn dX11_undo_13 z_rWI rfl (by decide) (by decide)
  · refine z_aload_n (i := 0) (x := 40) dX11_undo_14 rfl rfl ?_
    refine z_dup dX11_undo_15 rfl ?_
    refine z_getI (j := 33) dX11_undo_16 kl_11 hs40 (by decide) rfl rfl kf_X11_175 ?_
    refine z_iconst (v := 1) dX11_undo_19 rfl ?_
    refine z_isub dX11_undo_20 ?_
    refine z_putI (j := 33) dX11_undo_21 kl_11 tyX11_ok nmX11 hs40 (by decide) rfl rfl rfl rfl rfl rfl kf_X11_175 (fun D3 => ?_)
    refine z_iconst (v := 0) dX11_undo_24 rfl ?_
    refine z_istore_n (i := 1) (x := 0) (lv' := [some (.ref 40), some (.int 0)]) dX11_undo_25 rfl (by decide) rfl rfl ?_
    refine z_loops (lvOf := fun s : Int32 × z_Dat => [some (.ref 40), some (.int s.1)]) (dOf := fun s : Int32 × z_Dat => s.2) (fun kc6 hkc6 s => ?_) N (0, D3)
    obtain ⟨v4, D5⟩ := s
    show z_F _ _ _ _ _ 26 [some (.ref 40), some (.int v4)] [] S D5 _ (F_X11_undo_L26 kc6 v4 D5)
    unfold F_X11_undo_L26
    refine z_iload_n (i := 1) (x := v4) dX11_undo_26 rfl rfl ?_
    refine z_bipush (v := 60) dX11_undo_27 (by decide) ?_
    refine z_icmp_ge 58 dX11_undo_29 (by decide) (fun c7 => ?_) (fun c7 => ?_)
    · refine z_aload_n (i := 0) (x := 40) dX11_undo_58 rfl rfl ?_
      refine z_iconst (v := 0) dX11_undo_59 rfl ?_
      refine z_putI (j := 34) dX11_undo_60 kl_11 tyX11_ok nmX11 hs40 (by decide) rfl rfl rfl rfl rfl rfl kf_X11_181 (fun D8 => ?_)
      refine z_aload_n (i := 0) (x := 40) dX11_undo_63 rfl rfl ?_
      refine z_getI (j := 33) dX11_undo_64 kl_11 hs40 (by decide) rfl rfl kf_X11_175 ?_
      exact z_ireturn dX11_undo_67 z_rWI rfl (by decide) (by decide)
    · refine z_aload_n (i := 0) (x := 40) dX11_undo_32 rfl rfl ?_
      refine z_getR (j := 38) dX11_undo_33 kl_11 hs40 (by decide) rfl rfl kf_X11_65 ?_
      refine z_iload_n (i := 1) (x := v4) dX11_undo_36 rfl rfl ?_
      refine z_aload_n (i := 0) (x := 40) dX11_undo_37 rfl rfl ?_
      refine z_getR (j := 40) dX11_undo_38 kl_11 hs40 (by decide) rfl rfl kf_X11_71 ?_
      refine z_bipush (v := 60) dX11_undo_41 (by decide) ?_
      refine z_aload_n (i := 0) (x := 40) dX11_undo_43 rfl rfl ?_
      refine z_getI (j := 33) dX11_undo_44 kl_11 hs40 (by decide) rfl rfl kf_X11_175 ?_
      refine z_imul dX11_undo_47 ?_
      refine z_iload_n (i := 1) (x := v4) dX11_undo_48 rfl rfl ?_
      refine z_iadd dX11_undo_49 ?_
      refine z_iald dX11_undo_50 hs59 ?_
      refine z_iast dX11_undo_51 hs57 (fun D9 => ?_)
      refine z_iinc (i := 1) (x := v4) (y := 1) dX11_undo_52 rfl (by decide) (by decide) rfl (fun v10 => ?_)
      refine z_goto 26 dX11_undo_55 (by decide) ?_
      exact hkc6 (v10, D9)

def F_X11_many_L5 (a0 : Int32) (a1 : Int32) (D : z_Dat) (kc3 : ((Int32 × Int32) → Option Int32)) (v1 : Int32) (v2 : Int32) : Option Int32 :=
  if (D 40 20) ≤ v2 then (some v1)
  else (if z_inb (a0 + v2) 60 then (if (D 58 (z_ix (a0 + v2))) = a1 then (z_let (v1 + 0) (fun v6 => z_let (v2 + 1) (fun v7 => kc3 (v6, v7))))
  else (z_let (v1 + 1) (fun v8 => z_let (v2 + 1) (fun v9 => kc3 (v8, v9))))) else none)
def F_X11_many (N : Nat) (a0 : Int32) (a1 : Int32) (D : z_Dat) : Option Int32 :=
  z_loop (fun kc3 s => F_X11_many_L5 a0 a1 D kc3 s.1 s.2) N (0, 0)
set_option maxRecDepth 100000 in
set_option maxHeartbeats 4000000 in
theorem em_X11_many {l : Launch} {S : List z_Shp} {oW : Nat} (hl : l.stackTraces = false) (hW : z_W S oW) (N : Nat) (a0 : Int32) (a1 : Int32) (D : z_Dat) : ∀ out, z_ko (z_kR S D) (F_X11_many N a0 a1 D) out → z_EM l M_X11_many (20, 520, 0, 0) [.ref 40, .int a0, .int a1] S D out := by
  have hs40 : S[40]? = some (13, 55, [none, some (some 41), none, none, none, none, none, none, none, some (some 42), some (some 43), some (some 44), some (some 45), some (some 46), some (some 47), some (some 48), none, none, none, none, none, none, some (some 49), some (some 50), some (some 51), some (some 52), some (some 53), none, none, some (some 54), some (some 55), some (some 56), none, none, none, none, none, none, some (some 57), some (some 58), some (some 59), some (some 60), some (some 61), none, some (some 62), some (some 63), none, none, some (some 64), some (some 65), none, none, none, some (some 66), none]) := hW.1 40 _ rfl
  have hs58 : S[58]? = some (0, 60, []) := hW.1 58 _ rfl
  refine z_meth hl rfl kp_X11 (Nat.le_of_ble_eq_true rfl) (lv := [some (.ref 40), some (.int a0), some (.int a1), none, none]) rfl ?_
  unfold F_X11_many
  refine z_iconst (v := 0) dX11_many_0 rfl ?_
  refine z_istore_n (i := 3) (x := 0) (lv' := [some (.ref 40), some (.int a0), some (.int a1), some (.int 0), none]) dX11_many_1 rfl (by decide) rfl rfl ?_
  refine z_iconst (v := 0) dX11_many_2 rfl ?_
  refine z_istore (i := 4) (x := 0) (lv' := [some (.ref 40), some (.int a0), some (.int a1), some (.int 0), some (.int 0)]) dX11_many_3 (by decide) rfl rfl ?_
  refine z_loops (lvOf := fun s : Int32 × Int32 => [some (.ref 40), some (.int a0), some (.int a1), some (.int s.1), some (.int s.2)]) (dOf := fun s : Int32 × Int32 => D) (fun kc3 hkc3 s => ?_) N (0, 0)
  obtain ⟨v1, v2⟩ := s
  show z_F _ _ _ _ _ 5 [some (.ref 40), some (.int a0), some (.int a1), some (.int v1), some (.int v2)] [] S D _ (F_X11_many_L5 a0 a1 D kc3 v1 v2)
  unfold F_X11_many_L5
  refine z_iload (i := 4) (x := v2) dX11_many_5 rfl ?_
  refine z_aload_n (i := 0) (x := 40) dX11_many_7 rfl rfl ?_
  refine z_getI (j := 20) dX11_many_8 kl_11 hs40 (by decide) rfl rfl kf_X11_159 ?_
  refine z_icmp_ge 41 dX11_many_11 (by decide) (fun c4 => ?_) (fun c4 => ?_)
  · refine z_iload_n (i := 3) (x := v1) dX11_many_41 rfl rfl ?_
    exact z_ireturn dX11_many_42 z_rR rfl (by decide) (by decide)
  · refine z_iload_n (i := 3) (x := v1) dX11_many_14 rfl rfl ?_
    refine z_aload_n (i := 0) (x := 40) dX11_many_15 rfl rfl ?_
    refine z_getR (j := 39) dX11_many_16 kl_11 hs40 (by decide) rfl rfl kf_X11_68 ?_
    refine z_iload_n (i := 1) (x := a0) dX11_many_19 rfl rfl ?_
    refine z_iload (i := 4) (x := v2) dX11_many_20 rfl ?_
    refine z_iadd dX11_many_22 ?_
    refine z_iald dX11_many_23 hs58 ?_
    refine z_iload_n (i := 2) (x := a1) dX11_many_24 rfl rfl ?_
    refine z_icmp_ne 32 dX11_many_25 (by decide) (fun c5 => ?_) (fun c5 => ?_)
    · refine z_iconst (v := 0) dX11_many_28 rfl ?_
      refine z_goto 33 dX11_many_29 (by decide) ?_
      refine z_iadd dX11_many_33 ?_
      refine z_topi (fun v6 => ?_)
      refine z_istore_n (i := 3) (x := v6) (lv' := [some (.ref 40), some (.int a0), some (.int a1), some (.int v6), some (.int v2)]) dX11_many_34 rfl (by decide) rfl rfl ?_
      refine z_iinc (i := 4) (x := v2) (y := 1) dX11_many_35 rfl (by decide) (by decide) rfl (fun v7 => ?_)
      refine z_goto 5 dX11_many_38 (by decide) ?_
      exact hkc3 (v6, v7)
    · refine z_iconst (v := 1) dX11_many_32 rfl ?_
      refine z_iadd dX11_many_33 ?_
      refine z_topi (fun v8 => ?_)
      refine z_istore_n (i := 3) (x := v8) (lv' := [some (.ref 40), some (.int a0), some (.int a1), some (.int v8), some (.int v2)]) dX11_many_34 rfl (by decide) rfl rfl ?_
      refine z_iinc (i := 4) (x := v2) (y := 1) dX11_many_35 rfl (by decide) (by decide) rfl (fun v9 => ?_)
      refine z_goto 5 dX11_many_38 (by decide) ?_
      exact hkc3 (v8, v9)

def F_X11_told (N : Nat) (a0 : Int32) (D : z_Dat) : Option (Int32 × z_Dat) :=
  z_let (z_up D 40 0 0) (fun D1 => z_bd (F_X11_may (F_X11_within a0 0 9) 1 1 D1) (fun a_4 => if a_4.1 = 0 then (some (0, a_4.2))
  else (z_bd (F_X11_take N a_4.2) (fun a_7 => if 3 ≤ a0 then (if 6 ≤ a0 then (if a0 = 6 then (some (a_7 40 43, a_7))
  else (if a0 = 7 then (some (a_7 40 34, a_7))
  else (if a0 = 8 then (z_bd (F_X11_unlikeShades N a_7) (fun a_14 => some (a_14, a_7)))
  else (some (a_7 40 21, a_7)))))
  else (if a0 = 3 then (z_bd (F_X11_sitting N a_7) (fun a_17 => some (a_17.1, a_17.2)))
  else (if a0 = 4 then (z_bd (F_X11_many N 32 (-1) a_7) (fun a_20 => some (a_20, a_7)))
  else (z_bd (F_X11_many N 24 0 a_7) (fun a_22 => some (a_22, a_7))))))
  else (if a0 = 0 then (some (a_7 40 19, a_7))
  else (if a0 = 1 then (some (a_7 40 20, a_7))
  else (some (a_7 58 (z_ix 59), a_7))))))))
set_option maxRecDepth 100000 in
set_option maxHeartbeats 4000000 in
theorem em_X11_told {l : Launch} {S : List z_Shp} {oW : Nat} (hl : l.stackTraces = false) (hW : z_W S oW) (N : Nat) (a0 : Int32) (D : z_Dat) : ∀ out, z_ko (z_kI S) (F_X11_told N a0 D) out → z_EM l M_X11_told (80, 880, 0, 0) [.ref 40, .int a0] S D out := by
  have hs40 : S[40]? = some (13, 55, [none, some (some 41), none, none, none, none, none, none, none, some (some 42), some (some 43), some (some 44), some (some 45), some (some 46), some (some 47), some (some 48), none, none, none, none, none, none, some (some 49), some (some 50), some (some 51), some (some 52), some (some 53), none, none, some (some 54), some (some 55), some (some 56), none, none, none, none, none, none, some (some 57), some (some 58), some (some 59), some (some 60), some (some 61), none, some (some 62), some (some 63), none, none, some (some 64), some (some 65), none, none, none, some (some 66), none]) := hW.1 40 _ rfl
  have hs58 : S[58]? = some (0, 60, []) := hW.1 58 _ rfl
  refine z_meth hl rfl kp_X11 (Nat.le_of_ble_eq_true rfl) (lv := [some (.ref 40), some (.int a0)]) rfl ?_
  unfold F_X11_told
  refine z_aload_n (i := 0) (x := 40) dX11_told_0 rfl rfl ?_
  refine z_iconst (v := 0) dX11_told_1 rfl ?_
  refine z_putI (j := 0) dX11_told_2 kl_11 tyX11_ok nmX11 hs40 (by decide) rfl rfl rfl rfl rfl rfl kf_X11_3 (fun D1 => ?_)
  refine z_aload_n (i := 0) (x := 40) dX11_told_5 rfl rfl ?_
  refine z_iload_n (i := 1) (x := a0) dX11_told_6 rfl rfl ?_
  refine z_iconst (v := 0) dX11_told_7 rfl ?_
  refine z_bipush (v := 9) dX11_told_8 (by decide) ?_
  refine z_cP (As := [.int a0, .int 0, .int 9]) (rest := [.ref 40]) (em_X11_within hl a0 0 9 D1) (fun o7 h => z_runS 376 3 h rfl kk_X11_376 kq_X11_within rfl (Nat.le_of_ble_eq_true rfl) ⟨Nat.le_of_ble_eq_true rfl, Nat.le_of_ble_eq_true rfl, Nat.le_of_ble_eq_true rfl, Nat.le_of_ble_eq_true rfl⟩ dX11_told_10) z_gWI (fun hz2 => ?_)
  refine z_iconst (v := 1) dX11_told_13 rfl ?_
  refine z_iconst (v := 1) dX11_told_14 rfl ?_
  refine z_cWI (As := [.ref 40, .int (F_X11_within a0 0 9), .int 1, .int 1]) (rest := []) (em_X11_may hl hW (F_X11_within a0 0 9) 1 1 D1) (fun o7 h => z_runV 198 3 h rfl kk_X11_198 hs40 kl_11.1 kq_X11_may rfl (Nat.le_of_ble_eq_true rfl) ⟨Nat.le_of_ble_eq_true rfl, Nat.le_of_ble_eq_true rfl, Nat.le_of_ble_eq_true rfl, Nat.le_of_ble_eq_true rfl⟩ dX11_told_15) z_gWI (fun a_4 hz3 => ?_)
  refine z_if_ne 23 dX11_told_18 (by decide) (fun c5 => ?_) (fun c5 => ?_)
  · refine z_iconst (v := 0) dX11_told_21 rfl ?_
    exact z_ireturn dX11_told_22 z_rWI rfl (by decide) (by decide)
  · refine z_aload_n (i := 0) (x := 40) dX11_told_23 rfl rfl ?_
    refine z_cWV (As := [.ref 40]) (rest := []) (em_X11_take hl hW N a_4.2) (fun o7 h => z_runV 308 0 h rfl kk_X11_308 hs40 kl_11.1 kq_X11_take rfl (Nat.le_of_ble_eq_true rfl) ⟨Nat.le_of_ble_eq_true rfl, Nat.le_of_ble_eq_true rfl, Nat.le_of_ble_eq_true rfl, Nat.le_of_ble_eq_true rfl⟩ dX11_told_24) z_gWI (fun a_7 hz6 => ?_)
    refine z_iload_n (i := 1) (x := a0) dX11_told_27 rfl rfl ?_
    refine z_iconst (v := 3) dX11_told_28 rfl ?_
    refine z_icmp_ge 63 dX11_told_29 (by decide) (fun c8 => ?_) (fun c8 => ?_)
    · refine z_iload_n (i := 1) (x := a0) dX11_told_63 rfl rfl ?_
      refine z_bipush (v := 6) dX11_told_64 (by decide) ?_
      refine z_icmp_ge 104 dX11_told_66 (by decide) (fun c9 => ?_) (fun c9 => ?_)
      · refine z_iload_n (i := 1) (x := a0) dX11_told_104 rfl rfl ?_
        refine z_bipush (v := 6) dX11_told_105 (by decide) ?_
        refine z_icmp_ne 117 dX11_told_107 (by decide) (fun c10 => ?_) (fun c10 => ?_)
        · refine z_aload_n (i := 0) (x := 40) dX11_told_110 rfl rfl ?_
          refine z_getI (j := 43) dX11_told_111 kl_11 hs40 (by decide) rfl rfl kf_X11_172 ?_
          refine z_goto 147 dX11_told_114 (by decide) ?_
          exact z_ireturn dX11_told_147 z_rWI rfl (by decide) (by decide)
        · refine z_iload_n (i := 1) (x := a0) dX11_told_117 rfl rfl ?_
          refine z_bipush (v := 7) dX11_told_118 (by decide) ?_
          refine z_icmp_ne 130 dX11_told_120 (by decide) (fun c11 => ?_) (fun c11 => ?_)
          · refine z_aload_n (i := 0) (x := 40) dX11_told_123 rfl rfl ?_
            refine z_getI (j := 34) dX11_told_124 kl_11 hs40 (by decide) rfl rfl kf_X11_181 ?_
            refine z_goto 147 dX11_told_127 (by decide) ?_
            exact z_ireturn dX11_told_147 z_rWI rfl (by decide) (by decide)
          · refine z_iload_n (i := 1) (x := a0) dX11_told_130 rfl rfl ?_
            refine z_bipush (v := 8) dX11_told_131 (by decide) ?_
            refine z_icmp_ne 143 dX11_told_133 (by decide) (fun c12 => ?_) (fun c12 => ?_)
            · refine z_aload_n (i := 0) (x := 40) dX11_told_136 rfl rfl ?_
              refine z_cR (As := [.ref 40]) (rest := []) (em_X11_unlikeShades hl hW N a_7) (fun o7 h => z_runV 385 0 h rfl kk_X11_385 hs40 kl_11.1 kq_X11_unlikeShades rfl (Nat.le_of_ble_eq_true rfl) ⟨Nat.le_of_ble_eq_true rfl, Nat.le_of_ble_eq_true rfl, Nat.le_of_ble_eq_true rfl, Nat.le_of_ble_eq_true rfl⟩ dX11_told_137) z_gWI (fun a_14 hz13 => ?_)
              refine z_goto 147 dX11_told_140 (by decide) ?_
              exact z_ireturn dX11_told_147 z_rWI rfl (by decide) (by decide)
            · refine z_aload_n (i := 0) (x := 40) dX11_told_143 rfl rfl ?_
              refine z_getI (j := 21) dX11_told_144 kl_11 hs40 (by decide) rfl rfl kf_X11_162 ?_
              exact z_ireturn dX11_told_147 z_rWI rfl (by decide) (by decide)
      · refine z_iload_n (i := 1) (x := a0) dX11_told_69 rfl rfl ?_
        refine z_iconst (v := 3) dX11_told_70 rfl ?_
        refine z_icmp_ne 81 dX11_told_71 (by decide) (fun c15 => ?_) (fun c15 => ?_)
        · refine z_aload_n (i := 0) (x := 40) dX11_told_74 rfl rfl ?_
          refine z_cWI (As := [.ref 40]) (rest := []) (em_X11_sitting hl hW N a_7) (fun o7 h => z_runV 379 0 h rfl kk_X11_379 hs40 kl_11.1 kq_X11_sitting rfl (Nat.le_of_ble_eq_true rfl) ⟨Nat.le_of_ble_eq_true rfl, Nat.le_of_ble_eq_true rfl, Nat.le_of_ble_eq_true rfl, Nat.le_of_ble_eq_true rfl⟩ dX11_told_75) z_gWI (fun a_17 hz16 => ?_)
          refine z_goto 103 dX11_told_78 (by decide) ?_
          exact z_ireturn dX11_told_103 z_rWI rfl (by decide) (by decide)
        · refine z_iload_n (i := 1) (x := a0) dX11_told_81 rfl rfl ?_
          refine z_iconst (v := 4) dX11_told_82 rfl ?_
          refine z_icmp_ne 96 dX11_told_83 (by decide) (fun c18 => ?_) (fun c18 => ?_)
          · refine z_aload_n (i := 0) (x := 40) dX11_told_86 rfl rfl ?_
            refine z_bipush (v := 32) dX11_told_87 (by decide) ?_
            refine z_iconst (v := (-1)) dX11_told_89 rfl ?_
            refine z_cR (As := [.ref 40, .int 32, .int (-1)]) (rest := []) (em_X11_many hl hW N 32 (-1) a_7) (fun o7 h => z_runV 382 2 h rfl kk_X11_382 hs40 kl_11.1 kq_X11_many rfl (Nat.le_of_ble_eq_true rfl) ⟨Nat.le_of_ble_eq_true rfl, Nat.le_of_ble_eq_true rfl, Nat.le_of_ble_eq_true rfl, Nat.le_of_ble_eq_true rfl⟩ dX11_told_90) z_gWI (fun a_20 hz19 => ?_)
            refine z_goto 103 dX11_told_93 (by decide) ?_
            exact z_ireturn dX11_told_103 z_rWI rfl (by decide) (by decide)
          · refine z_aload_n (i := 0) (x := 40) dX11_told_96 rfl rfl ?_
            refine z_bipush (v := 24) dX11_told_97 (by decide) ?_
            refine z_iconst (v := 0) dX11_told_99 rfl ?_
            refine z_cR (As := [.ref 40, .int 24, .int 0]) (rest := []) (em_X11_many hl hW N 24 0 a_7) (fun o7 h => z_runV 382 2 h rfl kk_X11_382 hs40 kl_11.1 kq_X11_many rfl (Nat.le_of_ble_eq_true rfl) ⟨Nat.le_of_ble_eq_true rfl, Nat.le_of_ble_eq_true rfl, Nat.le_of_ble_eq_true rfl, Nat.le_of_ble_eq_true rfl⟩ dX11_told_100) z_gWI (fun a_22 hz21 => ?_)
            exact z_ireturn dX11_told_103 z_rWI rfl (by decide) (by decide)
    · refine z_iload_n (i := 1) (x := a0) dX11_told_32 rfl rfl ?_
      refine z_if_ne 43 dX11_told_33 (by decide) (fun c23 => ?_) (fun c23 => ?_)
      · refine z_aload_n (i := 0) (x := 40) dX11_told_36 rfl rfl ?_
        refine z_getI (j := 19) dX11_told_37 kl_11 hs40 (by decide) rfl rfl kf_X11_156 ?_
        refine z_goto 62 dX11_told_40 (by decide) ?_
        exact z_ireturn dX11_told_62 z_rWI rfl (by decide) (by decide)
      · refine z_iload_n (i := 1) (x := a0) dX11_told_43 rfl rfl ?_
        refine z_iconst (v := 1) dX11_told_44 rfl ?_
        refine z_icmp_ne 55 dX11_told_45 (by decide) (fun c24 => ?_) (fun c24 => ?_)
        · refine z_aload_n (i := 0) (x := 40) dX11_told_48 rfl rfl ?_
          refine z_getI (j := 20) dX11_told_49 kl_11 hs40 (by decide) rfl rfl kf_X11_159 ?_
          refine z_goto 62 dX11_told_52 (by decide) ?_
          exact z_ireturn dX11_told_62 z_rWI rfl (by decide) (by decide)
        · refine z_aload_n (i := 0) (x := 40) dX11_told_55 rfl rfl ?_
          refine z_getR (j := 39) dX11_told_56 kl_11 hs40 (by decide) rfl rfl kf_X11_68 ?_
          refine z_bipush (v := 59) dX11_told_59 (by decide) ?_
          refine z_ialdC dX11_told_61 hs58 (vp_in_iff.mpr (by decide)) ?_
          exact z_ireturn dX11_told_62 z_rWI rfl (by decide) (by decide)

def F_X11_isStreet (a0 : Int32) (a1 : Int32) (D : z_Dat) : Option (Int32 × z_Dat) :=
  z_bd (F_X11_may (F_X11_within a0 0 ((D 40 19) - 1)) a1 0 D) (fun a_3 => some (a_3.1, a_3.2))
set_option maxRecDepth 100000 in
set_option maxHeartbeats 4000000 in
theorem em_X11_isStreet {l : Launch} {S : List z_Shp} {oW : Nat} (hl : l.stackTraces = false) (hW : z_W S oW) (a0 : Int32) (a1 : Int32) (D : z_Dat) : ∀ out, z_ko (z_kI S) (F_X11_isStreet a0 a1 D) out → z_EM l M_X11_isStreet (30, 580, 0, 0) [.ref 40, .int a0, .int a1] S D out := by
  have hs40 : S[40]? = some (13, 55, [none, some (some 41), none, none, none, none, none, none, none, some (some 42), some (some 43), some (some 44), some (some 45), some (some 46), some (some 47), some (some 48), none, none, none, none, none, none, some (some 49), some (some 50), some (some 51), some (some 52), some (some 53), none, none, some (some 54), some (some 55), some (some 56), none, none, none, none, none, none, some (some 57), some (some 58), some (some 59), some (some 60), some (some 61), none, some (some 62), some (some 63), none, none, some (some 64), some (some 65), none, none, none, some (some 66), none]) := hW.1 40 _ rfl
  refine z_meth hl rfl kp_X11 (Nat.le_of_ble_eq_true rfl) (lv := [some (.ref 40), some (.int a0), some (.int a1)]) rfl ?_
  unfold F_X11_isStreet
  refine z_aload_n (i := 0) (x := 40) dX11_isStreet_0 rfl rfl ?_
  refine z_iload_n (i := 1) (x := a0) dX11_isStreet_1 rfl rfl ?_
  refine z_iconst (v := 0) dX11_isStreet_2 rfl ?_
  refine z_aload_n (i := 0) (x := 40) dX11_isStreet_3 rfl rfl ?_
  refine z_getI (j := 19) dX11_isStreet_4 kl_11 hs40 (by decide) rfl rfl kf_X11_156 ?_
  refine z_iconst (v := 1) dX11_isStreet_7 rfl ?_
  refine z_isub dX11_isStreet_8 ?_
  refine z_cP (As := [.int a0, .int 0, .int ((D 40 19) - 1)]) (rest := [.ref 40]) (em_X11_within hl a0 0 ((D 40 19) - 1) D) (fun o7 h => z_runS 376 3 h rfl kk_X11_376 kq_X11_within rfl (Nat.le_of_ble_eq_true rfl) ⟨Nat.le_of_ble_eq_true rfl, Nat.le_of_ble_eq_true rfl, Nat.le_of_ble_eq_true rfl, Nat.le_of_ble_eq_true rfl⟩ dX11_isStreet_9) z_gWI (fun hz1 => ?_)
  refine z_iload_n (i := 2) (x := a1) dX11_isStreet_12 rfl rfl ?_
  refine z_iconst (v := 0) dX11_isStreet_13 rfl ?_
  refine z_cWI (As := [.ref 40, .int (F_X11_within a0 0 ((D 40 19) - 1)), .int a1, .int 0]) (rest := []) (em_X11_may hl hW (F_X11_within a0 0 ((D 40 19) - 1)) a1 0 D) (fun o7 h => z_runV 198 3 h rfl kk_X11_198 hs40 kl_11.1 kq_X11_may rfl (Nat.le_of_ble_eq_true rfl) ⟨Nat.le_of_ble_eq_true rfl, Nat.le_of_ble_eq_true rfl, Nat.le_of_ble_eq_true rfl, Nat.le_of_ble_eq_true rfl⟩ dX11_isStreet_14) z_gWI (fun a_3 hz2 => ?_)
  exact z_ireturn dX11_isStreet_17 z_rWI hz2 (by decide) (by decide)

def F_X11_isPerson (a0 : Int32) (a1 : Int32) (D : z_Dat) : Option (Int32 × z_Dat) :=
  z_bd (F_X11_may (F_X11_within a0 0 ((D 40 20) - 1)) a1 0 D) (fun a_3 => some (a_3.1, a_3.2))
set_option maxRecDepth 100000 in
set_option maxHeartbeats 4000000 in
theorem em_X11_isPerson {l : Launch} {S : List z_Shp} {oW : Nat} (hl : l.stackTraces = false) (hW : z_W S oW) (a0 : Int32) (a1 : Int32) (D : z_Dat) : ∀ out, z_ko (z_kI S) (F_X11_isPerson a0 a1 D) out → z_EM l M_X11_isPerson (30, 580, 0, 0) [.ref 40, .int a0, .int a1] S D out := by
  have hs40 : S[40]? = some (13, 55, [none, some (some 41), none, none, none, none, none, none, none, some (some 42), some (some 43), some (some 44), some (some 45), some (some 46), some (some 47), some (some 48), none, none, none, none, none, none, some (some 49), some (some 50), some (some 51), some (some 52), some (some 53), none, none, some (some 54), some (some 55), some (some 56), none, none, none, none, none, none, some (some 57), some (some 58), some (some 59), some (some 60), some (some 61), none, some (some 62), some (some 63), none, none, some (some 64), some (some 65), none, none, none, some (some 66), none]) := hW.1 40 _ rfl
  refine z_meth hl rfl kp_X11 (Nat.le_of_ble_eq_true rfl) (lv := [some (.ref 40), some (.int a0), some (.int a1)]) rfl ?_
  unfold F_X11_isPerson
  refine z_aload_n (i := 0) (x := 40) dX11_isPerson_0 rfl rfl ?_
  refine z_iload_n (i := 1) (x := a0) dX11_isPerson_1 rfl rfl ?_
  refine z_iconst (v := 0) dX11_isPerson_2 rfl ?_
  refine z_aload_n (i := 0) (x := 40) dX11_isPerson_3 rfl rfl ?_
  refine z_getI (j := 20) dX11_isPerson_4 kl_11 hs40 (by decide) rfl rfl kf_X11_159 ?_
  refine z_iconst (v := 1) dX11_isPerson_7 rfl ?_
  refine z_isub dX11_isPerson_8 ?_
  refine z_cP (As := [.int a0, .int 0, .int ((D 40 20) - 1)]) (rest := [.ref 40]) (em_X11_within hl a0 0 ((D 40 20) - 1) D) (fun o7 h => z_runS 376 3 h rfl kk_X11_376 kq_X11_within rfl (Nat.le_of_ble_eq_true rfl) ⟨Nat.le_of_ble_eq_true rfl, Nat.le_of_ble_eq_true rfl, Nat.le_of_ble_eq_true rfl, Nat.le_of_ble_eq_true rfl⟩ dX11_isPerson_9) z_gWI (fun hz1 => ?_)
  refine z_iload_n (i := 2) (x := a1) dX11_isPerson_12 rfl rfl ?_
  refine z_iconst (v := 0) dX11_isPerson_13 rfl ?_
  refine z_cWI (As := [.ref 40, .int (F_X11_within a0 0 ((D 40 20) - 1)), .int a1, .int 0]) (rest := []) (em_X11_may hl hW (F_X11_within a0 0 ((D 40 20) - 1)) a1 0 D) (fun o7 h => z_runV 198 3 h rfl kk_X11_198 hs40 kl_11.1 kq_X11_may rfl (Nat.le_of_ble_eq_true rfl) ⟨Nat.le_of_ble_eq_true rfl, Nat.le_of_ble_eq_true rfl, Nat.le_of_ble_eq_true rfl, Nat.le_of_ble_eq_true rfl⟩ dX11_isPerson_14) z_gWI (fun a_3 hz2 => ?_)
  exact z_ireturn dX11_isPerson_17 z_rWI hz2 (by decide) (by decide)

def F_X11_street_J103 (kc14 : ((Int32 × Int32) → Option (Int32 × z_Dat))) (a0 : Int32) (v21 : Int32) (v22 : Int32) (v23 : Int32) : Option (Int32 × z_Dat) :=
  if v23 = a0 then (z_let (v22 + 1) (fun v25 => z_let (v21 + 1) (fun v26 => kc14 (v25, v26))))
  else (z_let (v22 + 0) (fun v27 => z_let (v21 + 1) (fun v28 => kc14 (v27, v28))))
def F_X11_street_L68 (N : Nat) (a0 : Int32) (a1 : Int32) (a_10 : z_Dat) (kc14 : ((Int32 × Int32) → Option (Int32 × z_Dat))) (v12 : Int32) (v13 : Int32) : Option (Int32 × z_Dat) :=
  if (a_10 40 20) ≤ v13 then (some (v12, a_10))
  else (if a1 = 2 then (z_bd (F_X11_shadeOf v13 a_10) (fun a_18 => z_bd (F_X11_seemsOf N a_18 a_10) (fun a_20 => F_X11_street_J103 kc14 a0 v13 v12 a_20)))
  else (if z_inb v13 8 then (F_X11_street_J103 kc14 a0 v13 v12 (a_10 48 (z_ix v13))) else none))
def F_X11_street (N : Nat) (a0 : Int32) (a1 : Int32) (D : z_Dat) : Option (Int32 × z_Dat) :=
  z_let (z_up D 40 0 0) (fun D1 => z_bd (F_X11_isStreet a0 1 D1) (fun a_3 => if a_3.1 = 0 then (some (0, a_3.2))
  else (z_bd (F_X11_may (F_X11_within a1 0 3) 2 1 a_3.2) (fun a_7 => if a_7.1 = 0 then (some (0, a_7.2))
  else (z_bd (F_X11_take N a_7.2) (fun a_10 => if 2 ≤ a1 then (z_loop (fun kc14 s => F_X11_street_L68 N a0 a1 a_10 kc14 s.1 s.2) N (0, 0))
  else (if a1 = 0 then (z_bd (F_X11_vatOf a0 a_10) (fun a_32 => some (a_32, a_10)))
  else (if z_inb ((4 * a0) + 3) 24 then (some (a_10 47 (z_ix ((4 * a0) + 3)), a_10)) else none))))))))
set_option maxRecDepth 100000 in
set_option maxHeartbeats 4000000 in
theorem em_X11_street {l : Launch} {S : List z_Shp} {oW : Nat} (hl : l.stackTraces = false) (hW : z_W S oW) (N : Nat) (a0 : Int32) (a1 : Int32) (D : z_Dat) : ∀ out, z_ko (z_kI S) (F_X11_street N a0 a1 D) out → z_EM l M_X11_street (50, 700, 0, 0) [.ref 40, .int a0, .int a1] S D out := by
  have hs40 : S[40]? = some (13, 55, [none, some (some 41), none, none, none, none, none, none, none, some (some 42), some (some 43), some (some 44), some (some 45), some (some 46), some (some 47), some (some 48), none, none, none, none, none, none, some (some 49), some (some 50), some (some 51), some (some 52), some (some 53), none, none, some (some 54), some (some 55), some (some 56), none, none, none, none, none, none, some (some 57), some (some 58), some (some 59), some (some 60), some (some 61), none, some (some 62), some (some 63), none, none, some (some 64), some (some 65), none, none, none, some (some 66), none]) := hW.1 40 _ rfl
  have hs47 : S[47]? = some (0, 24, []) := hW.1 47 _ rfl
  have hs48 : S[48]? = some (0, 8, []) := hW.1 48 _ rfl
  refine z_meth hl rfl kp_X11 (Nat.le_of_ble_eq_true rfl) (lv := [some (.ref 40), some (.int a0), some (.int a1), none, none]) rfl ?_
  unfold F_X11_street
  refine z_aload_n (i := 0) (x := 40) dX11_street_0 rfl rfl ?_
  refine z_iconst (v := 0) dX11_street_1 rfl ?_
  refine z_putI (j := 0) dX11_street_2 kl_11 tyX11_ok nmX11 hs40 (by decide) rfl rfl rfl rfl rfl rfl kf_X11_3 (fun D1 => ?_)
  refine z_aload_n (i := 0) (x := 40) dX11_street_5 rfl rfl ?_
  refine z_iload_n (i := 1) (x := a0) dX11_street_6 rfl rfl ?_
  refine z_iconst (v := 1) dX11_street_7 rfl ?_
  refine z_cWI (As := [.ref 40, .int a0, .int 1]) (rest := []) (em_X11_isStreet hl hW a0 1 D1) (fun o7 h => z_runV 388 2 h rfl kk_X11_388 hs40 kl_11.1 kq_X11_isStreet rfl (Nat.le_of_ble_eq_true rfl) ⟨Nat.le_of_ble_eq_true rfl, Nat.le_of_ble_eq_true rfl, Nat.le_of_ble_eq_true rfl, Nat.le_of_ble_eq_true rfl⟩ dX11_street_8) z_gWI (fun a_3 hz2 => ?_)
  refine z_if_eq 29 dX11_street_11 (by decide) (fun c4 => ?_) (fun c4 => ?_)
  · refine z_iconst (v := 0) dX11_street_29 rfl ?_
    exact z_ireturn dX11_street_30 z_rWI rfl (by decide) (by decide)
  · refine z_aload_n (i := 0) (x := 40) dX11_street_14 rfl rfl ?_
    refine z_iload_n (i := 2) (x := a1) dX11_street_15 rfl rfl ?_
    refine z_iconst (v := 0) dX11_street_16 rfl ?_
    refine z_iconst (v := 3) dX11_street_17 rfl ?_
    refine z_cP (As := [.int a1, .int 0, .int 3]) (rest := [.ref 40]) (em_X11_within hl a1 0 3 a_3.2) (fun o7 h => z_runS 376 3 h rfl kk_X11_376 kq_X11_within rfl (Nat.le_of_ble_eq_true rfl) ⟨Nat.le_of_ble_eq_true rfl, Nat.le_of_ble_eq_true rfl, Nat.le_of_ble_eq_true rfl, Nat.le_of_ble_eq_true rfl⟩ dX11_street_18) z_gWI (fun hz5 => ?_)
    refine z_iconst (v := 2) dX11_street_21 rfl ?_
    refine z_iconst (v := 1) dX11_street_22 rfl ?_
    refine z_cWI (As := [.ref 40, .int (F_X11_within a1 0 3), .int 2, .int 1]) (rest := []) (em_X11_may hl hW (F_X11_within a1 0 3) 2 1 a_3.2) (fun o7 h => z_runV 198 3 h rfl kk_X11_198 hs40 kl_11.1 kq_X11_may rfl (Nat.le_of_ble_eq_true rfl) ⟨Nat.le_of_ble_eq_true rfl, Nat.le_of_ble_eq_true rfl, Nat.le_of_ble_eq_true rfl, Nat.le_of_ble_eq_true rfl⟩ dX11_street_23) z_gWI (fun a_7 hz6 => ?_)
    refine z_if_ne 31 dX11_street_26 (by decide) (fun c8 => ?_) (fun c8 => ?_)
    · refine z_iconst (v := 0) dX11_street_29 rfl ?_
      exact z_ireturn dX11_street_30 z_rWI rfl (by decide) (by decide)
    · refine z_aload_n (i := 0) (x := 40) dX11_street_31 rfl rfl ?_
      refine z_cWV (As := [.ref 40]) (rest := []) (em_X11_take hl hW N a_7.2) (fun o7 h => z_runV 308 0 h rfl kk_X11_308 hs40 kl_11.1 kq_X11_take rfl (Nat.le_of_ble_eq_true rfl) ⟨Nat.le_of_ble_eq_true rfl, Nat.le_of_ble_eq_true rfl, Nat.le_of_ble_eq_true rfl, Nat.le_of_ble_eq_true rfl⟩ dX11_street_32) z_gWI (fun a_10 hz9 => ?_)
      refine z_iload_n (i := 2) (x := a1) dX11_street_35 rfl rfl ?_
      refine z_iconst (v := 2) dX11_street_36 rfl ?_
      refine z_icmp_ge 63 dX11_street_37 (by decide) (fun c11 => ?_) (fun c11 => ?_)
      · refine z_iconst (v := 0) dX11_street_63 rfl ?_
        refine z_istore_n (i := 3) (x := 0) (lv' := [some (.ref 40), some (.int a0), some (.int a1), some (.int 0), none]) dX11_street_64 rfl (by decide) rfl rfl ?_
        refine z_iconst (v := 0) dX11_street_65 rfl ?_
        refine z_istore (i := 4) (x := 0) (lv' := [some (.ref 40), some (.int a0), some (.int a1), some (.int 0), some (.int 0)]) dX11_street_66 (by decide) rfl rfl ?_
        refine z_loops (lvOf := fun s : Int32 × Int32 => [some (.ref 40), some (.int a0), some (.int a1), some (.int s.1), some (.int s.2)]) (dOf := fun s : Int32 × Int32 => a_10) (fun kc14 hkc14 s => ?_) N (0, 0)
        obtain ⟨v12, v13⟩ := s
        show z_F _ _ _ _ _ 68 [some (.ref 40), some (.int a0), some (.int a1), some (.int v12), some (.int v13)] [] S a_10 _ (F_X11_street_L68 N a0 a1 a_10 kc14 v12 v13)
        unfold F_X11_street_L68
        have hJ_F_X11_street_J103 : ∀ (v21 : Int32) (v22 : Int32) (v23 : Int32) , z_F l M_X11_street (50, 700, 0, 0) 0 0 103 [some (.ref 40), some (.int a0), some (.int a1), none, some (.int v21)] [.int v23, .int v22] S a_10 (z_ko (z_kI S)) (F_X11_street_J103 kc14 a0 v21 v22 v23) := by
          intro v21 v22 v23
          unfold F_X11_street_J103
          refine z_iload_n (i := 1) (x := a0) dX11_street_103 rfl rfl ?_
          refine z_icmp_ne 111 dX11_street_104 (by decide) (fun c24 => ?_) (fun c24 => ?_)
          · refine z_iconst (v := 1) dX11_street_107 rfl ?_
            refine z_goto 112 dX11_street_108 (by decide) ?_
            refine z_iadd dX11_street_112 ?_
            refine z_topi (fun v25 => ?_)
            refine z_istore_n (i := 3) (x := v25) (lv' := [some (.ref 40), some (.int a0), some (.int a1), some (.int v25), some (.int v21)]) dX11_street_113 rfl (by decide) rfl rfl ?_
            refine z_iinc (i := 4) (x := v21) (y := 1) dX11_street_114 rfl (by decide) (by decide) rfl (fun v26 => ?_)
            refine z_goto 68 dX11_street_117 (by decide) ?_
            exact hkc14 (v25, v26)
          · refine z_iconst (v := 0) dX11_street_111 rfl ?_
            refine z_iadd dX11_street_112 ?_
            refine z_topi (fun v27 => ?_)
            refine z_istore_n (i := 3) (x := v27) (lv' := [some (.ref 40), some (.int a0), some (.int a1), some (.int v27), some (.int v21)]) dX11_street_113 rfl (by decide) rfl rfl ?_
            refine z_iinc (i := 4) (x := v21) (y := 1) dX11_street_114 rfl (by decide) (by decide) rfl (fun v28 => ?_)
            refine z_goto 68 dX11_street_117 (by decide) ?_
            exact hkc14 (v27, v28)
        refine z_iload (i := 4) (x := v13) dX11_street_68 rfl ?_
        refine z_aload_n (i := 0) (x := 40) dX11_street_70 rfl rfl ?_
        refine z_getI (j := 20) dX11_street_71 kl_11 hs40 (by decide) rfl rfl kf_X11_159 ?_
        refine z_icmp_ge 120 dX11_street_74 (by decide) (fun c15 => ?_) (fun c15 => ?_)
        · refine z_iload_n (i := 3) (x := v12) dX11_street_120 rfl rfl ?_
          exact z_ireturn dX11_street_121 z_rWI rfl (by decide) (by decide)
        · refine z_iload_n (i := 3) (x := v12) dX11_street_77 rfl rfl ?_
          refine z_iload_n (i := 2) (x := a1) dX11_street_78 rfl rfl ?_
          refine z_iconst (v := 2) dX11_street_79 rfl ?_
          refine z_icmp_ne 96 dX11_street_80 (by decide) (fun c16 => ?_) (fun c16 => ?_)
          · refine z_aload_n (i := 0) (x := 40) dX11_street_83 rfl rfl ?_
            refine z_aload_n (i := 0) (x := 40) dX11_street_84 rfl rfl ?_
            refine z_iload (i := 4) (x := v13) dX11_street_85 rfl ?_
            refine z_cR (As := [.ref 40, .int v13]) (rest := [.ref 40, .int v12]) (em_X11_shadeOf hl hW v13 a_10) (fun o7 h => z_runV 339 1 h rfl kk_X11_339 hs40 kl_11.1 kq_X11_shadeOf rfl (Nat.le_of_ble_eq_true rfl) ⟨Nat.le_of_ble_eq_true rfl, Nat.le_of_ble_eq_true rfl, Nat.le_of_ble_eq_true rfl, Nat.le_of_ble_eq_true rfl⟩ dX11_street_87) z_gWI (fun a_18 hz17 => ?_)
            refine z_cR (As := [.ref 40, .int a_18]) (rest := [.int v12]) (em_X11_seemsOf hl hW N a_18 a_10) (fun o7 h => z_runV 342 1 h rfl kk_X11_342 hs40 kl_11.1 kq_X11_seemsOf rfl (Nat.le_of_ble_eq_true rfl) ⟨Nat.le_of_ble_eq_true rfl, Nat.le_of_ble_eq_true rfl, Nat.le_of_ble_eq_true rfl, Nat.le_of_ble_eq_true rfl⟩ dX11_street_90) z_gWI (fun a_20 hz19 => ?_)
            refine z_goto 103 dX11_street_93 (by decide) ?_
            refine z_weak (lv' := [some (.ref 40), some (.int a0), some (.int a1), none, some (.int v13)]) ⟨Or.inr rfl, ⟨Or.inr rfl, ⟨Or.inr rfl, ⟨Or.inl rfl, ⟨Or.inr rfl, trivial⟩⟩⟩⟩⟩ ?_
            exact hJ_F_X11_street_J103 v13 v12 a_20
          · refine z_aload_n (i := 0) (x := 40) dX11_street_96 rfl rfl ?_
            refine z_getR (j := 15) dX11_street_97 kl_11 hs40 (by decide) rfl rfl kf_X11_38 ?_
            refine z_iload (i := 4) (x := v13) dX11_street_100 rfl ?_
            refine z_iald dX11_street_102 hs48 ?_
            refine z_weak (lv' := [some (.ref 40), some (.int a0), some (.int a1), none, some (.int v13)]) ⟨Or.inr rfl, ⟨Or.inr rfl, ⟨Or.inr rfl, ⟨Or.inl rfl, ⟨Or.inr rfl, trivial⟩⟩⟩⟩⟩ ?_
            exact hJ_F_X11_street_J103 v13 v12 (a_10 48 (z_ix v13))
      · refine z_iload_n (i := 2) (x := a1) dX11_street_40 rfl rfl ?_
        refine z_if_ne 52 dX11_street_41 (by decide) (fun c30 => ?_) (fun c30 => ?_)
        · refine z_aload_n (i := 0) (x := 40) dX11_street_44 rfl rfl ?_
          refine z_iload_n (i := 1) (x := a0) dX11_street_45 rfl rfl ?_
          refine z_cR (As := [.ref 40, .int a0]) (rest := []) (em_X11_vatOf hl hW a0 a_10) (fun o7 h => z_runV 330 1 h rfl kk_X11_330 hs40 kl_11.1 kq_X11_vatOf rfl (Nat.le_of_ble_eq_true rfl) ⟨Nat.le_of_ble_eq_true rfl, Nat.le_of_ble_eq_true rfl, Nat.le_of_ble_eq_true rfl, Nat.le_of_ble_eq_true rfl⟩ dX11_street_46) z_gWI (fun a_32 hz31 => ?_)
          refine z_goto 62 dX11_street_49 (by decide) ?_
          exact z_ireturn dX11_street_62 z_rWI rfl (by decide) (by decide)
        · refine z_aload_n (i := 0) (x := 40) dX11_street_52 rfl rfl ?_
          refine z_getR (j := 14) dX11_street_53 kl_11 hs40 (by decide) rfl rfl kf_X11_35 ?_
          refine z_iconst (v := 4) dX11_street_56 rfl ?_
          refine z_iload_n (i := 1) (x := a0) dX11_street_57 rfl rfl ?_
          refine z_imul dX11_street_58 ?_
          refine z_iconst (v := 3) dX11_street_59 rfl ?_
          refine z_iadd dX11_street_60 ?_
          refine z_iald dX11_street_61 hs47 ?_
          exact z_ireturn dX11_street_62 z_rWI rfl (by decide) (by decide)

def F_X11_person (N : Nat) (a0 : Int32) (a1 : Int32) (D : z_Dat) : Option (Int32 × z_Dat) :=
  z_let (z_up D 40 0 0) (fun D1 => z_bd (F_X11_isPerson a0 1 D1) (fun a_3 => if a_3.1 = 0 then (some (0, a_3.2))
  else (z_bd (F_X11_may (F_X11_within a1 0 7) 2 1 a_3.2) (fun a_7 => if a_7.1 = 0 then (some (0, a_7.2))
  else (z_bd (F_X11_take N a_7.2) (fun a_10 => if 2 ≤ a1 then (if 4 ≤ a1 then (if 6 ≤ a1 then (if a1 = 6 then (if z_inb (24 + a0) 60 then (some (a_10 58 (z_ix (24 + a0)), a_10)) else none)
  else (z_bd (F_X11_isSitting N a0 a_10) (fun a_16 => if a_16.1 = 0 then (some (0, a_16.2))
  else (some (1, a_16.2)))))
  else (if a1 = 4 then (if z_inb (40 + a0) 60 then (some (a_10 58 (z_ix (40 + a0)), a_10)) else none)
  else (if z_inb (32 + a0) 60 then (some (a_10 58 (z_ix (32 + a0)), a_10)) else none)))
  else (if a1 = 2 then (z_bd (F_X11_shadeOf a0 a_10) (fun a_21 => some (a_21, a_10)))
  else (z_bd (F_X11_shadeOf a0 a_10) (fun a_23 => z_bd (F_X11_seemsOf N a_23 a_10) (fun a_25 => some (a_25, a_10))))))
  else (if a1 = 0 then (if z_inb a0 8 then (some (a_10 48 (z_ix a0), a_10)) else none)
  else (if z_inb (48 + a0) 60 then (some (a_10 58 (z_ix (48 + a0)), a_10)) else none))))))))
set_option maxRecDepth 100000 in
set_option maxHeartbeats 4000000 in
theorem em_X11_person {l : Launch} {S : List z_Shp} {oW : Nat} (hl : l.stackTraces = false) (hW : z_W S oW) (N : Nat) (a0 : Int32) (a1 : Int32) (D : z_Dat) : ∀ out, z_ko (z_kI S) (F_X11_person N a0 a1 D) out → z_EM l M_X11_person (70, 820, 0, 0) [.ref 40, .int a0, .int a1] S D out := by
  have hs40 : S[40]? = some (13, 55, [none, some (some 41), none, none, none, none, none, none, none, some (some 42), some (some 43), some (some 44), some (some 45), some (some 46), some (some 47), some (some 48), none, none, none, none, none, none, some (some 49), some (some 50), some (some 51), some (some 52), some (some 53), none, none, some (some 54), some (some 55), some (some 56), none, none, none, none, none, none, some (some 57), some (some 58), some (some 59), some (some 60), some (some 61), none, some (some 62), some (some 63), none, none, some (some 64), some (some 65), none, none, none, some (some 66), none]) := hW.1 40 _ rfl
  have hs48 : S[48]? = some (0, 8, []) := hW.1 48 _ rfl
  have hs58 : S[58]? = some (0, 60, []) := hW.1 58 _ rfl
  refine z_meth hl rfl kp_X11 (Nat.le_of_ble_eq_true rfl) (lv := [some (.ref 40), some (.int a0), some (.int a1)]) rfl ?_
  unfold F_X11_person
  refine z_aload_n (i := 0) (x := 40) dX11_person_0 rfl rfl ?_
  refine z_iconst (v := 0) dX11_person_1 rfl ?_
  refine z_putI (j := 0) dX11_person_2 kl_11 tyX11_ok nmX11 hs40 (by decide) rfl rfl rfl rfl rfl rfl kf_X11_3 (fun D1 => ?_)
  refine z_aload_n (i := 0) (x := 40) dX11_person_5 rfl rfl ?_
  refine z_iload_n (i := 1) (x := a0) dX11_person_6 rfl rfl ?_
  refine z_iconst (v := 1) dX11_person_7 rfl ?_
  refine z_cWI (As := [.ref 40, .int a0, .int 1]) (rest := []) (em_X11_isPerson hl hW a0 1 D1) (fun o7 h => z_runV 391 2 h rfl kk_X11_391 hs40 kl_11.1 kq_X11_isPerson rfl (Nat.le_of_ble_eq_true rfl) ⟨Nat.le_of_ble_eq_true rfl, Nat.le_of_ble_eq_true rfl, Nat.le_of_ble_eq_true rfl, Nat.le_of_ble_eq_true rfl⟩ dX11_person_8) z_gWI (fun a_3 hz2 => ?_)
  refine z_if_eq 30 dX11_person_11 (by decide) (fun c4 => ?_) (fun c4 => ?_)
  · refine z_iconst (v := 0) dX11_person_30 rfl ?_
    exact z_ireturn dX11_person_31 z_rWI rfl (by decide) (by decide)
  · refine z_aload_n (i := 0) (x := 40) dX11_person_14 rfl rfl ?_
    refine z_iload_n (i := 2) (x := a1) dX11_person_15 rfl rfl ?_
    refine z_iconst (v := 0) dX11_person_16 rfl ?_
    refine z_bipush (v := 7) dX11_person_17 (by decide) ?_
    refine z_cP (As := [.int a1, .int 0, .int 7]) (rest := [.ref 40]) (em_X11_within hl a1 0 7 a_3.2) (fun o7 h => z_runS 376 3 h rfl kk_X11_376 kq_X11_within rfl (Nat.le_of_ble_eq_true rfl) ⟨Nat.le_of_ble_eq_true rfl, Nat.le_of_ble_eq_true rfl, Nat.le_of_ble_eq_true rfl, Nat.le_of_ble_eq_true rfl⟩ dX11_person_19) z_gWI (fun hz5 => ?_)
    refine z_iconst (v := 2) dX11_person_22 rfl ?_
    refine z_iconst (v := 1) dX11_person_23 rfl ?_
    refine z_cWI (As := [.ref 40, .int (F_X11_within a1 0 7), .int 2, .int 1]) (rest := []) (em_X11_may hl hW (F_X11_within a1 0 7) 2 1 a_3.2) (fun o7 h => z_runV 198 3 h rfl kk_X11_198 hs40 kl_11.1 kq_X11_may rfl (Nat.le_of_ble_eq_true rfl) ⟨Nat.le_of_ble_eq_true rfl, Nat.le_of_ble_eq_true rfl, Nat.le_of_ble_eq_true rfl, Nat.le_of_ble_eq_true rfl⟩ dX11_person_24) z_gWI (fun a_7 hz6 => ?_)
    refine z_if_ne 32 dX11_person_27 (by decide) (fun c8 => ?_) (fun c8 => ?_)
    · refine z_iconst (v := 0) dX11_person_30 rfl ?_
      exact z_ireturn dX11_person_31 z_rWI rfl (by decide) (by decide)
    · refine z_aload_n (i := 0) (x := 40) dX11_person_32 rfl rfl ?_
      refine z_cWV (As := [.ref 40]) (rest := []) (em_X11_take hl hW N a_7.2) (fun o7 h => z_runV 308 0 h rfl kk_X11_308 hs40 kl_11.1 kq_X11_take rfl (Nat.le_of_ble_eq_true rfl) ⟨Nat.le_of_ble_eq_true rfl, Nat.le_of_ble_eq_true rfl, Nat.le_of_ble_eq_true rfl, Nat.le_of_ble_eq_true rfl⟩ dX11_person_33) z_gWI (fun a_10 hz9 => ?_)
      refine z_iload_n (i := 2) (x := a1) dX11_person_36 rfl rfl ?_
      refine z_iconst (v := 2) dX11_person_37 rfl ?_
      refine z_icmp_ge 64 dX11_person_38 (by decide) (fun c11 => ?_) (fun c11 => ?_)
      · refine z_iload_n (i := 2) (x := a1) dX11_person_64 rfl rfl ?_
        refine z_iconst (v := 4) dX11_person_65 rfl ?_
        refine z_icmp_ge 92 dX11_person_66 (by decide) (fun c12 => ?_) (fun c12 => ?_)
        · refine z_iload_n (i := 2) (x := a1) dX11_person_92 rfl rfl ?_
          refine z_bipush (v := 6) dX11_person_93 (by decide) ?_
          refine z_icmp_ge 125 dX11_person_95 (by decide) (fun c13 => ?_) (fun c13 => ?_)
          · refine z_iload_n (i := 2) (x := a1) dX11_person_125 rfl rfl ?_
            refine z_bipush (v := 6) dX11_person_126 (by decide) ?_
            refine z_icmp_ne 143 dX11_person_128 (by decide) (fun c14 => ?_) (fun c14 => ?_)
            · refine z_aload_n (i := 0) (x := 40) dX11_person_131 rfl rfl ?_
              refine z_getR (j := 39) dX11_person_132 kl_11 hs40 (by decide) rfl rfl kf_X11_68 ?_
              refine z_bipush (v := 24) dX11_person_135 (by decide) ?_
              refine z_iload_n (i := 1) (x := a0) dX11_person_137 rfl rfl ?_
              refine z_iadd dX11_person_138 ?_
              refine z_iald dX11_person_139 hs58 ?_
              refine z_goto 156 dX11_person_140 (by decide) ?_
              exact z_ireturn dX11_person_156 z_rWI rfl (by decide) (by decide)
            · refine z_aload_n (i := 0) (x := 40) dX11_person_143 rfl rfl ?_
              refine z_iload_n (i := 1) (x := a0) dX11_person_144 rfl rfl ?_
              refine z_cWI (As := [.ref 40, .int a0]) (rest := []) (em_X11_isSitting hl hW N a0 a_10) (fun o7 h => z_runV 349 1 h rfl kk_X11_349 hs40 kl_11.1 kq_X11_isSitting rfl (Nat.le_of_ble_eq_true rfl) ⟨Nat.le_of_ble_eq_true rfl, Nat.le_of_ble_eq_true rfl, Nat.le_of_ble_eq_true rfl, Nat.le_of_ble_eq_true rfl⟩ dX11_person_145) z_gWI (fun a_16 hz15 => ?_)
              refine z_if_eq 155 dX11_person_148 (by decide) (fun c17 => ?_) (fun c17 => ?_)
              · refine z_iconst (v := 0) dX11_person_155 rfl ?_
                exact z_ireturn dX11_person_156 z_rWI rfl (by decide) (by decide)
              · refine z_iconst (v := 1) dX11_person_151 rfl ?_
                refine z_goto 156 dX11_person_152 (by decide) ?_
                exact z_ireturn dX11_person_156 z_rWI rfl (by decide) (by decide)
          · refine z_iload_n (i := 2) (x := a1) dX11_person_98 rfl rfl ?_
            refine z_iconst (v := 4) dX11_person_99 rfl ?_
            refine z_icmp_ne 115 dX11_person_100 (by decide) (fun c18 => ?_) (fun c18 => ?_)
            · refine z_aload_n (i := 0) (x := 40) dX11_person_103 rfl rfl ?_
              refine z_getR (j := 39) dX11_person_104 kl_11 hs40 (by decide) rfl rfl kf_X11_68 ?_
              refine z_bipush (v := 40) dX11_person_107 (by decide) ?_
              refine z_iload_n (i := 1) (x := a0) dX11_person_109 rfl rfl ?_
              refine z_iadd dX11_person_110 ?_
              refine z_iald dX11_person_111 hs58 ?_
              refine z_goto 124 dX11_person_112 (by decide) ?_
              exact z_ireturn dX11_person_124 z_rWI rfl (by decide) (by decide)
            · refine z_aload_n (i := 0) (x := 40) dX11_person_115 rfl rfl ?_
              refine z_getR (j := 39) dX11_person_116 kl_11 hs40 (by decide) rfl rfl kf_X11_68 ?_
              refine z_bipush (v := 32) dX11_person_119 (by decide) ?_
              refine z_iload_n (i := 1) (x := a0) dX11_person_121 rfl rfl ?_
              refine z_iadd dX11_person_122 ?_
              refine z_iald dX11_person_123 hs58 ?_
              exact z_ireturn dX11_person_124 z_rWI rfl (by decide) (by decide)
        · refine z_iload_n (i := 2) (x := a1) dX11_person_69 rfl rfl ?_
          refine z_iconst (v := 2) dX11_person_70 rfl ?_
          refine z_icmp_ne 82 dX11_person_71 (by decide) (fun c19 => ?_) (fun c19 => ?_)
          · refine z_aload_n (i := 0) (x := 40) dX11_person_74 rfl rfl ?_
            refine z_iload_n (i := 1) (x := a0) dX11_person_75 rfl rfl ?_
            refine z_cR (As := [.ref 40, .int a0]) (rest := []) (em_X11_shadeOf hl hW a0 a_10) (fun o7 h => z_runV 339 1 h rfl kk_X11_339 hs40 kl_11.1 kq_X11_shadeOf rfl (Nat.le_of_ble_eq_true rfl) ⟨Nat.le_of_ble_eq_true rfl, Nat.le_of_ble_eq_true rfl, Nat.le_of_ble_eq_true rfl, Nat.le_of_ble_eq_true rfl⟩ dX11_person_76) z_gWI (fun a_21 hz20 => ?_)
            refine z_goto 91 dX11_person_79 (by decide) ?_
            exact z_ireturn dX11_person_91 z_rWI rfl (by decide) (by decide)
          · refine z_aload_n (i := 0) (x := 40) dX11_person_82 rfl rfl ?_
            refine z_aload_n (i := 0) (x := 40) dX11_person_83 rfl rfl ?_
            refine z_iload_n (i := 1) (x := a0) dX11_person_84 rfl rfl ?_
            refine z_cR (As := [.ref 40, .int a0]) (rest := [.ref 40]) (em_X11_shadeOf hl hW a0 a_10) (fun o7 h => z_runV 339 1 h rfl kk_X11_339 hs40 kl_11.1 kq_X11_shadeOf rfl (Nat.le_of_ble_eq_true rfl) ⟨Nat.le_of_ble_eq_true rfl, Nat.le_of_ble_eq_true rfl, Nat.le_of_ble_eq_true rfl, Nat.le_of_ble_eq_true rfl⟩ dX11_person_85) z_gWI (fun a_23 hz22 => ?_)
            refine z_cR (As := [.ref 40, .int a_23]) (rest := []) (em_X11_seemsOf hl hW N a_23 a_10) (fun o7 h => z_runV 342 1 h rfl kk_X11_342 hs40 kl_11.1 kq_X11_seemsOf rfl (Nat.le_of_ble_eq_true rfl) ⟨Nat.le_of_ble_eq_true rfl, Nat.le_of_ble_eq_true rfl, Nat.le_of_ble_eq_true rfl, Nat.le_of_ble_eq_true rfl⟩ dX11_person_88) z_gWI (fun a_25 hz24 => ?_)
            exact z_ireturn dX11_person_91 z_rWI rfl (by decide) (by decide)
      · refine z_iload_n (i := 2) (x := a1) dX11_person_41 rfl rfl ?_
        refine z_if_ne 54 dX11_person_42 (by decide) (fun c26 => ?_) (fun c26 => ?_)
        · refine z_aload_n (i := 0) (x := 40) dX11_person_45 rfl rfl ?_
          refine z_getR (j := 15) dX11_person_46 kl_11 hs40 (by decide) rfl rfl kf_X11_38 ?_
          refine z_iload_n (i := 1) (x := a0) dX11_person_49 rfl rfl ?_
          refine z_iald dX11_person_50 hs48 ?_
          refine z_goto 63 dX11_person_51 (by decide) ?_
          exact z_ireturn dX11_person_63 z_rWI rfl (by decide) (by decide)
        · refine z_aload_n (i := 0) (x := 40) dX11_person_54 rfl rfl ?_
          refine z_getR (j := 39) dX11_person_55 kl_11 hs40 (by decide) rfl rfl kf_X11_68 ?_
          refine z_bipush (v := 48) dX11_person_58 (by decide) ?_
          refine z_iload_n (i := 1) (x := a0) dX11_person_60 rfl rfl ?_
          refine z_iadd dX11_person_61 ?_
          refine z_iald dX11_person_62 hs58 ?_
          exact z_ireturn dX11_person_63 z_rWI rfl (by decide) (by decide)

def F_X11_isDye (a0 : Int32) : Int32 :=
  if a0 < 0 then (0)
  else (if 3 ≤ a0 then (0)
  else (1))
set_option maxRecDepth 100000 in
set_option maxHeartbeats 4000000 in
theorem em_X11_isDye {l : Launch} {S : List z_Shp} (hl : l.stackTraces = false) (a0 : Int32) (D : z_Dat) : ∀ out, z_kt (z_kR S D) (F_X11_isDye a0) out → z_EM l M_X11_isDye (20, 520, 0, 0) [.int a0] S D out := by
  refine z_meth hl rfl kp_X11 (Nat.le_of_ble_eq_true rfl) (lv := [some (.int a0)]) rfl ?_
  unfold F_X11_isDye
  refine z_iload_n (i := 0) (x := a0) dX11_isDye_0 rfl rfl ?_
  refine z_if_lt 13 dX11_isDye_1 (by decide) (fun c1 => ?_) (fun c1 => ?_)
  · refine z_iconst (v := 0) dX11_isDye_13 rfl ?_
    exact z_ireturn dX11_isDye_14 z_rP rfl (by decide) (by decide)
  · refine z_iload_n (i := 0) (x := a0) dX11_isDye_4 rfl rfl ?_
    refine z_iconst (v := 3) dX11_isDye_5 rfl ?_
    refine z_icmp_ge 13 dX11_isDye_6 (by decide) (fun c2 => ?_) (fun c2 => ?_)
    · refine z_iconst (v := 0) dX11_isDye_13 rfl ?_
      exact z_ireturn dX11_isDye_14 z_rP rfl (by decide) (by decide)
    · refine z_iconst (v := 1) dX11_isDye_9 rfl ?_
      refine z_goto 14 dX11_isDye_10 (by decide) ?_
      exact z_ireturn dX11_isDye_14 z_rP rfl (by decide) (by decide)

def F_X11_isShade (a0 : Int32) : Int32 :=
  if a0 < 0 then (0)
  else (if 1000 ≤ a0 then (0)
  else (1))
set_option maxRecDepth 100000 in
set_option maxHeartbeats 4000000 in
theorem em_X11_isShade {l : Launch} {S : List z_Shp} (hl : l.stackTraces = false) (a0 : Int32) (D : z_Dat) : ∀ out, z_kt (z_kR S D) (F_X11_isShade a0) out → z_EM l M_X11_isShade (20, 520, 0, 0) [.int a0] S D out := by
  refine z_meth hl rfl kp_X11 (Nat.le_of_ble_eq_true rfl) (lv := [some (.int a0)]) rfl ?_
  unfold F_X11_isShade
  refine z_iload_n (i := 0) (x := a0) dX11_isShade_0 rfl rfl ?_
  refine z_if_lt 15 dX11_isShade_1 (by decide) (fun c1 => ?_) (fun c1 => ?_)
  · refine z_iconst (v := 0) dX11_isShade_15 rfl ?_
    exact z_ireturn dX11_isShade_16 z_rP rfl (by decide) (by decide)
  · refine z_iload_n (i := 0) (x := a0) dX11_isShade_4 rfl rfl ?_
    refine z_sipush (v := 1000) dX11_isShade_5 (by decide) ?_
    refine z_icmp_ge 15 dX11_isShade_8 (by decide) (fun c2 => ?_) (fun c2 => ?_)
    · refine z_iconst (v := 0) dX11_isShade_15 rfl ?_
      exact z_ireturn dX11_isShade_16 z_rP rfl (by decide) (by decide)
    · refine z_iconst (v := 1) dX11_isShade_11 rfl ?_
      refine z_goto 16 dX11_isShade_12 (by decide) ?_
      exact z_ireturn dX11_isShade_16 z_rP rfl (by decide) (by decide)

def F_X11_stock (a0 : Int32) (D : z_Dat) : Option (Int32 × z_Dat) :=
  z_let (z_up D 40 0 0) (fun D1 => z_bd (F_X11_may (F_X11_isDye a0) 1 0 D1) (fun a_4 => if a_4.1 = 0 then (some (0, a_4.2))
  else (if z_inb (56 + a0) 60 then (some (a_4.2 57 (z_ix (56 + a0)), a_4.2)) else none)))
set_option maxRecDepth 100000 in
set_option maxHeartbeats 4000000 in
theorem em_X11_stock {l : Launch} {S : List z_Shp} {oW : Nat} (hl : l.stackTraces = false) (hW : z_W S oW) (a0 : Int32) (D : z_Dat) : ∀ out, z_ko (z_kI S) (F_X11_stock a0 D) out → z_EM l M_X11_stock (30, 580, 0, 0) [.ref 40, .int a0] S D out := by
  have hs40 : S[40]? = some (13, 55, [none, some (some 41), none, none, none, none, none, none, none, some (some 42), some (some 43), some (some 44), some (some 45), some (some 46), some (some 47), some (some 48), none, none, none, none, none, none, some (some 49), some (some 50), some (some 51), some (some 52), some (some 53), none, none, some (some 54), some (some 55), some (some 56), none, none, none, none, none, none, some (some 57), some (some 58), some (some 59), some (some 60), some (some 61), none, some (some 62), some (some 63), none, none, some (some 64), some (some 65), none, none, none, some (some 66), none]) := hW.1 40 _ rfl
  have hs57 : S[57]? = some (0, 60, []) := hW.1 57 _ rfl
  refine z_meth hl rfl kp_X11 (Nat.le_of_ble_eq_true rfl) (lv := [some (.ref 40), some (.int a0)]) rfl ?_
  unfold F_X11_stock
  refine z_aload_n (i := 0) (x := 40) dX11_stock_0 rfl rfl ?_
  refine z_iconst (v := 0) dX11_stock_1 rfl ?_
  refine z_putI (j := 0) dX11_stock_2 kl_11 tyX11_ok nmX11 hs40 (by decide) rfl rfl rfl rfl rfl rfl kf_X11_3 (fun D1 => ?_)
  refine z_aload_n (i := 0) (x := 40) dX11_stock_5 rfl rfl ?_
  refine z_iload_n (i := 1) (x := a0) dX11_stock_6 rfl rfl ?_
  refine z_cP (As := [.int a0]) (rest := [.ref 40]) (em_X11_isDye hl a0 D1) (fun o7 h => z_runS 394 1 h rfl kk_X11_394 kq_X11_isDye rfl (Nat.le_of_ble_eq_true rfl) ⟨Nat.le_of_ble_eq_true rfl, Nat.le_of_ble_eq_true rfl, Nat.le_of_ble_eq_true rfl, Nat.le_of_ble_eq_true rfl⟩ dX11_stock_7) z_gWI (fun hz2 => ?_)
  refine z_iconst (v := 1) dX11_stock_10 rfl ?_
  refine z_iconst (v := 0) dX11_stock_11 rfl ?_
  refine z_cWI (As := [.ref 40, .int (F_X11_isDye a0), .int 1, .int 0]) (rest := []) (em_X11_may hl hW (F_X11_isDye a0) 1 0 D1) (fun o7 h => z_runV 198 3 h rfl kk_X11_198 hs40 kl_11.1 kq_X11_may rfl (Nat.le_of_ble_eq_true rfl) ⟨Nat.le_of_ble_eq_true rfl, Nat.le_of_ble_eq_true rfl, Nat.le_of_ble_eq_true rfl, Nat.le_of_ble_eq_true rfl⟩ dX11_stock_12) z_gWI (fun a_4 hz3 => ?_)
  refine z_if_eq 30 dX11_stock_15 (by decide) (fun c5 => ?_) (fun c5 => ?_)
  · refine z_iconst (v := 0) dX11_stock_30 rfl ?_
    exact z_ireturn dX11_stock_31 z_rWI rfl (by decide) (by decide)
  · refine z_aload_n (i := 0) (x := 40) dX11_stock_18 rfl rfl ?_
    refine z_getR (j := 38) dX11_stock_19 kl_11 hs40 (by decide) rfl rfl kf_X11_65 ?_
    refine z_bipush (v := 56) dX11_stock_22 (by decide) ?_
    refine z_iload_n (i := 1) (x := a0) dX11_stock_24 rfl rfl ?_
    refine z_iadd dX11_stock_25 ?_
    refine z_iald dX11_stock_26 hs57 ?_
    refine z_goto 31 dX11_stock_27 (by decide) ?_
    exact z_ireturn dX11_stock_31 z_rWI rfl (by decide) (by decide)

def F_X11_would_J72 (N : Nat) (a0 : Int32) (a1 : Int32) (a2 : Int32) (a3 : Int32) (a4 : Int32) (a5 : Int32) (D5 : z_Dat) : Option (Int32 × z_Dat) :=
  z_bd (F_X11_may 0 1 1 D5) (fun a_7 => if a_7.1 = 0 then (some (0, a_7.2))
  else (z_bd (F_X11_sitsBy N a0 a1 a2 a3 a4 a5 a_7.2) (fun a_10 => some (a_10.1, a_10.2))))
def F_X11_would_J71 (N : Nat) (a0 : Int32) (a1 : Int32) (a2 : Int32) (a3 : Int32) (a4 : Int32) (a5 : Int32) (D4 : z_Dat) : Option (Int32 × z_Dat) :=
  F_X11_would_J72 N a0 a1 a2 a3 a4 a5 D4
def F_X11_would_J72x (N : Nat) (a0 : Int32) (a1 : Int32) (a2 : Int32) (a3 : Int32) (a4 : Int32) (a5 : Int32) (D21 : z_Dat) : Option (Int32 × z_Dat) :=
  z_bd (F_X11_may 1 1 1 D21) (fun a_23 => if a_23.1 = 0 then (some (0, a_23.2))
  else (z_bd (F_X11_sitsBy N a0 a1 a2 a3 a4 a5 a_23.2) (fun a_26 => some (a_26.1, a_26.2))))
def F_X11_would (N : Nat) (a0 : Int32) (a1 : Int32) (a2 : Int32) (a3 : Int32) (a4 : Int32) (a5 : Int32) (D : z_Dat) : Option (Int32 × z_Dat) :=
  z_let (z_up D 40 0 0) (fun D1 => if (F_X11_isShade a0) = 0 then (F_X11_would_J71 N a0 a1 a2 a3 a4 a5 D1)
  else (if (F_X11_within a1 0 400) = 0 then (F_X11_would_J71 N a0 a1 a2 a3 a4 a5 D1)
  else (if (F_X11_within a2 0 9) = 0 then (F_X11_would_J71 N a0 a1 a2 a3 a4 a5 D1)
  else (if (F_X11_within a3 0 99) = 0 then (F_X11_would_J71 N a0 a1 a2 a3 a4 a5 D1)
  else (if (F_X11_within a4 0 300) = 0 then (F_X11_would_J71 N a0 a1 a2 a3 a4 a5 D1)
  else (if (F_X11_within a5 0 1) = 0 then (F_X11_would_J71 N a0 a1 a2 a3 a4 a5 D1)
  else (F_X11_would_J72x N a0 a1 a2 a3 a4 a5 D1)))))))
set_option maxRecDepth 100000 in
set_option maxHeartbeats 4000000 in
theorem em_X11_would {l : Launch} {S : List z_Shp} {oW : Nat} (hl : l.stackTraces = false) (hW : z_W S oW) (N : Nat) (a0 : Int32) (a1 : Int32) (a2 : Int32) (a3 : Int32) (a4 : Int32) (a5 : Int32) (D : z_Dat) : ∀ out, z_ko (z_kI S) (F_X11_would N a0 a1 a2 a3 a4 a5 D) out → z_EM l M_X11_would (60, 760, 0, 0) [.ref 40, .int a0, .int a1, .int a2, .int a3, .int a4, .int a5] S D out := by
  have hs40 : S[40]? = some (13, 55, [none, some (some 41), none, none, none, none, none, none, none, some (some 42), some (some 43), some (some 44), some (some 45), some (some 46), some (some 47), some (some 48), none, none, none, none, none, none, some (some 49), some (some 50), some (some 51), some (some 52), some (some 53), none, none, some (some 54), some (some 55), some (some 56), none, none, none, none, none, none, some (some 57), some (some 58), some (some 59), some (some 60), some (some 61), none, some (some 62), some (some 63), none, none, some (some 64), some (some 65), none, none, none, some (some 66), none]) := hW.1 40 _ rfl
  refine z_meth hl rfl kp_X11 (Nat.le_of_ble_eq_true rfl) (lv := [some (.ref 40), some (.int a0), some (.int a1), some (.int a2), some (.int a3), some (.int a4), some (.int a5)]) rfl ?_
  unfold F_X11_would
  have hJ_F_X11_would_J72 : ∀ (D5 : z_Dat) , z_F l M_X11_would (60, 760, 0, 0) 0 0 72 [some (.ref 40), some (.int a0), some (.int a1), some (.int a2), some (.int a3), some (.int a4), some (.int a5)] [.int 0, .ref 40] S D5 (z_ko (z_kI S)) (F_X11_would_J72 N a0 a1 a2 a3 a4 a5 D5) := by
    intro D5
    unfold F_X11_would_J72
    refine z_iconst (v := 1) dX11_would_72 rfl ?_
    refine z_iconst (v := 1) dX11_would_73 rfl ?_
    refine z_cWI (As := [.ref 40, .int 0, .int 1, .int 1]) (rest := []) (em_X11_may hl hW 0 1 1 D5) (fun o7 h => z_runV 198 3 h rfl kk_X11_198 hs40 kl_11.1 kq_X11_may rfl (Nat.le_of_ble_eq_true rfl) ⟨Nat.le_of_ble_eq_true rfl, Nat.le_of_ble_eq_true rfl, Nat.le_of_ble_eq_true rfl, Nat.le_of_ble_eq_true rfl⟩ dX11_would_74) z_gWI (fun a_7 hz6 => ?_)
    refine z_if_ne 82 dX11_would_77 (by decide) (fun c8 => ?_) (fun c8 => ?_)
    · refine z_iconst (v := 0) dX11_would_80 rfl ?_
      exact z_ireturn dX11_would_81 z_rWI rfl (by decide) (by decide)
    · refine z_aload_n (i := 0) (x := 40) dX11_would_82 rfl rfl ?_
      refine z_iload_n (i := 1) (x := a0) dX11_would_83 rfl rfl ?_
      refine z_iload_n (i := 2) (x := a1) dX11_would_84 rfl rfl ?_
      refine z_iload_n (i := 3) (x := a2) dX11_would_85 rfl rfl ?_
      refine z_iload (i := 4) (x := a3) dX11_would_86 rfl ?_
      refine z_iload (i := 5) (x := a4) dX11_would_88 rfl ?_
      refine z_iload (i := 6) (x := a5) dX11_would_90 rfl ?_
      refine z_cWI (As := [.ref 40, .int a0, .int a1, .int a2, .int a3, .int a4, .int a5]) (rest := []) (em_X11_sitsBy hl hW N a0 a1 a2 a3 a4 a5 a_7.2) (fun o7 h => z_runV 345 6 h rfl kk_X11_345 hs40 kl_11.1 kq_X11_sitsBy rfl (Nat.le_of_ble_eq_true rfl) ⟨Nat.le_of_ble_eq_true rfl, Nat.le_of_ble_eq_true rfl, Nat.le_of_ble_eq_true rfl, Nat.le_of_ble_eq_true rfl⟩ dX11_would_92) z_gWI (fun a_10 hz9 => ?_)
      exact z_ireturn dX11_would_95 z_rWI hz9 (by decide) (by decide)
  have hJ_F_X11_would_J71 : ∀ (D4 : z_Dat) , z_F l M_X11_would (60, 760, 0, 0) 0 0 71 [some (.ref 40), some (.int a0), some (.int a1), some (.int a2), some (.int a3), some (.int a4), some (.int a5)] [.ref 40] S D4 (z_ko (z_kI S)) (F_X11_would_J71 N a0 a1 a2 a3 a4 a5 D4) := by
    intro D4
    unfold F_X11_would_J71
    refine z_iconst (v := 0) dX11_would_71 rfl ?_
    exact hJ_F_X11_would_J72 D4
  have hJ_F_X11_would_J72x : ∀ (D21 : z_Dat) , z_F l M_X11_would (60, 760, 0, 0) 0 0 72 [some (.ref 40), some (.int a0), some (.int a1), some (.int a2), some (.int a3), some (.int a4), some (.int a5)] [.int 1, .ref 40] S D21 (z_ko (z_kI S)) (F_X11_would_J72x N a0 a1 a2 a3 a4 a5 D21) := by
    intro D21
    unfold F_X11_would_J72x
    refine z_iconst (v := 1) dX11_would_72 rfl ?_
    refine z_iconst (v := 1) dX11_would_73 rfl ?_
    refine z_cWI (As := [.ref 40, .int 1, .int 1, .int 1]) (rest := []) (em_X11_may hl hW 1 1 1 D21) (fun o7 h => z_runV 198 3 h rfl kk_X11_198 hs40 kl_11.1 kq_X11_may rfl (Nat.le_of_ble_eq_true rfl) ⟨Nat.le_of_ble_eq_true rfl, Nat.le_of_ble_eq_true rfl, Nat.le_of_ble_eq_true rfl, Nat.le_of_ble_eq_true rfl⟩ dX11_would_74) z_gWI (fun a_23 hz22 => ?_)
    refine z_if_ne 82 dX11_would_77 (by decide) (fun c24 => ?_) (fun c24 => ?_)
    · refine z_iconst (v := 0) dX11_would_80 rfl ?_
      exact z_ireturn dX11_would_81 z_rWI rfl (by decide) (by decide)
    · refine z_aload_n (i := 0) (x := 40) dX11_would_82 rfl rfl ?_
      refine z_iload_n (i := 1) (x := a0) dX11_would_83 rfl rfl ?_
      refine z_iload_n (i := 2) (x := a1) dX11_would_84 rfl rfl ?_
      refine z_iload_n (i := 3) (x := a2) dX11_would_85 rfl rfl ?_
      refine z_iload (i := 4) (x := a3) dX11_would_86 rfl ?_
      refine z_iload (i := 5) (x := a4) dX11_would_88 rfl ?_
      refine z_iload (i := 6) (x := a5) dX11_would_90 rfl ?_
      refine z_cWI (As := [.ref 40, .int a0, .int a1, .int a2, .int a3, .int a4, .int a5]) (rest := []) (em_X11_sitsBy hl hW N a0 a1 a2 a3 a4 a5 a_23.2) (fun o7 h => z_runV 345 6 h rfl kk_X11_345 hs40 kl_11.1 kq_X11_sitsBy rfl (Nat.le_of_ble_eq_true rfl) ⟨Nat.le_of_ble_eq_true rfl, Nat.le_of_ble_eq_true rfl, Nat.le_of_ble_eq_true rfl, Nat.le_of_ble_eq_true rfl⟩ dX11_would_92) z_gWI (fun a_26 hz25 => ?_)
      exact z_ireturn dX11_would_95 z_rWI hz25 (by decide) (by decide)
  refine z_aload_n (i := 0) (x := 40) dX11_would_0 rfl rfl ?_
  refine z_iconst (v := 0) dX11_would_1 rfl ?_
  refine z_putI (j := 0) dX11_would_2 kl_11 tyX11_ok nmX11 hs40 (by decide) rfl rfl rfl rfl rfl rfl kf_X11_3 (fun D1 => ?_)
  refine z_aload_n (i := 0) (x := 40) dX11_would_5 rfl rfl ?_
  refine z_iload_n (i := 1) (x := a0) dX11_would_6 rfl rfl ?_
  refine z_cP (As := [.int a0]) (rest := [.ref 40]) (em_X11_isShade hl a0 D1) (fun o7 h => z_runS 397 1 h rfl kk_X11_397 kq_X11_isShade rfl (Nat.le_of_ble_eq_true rfl) ⟨Nat.le_of_ble_eq_true rfl, Nat.le_of_ble_eq_true rfl, Nat.le_of_ble_eq_true rfl, Nat.le_of_ble_eq_true rfl⟩ dX11_would_7) z_gWI (fun hz2 => ?_)
  refine z_if_eq 71 dX11_would_10 (by decide) (fun c3 => ?_) (fun c3 => ?_)
  · exact hJ_F_X11_would_J71 D1
  · refine z_iload_n (i := 2) (x := a1) dX11_would_13 rfl rfl ?_
    refine z_iconst (v := 0) dX11_would_14 rfl ?_
    refine z_sipush (v := 400) dX11_would_15 (by decide) ?_
    refine z_cP (As := [.int a1, .int 0, .int 400]) (rest := [.ref 40]) (em_X11_within hl a1 0 400 D1) (fun o7 h => z_runS 376 3 h rfl kk_X11_376 kq_X11_within rfl (Nat.le_of_ble_eq_true rfl) ⟨Nat.le_of_ble_eq_true rfl, Nat.le_of_ble_eq_true rfl, Nat.le_of_ble_eq_true rfl, Nat.le_of_ble_eq_true rfl⟩ dX11_would_18) z_gWI (fun hz11 => ?_)
    refine z_if_eq 71 dX11_would_21 (by decide) (fun c12 => ?_) (fun c12 => ?_)
    · exact hJ_F_X11_would_J71 D1
    · refine z_iload_n (i := 3) (x := a2) dX11_would_24 rfl rfl ?_
      refine z_iconst (v := 0) dX11_would_25 rfl ?_
      refine z_bipush (v := 9) dX11_would_26 (by decide) ?_
      refine z_cP (As := [.int a2, .int 0, .int 9]) (rest := [.ref 40]) (em_X11_within hl a2 0 9 D1) (fun o7 h => z_runS 376 3 h rfl kk_X11_376 kq_X11_within rfl (Nat.le_of_ble_eq_true rfl) ⟨Nat.le_of_ble_eq_true rfl, Nat.le_of_ble_eq_true rfl, Nat.le_of_ble_eq_true rfl, Nat.le_of_ble_eq_true rfl⟩ dX11_would_28) z_gWI (fun hz13 => ?_)
      refine z_if_eq 71 dX11_would_31 (by decide) (fun c14 => ?_) (fun c14 => ?_)
      · exact hJ_F_X11_would_J71 D1
      · refine z_iload (i := 4) (x := a3) dX11_would_34 rfl ?_
        refine z_iconst (v := 0) dX11_would_36 rfl ?_
        refine z_bipush (v := 99) dX11_would_37 (by decide) ?_
        refine z_cP (As := [.int a3, .int 0, .int 99]) (rest := [.ref 40]) (em_X11_within hl a3 0 99 D1) (fun o7 h => z_runS 376 3 h rfl kk_X11_376 kq_X11_within rfl (Nat.le_of_ble_eq_true rfl) ⟨Nat.le_of_ble_eq_true rfl, Nat.le_of_ble_eq_true rfl, Nat.le_of_ble_eq_true rfl, Nat.le_of_ble_eq_true rfl⟩ dX11_would_39) z_gWI (fun hz15 => ?_)
        refine z_if_eq 71 dX11_would_42 (by decide) (fun c16 => ?_) (fun c16 => ?_)
        · exact hJ_F_X11_would_J71 D1
        · refine z_iload (i := 5) (x := a4) dX11_would_45 rfl ?_
          refine z_iconst (v := 0) dX11_would_47 rfl ?_
          refine z_sipush (v := 300) dX11_would_48 (by decide) ?_
          refine z_cP (As := [.int a4, .int 0, .int 300]) (rest := [.ref 40]) (em_X11_within hl a4 0 300 D1) (fun o7 h => z_runS 376 3 h rfl kk_X11_376 kq_X11_within rfl (Nat.le_of_ble_eq_true rfl) ⟨Nat.le_of_ble_eq_true rfl, Nat.le_of_ble_eq_true rfl, Nat.le_of_ble_eq_true rfl, Nat.le_of_ble_eq_true rfl⟩ dX11_would_51) z_gWI (fun hz17 => ?_)
          refine z_if_eq 71 dX11_would_54 (by decide) (fun c18 => ?_) (fun c18 => ?_)
          · exact hJ_F_X11_would_J71 D1
          · refine z_iload (i := 6) (x := a5) dX11_would_57 rfl ?_
            refine z_iconst (v := 0) dX11_would_59 rfl ?_
            refine z_iconst (v := 1) dX11_would_60 rfl ?_
            refine z_cP (As := [.int a5, .int 0, .int 1]) (rest := [.ref 40]) (em_X11_within hl a5 0 1 D1) (fun o7 h => z_runS 376 3 h rfl kk_X11_376 kq_X11_within rfl (Nat.le_of_ble_eq_true rfl) ⟨Nat.le_of_ble_eq_true rfl, Nat.le_of_ble_eq_true rfl, Nat.le_of_ble_eq_true rfl, Nat.le_of_ble_eq_true rfl⟩ dX11_would_61) z_gWI (fun hz19 => ?_)
            refine z_if_eq 71 dX11_would_64 (by decide) (fun c20 => ?_) (fun c20 => ?_)
            · exact hJ_F_X11_would_J71 D1
            · refine z_iconst (v := 1) dX11_would_67 rfl ?_
              refine z_goto 72 dX11_would_68 (by decide) ?_
              exact hJ_F_X11_would_J72x D1

def F_X11_distance_J25 (a0 : Int32) (a1 : Int32) (D5 : z_Dat) : Option (Int32 × z_Dat) :=
  z_bd (F_X11_may 0 1 1 D5) (fun a_7 => if a_7.1 = 0 then (some (0, a_7.2))
  else (some (F_X11_apart a0 a1, a_7.2)))
def F_X11_distance_J24 (a0 : Int32) (a1 : Int32) (D4 : z_Dat) : Option (Int32 × z_Dat) :=
  F_X11_distance_J25 a0 a1 D4
def F_X11_distance_J25x (a0 : Int32) (a1 : Int32) (D12 : z_Dat) : Option (Int32 × z_Dat) :=
  z_bd (F_X11_may 1 1 1 D12) (fun a_14 => if a_14.1 = 0 then (some (0, a_14.2))
  else (some (F_X11_apart a0 a1, a_14.2)))
def F_X11_distance (a0 : Int32) (a1 : Int32) (D : z_Dat) : Option (Int32 × z_Dat) :=
  z_let (z_up D 40 0 0) (fun D1 => if (F_X11_isShade a0) = 0 then (F_X11_distance_J24 a0 a1 D1)
  else (if (F_X11_isShade a1) = 0 then (F_X11_distance_J24 a0 a1 D1)
  else (F_X11_distance_J25x a0 a1 D1)))
set_option maxRecDepth 100000 in
set_option maxHeartbeats 4000000 in
theorem em_X11_distance {l : Launch} {S : List z_Shp} {oW : Nat} (hl : l.stackTraces = false) (hW : z_W S oW) (a0 : Int32) (a1 : Int32) (D : z_Dat) : ∀ out, z_ko (z_kI S) (F_X11_distance a0 a1 D) out → z_EM l M_X11_distance (40, 640, 0, 0) [.ref 40, .int a0, .int a1] S D out := by
  have hs40 : S[40]? = some (13, 55, [none, some (some 41), none, none, none, none, none, none, none, some (some 42), some (some 43), some (some 44), some (some 45), some (some 46), some (some 47), some (some 48), none, none, none, none, none, none, some (some 49), some (some 50), some (some 51), some (some 52), some (some 53), none, none, some (some 54), some (some 55), some (some 56), none, none, none, none, none, none, some (some 57), some (some 58), some (some 59), some (some 60), some (some 61), none, some (some 62), some (some 63), none, none, some (some 64), some (some 65), none, none, none, some (some 66), none]) := hW.1 40 _ rfl
  refine z_meth hl rfl kp_X11 (Nat.le_of_ble_eq_true rfl) (lv := [some (.ref 40), some (.int a0), some (.int a1)]) rfl ?_
  unfold F_X11_distance
  have hJ_F_X11_distance_J25 : ∀ (D5 : z_Dat) , z_F l M_X11_distance (40, 640, 0, 0) 0 0 25 [none, some (.int a0), some (.int a1)] [.int 0, .ref 40] S D5 (z_ko (z_kI S)) (F_X11_distance_J25 a0 a1 D5) := by
    intro D5
    unfold F_X11_distance_J25
    refine z_iconst (v := 1) dX11_distance_25 rfl ?_
    refine z_iconst (v := 1) dX11_distance_26 rfl ?_
    refine z_cWI (As := [.ref 40, .int 0, .int 1, .int 1]) (rest := []) (em_X11_may hl hW 0 1 1 D5) (fun o7 h => z_runV 198 3 h rfl kk_X11_198 hs40 kl_11.1 kq_X11_may rfl (Nat.le_of_ble_eq_true rfl) ⟨Nat.le_of_ble_eq_true rfl, Nat.le_of_ble_eq_true rfl, Nat.le_of_ble_eq_true rfl, Nat.le_of_ble_eq_true rfl⟩ dX11_distance_27) z_gWI (fun a_7 hz6 => ?_)
    refine z_if_eq 41 dX11_distance_30 (by decide) (fun c8 => ?_) (fun c8 => ?_)
    · refine z_iconst (v := 0) dX11_distance_41 rfl ?_
      exact z_ireturn dX11_distance_42 z_rWI rfl (by decide) (by decide)
    · refine z_iload_n (i := 1) (x := a0) dX11_distance_33 rfl rfl ?_
      refine z_iload_n (i := 2) (x := a1) dX11_distance_34 rfl rfl ?_
      refine z_cP (As := [.int a0, .int a1]) (rest := []) (em_X11_apart hl a0 a1 a_7.2) (fun o7 h => z_runS 333 2 h rfl kk_X11_333 kq_X11_apart rfl (Nat.le_of_ble_eq_true rfl) ⟨Nat.le_of_ble_eq_true rfl, Nat.le_of_ble_eq_true rfl, Nat.le_of_ble_eq_true rfl, Nat.le_of_ble_eq_true rfl⟩ dX11_distance_35) z_gWI (fun hz9 => ?_)
      refine z_goto 42 dX11_distance_38 (by decide) ?_
      exact z_ireturn dX11_distance_42 z_rWI rfl (by decide) (by decide)
  have hJ_F_X11_distance_J24 : ∀ (D4 : z_Dat) , z_F l M_X11_distance (40, 640, 0, 0) 0 0 24 [none, some (.int a0), some (.int a1)] [.ref 40] S D4 (z_ko (z_kI S)) (F_X11_distance_J24 a0 a1 D4) := by
    intro D4
    unfold F_X11_distance_J24
    refine z_iconst (v := 0) dX11_distance_24 rfl ?_
    exact hJ_F_X11_distance_J25 D4
  have hJ_F_X11_distance_J25x : ∀ (D12 : z_Dat) , z_F l M_X11_distance (40, 640, 0, 0) 0 0 25 [none, some (.int a0), some (.int a1)] [.int 1, .ref 40] S D12 (z_ko (z_kI S)) (F_X11_distance_J25x a0 a1 D12) := by
    intro D12
    unfold F_X11_distance_J25x
    refine z_iconst (v := 1) dX11_distance_25 rfl ?_
    refine z_iconst (v := 1) dX11_distance_26 rfl ?_
    refine z_cWI (As := [.ref 40, .int 1, .int 1, .int 1]) (rest := []) (em_X11_may hl hW 1 1 1 D12) (fun o7 h => z_runV 198 3 h rfl kk_X11_198 hs40 kl_11.1 kq_X11_may rfl (Nat.le_of_ble_eq_true rfl) ⟨Nat.le_of_ble_eq_true rfl, Nat.le_of_ble_eq_true rfl, Nat.le_of_ble_eq_true rfl, Nat.le_of_ble_eq_true rfl⟩ dX11_distance_27) z_gWI (fun a_14 hz13 => ?_)
    refine z_if_eq 41 dX11_distance_30 (by decide) (fun c15 => ?_) (fun c15 => ?_)
    · refine z_iconst (v := 0) dX11_distance_41 rfl ?_
      exact z_ireturn dX11_distance_42 z_rWI rfl (by decide) (by decide)
    · refine z_iload_n (i := 1) (x := a0) dX11_distance_33 rfl rfl ?_
      refine z_iload_n (i := 2) (x := a1) dX11_distance_34 rfl rfl ?_
      refine z_cP (As := [.int a0, .int a1]) (rest := []) (em_X11_apart hl a0 a1 a_14.2) (fun o7 h => z_runS 333 2 h rfl kk_X11_333 kq_X11_apart rfl (Nat.le_of_ble_eq_true rfl) ⟨Nat.le_of_ble_eq_true rfl, Nat.le_of_ble_eq_true rfl, Nat.le_of_ble_eq_true rfl, Nat.le_of_ble_eq_true rfl⟩ dX11_distance_35) z_gWI (fun hz16 => ?_)
      refine z_goto 42 dX11_distance_38 (by decide) ?_
      exact z_ireturn dX11_distance_42 z_rWI rfl (by decide) (by decide)
  refine z_aload_n (i := 0) (x := 40) dX11_distance_0 rfl rfl ?_
  refine z_iconst (v := 0) dX11_distance_1 rfl ?_
  refine z_putI (j := 0) dX11_distance_2 kl_11 tyX11_ok nmX11 hs40 (by decide) rfl rfl rfl rfl rfl rfl kf_X11_3 (fun D1 => ?_)
  refine z_aload_n (i := 0) (x := 40) dX11_distance_5 rfl rfl ?_
  refine z_iload_n (i := 1) (x := a0) dX11_distance_6 rfl rfl ?_
  refine z_cP (As := [.int a0]) (rest := [.ref 40]) (em_X11_isShade hl a0 D1) (fun o7 h => z_runS 397 1 h rfl kk_X11_397 kq_X11_isShade rfl (Nat.le_of_ble_eq_true rfl) ⟨Nat.le_of_ble_eq_true rfl, Nat.le_of_ble_eq_true rfl, Nat.le_of_ble_eq_true rfl, Nat.le_of_ble_eq_true rfl⟩ dX11_distance_7) z_gWI (fun hz2 => ?_)
  refine z_if_eq 24 dX11_distance_10 (by decide) (fun c3 => ?_) (fun c3 => ?_)
  · refine z_weak (lv' := [none, some (.int a0), some (.int a1)]) ⟨Or.inl rfl, ⟨Or.inr rfl, ⟨Or.inr rfl, trivial⟩⟩⟩ ?_
    exact hJ_F_X11_distance_J24 D1
  · refine z_iload_n (i := 2) (x := a1) dX11_distance_13 rfl rfl ?_
    refine z_cP (As := [.int a1]) (rest := [.ref 40]) (em_X11_isShade hl a1 D1) (fun o7 h => z_runS 397 1 h rfl kk_X11_397 kq_X11_isShade rfl (Nat.le_of_ble_eq_true rfl) ⟨Nat.le_of_ble_eq_true rfl, Nat.le_of_ble_eq_true rfl, Nat.le_of_ble_eq_true rfl, Nat.le_of_ble_eq_true rfl⟩ dX11_distance_14) z_gWI (fun hz10 => ?_)
    refine z_if_eq 24 dX11_distance_17 (by decide) (fun c11 => ?_) (fun c11 => ?_)
    · refine z_weak (lv' := [none, some (.int a0), some (.int a1)]) ⟨Or.inl rfl, ⟨Or.inr rfl, ⟨Or.inr rfl, trivial⟩⟩⟩ ?_
      exact hJ_F_X11_distance_J24 D1
    · refine z_iconst (v := 1) dX11_distance_20 rfl ?_
      refine z_goto 25 dX11_distance_21 (by decide) ?_
      refine z_weak (lv' := [none, some (.int a0), some (.int a1)]) ⟨Or.inl rfl, ⟨Or.inr rfl, ⟨Or.inr rfl, trivial⟩⟩⟩ ?_
      exact hJ_F_X11_distance_J25x D1

def F_X11_seems (N : Nat) (a0 : Int32) (D : z_Dat) : Option (Int32 × z_Dat) :=
  z_let (z_up D 40 0 0) (fun D1 => z_bd (F_X11_may (F_X11_isShade a0) 1 1 D1) (fun a_4 => if a_4.1 = 0 then (some (0, a_4.2))
  else (z_bd (F_X11_seemsOf N a0 a_4.2) (fun a_7 => some (a_7, a_4.2)))))
set_option maxRecDepth 100000 in
set_option maxHeartbeats 4000000 in
theorem em_X11_seems {l : Launch} {S : List z_Shp} {oW : Nat} (hl : l.stackTraces = false) (hW : z_W S oW) (N : Nat) (a0 : Int32) (D : z_Dat) : ∀ out, z_ko (z_kI S) (F_X11_seems N a0 D) out → z_EM l M_X11_seems (50, 700, 0, 0) [.ref 40, .int a0] S D out := by
  have hs40 : S[40]? = some (13, 55, [none, some (some 41), none, none, none, none, none, none, none, some (some 42), some (some 43), some (some 44), some (some 45), some (some 46), some (some 47), some (some 48), none, none, none, none, none, none, some (some 49), some (some 50), some (some 51), some (some 52), some (some 53), none, none, some (some 54), some (some 55), some (some 56), none, none, none, none, none, none, some (some 57), some (some 58), some (some 59), some (some 60), some (some 61), none, some (some 62), some (some 63), none, none, some (some 64), some (some 65), none, none, none, some (some 66), none]) := hW.1 40 _ rfl
  refine z_meth hl rfl kp_X11 (Nat.le_of_ble_eq_true rfl) (lv := [some (.ref 40), some (.int a0)]) rfl ?_
  unfold F_X11_seems
  refine z_aload_n (i := 0) (x := 40) dX11_seems_0 rfl rfl ?_
  refine z_iconst (v := 0) dX11_seems_1 rfl ?_
  refine z_putI (j := 0) dX11_seems_2 kl_11 tyX11_ok nmX11 hs40 (by decide) rfl rfl rfl rfl rfl rfl kf_X11_3 (fun D1 => ?_)
  refine z_aload_n (i := 0) (x := 40) dX11_seems_5 rfl rfl ?_
  refine z_iload_n (i := 1) (x := a0) dX11_seems_6 rfl rfl ?_
  refine z_cP (As := [.int a0]) (rest := [.ref 40]) (em_X11_isShade hl a0 D1) (fun o7 h => z_runS 397 1 h rfl kk_X11_397 kq_X11_isShade rfl (Nat.le_of_ble_eq_true rfl) ⟨Nat.le_of_ble_eq_true rfl, Nat.le_of_ble_eq_true rfl, Nat.le_of_ble_eq_true rfl, Nat.le_of_ble_eq_true rfl⟩ dX11_seems_7) z_gWI (fun hz2 => ?_)
  refine z_iconst (v := 1) dX11_seems_10 rfl ?_
  refine z_iconst (v := 1) dX11_seems_11 rfl ?_
  refine z_cWI (As := [.ref 40, .int (F_X11_isShade a0), .int 1, .int 1]) (rest := []) (em_X11_may hl hW (F_X11_isShade a0) 1 1 D1) (fun o7 h => z_runV 198 3 h rfl kk_X11_198 hs40 kl_11.1 kq_X11_may rfl (Nat.le_of_ble_eq_true rfl) ⟨Nat.le_of_ble_eq_true rfl, Nat.le_of_ble_eq_true rfl, Nat.le_of_ble_eq_true rfl, Nat.le_of_ble_eq_true rfl⟩ dX11_seems_12) z_gWI (fun a_4 hz3 => ?_)
  refine z_if_eq 26 dX11_seems_15 (by decide) (fun c5 => ?_) (fun c5 => ?_)
  · refine z_iconst (v := 0) dX11_seems_26 rfl ?_
    exact z_ireturn dX11_seems_27 z_rWI rfl (by decide) (by decide)
  · refine z_aload_n (i := 0) (x := 40) dX11_seems_18 rfl rfl ?_
    refine z_iload_n (i := 1) (x := a0) dX11_seems_19 rfl rfl ?_
    refine z_cR (As := [.ref 40, .int a0]) (rest := []) (em_X11_seemsOf hl hW N a0 a_4.2) (fun o7 h => z_runV 342 1 h rfl kk_X11_342 hs40 kl_11.1 kq_X11_seemsOf rfl (Nat.le_of_ble_eq_true rfl) ⟨Nat.le_of_ble_eq_true rfl, Nat.le_of_ble_eq_true rfl, Nat.le_of_ble_eq_true rfl, Nat.le_of_ble_eq_true rfl⟩ dX11_seems_20) z_gWI (fun a_7 hz6 => ?_)
    refine z_goto 27 dX11_seems_23 (by decide) ?_
    exact z_ireturn dX11_seems_27 z_rWI rfl (by decide) (by decide)

def F_X11_dipped (a0 : Int32) (a1 : Int32) (D : z_Dat) : Option (Int32 × z_Dat) :=
  z_let (z_up D 40 0 0) (fun D1 => z_bd (F_X11_isStreet a1 1 D1) (fun a_3 => if a_3.1 = 0 then (some (0, a_3.2))
  else (z_bd (F_X11_may (F_X11_isShade a0) 2 1 a_3.2) (fun a_7 => if a_7.1 = 0 then (some (0, a_7.2))
  else (z_bd (F_X11_dippedIn a0 a1 a_7.2) (fun a_10 => some (a_10, a_7.2)))))))
set_option maxRecDepth 100000 in
set_option maxHeartbeats 4000000 in
theorem em_X11_dipped {l : Launch} {S : List z_Shp} {oW : Nat} (hl : l.stackTraces = false) (hW : z_W S oW) (a0 : Int32) (a1 : Int32) (D : z_Dat) : ∀ out, z_ko (z_kI S) (F_X11_dipped a0 a1 D) out → z_EM l M_X11_dipped (40, 640, 0, 0) [.ref 40, .int a0, .int a1] S D out := by
  have hs40 : S[40]? = some (13, 55, [none, some (some 41), none, none, none, none, none, none, none, some (some 42), some (some 43), some (some 44), some (some 45), some (some 46), some (some 47), some (some 48), none, none, none, none, none, none, some (some 49), some (some 50), some (some 51), some (some 52), some (some 53), none, none, some (some 54), some (some 55), some (some 56), none, none, none, none, none, none, some (some 57), some (some 58), some (some 59), some (some 60), some (some 61), none, some (some 62), some (some 63), none, none, some (some 64), some (some 65), none, none, none, some (some 66), none]) := hW.1 40 _ rfl
  refine z_meth hl rfl kp_X11 (Nat.le_of_ble_eq_true rfl) (lv := [some (.ref 40), some (.int a0), some (.int a1)]) rfl ?_
  unfold F_X11_dipped
  refine z_aload_n (i := 0) (x := 40) dX11_dipped_0 rfl rfl ?_
  refine z_iconst (v := 0) dX11_dipped_1 rfl ?_
  refine z_putI (j := 0) dX11_dipped_2 kl_11 tyX11_ok nmX11 hs40 (by decide) rfl rfl rfl rfl rfl rfl kf_X11_3 (fun D1 => ?_)
  refine z_aload_n (i := 0) (x := 40) dX11_dipped_5 rfl rfl ?_
  refine z_iload_n (i := 2) (x := a1) dX11_dipped_6 rfl rfl ?_
  refine z_iconst (v := 1) dX11_dipped_7 rfl ?_
  refine z_cWI (As := [.ref 40, .int a1, .int 1]) (rest := []) (em_X11_isStreet hl hW a1 1 D1) (fun o7 h => z_runV 388 2 h rfl kk_X11_388 hs40 kl_11.1 kq_X11_isStreet rfl (Nat.le_of_ble_eq_true rfl) ⟨Nat.le_of_ble_eq_true rfl, Nat.le_of_ble_eq_true rfl, Nat.le_of_ble_eq_true rfl, Nat.le_of_ble_eq_true rfl⟩ dX11_dipped_8) z_gWI (fun a_3 hz2 => ?_)
  refine z_if_eq 27 dX11_dipped_11 (by decide) (fun c4 => ?_) (fun c4 => ?_)
  · refine z_iconst (v := 0) dX11_dipped_27 rfl ?_
    exact z_ireturn dX11_dipped_28 z_rWI rfl (by decide) (by decide)
  · refine z_aload_n (i := 0) (x := 40) dX11_dipped_14 rfl rfl ?_
    refine z_iload_n (i := 1) (x := a0) dX11_dipped_15 rfl rfl ?_
    refine z_cP (As := [.int a0]) (rest := [.ref 40]) (em_X11_isShade hl a0 a_3.2) (fun o7 h => z_runS 397 1 h rfl kk_X11_397 kq_X11_isShade rfl (Nat.le_of_ble_eq_true rfl) ⟨Nat.le_of_ble_eq_true rfl, Nat.le_of_ble_eq_true rfl, Nat.le_of_ble_eq_true rfl, Nat.le_of_ble_eq_true rfl⟩ dX11_dipped_16) z_gWI (fun hz5 => ?_)
    refine z_iconst (v := 2) dX11_dipped_19 rfl ?_
    refine z_iconst (v := 1) dX11_dipped_20 rfl ?_
    refine z_cWI (As := [.ref 40, .int (F_X11_isShade a0), .int 2, .int 1]) (rest := []) (em_X11_may hl hW (F_X11_isShade a0) 2 1 a_3.2) (fun o7 h => z_runV 198 3 h rfl kk_X11_198 hs40 kl_11.1 kq_X11_may rfl (Nat.le_of_ble_eq_true rfl) ⟨Nat.le_of_ble_eq_true rfl, Nat.le_of_ble_eq_true rfl, Nat.le_of_ble_eq_true rfl, Nat.le_of_ble_eq_true rfl⟩ dX11_dipped_21) z_gWI (fun a_7 hz6 => ?_)
    refine z_if_ne 29 dX11_dipped_24 (by decide) (fun c8 => ?_) (fun c8 => ?_)
    · refine z_iconst (v := 0) dX11_dipped_27 rfl ?_
      exact z_ireturn dX11_dipped_28 z_rWI rfl (by decide) (by decide)
    · refine z_aload_n (i := 0) (x := 40) dX11_dipped_29 rfl rfl ?_
      refine z_iload_n (i := 1) (x := a0) dX11_dipped_30 rfl rfl ?_
      refine z_iload_n (i := 2) (x := a1) dX11_dipped_31 rfl rfl ?_
      refine z_cR (As := [.ref 40, .int a0, .int a1]) (rest := []) (em_X11_dippedIn hl hW a0 a1 a_7.2) (fun o7 h => z_runV 352 2 h rfl kk_X11_352 hs40 kl_11.1 kq_X11_dippedIn rfl (Nat.le_of_ble_eq_true rfl) ⟨Nat.le_of_ble_eq_true rfl, Nat.le_of_ble_eq_true rfl, Nat.le_of_ble_eq_true rfl, Nat.le_of_ble_eq_true rfl⟩ dX11_dipped_32) z_gWI (fun a_10 hz9 => ?_)
      exact z_ireturn dX11_dipped_35 z_rWI rfl (by decide) (by decide)

def F_X11_cousins (N : Nat) (D : z_Dat) : Option (Int32 × z_Dat) :=
  z_let (z_up D 40 0 0) (fun D1 => z_bd (F_X11_take N D1) (fun a_3 => z_bd (F_X11_meanShade N a_3) (fun a_5 => some (a_5, a_3))))
set_option maxRecDepth 100000 in
set_option maxHeartbeats 4000000 in
theorem em_X11_cousins {l : Launch} {S : List z_Shp} {oW : Nat} (hl : l.stackTraces = false) (hW : z_W S oW) (N : Nat) (D : z_Dat) : ∀ out, z_ko (z_kI S) (F_X11_cousins N D) out → z_EM l M_X11_cousins (40, 640, 0, 0) [.ref 40] S D out := by
  have hs40 : S[40]? = some (13, 55, [none, some (some 41), none, none, none, none, none, none, none, some (some 42), some (some 43), some (some 44), some (some 45), some (some 46), some (some 47), some (some 48), none, none, none, none, none, none, some (some 49), some (some 50), some (some 51), some (some 52), some (some 53), none, none, some (some 54), some (some 55), some (some 56), none, none, none, none, none, none, some (some 57), some (some 58), some (some 59), some (some 60), some (some 61), none, some (some 62), some (some 63), none, none, some (some 64), some (some 65), none, none, none, some (some 66), none]) := hW.1 40 _ rfl
  refine z_meth hl rfl kp_X11 (Nat.le_of_ble_eq_true rfl) (lv := [some (.ref 40)]) rfl ?_
  unfold F_X11_cousins
  refine z_aload_n (i := 0) (x := 40) dX11_cousins_0 rfl rfl ?_
  refine z_iconst (v := 0) dX11_cousins_1 rfl ?_
  refine z_putI (j := 0) dX11_cousins_2 kl_11 tyX11_ok nmX11 hs40 (by decide) rfl rfl rfl rfl rfl rfl kf_X11_3 (fun D1 => ?_)
  refine z_aload_n (i := 0) (x := 40) dX11_cousins_5 rfl rfl ?_
  refine z_cWV (As := [.ref 40]) (rest := []) (em_X11_take hl hW N D1) (fun o7 h => z_runV 308 0 h rfl kk_X11_308 hs40 kl_11.1 kq_X11_take rfl (Nat.le_of_ble_eq_true rfl) ⟨Nat.le_of_ble_eq_true rfl, Nat.le_of_ble_eq_true rfl, Nat.le_of_ble_eq_true rfl, Nat.le_of_ble_eq_true rfl⟩ dX11_cousins_6) z_gWI (fun a_3 hz2 => ?_)
  refine z_aload_n (i := 0) (x := 40) dX11_cousins_9 rfl rfl ?_
  refine z_cR (As := [.ref 40]) (rest := []) (em_X11_meanShade hl hW N a_3) (fun o7 h => z_runV 358 0 h rfl kk_X11_358 hs40 kl_11.1 kq_X11_meanShade rfl (Nat.le_of_ble_eq_true rfl) ⟨Nat.le_of_ble_eq_true rfl, Nat.le_of_ble_eq_true rfl, Nat.le_of_ble_eq_true rfl, Nat.le_of_ble_eq_true rfl⟩ dX11_cousins_10) z_gWI (fun a_5 hz4 => ?_)
  exact z_ireturn dX11_cousins_13 z_rWI rfl (by decide) (by decide)

def F_X11_when_L37 (N : Nat) (a0 : Int32) (a1 : Int32) (kc13 : ((Int32 × z_Dat) → Option (Int32 × z_Dat))) (v11 : Int32) (D12 : z_Dat) : Option (Int32 × z_Dat) :=
  if 60 < v11 then (some ((-1), D12))
  else (z_bd (F_X11_isSitting N a0 D12) (fun a_16 => if a1 = 1 then (if a_16.1 = 1 then (some (v11, a_16.2))
  else (z_bd (F_X11_passes N a_16.2) (fun a_20 => z_let (v11 + 1) (fun v21 => kc13 (v21, a_20)))))
  else (if a_16.1 = 0 then (some (v11, a_16.2))
  else (z_bd (F_X11_passes N a_16.2) (fun a_24 => z_let (v11 + 1) (fun v25 => kc13 (v25, a_24)))))))
def F_X11_when (N : Nat) (a0 : Int32) (a1 : Int32) (D : z_Dat) : Option (Int32 × z_Dat) :=
  z_let (z_up D 40 0 0) (fun D1 => z_bd (F_X11_isPerson a0 1 D1) (fun a_3 => if a_3.1 = 0 then (some (0, a_3.2))
  else (z_bd (F_X11_may (F_X11_within a1 0 1) 2 1 a_3.2) (fun a_7 => if a_7.1 = 0 then (some (0, a_7.2))
  else (z_bd (F_X11_take N a_7.2) (fun a_10 => z_loop (fun kc13 s => F_X11_when_L37 N a0 a1 kc13 s.1 s.2) N (0, a_10)))))))
set_option maxRecDepth 100000 in
set_option maxHeartbeats 4000000 in
theorem em_X11_when {l : Launch} {S : List z_Shp} {oW : Nat} (hl : l.stackTraces = false) (hW : z_W S oW) (N : Nat) (a0 : Int32) (a1 : Int32) (D : z_Dat) : ∀ out, z_ko (z_kI S) (F_X11_when N a0 a1 D) out → z_EM l M_X11_when (70, 820, 0, 0) [.ref 40, .int a0, .int a1] S D out := by
  have hs40 : S[40]? = some (13, 55, [none, some (some 41), none, none, none, none, none, none, none, some (some 42), some (some 43), some (some 44), some (some 45), some (some 46), some (some 47), some (some 48), none, none, none, none, none, none, some (some 49), some (some 50), some (some 51), some (some 52), some (some 53), none, none, some (some 54), some (some 55), some (some 56), none, none, none, none, none, none, some (some 57), some (some 58), some (some 59), some (some 60), some (some 61), none, some (some 62), some (some 63), none, none, some (some 64), some (some 65), none, none, none, some (some 66), none]) := hW.1 40 _ rfl
  refine z_meth hl rfl kp_X11 (Nat.le_of_ble_eq_true rfl) (lv := [some (.ref 40), some (.int a0), some (.int a1), none]) rfl ?_
  unfold F_X11_when
  refine z_aload_n (i := 0) (x := 40) dX11_when_0 rfl rfl ?_
  refine z_iconst (v := 0) dX11_when_1 rfl ?_
  refine z_putI (j := 0) dX11_when_2 kl_11 tyX11_ok nmX11 hs40 (by decide) rfl rfl rfl rfl rfl rfl kf_X11_3 (fun D1 => ?_)
  refine z_aload_n (i := 0) (x := 40) dX11_when_5 rfl rfl ?_
  refine z_iload_n (i := 1) (x := a0) dX11_when_6 rfl rfl ?_
  refine z_iconst (v := 1) dX11_when_7 rfl ?_
  refine z_cWI (As := [.ref 40, .int a0, .int 1]) (rest := []) (em_X11_isPerson hl hW a0 1 D1) (fun o7 h => z_runV 391 2 h rfl kk_X11_391 hs40 kl_11.1 kq_X11_isPerson rfl (Nat.le_of_ble_eq_true rfl) ⟨Nat.le_of_ble_eq_true rfl, Nat.le_of_ble_eq_true rfl, Nat.le_of_ble_eq_true rfl, Nat.le_of_ble_eq_true rfl⟩ dX11_when_8) z_gWI (fun a_3 hz2 => ?_)
  refine z_if_eq 29 dX11_when_11 (by decide) (fun c4 => ?_) (fun c4 => ?_)
  · refine z_iconst (v := 0) dX11_when_29 rfl ?_
    exact z_ireturn dX11_when_30 z_rWI rfl (by decide) (by decide)
  · refine z_aload_n (i := 0) (x := 40) dX11_when_14 rfl rfl ?_
    refine z_iload_n (i := 2) (x := a1) dX11_when_15 rfl rfl ?_
    refine z_iconst (v := 0) dX11_when_16 rfl ?_
    refine z_iconst (v := 1) dX11_when_17 rfl ?_
    refine z_cP (As := [.int a1, .int 0, .int 1]) (rest := [.ref 40]) (em_X11_within hl a1 0 1 a_3.2) (fun o7 h => z_runS 376 3 h rfl kk_X11_376 kq_X11_within rfl (Nat.le_of_ble_eq_true rfl) ⟨Nat.le_of_ble_eq_true rfl, Nat.le_of_ble_eq_true rfl, Nat.le_of_ble_eq_true rfl, Nat.le_of_ble_eq_true rfl⟩ dX11_when_18) z_gWI (fun hz5 => ?_)
    refine z_iconst (v := 2) dX11_when_21 rfl ?_
    refine z_iconst (v := 1) dX11_when_22 rfl ?_
    refine z_cWI (As := [.ref 40, .int (F_X11_within a1 0 1), .int 2, .int 1]) (rest := []) (em_X11_may hl hW (F_X11_within a1 0 1) 2 1 a_3.2) (fun o7 h => z_runV 198 3 h rfl kk_X11_198 hs40 kl_11.1 kq_X11_may rfl (Nat.le_of_ble_eq_true rfl) ⟨Nat.le_of_ble_eq_true rfl, Nat.le_of_ble_eq_true rfl, Nat.le_of_ble_eq_true rfl, Nat.le_of_ble_eq_true rfl⟩ dX11_when_23) z_gWI (fun a_7 hz6 => ?_)
    refine z_if_ne 31 dX11_when_26 (by decide) (fun c8 => ?_) (fun c8 => ?_)
    · refine z_iconst (v := 0) dX11_when_29 rfl ?_
      exact z_ireturn dX11_when_30 z_rWI rfl (by decide) (by decide)
    · refine z_aload_n (i := 0) (x := 40) dX11_when_31 rfl rfl ?_
      refine z_cWV (As := [.ref 40]) (rest := []) (em_X11_take hl hW N a_7.2) (fun o7 h => z_runV 308 0 h rfl kk_X11_308 hs40 kl_11.1 kq_X11_take rfl (Nat.le_of_ble_eq_true rfl) ⟨Nat.le_of_ble_eq_true rfl, Nat.le_of_ble_eq_true rfl, Nat.le_of_ble_eq_true rfl, Nat.le_of_ble_eq_true rfl⟩ dX11_when_32) z_gWI (fun a_10 hz9 => ?_)
      refine z_iconst (v := 0) dX11_when_35 rfl ?_
      refine z_istore_n (i := 3) (x := 0) (lv' := [some (.ref 40), some (.int a0), some (.int a1), some (.int 0)]) dX11_when_36 rfl (by decide) rfl rfl ?_
      refine z_loops (lvOf := fun s : Int32 × z_Dat => [some (.ref 40), some (.int a0), some (.int a1), some (.int s.1)]) (dOf := fun s : Int32 × z_Dat => s.2) (fun kc13 hkc13 s => ?_) N (0, a_10)
      obtain ⟨v11, D12⟩ := s
      show z_F _ _ _ _ _ 37 [some (.ref 40), some (.int a0), some (.int a1), some (.int v11)] [] S D12 _ (F_X11_when_L37 N a0 a1 kc13 v11 D12)
      unfold F_X11_when_L37
      refine z_iload_n (i := 3) (x := v11) dX11_when_37 rfl rfl ?_
      refine z_bipush (v := 60) dX11_when_38 (by decide) ?_
      refine z_icmp_gt 73 dX11_when_40 (by decide) (fun c14 => ?_) (fun c14 => ?_)
      · refine z_iconst (v := (-1)) dX11_when_73 rfl ?_
        exact z_ireturn dX11_when_74 z_rWI rfl (by decide) (by decide)
      · refine z_aload_n (i := 0) (x := 40) dX11_when_43 rfl rfl ?_
        refine z_iload_n (i := 1) (x := a0) dX11_when_44 rfl rfl ?_
        refine z_cWI (As := [.ref 40, .int a0]) (rest := []) (em_X11_isSitting hl hW N a0 D12) (fun o7 h => z_runV 349 1 h rfl kk_X11_349 hs40 kl_11.1 kq_X11_isSitting rfl (Nat.le_of_ble_eq_true rfl) ⟨Nat.le_of_ble_eq_true rfl, Nat.le_of_ble_eq_true rfl, Nat.le_of_ble_eq_true rfl, Nat.le_of_ble_eq_true rfl⟩ dX11_when_45) z_gWI (fun a_16 hz15 => ?_)
        refine z_iload_n (i := 2) (x := a1) dX11_when_48 rfl rfl ?_
        refine z_iconst (v := 1) dX11_when_49 rfl ?_
        refine z_icmp_ne 57 dX11_when_50 (by decide) (fun c17 => ?_) (fun c17 => ?_)
        · refine z_iconst (v := 1) dX11_when_53 rfl ?_
          refine z_goto 58 dX11_when_54 (by decide) ?_
          refine z_icmp_ne 63 dX11_when_58 (by decide) (fun c18 => ?_) (fun c18 => ?_)
          · refine z_iload_n (i := 3) (x := v11) dX11_when_61 rfl rfl ?_
            exact z_ireturn dX11_when_62 z_rWI rfl (by decide) (by decide)
          · refine z_aload_n (i := 0) (x := 40) dX11_when_63 rfl rfl ?_
            refine z_cWV (As := [.ref 40]) (rest := []) (em_X11_passes hl hW N a_16.2) (fun o7 h => z_runV 373 0 h rfl kk_X11_373 hs40 kl_11.1 kq_X11_passes rfl (Nat.le_of_ble_eq_true rfl) ⟨Nat.le_of_ble_eq_true rfl, Nat.le_of_ble_eq_true rfl, Nat.le_of_ble_eq_true rfl, Nat.le_of_ble_eq_true rfl⟩ dX11_when_64) z_gWI (fun a_20 hz19 => ?_)
            refine z_iinc (i := 3) (x := v11) (y := 1) dX11_when_67 rfl (by decide) (by decide) rfl (fun v21 => ?_)
            refine z_goto 37 dX11_when_70 (by decide) ?_
            exact hkc13 (v21, a_20)
        · refine z_iconst (v := 0) dX11_when_57 rfl ?_
          refine z_icmp_ne 63 dX11_when_58 (by decide) (fun c22 => ?_) (fun c22 => ?_)
          · refine z_iload_n (i := 3) (x := v11) dX11_when_61 rfl rfl ?_
            exact z_ireturn dX11_when_62 z_rWI rfl (by decide) (by decide)
          · refine z_aload_n (i := 0) (x := 40) dX11_when_63 rfl rfl ?_
            refine z_cWV (As := [.ref 40]) (rest := []) (em_X11_passes hl hW N a_16.2) (fun o7 h => z_runV 373 0 h rfl kk_X11_373 hs40 kl_11.1 kq_X11_passes rfl (Nat.le_of_ble_eq_true rfl) ⟨Nat.le_of_ble_eq_true rfl, Nat.le_of_ble_eq_true rfl, Nat.le_of_ble_eq_true rfl, Nat.le_of_ble_eq_true rfl⟩ dX11_when_64) z_gWI (fun a_24 hz23 => ?_)
            refine z_iinc (i := 3) (x := v11) (y := 1) dX11_when_67 rfl (by decide) (by decide) rfl (fun v25 => ?_)
            refine z_goto 37 dX11_when_70 (by decide) ?_
            exact hkc13 (v25, a_24)

def F_X11_sits_L41 (N : Nat) (a0 : Int32) (a1 : Int32) (kc14 : ((Int32 × Int32 × z_Dat) → Option (Int32 × z_Dat))) (v11 : Int32) (v12 : Int32) (D13 : z_Dat) : Option (Int32 × z_Dat) :=
  if a1 ≤ v12 then (some (v11, D13))
  else (z_bd (F_X11_isSitting N a0 D13) (fun a_17 => if a_17.1 = 0 then (z_let (v11 ||| 0) (fun v19 => z_bd (F_X11_passes N a_17.2) (fun a_21 => z_let (v12 + 1) (fun v22 => kc14 (v19, v22, a_21)))))
  else (z_let (v11 ||| (z_shl 1 v12)) (fun v23 => z_bd (F_X11_passes N a_17.2) (fun a_25 => z_let (v12 + 1) (fun v26 => kc14 (v23, v26, a_25)))))))
def F_X11_sits (N : Nat) (a0 : Int32) (a1 : Int32) (D : z_Dat) : Option (Int32 × z_Dat) :=
  z_let (z_up D 40 0 0) (fun D1 => z_bd (F_X11_isPerson a0 1 D1) (fun a_3 => if a_3.1 = 0 then (some (0, a_3.2))
  else (z_bd (F_X11_may (F_X11_within a1 0 30) 2 1 a_3.2) (fun a_7 => if a_7.1 = 0 then (some (0, a_7.2))
  else (z_bd (F_X11_take N a_7.2) (fun a_10 => z_loop (fun kc14 s => F_X11_sits_L41 N a0 a1 kc14 s.1 s.2.1 s.2.2) N (0, 0, a_10)))))))
set_option maxRecDepth 100000 in
set_option maxHeartbeats 4000000 in
theorem em_X11_sits {l : Launch} {S : List z_Shp} {oW : Nat} (hl : l.stackTraces = false) (hW : z_W S oW) (N : Nat) (a0 : Int32) (a1 : Int32) (D : z_Dat) : ∀ out, z_ko (z_kI S) (F_X11_sits N a0 a1 D) out → z_EM l M_X11_sits (70, 820, 0, 0) [.ref 40, .int a0, .int a1] S D out := by
  have hs40 : S[40]? = some (13, 55, [none, some (some 41), none, none, none, none, none, none, none, some (some 42), some (some 43), some (some 44), some (some 45), some (some 46), some (some 47), some (some 48), none, none, none, none, none, none, some (some 49), some (some 50), some (some 51), some (some 52), some (some 53), none, none, some (some 54), some (some 55), some (some 56), none, none, none, none, none, none, some (some 57), some (some 58), some (some 59), some (some 60), some (some 61), none, some (some 62), some (some 63), none, none, some (some 64), some (some 65), none, none, none, some (some 66), none]) := hW.1 40 _ rfl
  refine z_meth hl rfl kp_X11 (Nat.le_of_ble_eq_true rfl) (lv := [some (.ref 40), some (.int a0), some (.int a1), none, none]) rfl ?_
  unfold F_X11_sits
  refine z_aload_n (i := 0) (x := 40) dX11_sits_0 rfl rfl ?_
  refine z_iconst (v := 0) dX11_sits_1 rfl ?_
  refine z_putI (j := 0) dX11_sits_2 kl_11 tyX11_ok nmX11 hs40 (by decide) rfl rfl rfl rfl rfl rfl kf_X11_3 (fun D1 => ?_)
  refine z_aload_n (i := 0) (x := 40) dX11_sits_5 rfl rfl ?_
  refine z_iload_n (i := 1) (x := a0) dX11_sits_6 rfl rfl ?_
  refine z_iconst (v := 1) dX11_sits_7 rfl ?_
  refine z_cWI (As := [.ref 40, .int a0, .int 1]) (rest := []) (em_X11_isPerson hl hW a0 1 D1) (fun o7 h => z_runV 391 2 h rfl kk_X11_391 hs40 kl_11.1 kq_X11_isPerson rfl (Nat.le_of_ble_eq_true rfl) ⟨Nat.le_of_ble_eq_true rfl, Nat.le_of_ble_eq_true rfl, Nat.le_of_ble_eq_true rfl, Nat.le_of_ble_eq_true rfl⟩ dX11_sits_8) z_gWI (fun a_3 hz2 => ?_)
  refine z_if_eq 30 dX11_sits_11 (by decide) (fun c4 => ?_) (fun c4 => ?_)
  · refine z_iconst (v := 0) dX11_sits_30 rfl ?_
    exact z_ireturn dX11_sits_31 z_rWI rfl (by decide) (by decide)
  · refine z_aload_n (i := 0) (x := 40) dX11_sits_14 rfl rfl ?_
    refine z_iload_n (i := 2) (x := a1) dX11_sits_15 rfl rfl ?_
    refine z_iconst (v := 0) dX11_sits_16 rfl ?_
    refine z_bipush (v := 30) dX11_sits_17 (by decide) ?_
    refine z_cP (As := [.int a1, .int 0, .int 30]) (rest := [.ref 40]) (em_X11_within hl a1 0 30 a_3.2) (fun o7 h => z_runS 376 3 h rfl kk_X11_376 kq_X11_within rfl (Nat.le_of_ble_eq_true rfl) ⟨Nat.le_of_ble_eq_true rfl, Nat.le_of_ble_eq_true rfl, Nat.le_of_ble_eq_true rfl, Nat.le_of_ble_eq_true rfl⟩ dX11_sits_19) z_gWI (fun hz5 => ?_)
    refine z_iconst (v := 2) dX11_sits_22 rfl ?_
    refine z_iconst (v := 1) dX11_sits_23 rfl ?_
    refine z_cWI (As := [.ref 40, .int (F_X11_within a1 0 30), .int 2, .int 1]) (rest := []) (em_X11_may hl hW (F_X11_within a1 0 30) 2 1 a_3.2) (fun o7 h => z_runV 198 3 h rfl kk_X11_198 hs40 kl_11.1 kq_X11_may rfl (Nat.le_of_ble_eq_true rfl) ⟨Nat.le_of_ble_eq_true rfl, Nat.le_of_ble_eq_true rfl, Nat.le_of_ble_eq_true rfl, Nat.le_of_ble_eq_true rfl⟩ dX11_sits_24) z_gWI (fun a_7 hz6 => ?_)
    refine z_if_ne 32 dX11_sits_27 (by decide) (fun c8 => ?_) (fun c8 => ?_)
    · refine z_iconst (v := 0) dX11_sits_30 rfl ?_
      exact z_ireturn dX11_sits_31 z_rWI rfl (by decide) (by decide)
    · refine z_aload_n (i := 0) (x := 40) dX11_sits_32 rfl rfl ?_
      refine z_cWV (As := [.ref 40]) (rest := []) (em_X11_take hl hW N a_7.2) (fun o7 h => z_runV 308 0 h rfl kk_X11_308 hs40 kl_11.1 kq_X11_take rfl (Nat.le_of_ble_eq_true rfl) ⟨Nat.le_of_ble_eq_true rfl, Nat.le_of_ble_eq_true rfl, Nat.le_of_ble_eq_true rfl, Nat.le_of_ble_eq_true rfl⟩ dX11_sits_33) z_gWI (fun a_10 hz9 => ?_)
      refine z_iconst (v := 0) dX11_sits_36 rfl ?_
      refine z_istore_n (i := 3) (x := 0) (lv' := [some (.ref 40), some (.int a0), some (.int a1), some (.int 0), none]) dX11_sits_37 rfl (by decide) rfl rfl ?_
      refine z_iconst (v := 0) dX11_sits_38 rfl ?_
      refine z_istore (i := 4) (x := 0) (lv' := [some (.ref 40), some (.int a0), some (.int a1), some (.int 0), some (.int 0)]) dX11_sits_39 (by decide) rfl rfl ?_
      refine z_loops (lvOf := fun s : Int32 × Int32 × z_Dat => [some (.ref 40), some (.int a0), some (.int a1), some (.int s.1), some (.int s.2.1)]) (dOf := fun s : Int32 × Int32 × z_Dat => s.2.2) (fun kc14 hkc14 s => ?_) N (0, 0, a_10)
      obtain ⟨v11, v12, D13⟩ := s
      show z_F _ _ _ _ _ 41 [some (.ref 40), some (.int a0), some (.int a1), some (.int v11), some (.int v12)] [] S D13 _ (F_X11_sits_L41 N a0 a1 kc14 v11 v12 D13)
      unfold F_X11_sits_L41
      refine z_iload (i := 4) (x := v12) dX11_sits_41 rfl ?_
      refine z_iload_n (i := 2) (x := a1) dX11_sits_43 rfl rfl ?_
      refine z_icmp_ge 76 dX11_sits_44 (by decide) (fun c15 => ?_) (fun c15 => ?_)
      · refine z_iload_n (i := 3) (x := v11) dX11_sits_76 rfl rfl ?_
        exact z_ireturn dX11_sits_77 z_rWI rfl (by decide) (by decide)
      · refine z_iload_n (i := 3) (x := v11) dX11_sits_47 rfl rfl ?_
        refine z_aload_n (i := 0) (x := 40) dX11_sits_48 rfl rfl ?_
        refine z_iload_n (i := 1) (x := a0) dX11_sits_49 rfl rfl ?_
        refine z_cWI (As := [.ref 40, .int a0]) (rest := [.int v11]) (em_X11_isSitting hl hW N a0 D13) (fun o7 h => z_runV 349 1 h rfl kk_X11_349 hs40 kl_11.1 kq_X11_isSitting rfl (Nat.le_of_ble_eq_true rfl) ⟨Nat.le_of_ble_eq_true rfl, Nat.le_of_ble_eq_true rfl, Nat.le_of_ble_eq_true rfl, Nat.le_of_ble_eq_true rfl⟩ dX11_sits_50) z_gWI (fun a_17 hz16 => ?_)
        refine z_if_eq 63 dX11_sits_53 (by decide) (fun c18 => ?_) (fun c18 => ?_)
        · refine z_iconst (v := 0) dX11_sits_63 rfl ?_
          refine z_ior dX11_sits_64 ?_
          refine z_topi (fun v19 => ?_)
          refine z_istore_n (i := 3) (x := v19) (lv' := [some (.ref 40), some (.int a0), some (.int a1), some (.int v19), some (.int v12)]) dX11_sits_65 rfl (by decide) rfl rfl ?_
          refine z_aload_n (i := 0) (x := 40) dX11_sits_66 rfl rfl ?_
          refine z_cWV (As := [.ref 40]) (rest := []) (em_X11_passes hl hW N a_17.2) (fun o7 h => z_runV 373 0 h rfl kk_X11_373 hs40 kl_11.1 kq_X11_passes rfl (Nat.le_of_ble_eq_true rfl) ⟨Nat.le_of_ble_eq_true rfl, Nat.le_of_ble_eq_true rfl, Nat.le_of_ble_eq_true rfl, Nat.le_of_ble_eq_true rfl⟩ dX11_sits_67) z_gWI (fun a_21 hz20 => ?_)
          refine z_iinc (i := 4) (x := v12) (y := 1) dX11_sits_70 rfl (by decide) (by decide) rfl (fun v22 => ?_)
          refine z_goto 41 dX11_sits_73 (by decide) ?_
          exact hkc14 (v19, v22, a_21)
        · refine z_iconst (v := 1) dX11_sits_56 rfl ?_
          refine z_iload (i := 4) (x := v12) dX11_sits_57 rfl ?_
          refine z_ishl dX11_sits_59 ?_
          refine z_goto 64 dX11_sits_60 (by decide) ?_
          refine z_ior dX11_sits_64 ?_
          refine z_topi (fun v23 => ?_)
          refine z_istore_n (i := 3) (x := v23) (lv' := [some (.ref 40), some (.int a0), some (.int a1), some (.int v23), some (.int v12)]) dX11_sits_65 rfl (by decide) rfl rfl ?_
          refine z_aload_n (i := 0) (x := 40) dX11_sits_66 rfl rfl ?_
          refine z_cWV (As := [.ref 40]) (rest := []) (em_X11_passes hl hW N a_17.2) (fun o7 h => z_runV 373 0 h rfl kk_X11_373 hs40 kl_11.1 kq_X11_passes rfl (Nat.le_of_ble_eq_true rfl) ⟨Nat.le_of_ble_eq_true rfl, Nat.le_of_ble_eq_true rfl, Nat.le_of_ble_eq_true rfl, Nat.le_of_ble_eq_true rfl⟩ dX11_sits_67) z_gWI (fun a_25 hz24 => ?_)
          refine z_iinc (i := 4) (x := v12) (y := 1) dX11_sits_70 rfl (by decide) (by decide) rfl (fun v26 => ?_)
          refine z_goto 41 dX11_sits_73 (by decide) ?_
          exact hkc14 (v23, v26, a_25)

def F_X11_layTo_J105 (kc17 : ((Int32 × Int32 × z_Dat) → Option z_Dat)) (v10 : Int32) (v26 : Int32) (v27 : Int32) (D28 : z_Dat) : Option z_Dat :=
  if z_inb v10 1000 then z_let (z_up D28 62 (z_ix v10) (v27 + 1)) (fun D29 => z_let (v26 + 1) (fun v30 => kc17 (1, v30, D29))) else none
def F_X11_layTo_L50 (kc12 : ((Int32 × Int32 × z_Dat) → Option z_Dat)) (v10 : Int32) (kc17 : ((Int32 × Int32 × z_Dat) → Option z_Dat)) (v14 : Int32) (v15 : Int32) (D16 : z_Dat) : Option z_Dat :=
  if (D16 40 19) ≤ v15 then (z_let (v10 + (-1)) (fun v19 => kc12 (v14, v19, D16)))
  else (z_bd (F_X11_dippedIn v10 v15 D16) (fun a_21 => if z_inb a_21 1000 then (z_let (D16 62 (z_ix a_21)) (fun v22 => if v22 = (-1) then (z_let (v15 + 1) (fun v24 => kc17 (v14, v24, D16)))
  else (if z_inb v10 1000 then (if (D16 62 (z_ix v10)) = (-1) then (F_X11_layTo_J105 kc17 v10 v15 v22 D16)
  else (if z_inb v10 1000 then (if (v22 + 1) < (D16 62 (z_ix v10)) then (F_X11_layTo_J105 kc17 v10 v15 v22 D16)
  else (z_let (v15 + 1) (fun v32 => kc17 (v14, v32, D16)))) else none)) else none))) else none))
def F_X11_layTo_L43 (N : Nat) (kc7 : ((Int32 × z_Dat) → Option z_Dat)) (kc12 : ((Int32 × Int32 × z_Dat) → Option z_Dat)) (v9 : Int32) (v10 : Int32) (D11 : z_Dat) : Option z_Dat :=
  if v10 < 0 then (kc7 (v9, D11))
  else (z_loop (fun kc17 s => F_X11_layTo_L50 kc12 v10 kc17 s.1 s.2.1 s.2.2) N (v9, 0, D11))
def F_X11_layTo_L33 (N : Nat) (kc7 : ((Int32 × z_Dat) → Option z_Dat)) (v5 : Int32) (D6 : z_Dat) : Option z_Dat :=
  if v5 = 0 then (some D6)
  else (z_loop (fun kc12 s => F_X11_layTo_L43 N kc7 kc12 s.1 s.2.1 s.2.2) N (0, 999, D6))
def F_X11_layTo_L2 (N : Nat) (a0 : Int32) (kc3 : ((Int32 × z_Dat) → Option z_Dat)) (v1 : Int32) (D2 : z_Dat) : Option z_Dat :=
  if 1000 ≤ v1 then (z_loop (fun kc7 s => F_X11_layTo_L33 N kc7 s.1 s.2) N (1, D2))
  else (if v1 = a0 then (if z_inb v1 1000 then z_let (z_up D2 62 (z_ix v1) 0) (fun D37 => z_let (v1 + 1) (fun v38 => kc3 (v38, D37))) else none)
  else (if z_inb v1 1000 then z_let (z_up D2 62 (z_ix v1) (-1)) (fun D39 => z_let (v1 + 1) (fun v40 => kc3 (v40, D39))) else none))
def F_X11_layTo (N : Nat) (a0 : Int32) (D : z_Dat) : Option z_Dat :=
  z_loop (fun kc3 s => F_X11_layTo_L2 N a0 kc3 s.1 s.2) N (0, D)
set_option maxRecDepth 100000 in
set_option maxHeartbeats 4000000 in
theorem em_X11_layTo {l : Launch} {S : List z_Shp} {oW : Nat} (hl : l.stackTraces = false) (hW : z_W S oW) (N : Nat) (a0 : Int32) (D : z_Dat) : ∀ out, z_ko (z_kV S) (F_X11_layTo N a0 D) out → z_EM l M_X11_layTo (40, 640, 0, 0) [.ref 40, .int a0] S D out := by
  have hs40 : S[40]? = some (13, 55, [none, some (some 41), none, none, none, none, none, none, none, some (some 42), some (some 43), some (some 44), some (some 45), some (some 46), some (some 47), some (some 48), none, none, none, none, none, none, some (some 49), some (some 50), some (some 51), some (some 52), some (some 53), none, none, some (some 54), some (some 55), some (some 56), none, none, none, none, none, none, some (some 57), some (some 58), some (some 59), some (some 60), some (some 61), none, some (some 62), some (some 63), none, none, some (some 64), some (some 65), none, none, none, some (some 66), none]) := hW.1 40 _ rfl
  have hs62 : S[62]? = some (0, 1000, []) := hW.1 62 _ rfl
  refine z_meth hl rfl kp_X11 (Nat.le_of_ble_eq_true rfl) (lv := [some (.ref 40), some (.int a0), none, none, none, none]) rfl ?_
  unfold F_X11_layTo
  refine z_iconst (v := 0) dX11_layTo_0 rfl ?_
  refine z_istore_n (i := 2) (x := 0) (lv' := [some (.ref 40), some (.int a0), some (.int 0), none, none, none]) dX11_layTo_1 rfl (by decide) rfl rfl ?_
  refine z_loops (lvOf := fun s : Int32 × z_Dat => [some (.ref 40), some (.int a0), some (.int s.1), none, none, none]) (dOf := fun s : Int32 × z_Dat => s.2) (fun kc3 hkc3 s => ?_) N (0, D)
  obtain ⟨v1, D2⟩ := s
  show z_F _ _ _ _ _ 2 [some (.ref 40), some (.int a0), some (.int v1), none, none, none] [] S D2 _ (F_X11_layTo_L2 N a0 kc3 v1 D2)
  unfold F_X11_layTo_L2
  refine z_iload_n (i := 2) (x := v1) dX11_layTo_2 rfl rfl ?_
  refine z_sipush (v := 1000) dX11_layTo_3 (by decide) ?_
  refine z_icmp_ge 31 dX11_layTo_6 (by decide) (fun c4 => ?_) (fun c4 => ?_)
  · refine z_iconst (v := 1) dX11_layTo_31 rfl ?_
    refine z_istore_n (i := 2) (x := 1) (lv' := [some (.ref 40), some (.int a0), some (.int 1), none, none, none]) dX11_layTo_32 rfl (by decide) rfl rfl ?_
    refine z_weak (lv' := [some (.ref 40), none, some (.int 1), none, none, none]) ⟨Or.inr rfl, ⟨Or.inl rfl, ⟨Or.inr rfl, ⟨Or.inl rfl, ⟨Or.inl rfl, ⟨Or.inl rfl, trivial⟩⟩⟩⟩⟩⟩ ?_
    refine z_loops (lvOf := fun s : Int32 × z_Dat => [some (.ref 40), none, some (.int s.1), none, none, none]) (dOf := fun s : Int32 × z_Dat => s.2) (fun kc7 hkc7 s => ?_) N (1, D2)
    obtain ⟨v5, D6⟩ := s
    show z_F _ _ _ _ _ 33 [some (.ref 40), none, some (.int v5), none, none, none] [] S D6 _ (F_X11_layTo_L33 N kc7 v5 D6)
    unfold F_X11_layTo_L33
    refine z_iload_n (i := 2) (x := v5) dX11_layTo_33 rfl rfl ?_
    refine z_if_eq 132 dX11_layTo_34 (by decide) (fun c8 => ?_) (fun c8 => ?_)
    · exact z_vreturn dX11_layTo_132 z_rWV trivial (by decide) (by decide)
    · refine z_iconst (v := 0) dX11_layTo_37 rfl ?_
      refine z_istore_n (i := 2) (x := 0) (lv' := [some (.ref 40), none, some (.int 0), none, none, none]) dX11_layTo_38 rfl (by decide) rfl rfl ?_
      refine z_sipush (v := 999) dX11_layTo_39 (by decide) ?_
      refine z_istore_n (i := 3) (x := 999) (lv' := [some (.ref 40), none, some (.int 0), some (.int 999), none, none]) dX11_layTo_42 rfl (by decide) rfl rfl ?_
      refine z_loops (lvOf := fun s : Int32 × Int32 × z_Dat => [some (.ref 40), none, some (.int s.1), some (.int s.2.1), none, none]) (dOf := fun s : Int32 × Int32 × z_Dat => s.2.2) (fun kc12 hkc12 s => ?_) N (0, 999, D6)
      obtain ⟨v9, v10, D11⟩ := s
      show z_F _ _ _ _ _ 43 [some (.ref 40), none, some (.int v9), some (.int v10), none, none] [] S D11 _ (F_X11_layTo_L43 N kc7 kc12 v9 v10 D11)
      unfold F_X11_layTo_L43
      refine z_iload_n (i := 3) (x := v10) dX11_layTo_43 rfl rfl ?_
      refine z_if_lt 129 dX11_layTo_44 (by decide) (fun c13 => ?_) (fun c13 => ?_)
      · refine z_goto 33 dX11_layTo_129 (by decide) ?_
        refine z_weak (lv' := [some (.ref 40), none, some (.int v9), none, none, none]) ⟨Or.inr rfl, ⟨Or.inl rfl, ⟨Or.inr rfl, ⟨Or.inl rfl, ⟨Or.inl rfl, ⟨Or.inl rfl, trivial⟩⟩⟩⟩⟩⟩ ?_
        exact hkc7 (v9, D11)
      · refine z_iconst (v := 0) dX11_layTo_47 rfl ?_
        refine z_istore (i := 4) (x := 0) (lv' := [some (.ref 40), none, some (.int v9), some (.int v10), some (.int 0), none]) dX11_layTo_48 (by decide) rfl rfl ?_
        refine z_loops (lvOf := fun s : Int32 × Int32 × z_Dat => [some (.ref 40), none, some (.int s.1), some (.int v10), some (.int s.2.1), none]) (dOf := fun s : Int32 × Int32 × z_Dat => s.2.2) (fun kc17 hkc17 s => ?_) N (v9, 0, D11)
        obtain ⟨v14, v15, D16⟩ := s
        show z_F _ _ _ _ _ 50 [some (.ref 40), none, some (.int v14), some (.int v10), some (.int v15), none] [] S D16 _ (F_X11_layTo_L50 kc12 v10 kc17 v14 v15 D16)
        unfold F_X11_layTo_L50
        have hJ_F_X11_layTo_J105 : ∀ (v26 : Int32) (v27 : Int32) (D28 : z_Dat) , z_F l M_X11_layTo (40, 640, 0, 0) 0 0 105 [some (.ref 40), none, none, some (.int v10), some (.int v26), some (.int v27)] [] S D28 (z_ko (z_kV S)) (F_X11_layTo_J105 kc17 v10 v26 v27 D28) := by
          intro v26 v27 D28
          unfold F_X11_layTo_J105
          refine z_aload_n (i := 0) (x := 40) dX11_layTo_105 rfl rfl ?_
          refine z_getR (j := 44) dX11_layTo_106 kl_11 hs40 (by decide) rfl rfl kf_X11_80 ?_
          refine z_iload_n (i := 3) (x := v10) dX11_layTo_109 rfl rfl ?_
          refine z_iload (i := 5) (x := v27) dX11_layTo_110 rfl ?_
          refine z_iconst (v := 1) dX11_layTo_112 rfl ?_
          refine z_iadd dX11_layTo_113 ?_
          refine z_iast dX11_layTo_114 hs62 (fun D29 => ?_)
          refine z_iconst (v := 1) dX11_layTo_115 rfl ?_
          refine z_istore_n (i := 2) (x := 1) (lv' := [some (.ref 40), none, some (.int 1), some (.int v10), some (.int v26), some (.int v27)]) dX11_layTo_116 rfl (by decide) rfl rfl ?_
          refine z_iinc (i := 4) (x := v26) (y := 1) dX11_layTo_117 rfl (by decide) (by decide) rfl (fun v30 => ?_)
          refine z_goto 50 dX11_layTo_120 (by decide) ?_
          refine z_weak (lv' := [some (.ref 40), none, some (.int 1), some (.int v10), some (.int v30), none]) ⟨Or.inr rfl, ⟨Or.inl rfl, ⟨Or.inr rfl, ⟨Or.inr rfl, ⟨Or.inr rfl, ⟨Or.inl rfl, trivial⟩⟩⟩⟩⟩⟩ ?_
          exact hkc17 (1, v30, D29)
        refine z_iload (i := 4) (x := v15) dX11_layTo_50 rfl ?_
        refine z_aload_n (i := 0) (x := 40) dX11_layTo_52 rfl rfl ?_
        refine z_getI (j := 19) dX11_layTo_53 kl_11 hs40 (by decide) rfl rfl kf_X11_156 ?_
        refine z_icmp_ge 123 dX11_layTo_56 (by decide) (fun c18 => ?_) (fun c18 => ?_)
        · refine z_iinc (i := 3) (x := v10) (y := (-1)) dX11_layTo_123 rfl (by decide) (by decide) rfl (fun v19 => ?_)
          refine z_goto 43 dX11_layTo_126 (by decide) ?_
          refine z_weak (lv' := [some (.ref 40), none, some (.int v14), some (.int v19), none, none]) ⟨Or.inr rfl, ⟨Or.inl rfl, ⟨Or.inr rfl, ⟨Or.inr rfl, ⟨Or.inl rfl, ⟨Or.inl rfl, trivial⟩⟩⟩⟩⟩⟩ ?_
          exact hkc12 (v14, v19, D16)
        · refine z_aload_n (i := 0) (x := 40) dX11_layTo_59 rfl rfl ?_
          refine z_getR (j := 44) dX11_layTo_60 kl_11 hs40 (by decide) rfl rfl kf_X11_80 ?_
          refine z_aload_n (i := 0) (x := 40) dX11_layTo_63 rfl rfl ?_
          refine z_iload_n (i := 3) (x := v10) dX11_layTo_64 rfl rfl ?_
          refine z_iload (i := 4) (x := v15) dX11_layTo_65 rfl ?_
          refine z_cR (As := [.ref 40, .int v10, .int v15]) (rest := [.ref 62]) (em_X11_dippedIn hl hW v10 v15 D16) (fun o7 h => z_runV 352 2 h rfl kk_X11_352 hs40 kl_11.1 kq_X11_dippedIn rfl (Nat.le_of_ble_eq_true rfl) ⟨Nat.le_of_ble_eq_true rfl, Nat.le_of_ble_eq_true rfl, Nat.le_of_ble_eq_true rfl, Nat.le_of_ble_eq_true rfl⟩ dX11_layTo_67) z_gWV (fun a_21 hz20 => ?_)
          refine z_iald dX11_layTo_70 hs62 ?_
          refine z_topi (fun v22 => ?_)
          refine z_istore (i := 5) (x := v22) (lv' := [some (.ref 40), none, some (.int v14), some (.int v10), some (.int v15), some (.int v22)]) dX11_layTo_71 (by decide) rfl rfl ?_
          refine z_iload (i := 5) (x := v22) dX11_layTo_73 rfl ?_
          refine z_iconst (v := (-1)) dX11_layTo_75 rfl ?_
          refine z_icmp_eq 117 dX11_layTo_76 (by decide) (fun c23 => ?_) (fun c23 => ?_)
          · refine z_iinc (i := 4) (x := v15) (y := 1) dX11_layTo_117 rfl (by decide) (by decide) rfl (fun v24 => ?_)
            refine z_goto 50 dX11_layTo_120 (by decide) ?_
            refine z_weak (lv' := [some (.ref 40), none, some (.int v14), some (.int v10), some (.int v24), none]) ⟨Or.inr rfl, ⟨Or.inl rfl, ⟨Or.inr rfl, ⟨Or.inr rfl, ⟨Or.inr rfl, ⟨Or.inl rfl, trivial⟩⟩⟩⟩⟩⟩ ?_
            exact hkc17 (v14, v24, D16)
          · refine z_aload_n (i := 0) (x := 40) dX11_layTo_79 rfl rfl ?_
            refine z_getR (j := 44) dX11_layTo_80 kl_11 hs40 (by decide) rfl rfl kf_X11_80 ?_
            refine z_iload_n (i := 3) (x := v10) dX11_layTo_83 rfl rfl ?_
            refine z_iald dX11_layTo_84 hs62 ?_
            refine z_iconst (v := (-1)) dX11_layTo_85 rfl ?_
            refine z_icmp_eq 105 dX11_layTo_86 (by decide) (fun c25 => ?_) (fun c25 => ?_)
            · refine z_weak (lv' := [some (.ref 40), none, none, some (.int v10), some (.int v15), some (.int v22)]) ⟨Or.inr rfl, ⟨Or.inl rfl, ⟨Or.inl rfl, ⟨Or.inr rfl, ⟨Or.inr rfl, ⟨Or.inr rfl, trivial⟩⟩⟩⟩⟩⟩ ?_
              exact hJ_F_X11_layTo_J105 v15 v22 D16
            · refine z_aload_n (i := 0) (x := 40) dX11_layTo_89 rfl rfl ?_
              refine z_getR (j := 44) dX11_layTo_90 kl_11 hs40 (by decide) rfl rfl kf_X11_80 ?_
              refine z_iload_n (i := 3) (x := v10) dX11_layTo_93 rfl rfl ?_
              refine z_iald dX11_layTo_94 hs62 ?_
              refine z_iload (i := 5) (x := v22) dX11_layTo_95 rfl ?_
              refine z_iconst (v := 1) dX11_layTo_97 rfl ?_
              refine z_iadd dX11_layTo_98 ?_
              refine z_icmp_gt 105 dX11_layTo_99 (by decide) (fun c31 => ?_) (fun c31 => ?_)
              · refine z_weak (lv' := [some (.ref 40), none, none, some (.int v10), some (.int v15), some (.int v22)]) ⟨Or.inr rfl, ⟨Or.inl rfl, ⟨Or.inl rfl, ⟨Or.inr rfl, ⟨Or.inr rfl, ⟨Or.inr rfl, trivial⟩⟩⟩⟩⟩⟩ ?_
                exact hJ_F_X11_layTo_J105 v15 v22 D16
              · refine z_goto 117 dX11_layTo_102 (by decide) ?_
                refine z_iinc (i := 4) (x := v15) (y := 1) dX11_layTo_117 rfl (by decide) (by decide) rfl (fun v32 => ?_)
                refine z_goto 50 dX11_layTo_120 (by decide) ?_
                refine z_weak (lv' := [some (.ref 40), none, some (.int v14), some (.int v10), some (.int v32), none]) ⟨Or.inr rfl, ⟨Or.inl rfl, ⟨Or.inr rfl, ⟨Or.inr rfl, ⟨Or.inr rfl, ⟨Or.inl rfl, trivial⟩⟩⟩⟩⟩⟩ ?_
                exact hkc17 (v14, v32, D16)
  · refine z_aload_n (i := 0) (x := 40) dX11_layTo_9 rfl rfl ?_
    refine z_getR (j := 44) dX11_layTo_10 kl_11 hs40 (by decide) rfl rfl kf_X11_80 ?_
    refine z_iload_n (i := 2) (x := v1) dX11_layTo_13 rfl rfl ?_
    refine z_iload_n (i := 2) (x := v1) dX11_layTo_14 rfl rfl ?_
    refine z_iload_n (i := 1) (x := a0) dX11_layTo_15 rfl rfl ?_
    refine z_icmp_ne 23 dX11_layTo_16 (by decide) (fun c36 => ?_) (fun c36 => ?_)
    · refine z_iconst (v := 0) dX11_layTo_19 rfl ?_
      refine z_goto 24 dX11_layTo_20 (by decide) ?_
      refine z_iast dX11_layTo_24 hs62 (fun D37 => ?_)
      refine z_iinc (i := 2) (x := v1) (y := 1) dX11_layTo_25 rfl (by decide) (by decide) rfl (fun v38 => ?_)
      refine z_goto 2 dX11_layTo_28 (by decide) ?_
      exact hkc3 (v38, D37)
    · refine z_iconst (v := (-1)) dX11_layTo_23 rfl ?_
      refine z_iast dX11_layTo_24 hs62 (fun D39 => ?_)
      refine z_iinc (i := 2) (x := v1) (y := 1) dX11_layTo_25 rfl (by decide) (by decide) rfl (fun v40 => ?_)
      refine z_goto 2 dX11_layTo_28 (by decide) ?_
      exact hkc3 (v40, D39)

def F_X11_way_J25 (N : Nat) (a0 : Int32) (a1 : Int32) (D5 : z_Dat) : Option (Int32 × z_Dat) :=
  z_bd (F_X11_may 0 1 1 D5) (fun a_7 => if a_7.1 = 0 then (some (0, a_7.2))
  else (z_bd (F_X11_layTo N a1 a_7.2) (fun a_10 => if z_inb a0 1000 then (some (a_10 62 (z_ix a0), a_10)) else none)))
def F_X11_way_J24 (N : Nat) (a0 : Int32) (a1 : Int32) (D4 : z_Dat) : Option (Int32 × z_Dat) :=
  F_X11_way_J25 N a0 a1 D4
def F_X11_way_J25x (N : Nat) (a0 : Int32) (a1 : Int32) (D13 : z_Dat) : Option (Int32 × z_Dat) :=
  z_bd (F_X11_may 1 1 1 D13) (fun a_15 => if a_15.1 = 0 then (some (0, a_15.2))
  else (z_bd (F_X11_layTo N a1 a_15.2) (fun a_18 => if z_inb a0 1000 then (some (a_18 62 (z_ix a0), a_18)) else none)))
def F_X11_way (N : Nat) (a0 : Int32) (a1 : Int32) (D : z_Dat) : Option (Int32 × z_Dat) :=
  z_let (z_up D 40 0 0) (fun D1 => if (F_X11_isShade a0) = 0 then (F_X11_way_J24 N a0 a1 D1)
  else (if (F_X11_isShade a1) = 0 then (F_X11_way_J24 N a0 a1 D1)
  else (F_X11_way_J25x N a0 a1 D1)))
set_option maxRecDepth 100000 in
set_option maxHeartbeats 4000000 in
theorem em_X11_way {l : Launch} {S : List z_Shp} {oW : Nat} (hl : l.stackTraces = false) (hW : z_W S oW) (N : Nat) (a0 : Int32) (a1 : Int32) (D : z_Dat) : ∀ out, z_ko (z_kI S) (F_X11_way N a0 a1 D) out → z_EM l M_X11_way (50, 700, 0, 0) [.ref 40, .int a0, .int a1] S D out := by
  have hs40 : S[40]? = some (13, 55, [none, some (some 41), none, none, none, none, none, none, none, some (some 42), some (some 43), some (some 44), some (some 45), some (some 46), some (some 47), some (some 48), none, none, none, none, none, none, some (some 49), some (some 50), some (some 51), some (some 52), some (some 53), none, none, some (some 54), some (some 55), some (some 56), none, none, none, none, none, none, some (some 57), some (some 58), some (some 59), some (some 60), some (some 61), none, some (some 62), some (some 63), none, none, some (some 64), some (some 65), none, none, none, some (some 66), none]) := hW.1 40 _ rfl
  have hs62 : S[62]? = some (0, 1000, []) := hW.1 62 _ rfl
  refine z_meth hl rfl kp_X11 (Nat.le_of_ble_eq_true rfl) (lv := [some (.ref 40), some (.int a0), some (.int a1)]) rfl ?_
  unfold F_X11_way
  have hJ_F_X11_way_J25 : ∀ (D5 : z_Dat) , z_F l M_X11_way (50, 700, 0, 0) 0 0 25 [some (.ref 40), some (.int a0), some (.int a1)] [.int 0, .ref 40] S D5 (z_ko (z_kI S)) (F_X11_way_J25 N a0 a1 D5) := by
    intro D5
    unfold F_X11_way_J25
    refine z_iconst (v := 1) dX11_way_25 rfl ?_
    refine z_iconst (v := 1) dX11_way_26 rfl ?_
    refine z_cWI (As := [.ref 40, .int 0, .int 1, .int 1]) (rest := []) (em_X11_may hl hW 0 1 1 D5) (fun o7 h => z_runV 198 3 h rfl kk_X11_198 hs40 kl_11.1 kq_X11_may rfl (Nat.le_of_ble_eq_true rfl) ⟨Nat.le_of_ble_eq_true rfl, Nat.le_of_ble_eq_true rfl, Nat.le_of_ble_eq_true rfl, Nat.le_of_ble_eq_true rfl⟩ dX11_way_27) z_gWI (fun a_7 hz6 => ?_)
    refine z_if_ne 35 dX11_way_30 (by decide) (fun c8 => ?_) (fun c8 => ?_)
    · refine z_iconst (v := 0) dX11_way_33 rfl ?_
      exact z_ireturn dX11_way_34 z_rWI rfl (by decide) (by decide)
    · refine z_aload_n (i := 0) (x := 40) dX11_way_35 rfl rfl ?_
      refine z_iload_n (i := 2) (x := a1) dX11_way_36 rfl rfl ?_
      refine z_cWV (As := [.ref 40, .int a1]) (rest := []) (em_X11_layTo hl hW N a1 a_7.2) (fun o7 h => z_runV 400 1 h rfl kk_X11_400 hs40 kl_11.1 kq_X11_layTo rfl (Nat.le_of_ble_eq_true rfl) ⟨Nat.le_of_ble_eq_true rfl, Nat.le_of_ble_eq_true rfl, Nat.le_of_ble_eq_true rfl, Nat.le_of_ble_eq_true rfl⟩ dX11_way_37) z_gWI (fun a_10 hz9 => ?_)
      refine z_aload_n (i := 0) (x := 40) dX11_way_40 rfl rfl ?_
      refine z_getR (j := 44) dX11_way_41 kl_11 hs40 (by decide) rfl rfl kf_X11_80 ?_
      refine z_iload_n (i := 1) (x := a0) dX11_way_44 rfl rfl ?_
      refine z_iald dX11_way_45 hs62 ?_
      exact z_ireturn dX11_way_46 z_rWI rfl (by decide) (by decide)
  have hJ_F_X11_way_J24 : ∀ (D4 : z_Dat) , z_F l M_X11_way (50, 700, 0, 0) 0 0 24 [some (.ref 40), some (.int a0), some (.int a1)] [.ref 40] S D4 (z_ko (z_kI S)) (F_X11_way_J24 N a0 a1 D4) := by
    intro D4
    unfold F_X11_way_J24
    refine z_iconst (v := 0) dX11_way_24 rfl ?_
    exact hJ_F_X11_way_J25 D4
  have hJ_F_X11_way_J25x : ∀ (D13 : z_Dat) , z_F l M_X11_way (50, 700, 0, 0) 0 0 25 [some (.ref 40), some (.int a0), some (.int a1)] [.int 1, .ref 40] S D13 (z_ko (z_kI S)) (F_X11_way_J25x N a0 a1 D13) := by
    intro D13
    unfold F_X11_way_J25x
    refine z_iconst (v := 1) dX11_way_25 rfl ?_
    refine z_iconst (v := 1) dX11_way_26 rfl ?_
    refine z_cWI (As := [.ref 40, .int 1, .int 1, .int 1]) (rest := []) (em_X11_may hl hW 1 1 1 D13) (fun o7 h => z_runV 198 3 h rfl kk_X11_198 hs40 kl_11.1 kq_X11_may rfl (Nat.le_of_ble_eq_true rfl) ⟨Nat.le_of_ble_eq_true rfl, Nat.le_of_ble_eq_true rfl, Nat.le_of_ble_eq_true rfl, Nat.le_of_ble_eq_true rfl⟩ dX11_way_27) z_gWI (fun a_15 hz14 => ?_)
    refine z_if_ne 35 dX11_way_30 (by decide) (fun c16 => ?_) (fun c16 => ?_)
    · refine z_iconst (v := 0) dX11_way_33 rfl ?_
      exact z_ireturn dX11_way_34 z_rWI rfl (by decide) (by decide)
    · refine z_aload_n (i := 0) (x := 40) dX11_way_35 rfl rfl ?_
      refine z_iload_n (i := 2) (x := a1) dX11_way_36 rfl rfl ?_
      refine z_cWV (As := [.ref 40, .int a1]) (rest := []) (em_X11_layTo hl hW N a1 a_15.2) (fun o7 h => z_runV 400 1 h rfl kk_X11_400 hs40 kl_11.1 kq_X11_layTo rfl (Nat.le_of_ble_eq_true rfl) ⟨Nat.le_of_ble_eq_true rfl, Nat.le_of_ble_eq_true rfl, Nat.le_of_ble_eq_true rfl, Nat.le_of_ble_eq_true rfl⟩ dX11_way_37) z_gWI (fun a_18 hz17 => ?_)
      refine z_aload_n (i := 0) (x := 40) dX11_way_40 rfl rfl ?_
      refine z_getR (j := 44) dX11_way_41 kl_11 hs40 (by decide) rfl rfl kf_X11_80 ?_
      refine z_iload_n (i := 1) (x := a0) dX11_way_44 rfl rfl ?_
      refine z_iald dX11_way_45 hs62 ?_
      exact z_ireturn dX11_way_46 z_rWI rfl (by decide) (by decide)
  refine z_aload_n (i := 0) (x := 40) dX11_way_0 rfl rfl ?_
  refine z_iconst (v := 0) dX11_way_1 rfl ?_
  refine z_putI (j := 0) dX11_way_2 kl_11 tyX11_ok nmX11 hs40 (by decide) rfl rfl rfl rfl rfl rfl kf_X11_3 (fun D1 => ?_)
  refine z_aload_n (i := 0) (x := 40) dX11_way_5 rfl rfl ?_
  refine z_iload_n (i := 1) (x := a0) dX11_way_6 rfl rfl ?_
  refine z_cP (As := [.int a0]) (rest := [.ref 40]) (em_X11_isShade hl a0 D1) (fun o7 h => z_runS 397 1 h rfl kk_X11_397 kq_X11_isShade rfl (Nat.le_of_ble_eq_true rfl) ⟨Nat.le_of_ble_eq_true rfl, Nat.le_of_ble_eq_true rfl, Nat.le_of_ble_eq_true rfl, Nat.le_of_ble_eq_true rfl⟩ dX11_way_7) z_gWI (fun hz2 => ?_)
  refine z_if_eq 24 dX11_way_10 (by decide) (fun c3 => ?_) (fun c3 => ?_)
  · exact hJ_F_X11_way_J24 D1
  · refine z_iload_n (i := 2) (x := a1) dX11_way_13 rfl rfl ?_
    refine z_cP (As := [.int a1]) (rest := [.ref 40]) (em_X11_isShade hl a1 D1) (fun o7 h => z_runS 397 1 h rfl kk_X11_397 kq_X11_isShade rfl (Nat.le_of_ble_eq_true rfl) ⟨Nat.le_of_ble_eq_true rfl, Nat.le_of_ble_eq_true rfl, Nat.le_of_ble_eq_true rfl, Nat.le_of_ble_eq_true rfl⟩ dX11_way_14) z_gWI (fun hz11 => ?_)
    refine z_if_eq 24 dX11_way_17 (by decide) (fun c12 => ?_) (fun c12 => ?_)
    · exact hJ_F_X11_way_J24 D1
    · refine z_iconst (v := 1) dX11_way_20 rfl ?_
      refine z_goto 25 dX11_way_21 (by decide) ?_
      exact hJ_F_X11_way_J25x D1

def F_X11_step_L75 (kc15 : ((Int32 × Int32) → Option (Int32 × z_Dat))) (a2 : Int32) (a_10 : z_Dat) (v13 : Int32) (v14 : Int32) (kc17 : (Int32 → Option (Int32 × z_Dat))) (v16 : Int32) : Option (Int32 × z_Dat) :=
  z_bd (F_X11_dippedIn v13 v16 a_10) (fun a_19 => if z_inb a_19 1000 then (if z_inb v13 1000 then (if (a_10 62 (z_ix a_19)) = ((a_10 62 (z_ix v13)) - 1) then (if v14 = a2 then (some (v16, a_10))
  else (z_bd (F_X11_dippedIn v13 v16 a_10) (fun a_23 => z_let (v14 + 1) (fun v24 => kc15 (a_23, v24)))))
  else (z_let (v16 + 1) (fun v25 => kc17 v25))) else none) else none)
def F_X11_step_L72 (N : Nat) (a2 : Int32) (a_10 : z_Dat) (kc15 : ((Int32 × Int32) → Option (Int32 × z_Dat))) (v13 : Int32) (v14 : Int32) : Option (Int32 × z_Dat) :=
  z_loop (fun kc17 s => F_X11_step_L75 kc15 a2 a_10 v13 v14 kc17 s) N 0
def F_X11_step_J29 (N : Nat) (a0 : Int32) (a1 : Int32) (a2 : Int32) (D5 : z_Dat) : Option (Int32 × z_Dat) :=
  z_bd (F_X11_may 0 1 1 D5) (fun a_7 => if a_7.1 = 0 then (some (0, a_7.2))
  else (z_bd (F_X11_layTo N a1 a_7.2) (fun a_10 => if z_inb a0 1000 then (if (a_10 62 (z_ix a0)) = (-1) then (some ((-1), a_10))
  else (if z_inb a0 1000 then (if a2 < (a_10 62 (z_ix a0)) then (z_loop (fun kc15 s => F_X11_step_L72 N a2 a_10 kc15 s.1 s.2) N (a0, 0))
  else (some ((-1), a_10))) else none)) else none)))
def F_X11_step_J28 (N : Nat) (a0 : Int32) (a1 : Int32) (a2 : Int32) (D4 : z_Dat) : Option (Int32 × z_Dat) :=
  F_X11_step_J29 N a0 a1 a2 D4
def F_X11_step_L75x (kc41 : ((Int32 × Int32) → Option (Int32 × z_Dat))) (a2 : Int32) (a_36 : z_Dat) (v39 : Int32) (v40 : Int32) (kc43 : (Int32 → Option (Int32 × z_Dat))) (v42 : Int32) : Option (Int32 × z_Dat) :=
  z_bd (F_X11_dippedIn v39 v42 a_36) (fun a_45 => if z_inb a_45 1000 then (if z_inb v39 1000 then (if (a_36 62 (z_ix a_45)) = ((a_36 62 (z_ix v39)) - 1) then (if v40 = a2 then (some (v42, a_36))
  else (z_bd (F_X11_dippedIn v39 v42 a_36) (fun a_49 => z_let (v40 + 1) (fun v50 => kc41 (a_49, v50)))))
  else (z_let (v42 + 1) (fun v51 => kc43 v51))) else none) else none)
def F_X11_step_L72x (N : Nat) (a2 : Int32) (a_36 : z_Dat) (kc41 : ((Int32 × Int32) → Option (Int32 × z_Dat))) (v39 : Int32) (v40 : Int32) : Option (Int32 × z_Dat) :=
  z_loop (fun kc43 s => F_X11_step_L75x kc41 a2 a_36 v39 v40 kc43 s) N 0
def F_X11_step_J29x (N : Nat) (a0 : Int32) (a1 : Int32) (a2 : Int32) (D31 : z_Dat) : Option (Int32 × z_Dat) :=
  z_bd (F_X11_may 1 1 1 D31) (fun a_33 => if a_33.1 = 0 then (some (0, a_33.2))
  else (z_bd (F_X11_layTo N a1 a_33.2) (fun a_36 => if z_inb a0 1000 then (if (a_36 62 (z_ix a0)) = (-1) then (some ((-1), a_36))
  else (if z_inb a0 1000 then (if a2 < (a_36 62 (z_ix a0)) then (z_loop (fun kc41 s => F_X11_step_L72x N a2 a_36 kc41 s.1 s.2) N (a0, 0))
  else (some ((-1), a_36))) else none)) else none)))
def F_X11_step (N : Nat) (a0 : Int32) (a1 : Int32) (a2 : Int32) (D : z_Dat) : Option (Int32 × z_Dat) :=
  z_let (z_up D 40 0 0) (fun D1 => if (F_X11_isShade a0) = 0 then (F_X11_step_J28 N a0 a1 a2 D1)
  else (if (F_X11_isShade a1) = 0 then (F_X11_step_J28 N a0 a1 a2 D1)
  else (if a2 < 0 then (F_X11_step_J28 N a0 a1 a2 D1)
  else (F_X11_step_J29x N a0 a1 a2 D1))))
set_option maxRecDepth 100000 in
set_option maxHeartbeats 4000000 in
theorem em_X11_step {l : Launch} {S : List z_Shp} {oW : Nat} (hl : l.stackTraces = false) (hW : z_W S oW) (N : Nat) (a0 : Int32) (a1 : Int32) (a2 : Int32) (D : z_Dat) : ∀ out, z_ko (z_kI S) (F_X11_step N a0 a1 a2 D) out → z_EM l M_X11_step (50, 700, 0, 0) [.ref 40, .int a0, .int a1, .int a2] S D out := by
  have hs40 : S[40]? = some (13, 55, [none, some (some 41), none, none, none, none, none, none, none, some (some 42), some (some 43), some (some 44), some (some 45), some (some 46), some (some 47), some (some 48), none, none, none, none, none, none, some (some 49), some (some 50), some (some 51), some (some 52), some (some 53), none, none, some (some 54), some (some 55), some (some 56), none, none, none, none, none, none, some (some 57), some (some 58), some (some 59), some (some 60), some (some 61), none, some (some 62), some (some 63), none, none, some (some 64), some (some 65), none, none, none, some (some 66), none]) := hW.1 40 _ rfl
  have hs62 : S[62]? = some (0, 1000, []) := hW.1 62 _ rfl
  refine z_meth hl rfl kp_X11 (Nat.le_of_ble_eq_true rfl) (lv := [some (.ref 40), some (.int a0), some (.int a1), some (.int a2), none, none, none]) rfl ?_
  unfold F_X11_step
  have hJ_F_X11_step_J29 : ∀ (D5 : z_Dat) , z_F l M_X11_step (50, 700, 0, 0) 0 0 29 [some (.ref 40), some (.int a0), some (.int a1), some (.int a2), none, none, none] [.int 0, .ref 40] S D5 (z_ko (z_kI S)) (F_X11_step_J29 N a0 a1 a2 D5) := by
    intro D5
    unfold F_X11_step_J29
    refine z_iconst (v := 1) dX11_step_29 rfl ?_
    refine z_iconst (v := 1) dX11_step_30 rfl ?_
    refine z_cWI (As := [.ref 40, .int 0, .int 1, .int 1]) (rest := []) (em_X11_may hl hW 0 1 1 D5) (fun o7 h => z_runV 198 3 h rfl kk_X11_198 hs40 kl_11.1 kq_X11_may rfl (Nat.le_of_ble_eq_true rfl) ⟨Nat.le_of_ble_eq_true rfl, Nat.le_of_ble_eq_true rfl, Nat.le_of_ble_eq_true rfl, Nat.le_of_ble_eq_true rfl⟩ dX11_step_31) z_gWI (fun a_7 hz6 => ?_)
    refine z_if_ne 39 dX11_step_34 (by decide) (fun c8 => ?_) (fun c8 => ?_)
    · refine z_iconst (v := 0) dX11_step_37 rfl ?_
      exact z_ireturn dX11_step_38 z_rWI rfl (by decide) (by decide)
    · refine z_aload_n (i := 0) (x := 40) dX11_step_39 rfl rfl ?_
      refine z_iload_n (i := 2) (x := a1) dX11_step_40 rfl rfl ?_
      refine z_cWV (As := [.ref 40, .int a1]) (rest := []) (em_X11_layTo hl hW N a1 a_7.2) (fun o7 h => z_runV 400 1 h rfl kk_X11_400 hs40 kl_11.1 kq_X11_layTo rfl (Nat.le_of_ble_eq_true rfl) ⟨Nat.le_of_ble_eq_true rfl, Nat.le_of_ble_eq_true rfl, Nat.le_of_ble_eq_true rfl, Nat.le_of_ble_eq_true rfl⟩ dX11_step_41) z_gWI (fun a_10 hz9 => ?_)
      refine z_aload_n (i := 0) (x := 40) dX11_step_44 rfl rfl ?_
      refine z_getR (j := 44) dX11_step_45 kl_11 hs40 (by decide) rfl rfl kf_X11_80 ?_
      refine z_iload_n (i := 1) (x := a0) dX11_step_48 rfl rfl ?_
      refine z_iald dX11_step_49 hs62 ?_
      refine z_iconst (v := (-1)) dX11_step_50 rfl ?_
      refine z_icmp_eq 64 dX11_step_51 (by decide) (fun c11 => ?_) (fun c11 => ?_)
      · refine z_iconst (v := (-1)) dX11_step_64 rfl ?_
        exact z_ireturn dX11_step_65 z_rWI rfl (by decide) (by decide)
      · refine z_iload_n (i := 3) (x := a2) dX11_step_54 rfl rfl ?_
        refine z_aload_n (i := 0) (x := 40) dX11_step_55 rfl rfl ?_
        refine z_getR (j := 44) dX11_step_56 kl_11 hs40 (by decide) rfl rfl kf_X11_80 ?_
        refine z_iload_n (i := 1) (x := a0) dX11_step_59 rfl rfl ?_
        refine z_iald dX11_step_60 hs62 ?_
        refine z_icmp_lt 66 dX11_step_61 (by decide) (fun c12 => ?_) (fun c12 => ?_)
        · refine z_iload_n (i := 1) (x := a0) dX11_step_66 rfl rfl ?_
          refine z_istore (i := 4) (x := a0) (lv' := [some (.ref 40), some (.int a0), some (.int a1), some (.int a2), some (.int a0), none, none]) dX11_step_67 (by decide) rfl rfl ?_
          refine z_iconst (v := 0) dX11_step_69 rfl ?_
          refine z_istore (i := 5) (x := 0) (lv' := [some (.ref 40), some (.int a0), some (.int a1), some (.int a2), some (.int a0), some (.int 0), none]) dX11_step_70 (by decide) rfl rfl ?_
          refine z_weak (lv' := [some (.ref 40), none, none, some (.int a2), some (.int a0), some (.int 0), none]) ⟨Or.inr rfl, ⟨Or.inl rfl, ⟨Or.inl rfl, ⟨Or.inr rfl, ⟨Or.inr rfl, ⟨Or.inr rfl, ⟨Or.inl rfl, trivial⟩⟩⟩⟩⟩⟩⟩ ?_
          refine z_loops (lvOf := fun s : Int32 × Int32 => [some (.ref 40), none, none, some (.int a2), some (.int s.1), some (.int s.2), none]) (dOf := fun s : Int32 × Int32 => a_10) (fun kc15 hkc15 s => ?_) N (a0, 0)
          obtain ⟨v13, v14⟩ := s
          show z_F _ _ _ _ _ 72 [some (.ref 40), none, none, some (.int a2), some (.int v13), some (.int v14), none] [] S a_10 _ (F_X11_step_L72 N a2 a_10 kc15 v13 v14)
          unfold F_X11_step_L72
          refine z_iconst (v := 0) dX11_step_72 rfl ?_
          refine z_istore (i := 6) (x := 0) (lv' := [some (.ref 40), none, none, some (.int a2), some (.int v13), some (.int v14), some (.int 0)]) dX11_step_73 (by decide) rfl rfl ?_
          refine z_loops (lvOf := fun s : Int32 => [some (.ref 40), none, none, some (.int a2), some (.int v13), some (.int v14), some (.int s)]) (dOf := fun s : Int32 => a_10) (fun kc17 hkc17 s => ?_) N 0
          obtain ⟨v16, hq⟩ : ∃ z, z = s := ⟨_, rfl⟩
          subst hq
          show z_F _ _ _ _ _ 75 [some (.ref 40), none, none, some (.int a2), some (.int v13), some (.int v14), some (.int v16)] [] S a_10 _ (F_X11_step_L75 kc15 a2 a_10 v13 v14 kc17 v16)
          unfold F_X11_step_L75
          refine z_aload_n (i := 0) (x := 40) dX11_step_75 rfl rfl ?_
          refine z_getR (j := 44) dX11_step_76 kl_11 hs40 (by decide) rfl rfl kf_X11_80 ?_
          refine z_aload_n (i := 0) (x := 40) dX11_step_79 rfl rfl ?_
          refine z_iload (i := 4) (x := v13) dX11_step_80 rfl ?_
          refine z_iload (i := 6) (x := v16) dX11_step_82 rfl ?_
          refine z_cR (As := [.ref 40, .int v13, .int v16]) (rest := [.ref 62]) (em_X11_dippedIn hl hW v13 v16 a_10) (fun o7 h => z_runV 352 2 h rfl kk_X11_352 hs40 kl_11.1 kq_X11_dippedIn rfl (Nat.le_of_ble_eq_true rfl) ⟨Nat.le_of_ble_eq_true rfl, Nat.le_of_ble_eq_true rfl, Nat.le_of_ble_eq_true rfl, Nat.le_of_ble_eq_true rfl⟩ dX11_step_84) z_gWI (fun a_19 hz18 => ?_)
          refine z_iald dX11_step_87 hs62 ?_
          refine z_aload_n (i := 0) (x := 40) dX11_step_88 rfl rfl ?_
          refine z_getR (j := 44) dX11_step_89 kl_11 hs40 (by decide) rfl rfl kf_X11_80 ?_
          refine z_iload (i := 4) (x := v13) dX11_step_92 rfl ?_
          refine z_iald dX11_step_94 hs62 ?_
          refine z_iconst (v := 1) dX11_step_95 rfl ?_
          refine z_isub dX11_step_96 ?_
          refine z_icmp_eq 106 dX11_step_97 (by decide) (fun c20 => ?_) (fun c20 => ?_)
          · refine z_iload (i := 5) (x := v14) dX11_step_106 rfl ?_
            refine z_iload_n (i := 3) (x := a2) dX11_step_108 rfl rfl ?_
            refine z_icmp_ne 115 dX11_step_109 (by decide) (fun c21 => ?_) (fun c21 => ?_)
            · refine z_iload (i := 6) (x := v16) dX11_step_112 rfl ?_
              exact z_ireturn dX11_step_114 z_rWI rfl (by decide) (by decide)
            · refine z_aload_n (i := 0) (x := 40) dX11_step_115 rfl rfl ?_
              refine z_iload (i := 4) (x := v13) dX11_step_116 rfl ?_
              refine z_iload (i := 6) (x := v16) dX11_step_118 rfl ?_
              refine z_cR (As := [.ref 40, .int v13, .int v16]) (rest := []) (em_X11_dippedIn hl hW v13 v16 a_10) (fun o7 h => z_runV 352 2 h rfl kk_X11_352 hs40 kl_11.1 kq_X11_dippedIn rfl (Nat.le_of_ble_eq_true rfl) ⟨Nat.le_of_ble_eq_true rfl, Nat.le_of_ble_eq_true rfl, Nat.le_of_ble_eq_true rfl, Nat.le_of_ble_eq_true rfl⟩ dX11_step_120) z_gWI (fun a_23 hz22 => ?_)
              refine z_istore (i := 4) (x := a_23) (lv' := [some (.ref 40), none, none, some (.int a2), some (.int a_23), some (.int v14), some (.int v16)]) dX11_step_123 (by decide) rfl rfl ?_
              refine z_iinc (i := 5) (x := v14) (y := 1) dX11_step_125 rfl (by decide) (by decide) rfl (fun v24 => ?_)
              refine z_goto 72 dX11_step_128 (by decide) ?_
              refine z_weak (lv' := [some (.ref 40), none, none, some (.int a2), some (.int a_23), some (.int v24), none]) ⟨Or.inr rfl, ⟨Or.inl rfl, ⟨Or.inl rfl, ⟨Or.inr rfl, ⟨Or.inr rfl, ⟨Or.inr rfl, ⟨Or.inl rfl, trivial⟩⟩⟩⟩⟩⟩⟩ ?_
              exact hkc15 (a_23, v24)
          · refine z_iinc (i := 6) (x := v16) (y := 1) dX11_step_100 rfl (by decide) (by decide) rfl (fun v25 => ?_)
            refine z_goto 75 dX11_step_103 (by decide) ?_
            exact hkc17 v25
        · refine z_iconst (v := (-1)) dX11_step_64 rfl ?_
          exact z_ireturn dX11_step_65 z_rWI rfl (by decide) (by decide)
  have hJ_F_X11_step_J28 : ∀ (D4 : z_Dat) , z_F l M_X11_step (50, 700, 0, 0) 0 0 28 [some (.ref 40), some (.int a0), some (.int a1), some (.int a2), none, none, none] [.ref 40] S D4 (z_ko (z_kI S)) (F_X11_step_J28 N a0 a1 a2 D4) := by
    intro D4
    unfold F_X11_step_J28
    refine z_iconst (v := 0) dX11_step_28 rfl ?_
    exact hJ_F_X11_step_J29 D4
  have hJ_F_X11_step_J29x : ∀ (D31 : z_Dat) , z_F l M_X11_step (50, 700, 0, 0) 0 0 29 [some (.ref 40), some (.int a0), some (.int a1), some (.int a2), none, none, none] [.int 1, .ref 40] S D31 (z_ko (z_kI S)) (F_X11_step_J29x N a0 a1 a2 D31) := by
    intro D31
    unfold F_X11_step_J29x
    refine z_iconst (v := 1) dX11_step_29 rfl ?_
    refine z_iconst (v := 1) dX11_step_30 rfl ?_
    refine z_cWI (As := [.ref 40, .int 1, .int 1, .int 1]) (rest := []) (em_X11_may hl hW 1 1 1 D31) (fun o7 h => z_runV 198 3 h rfl kk_X11_198 hs40 kl_11.1 kq_X11_may rfl (Nat.le_of_ble_eq_true rfl) ⟨Nat.le_of_ble_eq_true rfl, Nat.le_of_ble_eq_true rfl, Nat.le_of_ble_eq_true rfl, Nat.le_of_ble_eq_true rfl⟩ dX11_step_31) z_gWI (fun a_33 hz32 => ?_)
    refine z_if_ne 39 dX11_step_34 (by decide) (fun c34 => ?_) (fun c34 => ?_)
    · refine z_iconst (v := 0) dX11_step_37 rfl ?_
      exact z_ireturn dX11_step_38 z_rWI rfl (by decide) (by decide)
    · refine z_aload_n (i := 0) (x := 40) dX11_step_39 rfl rfl ?_
      refine z_iload_n (i := 2) (x := a1) dX11_step_40 rfl rfl ?_
      refine z_cWV (As := [.ref 40, .int a1]) (rest := []) (em_X11_layTo hl hW N a1 a_33.2) (fun o7 h => z_runV 400 1 h rfl kk_X11_400 hs40 kl_11.1 kq_X11_layTo rfl (Nat.le_of_ble_eq_true rfl) ⟨Nat.le_of_ble_eq_true rfl, Nat.le_of_ble_eq_true rfl, Nat.le_of_ble_eq_true rfl, Nat.le_of_ble_eq_true rfl⟩ dX11_step_41) z_gWI (fun a_36 hz35 => ?_)
      refine z_aload_n (i := 0) (x := 40) dX11_step_44 rfl rfl ?_
      refine z_getR (j := 44) dX11_step_45 kl_11 hs40 (by decide) rfl rfl kf_X11_80 ?_
      refine z_iload_n (i := 1) (x := a0) dX11_step_48 rfl rfl ?_
      refine z_iald dX11_step_49 hs62 ?_
      refine z_iconst (v := (-1)) dX11_step_50 rfl ?_
      refine z_icmp_eq 64 dX11_step_51 (by decide) (fun c37 => ?_) (fun c37 => ?_)
      · refine z_iconst (v := (-1)) dX11_step_64 rfl ?_
        exact z_ireturn dX11_step_65 z_rWI rfl (by decide) (by decide)
      · refine z_iload_n (i := 3) (x := a2) dX11_step_54 rfl rfl ?_
        refine z_aload_n (i := 0) (x := 40) dX11_step_55 rfl rfl ?_
        refine z_getR (j := 44) dX11_step_56 kl_11 hs40 (by decide) rfl rfl kf_X11_80 ?_
        refine z_iload_n (i := 1) (x := a0) dX11_step_59 rfl rfl ?_
        refine z_iald dX11_step_60 hs62 ?_
        refine z_icmp_lt 66 dX11_step_61 (by decide) (fun c38 => ?_) (fun c38 => ?_)
        · refine z_iload_n (i := 1) (x := a0) dX11_step_66 rfl rfl ?_
          refine z_istore (i := 4) (x := a0) (lv' := [some (.ref 40), some (.int a0), some (.int a1), some (.int a2), some (.int a0), none, none]) dX11_step_67 (by decide) rfl rfl ?_
          refine z_iconst (v := 0) dX11_step_69 rfl ?_
          refine z_istore (i := 5) (x := 0) (lv' := [some (.ref 40), some (.int a0), some (.int a1), some (.int a2), some (.int a0), some (.int 0), none]) dX11_step_70 (by decide) rfl rfl ?_
          refine z_weak (lv' := [some (.ref 40), none, none, some (.int a2), some (.int a0), some (.int 0), none]) ⟨Or.inr rfl, ⟨Or.inl rfl, ⟨Or.inl rfl, ⟨Or.inr rfl, ⟨Or.inr rfl, ⟨Or.inr rfl, ⟨Or.inl rfl, trivial⟩⟩⟩⟩⟩⟩⟩ ?_
          refine z_loops (lvOf := fun s : Int32 × Int32 => [some (.ref 40), none, none, some (.int a2), some (.int s.1), some (.int s.2), none]) (dOf := fun s : Int32 × Int32 => a_36) (fun kc41 hkc41 s => ?_) N (a0, 0)
          obtain ⟨v39, v40⟩ := s
          show z_F _ _ _ _ _ 72 [some (.ref 40), none, none, some (.int a2), some (.int v39), some (.int v40), none] [] S a_36 _ (F_X11_step_L72x N a2 a_36 kc41 v39 v40)
          unfold F_X11_step_L72x
          refine z_iconst (v := 0) dX11_step_72 rfl ?_
          refine z_istore (i := 6) (x := 0) (lv' := [some (.ref 40), none, none, some (.int a2), some (.int v39), some (.int v40), some (.int 0)]) dX11_step_73 (by decide) rfl rfl ?_
          refine z_loops (lvOf := fun s : Int32 => [some (.ref 40), none, none, some (.int a2), some (.int v39), some (.int v40), some (.int s)]) (dOf := fun s : Int32 => a_36) (fun kc43 hkc43 s => ?_) N 0
          obtain ⟨v42, hq⟩ : ∃ z, z = s := ⟨_, rfl⟩
          subst hq
          show z_F _ _ _ _ _ 75 [some (.ref 40), none, none, some (.int a2), some (.int v39), some (.int v40), some (.int v42)] [] S a_36 _ (F_X11_step_L75x kc41 a2 a_36 v39 v40 kc43 v42)
          unfold F_X11_step_L75x
          refine z_aload_n (i := 0) (x := 40) dX11_step_75 rfl rfl ?_
          refine z_getR (j := 44) dX11_step_76 kl_11 hs40 (by decide) rfl rfl kf_X11_80 ?_
          refine z_aload_n (i := 0) (x := 40) dX11_step_79 rfl rfl ?_
          refine z_iload (i := 4) (x := v39) dX11_step_80 rfl ?_
          refine z_iload (i := 6) (x := v42) dX11_step_82 rfl ?_
          refine z_cR (As := [.ref 40, .int v39, .int v42]) (rest := [.ref 62]) (em_X11_dippedIn hl hW v39 v42 a_36) (fun o7 h => z_runV 352 2 h rfl kk_X11_352 hs40 kl_11.1 kq_X11_dippedIn rfl (Nat.le_of_ble_eq_true rfl) ⟨Nat.le_of_ble_eq_true rfl, Nat.le_of_ble_eq_true rfl, Nat.le_of_ble_eq_true rfl, Nat.le_of_ble_eq_true rfl⟩ dX11_step_84) z_gWI (fun a_45 hz44 => ?_)
          refine z_iald dX11_step_87 hs62 ?_
          refine z_aload_n (i := 0) (x := 40) dX11_step_88 rfl rfl ?_
          refine z_getR (j := 44) dX11_step_89 kl_11 hs40 (by decide) rfl rfl kf_X11_80 ?_
          refine z_iload (i := 4) (x := v39) dX11_step_92 rfl ?_
          refine z_iald dX11_step_94 hs62 ?_
          refine z_iconst (v := 1) dX11_step_95 rfl ?_
          refine z_isub dX11_step_96 ?_
          refine z_icmp_eq 106 dX11_step_97 (by decide) (fun c46 => ?_) (fun c46 => ?_)
          · refine z_iload (i := 5) (x := v40) dX11_step_106 rfl ?_
            refine z_iload_n (i := 3) (x := a2) dX11_step_108 rfl rfl ?_
            refine z_icmp_ne 115 dX11_step_109 (by decide) (fun c47 => ?_) (fun c47 => ?_)
            · refine z_iload (i := 6) (x := v42) dX11_step_112 rfl ?_
              exact z_ireturn dX11_step_114 z_rWI rfl (by decide) (by decide)
            · refine z_aload_n (i := 0) (x := 40) dX11_step_115 rfl rfl ?_
              refine z_iload (i := 4) (x := v39) dX11_step_116 rfl ?_
              refine z_iload (i := 6) (x := v42) dX11_step_118 rfl ?_
              refine z_cR (As := [.ref 40, .int v39, .int v42]) (rest := []) (em_X11_dippedIn hl hW v39 v42 a_36) (fun o7 h => z_runV 352 2 h rfl kk_X11_352 hs40 kl_11.1 kq_X11_dippedIn rfl (Nat.le_of_ble_eq_true rfl) ⟨Nat.le_of_ble_eq_true rfl, Nat.le_of_ble_eq_true rfl, Nat.le_of_ble_eq_true rfl, Nat.le_of_ble_eq_true rfl⟩ dX11_step_120) z_gWI (fun a_49 hz48 => ?_)
              refine z_istore (i := 4) (x := a_49) (lv' := [some (.ref 40), none, none, some (.int a2), some (.int a_49), some (.int v40), some (.int v42)]) dX11_step_123 (by decide) rfl rfl ?_
              refine z_iinc (i := 5) (x := v40) (y := 1) dX11_step_125 rfl (by decide) (by decide) rfl (fun v50 => ?_)
              refine z_goto 72 dX11_step_128 (by decide) ?_
              refine z_weak (lv' := [some (.ref 40), none, none, some (.int a2), some (.int a_49), some (.int v50), none]) ⟨Or.inr rfl, ⟨Or.inl rfl, ⟨Or.inl rfl, ⟨Or.inr rfl, ⟨Or.inr rfl, ⟨Or.inr rfl, ⟨Or.inl rfl, trivial⟩⟩⟩⟩⟩⟩⟩ ?_
              exact hkc41 (a_49, v50)
          · refine z_iinc (i := 6) (x := v42) (y := 1) dX11_step_100 rfl (by decide) (by decide) rfl (fun v51 => ?_)
            refine z_goto 75 dX11_step_103 (by decide) ?_
            exact hkc43 v51
        · refine z_iconst (v := (-1)) dX11_step_64 rfl ?_
          exact z_ireturn dX11_step_65 z_rWI rfl (by decide) (by decide)
  refine z_aload_n (i := 0) (x := 40) dX11_step_0 rfl rfl ?_
  refine z_iconst (v := 0) dX11_step_1 rfl ?_
  refine z_putI (j := 0) dX11_step_2 kl_11 tyX11_ok nmX11 hs40 (by decide) rfl rfl rfl rfl rfl rfl kf_X11_3 (fun D1 => ?_)
  refine z_aload_n (i := 0) (x := 40) dX11_step_5 rfl rfl ?_
  refine z_iload_n (i := 1) (x := a0) dX11_step_6 rfl rfl ?_
  refine z_cP (As := [.int a0]) (rest := [.ref 40]) (em_X11_isShade hl a0 D1) (fun o7 h => z_runS 397 1 h rfl kk_X11_397 kq_X11_isShade rfl (Nat.le_of_ble_eq_true rfl) ⟨Nat.le_of_ble_eq_true rfl, Nat.le_of_ble_eq_true rfl, Nat.le_of_ble_eq_true rfl, Nat.le_of_ble_eq_true rfl⟩ dX11_step_7) z_gWI (fun hz2 => ?_)
  refine z_if_eq 28 dX11_step_10 (by decide) (fun c3 => ?_) (fun c3 => ?_)
  · exact hJ_F_X11_step_J28 D1
  · refine z_iload_n (i := 2) (x := a1) dX11_step_13 rfl rfl ?_
    refine z_cP (As := [.int a1]) (rest := [.ref 40]) (em_X11_isShade hl a1 D1) (fun o7 h => z_runS 397 1 h rfl kk_X11_397 kq_X11_isShade rfl (Nat.le_of_ble_eq_true rfl) ⟨Nat.le_of_ble_eq_true rfl, Nat.le_of_ble_eq_true rfl, Nat.le_of_ble_eq_true rfl, Nat.le_of_ble_eq_true rfl⟩ dX11_step_14) z_gWI (fun hz28 => ?_)
    refine z_if_eq 28 dX11_step_17 (by decide) (fun c29 => ?_) (fun c29 => ?_)
    · exact hJ_F_X11_step_J28 D1
    · refine z_iload_n (i := 3) (x := a2) dX11_step_20 rfl rfl ?_
      refine z_if_lt 28 dX11_step_21 (by decide) (fun c30 => ?_) (fun c30 => ?_)
      · exact hJ_F_X11_step_J28 D1
      · refine z_iconst (v := 1) dX11_step_24 rfl ?_
        refine z_goto 29 dX11_step_25 (by decide) ?_
        exact hJ_F_X11_step_J29x D1

def F_X11_sumsOn_L111 (slf : Int32 → Int32 → Int32 → Int32 → Int32 → z_Dat → Option z_Dat) (a0 : Int32) (a1 : Int32) (a2 : Int32) (a3 : Int32) (a4 : Int32) (v9 : Int32) (kc15 : ((Int32 × z_Dat) → Option z_Dat)) (v13 : Int32) (D14 : z_Dat) : Option z_Dat :=
  if z_inb v9 24 then (if a1 < (v13 * (D14 47 (z_ix v9))) then (some D14)
  else (if z_inb (v9 + 1) 24 then (if a2 < (v13 * (D14 47 (z_ix (v9 + 1)))) then (some D14)
  else (if z_inb (v9 + 2) 24 then (if a3 < (v13 * (D14 47 (z_ix (v9 + 2)))) then (some D14)
  else (if z_inb v9 24 then (if z_inb (v9 + 1) 24 then (if z_inb (v9 + 2) 24 then (z_bd (slf (a0 + 1) (a1 - (v13 * (D14 47 (z_ix v9)))) (a2 - (v13 * (D14 47 (z_ix (v9 + 1))))) (a3 - (v13 * (D14 47 (z_ix (v9 + 2))))) (a4 + v13) D14) (fun a_20 => z_let (v13 + 1) (fun v21 => kc15 (v21, a_20)))) else none) else none) else none)) else none)) else none)) else none
def F_X11_sumsOn_B (N : Nat) (slf : Int32 → Int32 → Int32 → Int32 → Int32 → z_Dat → Option z_Dat) (a0 : Int32) (a1 : Int32) (a2 : Int32) (a3 : Int32) (a4 : Int32) (D : z_Dat) : Option z_Dat :=
  if a0 = (D 40 19) then (if ((a1 + a2) + a3) ≤ 0 then (z_let (z_up D 40 46 ((D 40 46) + 1)) (fun D3 => if (D3 40 47) = (-1) then (z_let (z_up D3 40 47 a4) (fun D5 => some D5))
  else (if (D3 40 47) ≤ a4 then (z_let (z_up D3 40 47 (D3 40 47)) (fun D7 => some D7))
  else (z_let (z_up D3 40 47 a4) (fun D8 => some D8)))))
  else (some D))
  else (z_let (4 * a0) (fun v9 => if z_inb v9 24 then (if z_inb (v9 + 1) 24 then (if z_inb (v9 + 2) 24 then (if (((D 47 (z_ix v9)) + (D 47 (z_ix (v9 + 1)))) + (D 47 (z_ix (v9 + 2)))) = 0 then (z_bd (slf (a0 + 1) a1 a2 a3 a4 D) (fun a_12 => some a_12))
  else (z_loop (fun kc15 s => F_X11_sumsOn_L111 slf a0 a1 a2 a3 a4 v9 kc15 s.1 s.2) N (0, D))) else none) else none) else none))
set_option maxRecDepth 100000 in
set_option maxHeartbeats 4000000 in
theorem em_X11_sumsOn_B {l : Launch} {S : List z_Shp} {oW : Nat} (hl : l.stackTraces = false) (hW : z_W S oW) (N : Nat) (K : Nat) (slf : Int32 → Int32 → Int32 → Int32 → Int32 → z_Dat → Option z_Dat) (hs : ∀ (a0 : Int32) (a1 : Int32) (a2 : Int32) (a3 : Int32) (a4 : Int32) (D : z_Dat), ∀ out, z_ko (z_kV S) (slf a0 a1 a2 a3 a4 D) out → z_EM l M_X11_sumsOn (20 + 20 * K, 520 + 300 * K, 0, 0) [.ref 40, .int a0, .int a1, .int a2, .int a3, .int a4] S D out) (a0 : Int32) (a1 : Int32) (a2 : Int32) (a3 : Int32) (a4 : Int32) (D : z_Dat) : ∀ out, z_ko (z_kV S) (F_X11_sumsOn_B N slf a0 a1 a2 a3 a4 D) out → z_EM l M_X11_sumsOn (20 + 20 * (K + 1), 520 + 300 * (K + 1), 0, 0) [.ref 40, .int a0, .int a1, .int a2, .int a3, .int a4] S D out := by
  have hs40 : S[40]? = some (13, 55, [none, some (some 41), none, none, none, none, none, none, none, some (some 42), some (some 43), some (some 44), some (some 45), some (some 46), some (some 47), some (some 48), none, none, none, none, none, none, some (some 49), some (some 50), some (some 51), some (some 52), some (some 53), none, none, some (some 54), some (some 55), some (some 56), none, none, none, none, none, none, some (some 57), some (some 58), some (some 59), some (some 60), some (some 61), none, some (some 62), some (some 63), none, none, some (some 64), some (some 65), none, none, none, some (some 66), none]) := hW.1 40 _ rfl
  have hs47 : S[47]? = some (0, 24, []) := hW.1 47 _ rfl
  refine z_meth hl rfl kp_X11 (Nat.le_of_ble_eq_true rfl) (lv := [some (.ref 40), some (.int a0), some (.int a1), some (.int a2), some (.int a3), some (.int a4), none, none]) rfl ?_
  unfold F_X11_sumsOn_B
  refine z_iload_n (i := 1) (x := a0) dX11_sumsOn_0 rfl rfl ?_
  refine z_aload_n (i := 0) (x := 40) dX11_sumsOn_1 rfl rfl ?_
  refine z_getI (j := 19) dX11_sumsOn_2 kl_11 hs40 (by decide) rfl rfl kf_X11_156 ?_
  refine z_icmp_ne 59 dX11_sumsOn_5 (by decide) (fun c1 => ?_) (fun c1 => ?_)
  · refine z_iload_n (i := 2) (x := a1) dX11_sumsOn_8 rfl rfl ?_
    refine z_iload_n (i := 3) (x := a2) dX11_sumsOn_9 rfl rfl ?_
    refine z_iadd dX11_sumsOn_10 ?_
    refine z_iload (i := 4) (x := a3) dX11_sumsOn_11 rfl ?_
    refine z_iadd dX11_sumsOn_13 ?_
    refine z_if_le 18 dX11_sumsOn_14 (by decide) (fun c2 => ?_) (fun c2 => ?_)
    · refine z_aload_n (i := 0) (x := 40) dX11_sumsOn_18 rfl rfl ?_
      refine z_dup dX11_sumsOn_19 rfl ?_
      refine z_getI (j := 46) dX11_sumsOn_20 kl_11 hs40 (by decide) rfl rfl kf_X11_403 ?_
      refine z_iconst (v := 1) dX11_sumsOn_23 rfl ?_
      refine z_iadd dX11_sumsOn_24 ?_
      refine z_putI (j := 46) dX11_sumsOn_25 kl_11 tyX11_ok nmX11 hs40 (by decide) rfl rfl rfl rfl rfl rfl kf_X11_403 (fun D3 => ?_)
      refine z_aload_n (i := 0) (x := 40) dX11_sumsOn_28 rfl rfl ?_
      refine z_aload_n (i := 0) (x := 40) dX11_sumsOn_29 rfl rfl ?_
      refine z_getI (j := 47) dX11_sumsOn_30 kl_11 hs40 (by decide) rfl rfl kf_X11_406 ?_
      refine z_iconst (v := (-1)) dX11_sumsOn_33 rfl ?_
      refine z_icmp_eq 46 dX11_sumsOn_34 (by decide) (fun c4 => ?_) (fun c4 => ?_)
      · refine z_iload (i := 5) (x := a4) dX11_sumsOn_46 rfl ?_
        refine z_goto 55 dX11_sumsOn_48 (by decide) ?_
        refine z_putI (j := 47) dX11_sumsOn_55 kl_11 tyX11_ok nmX11 hs40 (by decide) rfl rfl rfl rfl rfl rfl kf_X11_406 (fun D5 => ?_)
        exact z_vreturn dX11_sumsOn_58 z_rWV trivial (Nat.le_refl _) (Nat.le_refl _)
      · refine z_iload (i := 5) (x := a4) dX11_sumsOn_37 rfl ?_
        refine z_aload_n (i := 0) (x := 40) dX11_sumsOn_39 rfl rfl ?_
        refine z_getI (j := 47) dX11_sumsOn_40 kl_11 hs40 (by decide) rfl rfl kf_X11_406 ?_
        refine z_icmp_ge 51 dX11_sumsOn_43 (by decide) (fun c6 => ?_) (fun c6 => ?_)
        · refine z_aload_n (i := 0) (x := 40) dX11_sumsOn_51 rfl rfl ?_
          refine z_getI (j := 47) dX11_sumsOn_52 kl_11 hs40 (by decide) rfl rfl kf_X11_406 ?_
          refine z_putI (j := 47) dX11_sumsOn_55 kl_11 tyX11_ok nmX11 hs40 (by decide) rfl rfl rfl rfl rfl rfl kf_X11_406 (fun D7 => ?_)
          exact z_vreturn dX11_sumsOn_58 z_rWV trivial (Nat.le_refl _) (Nat.le_refl _)
        · refine z_iload (i := 5) (x := a4) dX11_sumsOn_46 rfl ?_
          refine z_goto 55 dX11_sumsOn_48 (by decide) ?_
          refine z_putI (j := 47) dX11_sumsOn_55 kl_11 tyX11_ok nmX11 hs40 (by decide) rfl rfl rfl rfl rfl rfl kf_X11_406 (fun D8 => ?_)
          exact z_vreturn dX11_sumsOn_58 z_rWV trivial (Nat.le_refl _) (Nat.le_refl _)
    · exact z_vreturn dX11_sumsOn_17 z_rWV trivial (Nat.le_refl _) (Nat.le_refl _)
  · refine z_iconst (v := 4) dX11_sumsOn_59 rfl ?_
    refine z_iload_n (i := 1) (x := a0) dX11_sumsOn_60 rfl rfl ?_
    refine z_imul dX11_sumsOn_61 ?_
    refine z_topi (fun v9 => ?_)
    refine z_istore (i := 6) (x := v9) (lv' := [some (.ref 40), some (.int a0), some (.int a1), some (.int a2), some (.int a3), some (.int a4), some (.int v9), none]) dX11_sumsOn_62 (by decide) rfl rfl ?_
    refine z_aload_n (i := 0) (x := 40) dX11_sumsOn_64 rfl rfl ?_
    refine z_getR (j := 14) dX11_sumsOn_65 kl_11 hs40 (by decide) rfl rfl kf_X11_35 ?_
    refine z_iload (i := 6) (x := v9) dX11_sumsOn_68 rfl ?_
    refine z_iald dX11_sumsOn_70 hs47 ?_
    refine z_aload_n (i := 0) (x := 40) dX11_sumsOn_71 rfl rfl ?_
    refine z_getR (j := 14) dX11_sumsOn_72 kl_11 hs40 (by decide) rfl rfl kf_X11_35 ?_
    refine z_iload (i := 6) (x := v9) dX11_sumsOn_75 rfl ?_
    refine z_iconst (v := 1) dX11_sumsOn_77 rfl ?_
    refine z_iadd dX11_sumsOn_78 ?_
    refine z_iald dX11_sumsOn_79 hs47 ?_
    refine z_iadd dX11_sumsOn_80 ?_
    refine z_aload_n (i := 0) (x := 40) dX11_sumsOn_81 rfl rfl ?_
    refine z_getR (j := 14) dX11_sumsOn_82 kl_11 hs40 (by decide) rfl rfl kf_X11_35 ?_
    refine z_iload (i := 6) (x := v9) dX11_sumsOn_85 rfl ?_
    refine z_iconst (v := 2) dX11_sumsOn_87 rfl ?_
    refine z_iadd dX11_sumsOn_88 ?_
    refine z_iald dX11_sumsOn_89 hs47 ?_
    refine z_iadd dX11_sumsOn_90 ?_
    refine z_if_ne 108 dX11_sumsOn_91 (by decide) (fun c10 => ?_) (fun c10 => ?_)
    · refine z_aload_n (i := 0) (x := 40) dX11_sumsOn_94 rfl rfl ?_
      refine z_iload_n (i := 1) (x := a0) dX11_sumsOn_95 rfl rfl ?_
      refine z_iconst (v := 1) dX11_sumsOn_96 rfl ?_
      refine z_iadd dX11_sumsOn_97 ?_
      refine z_iload_n (i := 2) (x := a1) dX11_sumsOn_98 rfl rfl ?_
      refine z_iload_n (i := 3) (x := a2) dX11_sumsOn_99 rfl rfl ?_
      refine z_iload (i := 4) (x := a3) dX11_sumsOn_100 rfl ?_
      refine z_iload (i := 5) (x := a4) dX11_sumsOn_102 rfl ?_
      refine z_cWV (As := [.ref 40, .int (a0 + 1), .int a1, .int a2, .int a3, .int a4]) (rest := []) (hs (a0 + 1) a1 a2 a3 a4 D) (fun o7 h => z_runV 409 5 h rfl kk_X11_409 hs40 kl_11.1 kq_X11_sumsOn rfl (Nat.le_of_ble_eq_true rfl) ⟨by dsimp only; omega, by dsimp only; omega, Nat.le_of_ble_eq_true rfl, Nat.le_of_ble_eq_true rfl⟩ dX11_sumsOn_104) z_gWV (fun a_12 hz11 => ?_)
      exact z_vreturn dX11_sumsOn_107 z_rWV trivial (Nat.le_refl _) (Nat.le_refl _)
    · refine z_iconst (v := 0) dX11_sumsOn_108 rfl ?_
      refine z_istore (i := 7) (x := 0) (lv' := [some (.ref 40), some (.int a0), some (.int a1), some (.int a2), some (.int a3), some (.int a4), some (.int v9), some (.int 0)]) dX11_sumsOn_109 (by decide) rfl rfl ?_
      refine z_loops (lvOf := fun s : Int32 × z_Dat => [some (.ref 40), some (.int a0), some (.int a1), some (.int a2), some (.int a3), some (.int a4), some (.int v9), some (.int s.1)]) (dOf := fun s : Int32 × z_Dat => s.2) (fun kc15 hkc15 s => ?_) N (0, D)
      obtain ⟨v13, D14⟩ := s
      show z_F _ _ _ _ _ 111 [some (.ref 40), some (.int a0), some (.int a1), some (.int a2), some (.int a3), some (.int a4), some (.int v9), some (.int v13)] [] S D14 _ (F_X11_sumsOn_L111 slf a0 a1 a2 a3 a4 v9 kc15 v13 D14)
      unfold F_X11_sumsOn_L111
      refine z_iload (i := 7) (x := v13) dX11_sumsOn_111 rfl ?_
      refine z_aload_n (i := 0) (x := 40) dX11_sumsOn_113 rfl rfl ?_
      refine z_getR (j := 14) dX11_sumsOn_114 kl_11 hs40 (by decide) rfl rfl kf_X11_35 ?_
      refine z_iload (i := 6) (x := v9) dX11_sumsOn_117 rfl ?_
      refine z_iald dX11_sumsOn_119 hs47 ?_
      refine z_imul dX11_sumsOn_120 ?_
      refine z_iload_n (i := 2) (x := a1) dX11_sumsOn_121 rfl rfl ?_
      refine z_icmp_gt 217 dX11_sumsOn_122 (by decide) (fun c16 => ?_) (fun c16 => ?_)
      · exact z_vreturn dX11_sumsOn_217 z_rWV trivial (Nat.le_refl _) (Nat.le_refl _)
      · refine z_iload (i := 7) (x := v13) dX11_sumsOn_125 rfl ?_
        refine z_aload_n (i := 0) (x := 40) dX11_sumsOn_127 rfl rfl ?_
        refine z_getR (j := 14) dX11_sumsOn_128 kl_11 hs40 (by decide) rfl rfl kf_X11_35 ?_
        refine z_iload (i := 6) (x := v9) dX11_sumsOn_131 rfl ?_
        refine z_iconst (v := 1) dX11_sumsOn_133 rfl ?_
        refine z_iadd dX11_sumsOn_134 ?_
        refine z_iald dX11_sumsOn_135 hs47 ?_
        refine z_imul dX11_sumsOn_136 ?_
        refine z_iload_n (i := 3) (x := a2) dX11_sumsOn_137 rfl rfl ?_
        refine z_icmp_gt 217 dX11_sumsOn_138 (by decide) (fun c17 => ?_) (fun c17 => ?_)
        · exact z_vreturn dX11_sumsOn_217 z_rWV trivial (Nat.le_refl _) (Nat.le_refl _)
        · refine z_iload (i := 7) (x := v13) dX11_sumsOn_141 rfl ?_
          refine z_aload_n (i := 0) (x := 40) dX11_sumsOn_143 rfl rfl ?_
          refine z_getR (j := 14) dX11_sumsOn_144 kl_11 hs40 (by decide) rfl rfl kf_X11_35 ?_
          refine z_iload (i := 6) (x := v9) dX11_sumsOn_147 rfl ?_
          refine z_iconst (v := 2) dX11_sumsOn_149 rfl ?_
          refine z_iadd dX11_sumsOn_150 ?_
          refine z_iald dX11_sumsOn_151 hs47 ?_
          refine z_imul dX11_sumsOn_152 ?_
          refine z_iload (i := 4) (x := a3) dX11_sumsOn_153 rfl ?_
          refine z_icmp_gt 217 dX11_sumsOn_155 (by decide) (fun c18 => ?_) (fun c18 => ?_)
          · exact z_vreturn dX11_sumsOn_217 z_rWV trivial (Nat.le_refl _) (Nat.le_refl _)
          · refine z_aload_n (i := 0) (x := 40) dX11_sumsOn_158 rfl rfl ?_
            refine z_iload_n (i := 1) (x := a0) dX11_sumsOn_159 rfl rfl ?_
            refine z_iconst (v := 1) dX11_sumsOn_160 rfl ?_
            refine z_iadd dX11_sumsOn_161 ?_
            refine z_iload_n (i := 2) (x := a1) dX11_sumsOn_162 rfl rfl ?_
            refine z_iload (i := 7) (x := v13) dX11_sumsOn_163 rfl ?_
            refine z_aload_n (i := 0) (x := 40) dX11_sumsOn_165 rfl rfl ?_
            refine z_getR (j := 14) dX11_sumsOn_166 kl_11 hs40 (by decide) rfl rfl kf_X11_35 ?_
            refine z_iload (i := 6) (x := v9) dX11_sumsOn_169 rfl ?_
            refine z_iald dX11_sumsOn_171 hs47 ?_
            refine z_imul dX11_sumsOn_172 ?_
            refine z_isub dX11_sumsOn_173 ?_
            refine z_iload_n (i := 3) (x := a2) dX11_sumsOn_174 rfl rfl ?_
            refine z_iload (i := 7) (x := v13) dX11_sumsOn_175 rfl ?_
            refine z_aload_n (i := 0) (x := 40) dX11_sumsOn_177 rfl rfl ?_
            refine z_getR (j := 14) dX11_sumsOn_178 kl_11 hs40 (by decide) rfl rfl kf_X11_35 ?_
            refine z_iload (i := 6) (x := v9) dX11_sumsOn_181 rfl ?_
            refine z_iconst (v := 1) dX11_sumsOn_183 rfl ?_
            refine z_iadd dX11_sumsOn_184 ?_
            refine z_iald dX11_sumsOn_185 hs47 ?_
            refine z_imul dX11_sumsOn_186 ?_
            refine z_isub dX11_sumsOn_187 ?_
            refine z_iload (i := 4) (x := a3) dX11_sumsOn_188 rfl ?_
            refine z_iload (i := 7) (x := v13) dX11_sumsOn_190 rfl ?_
            refine z_aload_n (i := 0) (x := 40) dX11_sumsOn_192 rfl rfl ?_
            refine z_getR (j := 14) dX11_sumsOn_193 kl_11 hs40 (by decide) rfl rfl kf_X11_35 ?_
            refine z_iload (i := 6) (x := v9) dX11_sumsOn_196 rfl ?_
            refine z_iconst (v := 2) dX11_sumsOn_198 rfl ?_
            refine z_iadd dX11_sumsOn_199 ?_
            refine z_iald dX11_sumsOn_200 hs47 ?_
            refine z_imul dX11_sumsOn_201 ?_
            refine z_isub dX11_sumsOn_202 ?_
            refine z_iload (i := 5) (x := a4) dX11_sumsOn_203 rfl ?_
            refine z_iload (i := 7) (x := v13) dX11_sumsOn_205 rfl ?_
            refine z_iadd dX11_sumsOn_207 ?_
            refine z_cWV (As := [.ref 40, .int (a0 + 1), .int (a1 - (v13 * (D14 47 (z_ix v9)))), .int (a2 - (v13 * (D14 47 (z_ix (v9 + 1))))), .int (a3 - (v13 * (D14 47 (z_ix (v9 + 2))))), .int (a4 + v13)]) (rest := []) (hs (a0 + 1) (a1 - (v13 * (D14 47 (z_ix v9)))) (a2 - (v13 * (D14 47 (z_ix (v9 + 1))))) (a3 - (v13 * (D14 47 (z_ix (v9 + 2))))) (a4 + v13) D14) (fun o7 h => z_runV 409 5 h rfl kk_X11_409 hs40 kl_11.1 kq_X11_sumsOn rfl (Nat.le_of_ble_eq_true rfl) ⟨by dsimp only; omega, by dsimp only; omega, Nat.le_of_ble_eq_true rfl, Nat.le_of_ble_eq_true rfl⟩ dX11_sumsOn_208) z_gWV (fun a_20 hz19 => ?_)
            refine z_iinc (i := 7) (x := v13) (y := 1) dX11_sumsOn_211 rfl (by decide) (by decide) rfl (fun v21 => ?_)
            refine z_goto 111 dX11_sumsOn_214 (by decide) ?_
            exact hkc15 (v21, a_20)
def F_X11_sumsOn (N : Nat) : Nat → Int32 → Int32 → Int32 → Int32 → Int32 → z_Dat → Option z_Dat
  | 0 => fun _ _ _ _ _ _ => none
  | K + 1 => F_X11_sumsOn_B N (F_X11_sumsOn N K)
theorem em_X11_sumsOn {l : Launch} {S : List z_Shp} {oW : Nat} (hl : l.stackTraces = false) (hW : z_W S oW) (N : Nat) : ∀ (K : Nat) (a0 : Int32) (a1 : Int32) (a2 : Int32) (a3 : Int32) (a4 : Int32) (D : z_Dat), ∀ out, z_ko (z_kV S) (F_X11_sumsOn N K a0 a1 a2 a3 a4 D) out → z_EM l M_X11_sumsOn (20 + 20 * K, 520 + 300 * K, 0, 0) [.ref 40, .int a0, .int a1, .int a2, .int a3, .int a4] S D out
  | 0, _, _, _, _, _, _, _, ⟨_, h, _⟩ => by cases h
  | K + 1, a0, a1, a2, a3, a4, D, out, h => em_X11_sumsOn_B hl hW N K (F_X11_sumsOn N K) (fun a0 a1 a2 a3 a4 D => em_X11_sumsOn hl hW N K a0 a1 a2 a3 a4 D) a0 a1 a2 a3 a4 D out h

def F_X11_sums_J27 (N : Nat) (a0 : Int32) (a1 : Int32) (D5 : z_Dat) : Option (Int32 × z_Dat) :=
  z_bd (F_X11_may 0 1 1 D5) (fun a_7 => if a_7.1 = 0 then (some (0, a_7.2))
  else (z_let (z_up a_7.2 40 46 0) (fun D9 => z_let (z_up D9 40 47 (-1)) (fun D10 => z_bd (F_X11_sumsOn N 64 0 (F_X11_dyeOf a0 0) (F_X11_dyeOf a0 1) (F_X11_dyeOf a0 2) 0 D10) (fun a_15 => if a1 = 0 then (some (a_15 40 46, a_15))
  else (some (a_15 40 47, a_15)))))))
def F_X11_sums_J26 (N : Nat) (a0 : Int32) (a1 : Int32) (D4 : z_Dat) : Option (Int32 × z_Dat) :=
  F_X11_sums_J27 N a0 a1 D4
def F_X11_sums_J27x (N : Nat) (a0 : Int32) (a1 : Int32) (D19 : z_Dat) : Option (Int32 × z_Dat) :=
  z_bd (F_X11_may 1 1 1 D19) (fun a_21 => if a_21.1 = 0 then (some (0, a_21.2))
  else (z_let (z_up a_21.2 40 46 0) (fun D23 => z_let (z_up D23 40 47 (-1)) (fun D24 => z_bd (F_X11_sumsOn N 64 0 (F_X11_dyeOf a0 0) (F_X11_dyeOf a0 1) (F_X11_dyeOf a0 2) 0 D24) (fun a_29 => if a1 = 0 then (some (a_29 40 46, a_29))
  else (some (a_29 40 47, a_29)))))))
def F_X11_sums (N : Nat) (a0 : Int32) (a1 : Int32) (D : z_Dat) : Option (Int32 × z_Dat) :=
  z_let (z_up D 40 0 0) (fun D1 => if (F_X11_isShade a0) = 0 then (F_X11_sums_J26 N a0 a1 D1)
  else (if (F_X11_within a1 0 1) = 0 then (F_X11_sums_J26 N a0 a1 D1)
  else (F_X11_sums_J27x N a0 a1 D1)))
set_option maxRecDepth 100000 in
set_option maxHeartbeats 4000000 in
theorem em_X11_sums {l : Launch} {S : List z_Shp} {oW : Nat} (hl : l.stackTraces = false) (hW : z_W S oW) (N : Nat) (a0 : Int32) (a1 : Int32) (D : z_Dat) : ∀ out, z_ko (z_kI S) (F_X11_sums N a0 a1 D) out → z_EM l M_X11_sums (1310, 19780, 0, 0) [.ref 40, .int a0, .int a1] S D out := by
  have hs40 : S[40]? = some (13, 55, [none, some (some 41), none, none, none, none, none, none, none, some (some 42), some (some 43), some (some 44), some (some 45), some (some 46), some (some 47), some (some 48), none, none, none, none, none, none, some (some 49), some (some 50), some (some 51), some (some 52), some (some 53), none, none, some (some 54), some (some 55), some (some 56), none, none, none, none, none, none, some (some 57), some (some 58), some (some 59), some (some 60), some (some 61), none, some (some 62), some (some 63), none, none, some (some 64), some (some 65), none, none, none, some (some 66), none]) := hW.1 40 _ rfl
  refine z_meth hl rfl kp_X11 (Nat.le_of_ble_eq_true rfl) (lv := [some (.ref 40), some (.int a0), some (.int a1)]) rfl ?_
  unfold F_X11_sums
  have hJ_F_X11_sums_J27 : ∀ (D5 : z_Dat) , z_F l M_X11_sums (1310, 19780, 0, 0) 0 0 27 [some (.ref 40), some (.int a0), some (.int a1)] [.int 0, .ref 40] S D5 (z_ko (z_kI S)) (F_X11_sums_J27 N a0 a1 D5) := by
    intro D5
    unfold F_X11_sums_J27
    refine z_iconst (v := 1) dX11_sums_27 rfl ?_
    refine z_iconst (v := 1) dX11_sums_28 rfl ?_
    refine z_cWI (As := [.ref 40, .int 0, .int 1, .int 1]) (rest := []) (em_X11_may hl hW 0 1 1 D5) (fun o7 h => z_runV 198 3 h rfl kk_X11_198 hs40 kl_11.1 kq_X11_may rfl (Nat.le_of_ble_eq_true rfl) ⟨Nat.le_of_ble_eq_true rfl, Nat.le_of_ble_eq_true rfl, Nat.le_of_ble_eq_true rfl, Nat.le_of_ble_eq_true rfl⟩ dX11_sums_29) z_gWI (fun a_7 hz6 => ?_)
    refine z_if_ne 37 dX11_sums_32 (by decide) (fun c8 => ?_) (fun c8 => ?_)
    · refine z_iconst (v := 0) dX11_sums_35 rfl ?_
      exact z_ireturn dX11_sums_36 z_rWI rfl (by decide) (by decide)
    · refine z_aload_n (i := 0) (x := 40) dX11_sums_37 rfl rfl ?_
      refine z_iconst (v := 0) dX11_sums_38 rfl ?_
      refine z_putI (j := 46) dX11_sums_39 kl_11 tyX11_ok nmX11 hs40 (by decide) rfl rfl rfl rfl rfl rfl kf_X11_403 (fun D9 => ?_)
      refine z_aload_n (i := 0) (x := 40) dX11_sums_42 rfl rfl ?_
      refine z_iconst (v := (-1)) dX11_sums_43 rfl ?_
      refine z_putI (j := 47) dX11_sums_44 kl_11 tyX11_ok nmX11 hs40 (by decide) rfl rfl rfl rfl rfl rfl kf_X11_406 (fun D10 => ?_)
      refine z_aload_n (i := 0) (x := 40) dX11_sums_47 rfl rfl ?_
      refine z_iconst (v := 0) dX11_sums_48 rfl ?_
      refine z_iload_n (i := 1) (x := a0) dX11_sums_49 rfl rfl ?_
      refine z_iconst (v := 0) dX11_sums_50 rfl ?_
      refine z_cP (As := [.int a0, .int 0]) (rest := [.int 0, .ref 40]) (em_X11_dyeOf hl a0 0 D10) (fun o7 h => z_runS 327 2 h rfl kk_X11_327 kq_X11_dyeOf rfl (Nat.le_of_ble_eq_true rfl) ⟨Nat.le_of_ble_eq_true rfl, Nat.le_of_ble_eq_true rfl, Nat.le_of_ble_eq_true rfl, Nat.le_of_ble_eq_true rfl⟩ dX11_sums_51) z_gWI (fun hz11 => ?_)
      refine z_iload_n (i := 1) (x := a0) dX11_sums_54 rfl rfl ?_
      refine z_iconst (v := 1) dX11_sums_55 rfl ?_
      refine z_cP (As := [.int a0, .int 1]) (rest := [.int (F_X11_dyeOf a0 0), .int 0, .ref 40]) (em_X11_dyeOf hl a0 1 D10) (fun o7 h => z_runS 327 2 h rfl kk_X11_327 kq_X11_dyeOf rfl (Nat.le_of_ble_eq_true rfl) ⟨Nat.le_of_ble_eq_true rfl, Nat.le_of_ble_eq_true rfl, Nat.le_of_ble_eq_true rfl, Nat.le_of_ble_eq_true rfl⟩ dX11_sums_56) z_gWI (fun hz12 => ?_)
      refine z_iload_n (i := 1) (x := a0) dX11_sums_59 rfl rfl ?_
      refine z_iconst (v := 2) dX11_sums_60 rfl ?_
      refine z_cP (As := [.int a0, .int 2]) (rest := [.int (F_X11_dyeOf a0 1), .int (F_X11_dyeOf a0 0), .int 0, .ref 40]) (em_X11_dyeOf hl a0 2 D10) (fun o7 h => z_runS 327 2 h rfl kk_X11_327 kq_X11_dyeOf rfl (Nat.le_of_ble_eq_true rfl) ⟨Nat.le_of_ble_eq_true rfl, Nat.le_of_ble_eq_true rfl, Nat.le_of_ble_eq_true rfl, Nat.le_of_ble_eq_true rfl⟩ dX11_sums_61) z_gWI (fun hz13 => ?_)
      refine z_iconst (v := 0) dX11_sums_64 rfl ?_
      refine z_cWV (As := [.ref 40, .int 0, .int (F_X11_dyeOf a0 0), .int (F_X11_dyeOf a0 1), .int (F_X11_dyeOf a0 2), .int 0]) (rest := []) (em_X11_sumsOn hl hW N 64 0 (F_X11_dyeOf a0 0) (F_X11_dyeOf a0 1) (F_X11_dyeOf a0 2) 0 D10) (fun o7 h => z_runV 409 5 h rfl kk_X11_409 hs40 kl_11.1 kq_X11_sumsOn rfl (Nat.le_of_ble_eq_true rfl) ⟨Nat.le_of_ble_eq_true rfl, Nat.le_of_ble_eq_true rfl, Nat.le_of_ble_eq_true rfl, Nat.le_of_ble_eq_true rfl⟩ dX11_sums_65) z_gWI (fun a_15 hz14 => ?_)
      refine z_iload_n (i := 2) (x := a1) dX11_sums_68 rfl rfl ?_
      refine z_if_ne 79 dX11_sums_69 (by decide) (fun c16 => ?_) (fun c16 => ?_)
      · refine z_aload_n (i := 0) (x := 40) dX11_sums_72 rfl rfl ?_
        refine z_getI (j := 46) dX11_sums_73 kl_11 hs40 (by decide) rfl rfl kf_X11_403 ?_
        refine z_goto 83 dX11_sums_76 (by decide) ?_
        exact z_ireturn dX11_sums_83 z_rWI rfl (by decide) (by decide)
      · refine z_aload_n (i := 0) (x := 40) dX11_sums_79 rfl rfl ?_
        refine z_getI (j := 47) dX11_sums_80 kl_11 hs40 (by decide) rfl rfl kf_X11_406 ?_
        exact z_ireturn dX11_sums_83 z_rWI rfl (by decide) (by decide)
  have hJ_F_X11_sums_J26 : ∀ (D4 : z_Dat) , z_F l M_X11_sums (1310, 19780, 0, 0) 0 0 26 [some (.ref 40), some (.int a0), some (.int a1)] [.ref 40] S D4 (z_ko (z_kI S)) (F_X11_sums_J26 N a0 a1 D4) := by
    intro D4
    unfold F_X11_sums_J26
    refine z_iconst (v := 0) dX11_sums_26 rfl ?_
    exact hJ_F_X11_sums_J27 D4
  have hJ_F_X11_sums_J27x : ∀ (D19 : z_Dat) , z_F l M_X11_sums (1310, 19780, 0, 0) 0 0 27 [some (.ref 40), some (.int a0), some (.int a1)] [.int 1, .ref 40] S D19 (z_ko (z_kI S)) (F_X11_sums_J27x N a0 a1 D19) := by
    intro D19
    unfold F_X11_sums_J27x
    refine z_iconst (v := 1) dX11_sums_27 rfl ?_
    refine z_iconst (v := 1) dX11_sums_28 rfl ?_
    refine z_cWI (As := [.ref 40, .int 1, .int 1, .int 1]) (rest := []) (em_X11_may hl hW 1 1 1 D19) (fun o7 h => z_runV 198 3 h rfl kk_X11_198 hs40 kl_11.1 kq_X11_may rfl (Nat.le_of_ble_eq_true rfl) ⟨Nat.le_of_ble_eq_true rfl, Nat.le_of_ble_eq_true rfl, Nat.le_of_ble_eq_true rfl, Nat.le_of_ble_eq_true rfl⟩ dX11_sums_29) z_gWI (fun a_21 hz20 => ?_)
    refine z_if_ne 37 dX11_sums_32 (by decide) (fun c22 => ?_) (fun c22 => ?_)
    · refine z_iconst (v := 0) dX11_sums_35 rfl ?_
      exact z_ireturn dX11_sums_36 z_rWI rfl (by decide) (by decide)
    · refine z_aload_n (i := 0) (x := 40) dX11_sums_37 rfl rfl ?_
      refine z_iconst (v := 0) dX11_sums_38 rfl ?_
      refine z_putI (j := 46) dX11_sums_39 kl_11 tyX11_ok nmX11 hs40 (by decide) rfl rfl rfl rfl rfl rfl kf_X11_403 (fun D23 => ?_)
      refine z_aload_n (i := 0) (x := 40) dX11_sums_42 rfl rfl ?_
      refine z_iconst (v := (-1)) dX11_sums_43 rfl ?_
      refine z_putI (j := 47) dX11_sums_44 kl_11 tyX11_ok nmX11 hs40 (by decide) rfl rfl rfl rfl rfl rfl kf_X11_406 (fun D24 => ?_)
      refine z_aload_n (i := 0) (x := 40) dX11_sums_47 rfl rfl ?_
      refine z_iconst (v := 0) dX11_sums_48 rfl ?_
      refine z_iload_n (i := 1) (x := a0) dX11_sums_49 rfl rfl ?_
      refine z_iconst (v := 0) dX11_sums_50 rfl ?_
      refine z_cP (As := [.int a0, .int 0]) (rest := [.int 0, .ref 40]) (em_X11_dyeOf hl a0 0 D24) (fun o7 h => z_runS 327 2 h rfl kk_X11_327 kq_X11_dyeOf rfl (Nat.le_of_ble_eq_true rfl) ⟨Nat.le_of_ble_eq_true rfl, Nat.le_of_ble_eq_true rfl, Nat.le_of_ble_eq_true rfl, Nat.le_of_ble_eq_true rfl⟩ dX11_sums_51) z_gWI (fun hz25 => ?_)
      refine z_iload_n (i := 1) (x := a0) dX11_sums_54 rfl rfl ?_
      refine z_iconst (v := 1) dX11_sums_55 rfl ?_
      refine z_cP (As := [.int a0, .int 1]) (rest := [.int (F_X11_dyeOf a0 0), .int 0, .ref 40]) (em_X11_dyeOf hl a0 1 D24) (fun o7 h => z_runS 327 2 h rfl kk_X11_327 kq_X11_dyeOf rfl (Nat.le_of_ble_eq_true rfl) ⟨Nat.le_of_ble_eq_true rfl, Nat.le_of_ble_eq_true rfl, Nat.le_of_ble_eq_true rfl, Nat.le_of_ble_eq_true rfl⟩ dX11_sums_56) z_gWI (fun hz26 => ?_)
      refine z_iload_n (i := 1) (x := a0) dX11_sums_59 rfl rfl ?_
      refine z_iconst (v := 2) dX11_sums_60 rfl ?_
      refine z_cP (As := [.int a0, .int 2]) (rest := [.int (F_X11_dyeOf a0 1), .int (F_X11_dyeOf a0 0), .int 0, .ref 40]) (em_X11_dyeOf hl a0 2 D24) (fun o7 h => z_runS 327 2 h rfl kk_X11_327 kq_X11_dyeOf rfl (Nat.le_of_ble_eq_true rfl) ⟨Nat.le_of_ble_eq_true rfl, Nat.le_of_ble_eq_true rfl, Nat.le_of_ble_eq_true rfl, Nat.le_of_ble_eq_true rfl⟩ dX11_sums_61) z_gWI (fun hz27 => ?_)
      refine z_iconst (v := 0) dX11_sums_64 rfl ?_
      refine z_cWV (As := [.ref 40, .int 0, .int (F_X11_dyeOf a0 0), .int (F_X11_dyeOf a0 1), .int (F_X11_dyeOf a0 2), .int 0]) (rest := []) (em_X11_sumsOn hl hW N 64 0 (F_X11_dyeOf a0 0) (F_X11_dyeOf a0 1) (F_X11_dyeOf a0 2) 0 D24) (fun o7 h => z_runV 409 5 h rfl kk_X11_409 hs40 kl_11.1 kq_X11_sumsOn rfl (Nat.le_of_ble_eq_true rfl) ⟨Nat.le_of_ble_eq_true rfl, Nat.le_of_ble_eq_true rfl, Nat.le_of_ble_eq_true rfl, Nat.le_of_ble_eq_true rfl⟩ dX11_sums_65) z_gWI (fun a_29 hz28 => ?_)
      refine z_iload_n (i := 2) (x := a1) dX11_sums_68 rfl rfl ?_
      refine z_if_ne 79 dX11_sums_69 (by decide) (fun c30 => ?_) (fun c30 => ?_)
      · refine z_aload_n (i := 0) (x := 40) dX11_sums_72 rfl rfl ?_
        refine z_getI (j := 46) dX11_sums_73 kl_11 hs40 (by decide) rfl rfl kf_X11_403 ?_
        refine z_goto 83 dX11_sums_76 (by decide) ?_
        exact z_ireturn dX11_sums_83 z_rWI rfl (by decide) (by decide)
      · refine z_aload_n (i := 0) (x := 40) dX11_sums_79 rfl rfl ?_
        refine z_getI (j := 47) dX11_sums_80 kl_11 hs40 (by decide) rfl rfl kf_X11_406 ?_
        exact z_ireturn dX11_sums_83 z_rWI rfl (by decide) (by decide)
  refine z_aload_n (i := 0) (x := 40) dX11_sums_0 rfl rfl ?_
  refine z_iconst (v := 0) dX11_sums_1 rfl ?_
  refine z_putI (j := 0) dX11_sums_2 kl_11 tyX11_ok nmX11 hs40 (by decide) rfl rfl rfl rfl rfl rfl kf_X11_3 (fun D1 => ?_)
  refine z_aload_n (i := 0) (x := 40) dX11_sums_5 rfl rfl ?_
  refine z_iload_n (i := 1) (x := a0) dX11_sums_6 rfl rfl ?_
  refine z_cP (As := [.int a0]) (rest := [.ref 40]) (em_X11_isShade hl a0 D1) (fun o7 h => z_runS 397 1 h rfl kk_X11_397 kq_X11_isShade rfl (Nat.le_of_ble_eq_true rfl) ⟨Nat.le_of_ble_eq_true rfl, Nat.le_of_ble_eq_true rfl, Nat.le_of_ble_eq_true rfl, Nat.le_of_ble_eq_true rfl⟩ dX11_sums_7) z_gWI (fun hz2 => ?_)
  refine z_if_eq 26 dX11_sums_10 (by decide) (fun c3 => ?_) (fun c3 => ?_)
  · exact hJ_F_X11_sums_J26 D1
  · refine z_iload_n (i := 2) (x := a1) dX11_sums_13 rfl rfl ?_
    refine z_iconst (v := 0) dX11_sums_14 rfl ?_
    refine z_iconst (v := 1) dX11_sums_15 rfl ?_
    refine z_cP (As := [.int a1, .int 0, .int 1]) (rest := [.ref 40]) (em_X11_within hl a1 0 1 D1) (fun o7 h => z_runS 376 3 h rfl kk_X11_376 kq_X11_within rfl (Nat.le_of_ble_eq_true rfl) ⟨Nat.le_of_ble_eq_true rfl, Nat.le_of_ble_eq_true rfl, Nat.le_of_ble_eq_true rfl, Nat.le_of_ble_eq_true rfl⟩ dX11_sums_16) z_gWI (fun hz17 => ?_)
    refine z_if_eq 26 dX11_sums_19 (by decide) (fun c18 => ?_) (fun c18 => ?_)
    · exact hJ_F_X11_sums_J26 D1
    · refine z_iconst (v := 1) dX11_sums_22 rfl ?_
      refine z_goto 27 dX11_sums_23 (by decide) ?_
      exact hJ_F_X11_sums_J27x D1

def F_X11_tones_L68 (kc15 : ((Int32 × Int32 × z_Dat) → Option (Int32 × z_Dat))) (v13 : Int32) (kc20 : ((Int32 × Int32 × z_Dat) → Option (Int32 × z_Dat))) (v17 : Int32) (v18 : Int32) (D19 : z_Dat) : Option (Int32 × z_Dat) :=
  if (D19 40 19) ≤ v18 then (z_let (v13 + 1) (fun v22 => kc15 (v17, v22, D19)))
  else (if z_inb v13 1000 then (z_bd (F_X11_dippedIn (D19 63 (z_ix v13)) v18 D19) (fun a_24 => if z_inb a_24 1000 then (if (D19 62 (z_ix a_24)) = (-1) then (if z_inb a_24 1000 then z_let (z_up D19 62 (z_ix a_24) 0) (fun D26 => if z_inb v17 1000 then z_let (z_up D26 63 (z_ix v17) a_24) (fun D27 => z_let (v17 + 1) (fun v28 => z_let (v18 + 1) (fun v29 => kc20 (v28, v29, D27)))) else none) else none)
  else (z_let (v18 + 1) (fun v30 => kc20 (v17, v30, D19)))) else none)) else none)
def F_X11_tones_L60 (N : Nat) (kc15 : ((Int32 × Int32 × z_Dat) → Option (Int32 × z_Dat))) (v12 : Int32) (v13 : Int32) (D14 : z_Dat) : Option (Int32 × z_Dat) :=
  if v12 ≤ v13 then (some (v12, D14))
  else (z_loop (fun kc20 s => F_X11_tones_L68 kc15 v13 kc20 s.1 s.2.1 s.2.2) N (v12, 0, D14))
def F_X11_tones_L22 (N : Nat) (a0 : Int32) (kc8 : ((Int32 × z_Dat) → Option (Int32 × z_Dat))) (v6 : Int32) (D7 : z_Dat) : Option (Int32 × z_Dat) :=
  if 1000 ≤ v6 then (z_let (z_up D7 63 (z_ix 0) a0) (fun D10 => if z_inb a0 1000 then z_let (z_up D10 62 (z_ix a0) 0) (fun D11 => z_loop (fun kc15 s => F_X11_tones_L60 N kc15 s.1 s.2.1 s.2.2) N (1, 0, D11)) else none))
  else (if z_inb v6 1000 then z_let (z_up D7 62 (z_ix v6) (-1)) (fun D33 => z_let (v6 + 1) (fun v34 => kc8 (v34, D33))) else none)
def F_X11_tones (N : Nat) (a0 : Int32) (D : z_Dat) : Option (Int32 × z_Dat) :=
  z_let (z_up D 40 0 0) (fun D1 => z_bd (F_X11_may (F_X11_isShade a0) 1 1 D1) (fun a_4 => if a_4.1 = 0 then (some (0, a_4.2))
  else (z_loop (fun kc8 s => F_X11_tones_L22 N a0 kc8 s.1 s.2) N (0, a_4.2))))
set_option maxRecDepth 100000 in
set_option maxHeartbeats 4000000 in
theorem em_X11_tones {l : Launch} {S : List z_Shp} {oW : Nat} (hl : l.stackTraces = false) (hW : z_W S oW) (N : Nat) (a0 : Int32) (D : z_Dat) : ∀ out, z_ko (z_kI S) (F_X11_tones N a0 D) out → z_EM l M_X11_tones (40, 640, 0, 0) [.ref 40, .int a0] S D out := by
  have hs40 : S[40]? = some (13, 55, [none, some (some 41), none, none, none, none, none, none, none, some (some 42), some (some 43), some (some 44), some (some 45), some (some 46), some (some 47), some (some 48), none, none, none, none, none, none, some (some 49), some (some 50), some (some 51), some (some 52), some (some 53), none, none, some (some 54), some (some 55), some (some 56), none, none, none, none, none, none, some (some 57), some (some 58), some (some 59), some (some 60), some (some 61), none, some (some 62), some (some 63), none, none, some (some 64), some (some 65), none, none, none, some (some 66), none]) := hW.1 40 _ rfl
  have hs62 : S[62]? = some (0, 1000, []) := hW.1 62 _ rfl
  have hs63 : S[63]? = some (0, 1000, []) := hW.1 63 _ rfl
  refine z_meth hl rfl kp_X11 (Nat.le_of_ble_eq_true rfl) (lv := [some (.ref 40), some (.int a0), none, none, none, none]) rfl ?_
  unfold F_X11_tones
  refine z_aload_n (i := 0) (x := 40) dX11_tones_0 rfl rfl ?_
  refine z_iconst (v := 0) dX11_tones_1 rfl ?_
  refine z_putI (j := 0) dX11_tones_2 kl_11 tyX11_ok nmX11 hs40 (by decide) rfl rfl rfl rfl rfl rfl kf_X11_3 (fun D1 => ?_)
  refine z_aload_n (i := 0) (x := 40) dX11_tones_5 rfl rfl ?_
  refine z_iload_n (i := 1) (x := a0) dX11_tones_6 rfl rfl ?_
  refine z_cP (As := [.int a0]) (rest := [.ref 40]) (em_X11_isShade hl a0 D1) (fun o7 h => z_runS 397 1 h rfl kk_X11_397 kq_X11_isShade rfl (Nat.le_of_ble_eq_true rfl) ⟨Nat.le_of_ble_eq_true rfl, Nat.le_of_ble_eq_true rfl, Nat.le_of_ble_eq_true rfl, Nat.le_of_ble_eq_true rfl⟩ dX11_tones_7) z_gWI (fun hz2 => ?_)
  refine z_iconst (v := 1) dX11_tones_10 rfl ?_
  refine z_iconst (v := 1) dX11_tones_11 rfl ?_
  refine z_cWI (As := [.ref 40, .int (F_X11_isShade a0), .int 1, .int 1]) (rest := []) (em_X11_may hl hW (F_X11_isShade a0) 1 1 D1) (fun o7 h => z_runV 198 3 h rfl kk_X11_198 hs40 kl_11.1 kq_X11_may rfl (Nat.le_of_ble_eq_true rfl) ⟨Nat.le_of_ble_eq_true rfl, Nat.le_of_ble_eq_true rfl, Nat.le_of_ble_eq_true rfl, Nat.le_of_ble_eq_true rfl⟩ dX11_tones_12) z_gWI (fun a_4 hz3 => ?_)
  refine z_if_ne 20 dX11_tones_15 (by decide) (fun c5 => ?_) (fun c5 => ?_)
  · refine z_iconst (v := 0) dX11_tones_18 rfl ?_
    exact z_ireturn dX11_tones_19 z_rWI rfl (by decide) (by decide)
  · refine z_iconst (v := 0) dX11_tones_20 rfl ?_
    refine z_istore_n (i := 2) (x := 0) (lv' := [some (.ref 40), some (.int a0), some (.int 0), none, none, none]) dX11_tones_21 rfl (by decide) rfl rfl ?_
    refine z_loops (lvOf := fun s : Int32 × z_Dat => [some (.ref 40), some (.int a0), some (.int s.1), none, none, none]) (dOf := fun s : Int32 × z_Dat => s.2) (fun kc8 hkc8 s => ?_) N (0, a_4.2)
    obtain ⟨v6, D7⟩ := s
    show z_F _ _ _ _ _ 22 [some (.ref 40), some (.int a0), some (.int v6), none, none, none] [] S D7 _ (F_X11_tones_L22 N a0 kc8 v6 D7)
    unfold F_X11_tones_L22
    refine z_iload_n (i := 2) (x := v6) dX11_tones_22 rfl rfl ?_
    refine z_sipush (v := 1000) dX11_tones_23 (by decide) ?_
    refine z_icmp_ge 42 dX11_tones_26 (by decide) (fun c9 => ?_) (fun c9 => ?_)
    · refine z_iconst (v := 1) dX11_tones_42 rfl ?_
      refine z_istore_n (i := 2) (x := 1) (lv' := [some (.ref 40), some (.int a0), some (.int 1), none, none, none]) dX11_tones_43 rfl (by decide) rfl rfl ?_
      refine z_aload_n (i := 0) (x := 40) dX11_tones_44 rfl rfl ?_
      refine z_getR (j := 45) dX11_tones_45 kl_11 hs40 (by decide) rfl rfl kf_X11_83 ?_
      refine z_iconst (v := 0) dX11_tones_48 rfl ?_
      refine z_iload_n (i := 1) (x := a0) dX11_tones_49 rfl rfl ?_
      refine z_iastL dX11_tones_50 hs63 (vp_in_iff.mpr (by decide)) (fun D10 => ?_)
      refine z_aload_n (i := 0) (x := 40) dX11_tones_51 rfl rfl ?_
      refine z_getR (j := 44) dX11_tones_52 kl_11 hs40 (by decide) rfl rfl kf_X11_80 ?_
      refine z_iload_n (i := 1) (x := a0) dX11_tones_55 rfl rfl ?_
      refine z_iconst (v := 0) dX11_tones_56 rfl ?_
      refine z_iast dX11_tones_57 hs62 (fun D11 => ?_)
      refine z_iconst (v := 0) dX11_tones_58 rfl ?_
      refine z_istore_n (i := 3) (x := 0) (lv' := [some (.ref 40), some (.int a0), some (.int 1), some (.int 0), none, none]) dX11_tones_59 rfl (by decide) rfl rfl ?_
      refine z_weak (lv' := [some (.ref 40), none, some (.int 1), some (.int 0), none, none]) ⟨Or.inr rfl, ⟨Or.inl rfl, ⟨Or.inr rfl, ⟨Or.inr rfl, ⟨Or.inl rfl, ⟨Or.inl rfl, trivial⟩⟩⟩⟩⟩⟩ ?_
      refine z_loops (lvOf := fun s : Int32 × Int32 × z_Dat => [some (.ref 40), none, some (.int s.1), some (.int s.2.1), none, none]) (dOf := fun s : Int32 × Int32 × z_Dat => s.2.2) (fun kc15 hkc15 s => ?_) N (1, 0, D11)
      obtain ⟨v12, v13, D14⟩ := s
      show z_F _ _ _ _ _ 60 [some (.ref 40), none, some (.int v12), some (.int v13), none, none] [] S D14 _ (F_X11_tones_L60 N kc15 v12 v13 D14)
      unfold F_X11_tones_L60
      refine z_iload_n (i := 3) (x := v13) dX11_tones_60 rfl rfl ?_
      refine z_iload_n (i := 2) (x := v12) dX11_tones_61 rfl rfl ?_
      refine z_icmp_ge 136 dX11_tones_62 (by decide) (fun c16 => ?_) (fun c16 => ?_)
      · refine z_iload_n (i := 2) (x := v12) dX11_tones_136 rfl rfl ?_
        exact z_ireturn dX11_tones_137 z_rWI rfl (by decide) (by decide)
      · refine z_iconst (v := 0) dX11_tones_65 rfl ?_
        refine z_istore (i := 4) (x := 0) (lv' := [some (.ref 40), none, some (.int v12), some (.int v13), some (.int 0), none]) dX11_tones_66 (by decide) rfl rfl ?_
        refine z_loops (lvOf := fun s : Int32 × Int32 × z_Dat => [some (.ref 40), none, some (.int s.1), some (.int v13), some (.int s.2.1), none]) (dOf := fun s : Int32 × Int32 × z_Dat => s.2.2) (fun kc20 hkc20 s => ?_) N (v12, 0, D14)
        obtain ⟨v17, v18, D19⟩ := s
        show z_F _ _ _ _ _ 68 [some (.ref 40), none, some (.int v17), some (.int v13), some (.int v18), none] [] S D19 _ (F_X11_tones_L68 kc15 v13 kc20 v17 v18 D19)
        unfold F_X11_tones_L68
        refine z_iload (i := 4) (x := v18) dX11_tones_68 rfl ?_
        refine z_aload_n (i := 0) (x := 40) dX11_tones_70 rfl rfl ?_
        refine z_getI (j := 19) dX11_tones_71 kl_11 hs40 (by decide) rfl rfl kf_X11_156 ?_
        refine z_icmp_ge 130 dX11_tones_74 (by decide) (fun c21 => ?_) (fun c21 => ?_)
        · refine z_iinc (i := 3) (x := v13) (y := 1) dX11_tones_130 rfl (by decide) (by decide) rfl (fun v22 => ?_)
          refine z_goto 60 dX11_tones_133 (by decide) ?_
          refine z_weak (lv' := [some (.ref 40), none, some (.int v17), some (.int v22), none, none]) ⟨Or.inr rfl, ⟨Or.inl rfl, ⟨Or.inr rfl, ⟨Or.inr rfl, ⟨Or.inl rfl, ⟨Or.inl rfl, trivial⟩⟩⟩⟩⟩⟩ ?_
          exact hkc15 (v17, v22, D19)
        · refine z_aload_n (i := 0) (x := 40) dX11_tones_77 rfl rfl ?_
          refine z_aload_n (i := 0) (x := 40) dX11_tones_78 rfl rfl ?_
          refine z_getR (j := 45) dX11_tones_79 kl_11 hs40 (by decide) rfl rfl kf_X11_83 ?_
          refine z_iload_n (i := 3) (x := v13) dX11_tones_82 rfl rfl ?_
          refine z_iald dX11_tones_83 hs63 ?_
          refine z_iload (i := 4) (x := v18) dX11_tones_84 rfl ?_
          refine z_cR (As := [.ref 40, .int (D19 63 (z_ix v13)), .int v18]) (rest := []) (em_X11_dippedIn hl hW (D19 63 (z_ix v13)) v18 D19) (fun o7 h => z_runV 352 2 h rfl kk_X11_352 hs40 kl_11.1 kq_X11_dippedIn rfl (Nat.le_of_ble_eq_true rfl) ⟨Nat.le_of_ble_eq_true rfl, Nat.le_of_ble_eq_true rfl, Nat.le_of_ble_eq_true rfl, Nat.le_of_ble_eq_true rfl⟩ dX11_tones_86) z_gWI (fun a_24 hz23 => ?_)
          refine z_istore (i := 5) (x := a_24) (lv' := [some (.ref 40), none, some (.int v17), some (.int v13), some (.int v18), some (.int a_24)]) dX11_tones_89 (by decide) rfl rfl ?_
          refine z_aload_n (i := 0) (x := 40) dX11_tones_91 rfl rfl ?_
          refine z_getR (j := 44) dX11_tones_92 kl_11 hs40 (by decide) rfl rfl kf_X11_80 ?_
          refine z_iload (i := 5) (x := a_24) dX11_tones_95 rfl ?_
          refine z_iald dX11_tones_97 hs62 ?_
          refine z_iconst (v := (-1)) dX11_tones_98 rfl ?_
          refine z_icmp_eq 105 dX11_tones_99 (by decide) (fun c25 => ?_) (fun c25 => ?_)
          · refine z_aload_n (i := 0) (x := 40) dX11_tones_105 rfl rfl ?_
            refine z_getR (j := 44) dX11_tones_106 kl_11 hs40 (by decide) rfl rfl kf_X11_80 ?_
            refine z_iload (i := 5) (x := a_24) dX11_tones_109 rfl ?_
            refine z_iconst (v := 0) dX11_tones_111 rfl ?_
            refine z_iast dX11_tones_112 hs62 (fun D26 => ?_)
            refine z_aload_n (i := 0) (x := 40) dX11_tones_113 rfl rfl ?_
            refine z_getR (j := 45) dX11_tones_114 kl_11 hs40 (by decide) rfl rfl kf_X11_83 ?_
            refine z_iload_n (i := 2) (x := v17) dX11_tones_117 rfl rfl ?_
            refine z_iload (i := 5) (x := a_24) dX11_tones_118 rfl ?_
            refine z_iast dX11_tones_120 hs63 (fun D27 => ?_)
            refine z_iinc (i := 2) (x := v17) (y := 1) dX11_tones_121 rfl (by decide) (by decide) rfl (fun v28 => ?_)
            refine z_iinc (i := 4) (x := v18) (y := 1) dX11_tones_124 rfl (by decide) (by decide) rfl (fun v29 => ?_)
            refine z_goto 68 dX11_tones_127 (by decide) ?_
            refine z_weak (lv' := [some (.ref 40), none, some (.int v28), some (.int v13), some (.int v29), none]) ⟨Or.inr rfl, ⟨Or.inl rfl, ⟨Or.inr rfl, ⟨Or.inr rfl, ⟨Or.inr rfl, ⟨Or.inl rfl, trivial⟩⟩⟩⟩⟩⟩ ?_
            exact hkc20 (v28, v29, D27)
          · refine z_goto 124 dX11_tones_102 (by decide) ?_
            refine z_iinc (i := 4) (x := v18) (y := 1) dX11_tones_124 rfl (by decide) (by decide) rfl (fun v30 => ?_)
            refine z_goto 68 dX11_tones_127 (by decide) ?_
            refine z_weak (lv' := [some (.ref 40), none, some (.int v17), some (.int v13), some (.int v30), none]) ⟨Or.inr rfl, ⟨Or.inl rfl, ⟨Or.inr rfl, ⟨Or.inr rfl, ⟨Or.inr rfl, ⟨Or.inl rfl, trivial⟩⟩⟩⟩⟩⟩ ?_
            exact hkc20 (v17, v30, D19)
    · refine z_aload_n (i := 0) (x := 40) dX11_tones_29 rfl rfl ?_
      refine z_getR (j := 44) dX11_tones_30 kl_11 hs40 (by decide) rfl rfl kf_X11_80 ?_
      refine z_iload_n (i := 2) (x := v6) dX11_tones_33 rfl rfl ?_
      refine z_iconst (v := (-1)) dX11_tones_34 rfl ?_
      refine z_iast dX11_tones_35 hs62 (fun D33 => ?_)
      refine z_iinc (i := 2) (x := v6) (y := 1) dX11_tones_36 rfl (by decide) (by decide) rfl (fun v34 => ?_)
      refine z_goto 22 dX11_tones_39 (by decide) ?_
      exact hkc8 (v34, D33)

def F_X11_hasOf (a0 : Int32) (a1 : Int32) (D : z_Dat) : Option Int32 :=
  if z_inb ((0 + (3 * a0)) + a1) 60 then (some (D 58 (z_ix ((0 + (3 * a0)) + a1)))) else none
set_option maxRecDepth 100000 in
set_option maxHeartbeats 4000000 in
theorem em_X11_hasOf {l : Launch} {S : List z_Shp} {oW : Nat} (hl : l.stackTraces = false) (hW : z_W S oW) (a0 : Int32) (a1 : Int32) (D : z_Dat) : ∀ out, z_ko (z_kR S D) (F_X11_hasOf a0 a1 D) out → z_EM l M_X11_hasOf (20, 520, 0, 0) [.ref 40, .int a0, .int a1] S D out := by
  have hs40 : S[40]? = some (13, 55, [none, some (some 41), none, none, none, none, none, none, none, some (some 42), some (some 43), some (some 44), some (some 45), some (some 46), some (some 47), some (some 48), none, none, none, none, none, none, some (some 49), some (some 50), some (some 51), some (some 52), some (some 53), none, none, some (some 54), some (some 55), some (some 56), none, none, none, none, none, none, some (some 57), some (some 58), some (some 59), some (some 60), some (some 61), none, some (some 62), some (some 63), none, none, some (some 64), some (some 65), none, none, none, some (some 66), none]) := hW.1 40 _ rfl
  have hs58 : S[58]? = some (0, 60, []) := hW.1 58 _ rfl
  refine z_meth hl rfl kp_X11 (Nat.le_of_ble_eq_true rfl) (lv := [some (.ref 40), some (.int a0), some (.int a1)]) rfl ?_
  unfold F_X11_hasOf
  refine z_aload_n (i := 0) (x := 40) dX11_hasOf_0 rfl rfl ?_
  refine z_getR (j := 39) dX11_hasOf_1 kl_11 hs40 (by decide) rfl rfl kf_X11_68 ?_
  refine z_iconst (v := 0) dX11_hasOf_4 rfl ?_
  refine z_iconst (v := 3) dX11_hasOf_5 rfl ?_
  refine z_iload_n (i := 1) (x := a0) dX11_hasOf_6 rfl rfl ?_
  refine z_imul dX11_hasOf_7 ?_
  refine z_iadd dX11_hasOf_8 ?_
  refine z_iload_n (i := 2) (x := a1) dX11_hasOf_9 rfl rfl ?_
  refine z_iadd dX11_hasOf_10 ?_
  refine z_iald dX11_hasOf_11 hs58 ?_
  exact z_ireturn dX11_hasOf_12 z_rR rfl (by decide) (by decide)

def F_X11_mayBeTheirs_J2 : Option Int32 :=
  some 1
def F_X11_mayBeTheirs_J49 : Option Int32 :=
  F_X11_mayBeTheirs_J2
def F_X11_mayBeTheirs_J2x (a0 : Int32) (a1 : Int32) (D : z_Dat) : Option Int32 :=
  if (D 61 (z_ix 2)) = (-1) then (F_X11_mayBeTheirs_J49)
  else (z_bd (F_X11_hasOf a0 2 D) (fun a_5 => if a_5 = (D 61 (z_ix 2)) then (F_X11_mayBeTheirs_J49)
  else (z_bd (F_X11_hasOf a1 2 D) (fun a_8 => if a_8 = (D 61 (z_ix 2)) then (F_X11_mayBeTheirs_J49)
  else (some 0)))))
def F_X11_mayBeTheirs_J49x (a0 : Int32) (a1 : Int32) (D : z_Dat) : Option Int32 :=
  F_X11_mayBeTheirs_J2x a0 a1 D
def F_X11_mayBeTheirs_J2xx (a0 : Int32) (a1 : Int32) (D : z_Dat) : Option Int32 :=
  if (D 61 (z_ix 1)) = (-1) then (F_X11_mayBeTheirs_J49x a0 a1 D)
  else (z_bd (F_X11_hasOf a0 1 D) (fun a_11 => if a_11 = (D 61 (z_ix 1)) then (F_X11_mayBeTheirs_J49x a0 a1 D)
  else (z_bd (F_X11_hasOf a1 1 D) (fun a_14 => if a_14 = (D 61 (z_ix 1)) then (F_X11_mayBeTheirs_J49x a0 a1 D)
  else (some 0)))))
def F_X11_mayBeTheirs_J49xx (a0 : Int32) (a1 : Int32) (D : z_Dat) : Option Int32 :=
  F_X11_mayBeTheirs_J2xx a0 a1 D
def F_X11_mayBeTheirs_J2xxx (a0 : Int32) (a1 : Int32) (D : z_Dat) : Option Int32 :=
  if (D 61 (z_ix 0)) = (-1) then (F_X11_mayBeTheirs_J49xx a0 a1 D)
  else (z_bd (F_X11_hasOf a0 0 D) (fun a_17 => if a_17 = (D 61 (z_ix 0)) then (F_X11_mayBeTheirs_J49xx a0 a1 D)
  else (z_bd (F_X11_hasOf a1 0 D) (fun a_20 => if a_20 = (D 61 (z_ix 0)) then (F_X11_mayBeTheirs_J49xx a0 a1 D)
  else (some 0)))))
def F_X11_mayBeTheirs (a0 : Int32) (a1 : Int32) (D : z_Dat) : Option Int32 :=
  F_X11_mayBeTheirs_J2xxx a0 a1 D
set_option maxRecDepth 100000 in
set_option maxHeartbeats 4000000 in
theorem em_X11_mayBeTheirs {l : Launch} {S : List z_Shp} {oW : Nat} (hl : l.stackTraces = false) (hW : z_W S oW) (a0 : Int32) (a1 : Int32) (D : z_Dat) : ∀ out, z_ko (z_kR S D) (F_X11_mayBeTheirs a0 a1 D) out → z_EM l M_X11_mayBeTheirs (30, 580, 0, 0) [.ref 40, .int a0, .int a1] S D out := by
  have hs40 : S[40]? = some (13, 55, [none, some (some 41), none, none, none, none, none, none, none, some (some 42), some (some 43), some (some 44), some (some 45), some (some 46), some (some 47), some (some 48), none, none, none, none, none, none, some (some 49), some (some 50), some (some 51), some (some 52), some (some 53), none, none, some (some 54), some (some 55), some (some 56), none, none, none, none, none, none, some (some 57), some (some 58), some (some 59), some (some 60), some (some 61), none, some (some 62), some (some 63), none, none, some (some 64), some (some 65), none, none, none, some (some 66), none]) := hW.1 40 _ rfl
  have hs61 : S[61]? = some (0, 3, []) := hW.1 61 _ rfl
  refine z_meth hl rfl kp_X11 (Nat.le_of_ble_eq_true rfl) (lv := [some (.ref 40), some (.int a0), some (.int a1), none]) rfl ?_
  unfold F_X11_mayBeTheirs
  have hJ_F_X11_mayBeTheirs_J2 : z_F l M_X11_mayBeTheirs (30, 580, 0, 0) 0 0 2 [some (.ref 40), some (.int a0), some (.int a1), some (.int 3)] [] S D (z_ko (z_kR S D)) (F_X11_mayBeTheirs_J2) := by
    unfold F_X11_mayBeTheirs_J2
    refine z_iload_n (i := 3) (x := 3) dX11_mayBeTheirs_2 rfl rfl ?_
    refine z_iconst (v := 3) dX11_mayBeTheirs_3 rfl ?_
    refine z_icmp_geJ 55 dX11_mayBeTheirs_4 (by decide) (by decide) ?_
    refine z_iconst (v := 1) dX11_mayBeTheirs_55 rfl ?_
    exact z_ireturn dX11_mayBeTheirs_56 z_rR rfl (by decide) (by decide)
  have hJ_F_X11_mayBeTheirs_J49 : z_F l M_X11_mayBeTheirs (30, 580, 0, 0) 0 0 49 [some (.ref 40), some (.int a0), some (.int a1), some (.int 2)] [] S D (z_ko (z_kR S D)) (F_X11_mayBeTheirs_J49) := by
    unfold F_X11_mayBeTheirs_J49
    refine z_iincC (i := 3) (x := 2) (v := 3) (lv' := [some (.ref 40), some (.int a0), some (.int a1), some (.int 3)]) dX11_mayBeTheirs_49 rfl (by decide) (by decide) rfl rfl ?_
    refine z_goto 2 dX11_mayBeTheirs_52 (by decide) ?_
    exact hJ_F_X11_mayBeTheirs_J2
  have hJ_F_X11_mayBeTheirs_J2x : z_F l M_X11_mayBeTheirs (30, 580, 0, 0) 0 0 2 [some (.ref 40), some (.int a0), some (.int a1), some (.int 2)] [] S D (z_ko (z_kR S D)) (F_X11_mayBeTheirs_J2x a0 a1 D) := by
    unfold F_X11_mayBeTheirs_J2x
    refine z_iload_n (i := 3) (x := 2) dX11_mayBeTheirs_2 rfl rfl ?_
    refine z_iconst (v := 3) dX11_mayBeTheirs_3 rfl ?_
    refine z_icmp_geN 55 dX11_mayBeTheirs_4 (by decide) (by decide) ?_
    refine z_aload_n (i := 0) (x := 40) dX11_mayBeTheirs_7 rfl rfl ?_
    refine z_getR (j := 42) dX11_mayBeTheirs_8 kl_11 hs40 (by decide) rfl rfl kf_X11_77 ?_
    refine z_iload_n (i := 3) (x := 2) dX11_mayBeTheirs_11 rfl rfl ?_
    refine z_ialdC dX11_mayBeTheirs_12 hs61 (vp_in_iff.mpr (by decide)) ?_
    refine z_iconst (v := (-1)) dX11_mayBeTheirs_13 rfl ?_
    refine z_icmp_eq 49 dX11_mayBeTheirs_14 (by decide) (fun c3 => ?_) (fun c3 => ?_)
    · exact hJ_F_X11_mayBeTheirs_J49
    · refine z_aload_n (i := 0) (x := 40) dX11_mayBeTheirs_17 rfl rfl ?_
      refine z_iload_n (i := 1) (x := a0) dX11_mayBeTheirs_18 rfl rfl ?_
      refine z_iload_n (i := 3) (x := 2) dX11_mayBeTheirs_19 rfl rfl ?_
      refine z_cR (As := [.ref 40, .int a0, .int 2]) (rest := []) (em_X11_hasOf hl hW a0 2 D) (fun o7 h => z_runV 413 2 h rfl kk_X11_413 hs40 kl_11.1 kq_X11_hasOf rfl (Nat.le_of_ble_eq_true rfl) ⟨Nat.le_of_ble_eq_true rfl, Nat.le_of_ble_eq_true rfl, Nat.le_of_ble_eq_true rfl, Nat.le_of_ble_eq_true rfl⟩ dX11_mayBeTheirs_20) z_gR (fun a_5 hz4 => ?_)
      refine z_aload_n (i := 0) (x := 40) dX11_mayBeTheirs_23 rfl rfl ?_
      refine z_getR (j := 42) dX11_mayBeTheirs_24 kl_11 hs40 (by decide) rfl rfl kf_X11_77 ?_
      refine z_iload_n (i := 3) (x := 2) dX11_mayBeTheirs_27 rfl rfl ?_
      refine z_ialdC dX11_mayBeTheirs_28 hs61 (vp_in_iff.mpr (by decide)) ?_
      refine z_icmp_eq 49 dX11_mayBeTheirs_29 (by decide) (fun c6 => ?_) (fun c6 => ?_)
      · exact hJ_F_X11_mayBeTheirs_J49
      · refine z_aload_n (i := 0) (x := 40) dX11_mayBeTheirs_32 rfl rfl ?_
        refine z_iload_n (i := 2) (x := a1) dX11_mayBeTheirs_33 rfl rfl ?_
        refine z_iload_n (i := 3) (x := 2) dX11_mayBeTheirs_34 rfl rfl ?_
        refine z_cR (As := [.ref 40, .int a1, .int 2]) (rest := []) (em_X11_hasOf hl hW a1 2 D) (fun o7 h => z_runV 413 2 h rfl kk_X11_413 hs40 kl_11.1 kq_X11_hasOf rfl (Nat.le_of_ble_eq_true rfl) ⟨Nat.le_of_ble_eq_true rfl, Nat.le_of_ble_eq_true rfl, Nat.le_of_ble_eq_true rfl, Nat.le_of_ble_eq_true rfl⟩ dX11_mayBeTheirs_35) z_gR (fun a_8 hz7 => ?_)
        refine z_aload_n (i := 0) (x := 40) dX11_mayBeTheirs_38 rfl rfl ?_
        refine z_getR (j := 42) dX11_mayBeTheirs_39 kl_11 hs40 (by decide) rfl rfl kf_X11_77 ?_
        refine z_iload_n (i := 3) (x := 2) dX11_mayBeTheirs_42 rfl rfl ?_
        refine z_ialdC dX11_mayBeTheirs_43 hs61 (vp_in_iff.mpr (by decide)) ?_
        refine z_icmp_eq 49 dX11_mayBeTheirs_44 (by decide) (fun c9 => ?_) (fun c9 => ?_)
        · exact hJ_F_X11_mayBeTheirs_J49
        · refine z_iconst (v := 0) dX11_mayBeTheirs_47 rfl ?_
          exact z_ireturn dX11_mayBeTheirs_48 z_rR rfl (by decide) (by decide)
  have hJ_F_X11_mayBeTheirs_J49x : z_F l M_X11_mayBeTheirs (30, 580, 0, 0) 0 0 49 [some (.ref 40), some (.int a0), some (.int a1), some (.int 1)] [] S D (z_ko (z_kR S D)) (F_X11_mayBeTheirs_J49x a0 a1 D) := by
    unfold F_X11_mayBeTheirs_J49x
    refine z_iincC (i := 3) (x := 1) (v := 2) (lv' := [some (.ref 40), some (.int a0), some (.int a1), some (.int 2)]) dX11_mayBeTheirs_49 rfl (by decide) (by decide) rfl rfl ?_
    refine z_goto 2 dX11_mayBeTheirs_52 (by decide) ?_
    exact hJ_F_X11_mayBeTheirs_J2x
  have hJ_F_X11_mayBeTheirs_J2xx : z_F l M_X11_mayBeTheirs (30, 580, 0, 0) 0 0 2 [some (.ref 40), some (.int a0), some (.int a1), some (.int 1)] [] S D (z_ko (z_kR S D)) (F_X11_mayBeTheirs_J2xx a0 a1 D) := by
    unfold F_X11_mayBeTheirs_J2xx
    refine z_iload_n (i := 3) (x := 1) dX11_mayBeTheirs_2 rfl rfl ?_
    refine z_iconst (v := 3) dX11_mayBeTheirs_3 rfl ?_
    refine z_icmp_geN 55 dX11_mayBeTheirs_4 (by decide) (by decide) ?_
    refine z_aload_n (i := 0) (x := 40) dX11_mayBeTheirs_7 rfl rfl ?_
    refine z_getR (j := 42) dX11_mayBeTheirs_8 kl_11 hs40 (by decide) rfl rfl kf_X11_77 ?_
    refine z_iload_n (i := 3) (x := 1) dX11_mayBeTheirs_11 rfl rfl ?_
    refine z_ialdC dX11_mayBeTheirs_12 hs61 (vp_in_iff.mpr (by decide)) ?_
    refine z_iconst (v := (-1)) dX11_mayBeTheirs_13 rfl ?_
    refine z_icmp_eq 49 dX11_mayBeTheirs_14 (by decide) (fun c2 => ?_) (fun c2 => ?_)
    · exact hJ_F_X11_mayBeTheirs_J49x
    · refine z_aload_n (i := 0) (x := 40) dX11_mayBeTheirs_17 rfl rfl ?_
      refine z_iload_n (i := 1) (x := a0) dX11_mayBeTheirs_18 rfl rfl ?_
      refine z_iload_n (i := 3) (x := 1) dX11_mayBeTheirs_19 rfl rfl ?_
      refine z_cR (As := [.ref 40, .int a0, .int 1]) (rest := []) (em_X11_hasOf hl hW a0 1 D) (fun o7 h => z_runV 413 2 h rfl kk_X11_413 hs40 kl_11.1 kq_X11_hasOf rfl (Nat.le_of_ble_eq_true rfl) ⟨Nat.le_of_ble_eq_true rfl, Nat.le_of_ble_eq_true rfl, Nat.le_of_ble_eq_true rfl, Nat.le_of_ble_eq_true rfl⟩ dX11_mayBeTheirs_20) z_gR (fun a_11 hz10 => ?_)
      refine z_aload_n (i := 0) (x := 40) dX11_mayBeTheirs_23 rfl rfl ?_
      refine z_getR (j := 42) dX11_mayBeTheirs_24 kl_11 hs40 (by decide) rfl rfl kf_X11_77 ?_
      refine z_iload_n (i := 3) (x := 1) dX11_mayBeTheirs_27 rfl rfl ?_
      refine z_ialdC dX11_mayBeTheirs_28 hs61 (vp_in_iff.mpr (by decide)) ?_
      refine z_icmp_eq 49 dX11_mayBeTheirs_29 (by decide) (fun c12 => ?_) (fun c12 => ?_)
      · exact hJ_F_X11_mayBeTheirs_J49x
      · refine z_aload_n (i := 0) (x := 40) dX11_mayBeTheirs_32 rfl rfl ?_
        refine z_iload_n (i := 2) (x := a1) dX11_mayBeTheirs_33 rfl rfl ?_
        refine z_iload_n (i := 3) (x := 1) dX11_mayBeTheirs_34 rfl rfl ?_
        refine z_cR (As := [.ref 40, .int a1, .int 1]) (rest := []) (em_X11_hasOf hl hW a1 1 D) (fun o7 h => z_runV 413 2 h rfl kk_X11_413 hs40 kl_11.1 kq_X11_hasOf rfl (Nat.le_of_ble_eq_true rfl) ⟨Nat.le_of_ble_eq_true rfl, Nat.le_of_ble_eq_true rfl, Nat.le_of_ble_eq_true rfl, Nat.le_of_ble_eq_true rfl⟩ dX11_mayBeTheirs_35) z_gR (fun a_14 hz13 => ?_)
        refine z_aload_n (i := 0) (x := 40) dX11_mayBeTheirs_38 rfl rfl ?_
        refine z_getR (j := 42) dX11_mayBeTheirs_39 kl_11 hs40 (by decide) rfl rfl kf_X11_77 ?_
        refine z_iload_n (i := 3) (x := 1) dX11_mayBeTheirs_42 rfl rfl ?_
        refine z_ialdC dX11_mayBeTheirs_43 hs61 (vp_in_iff.mpr (by decide)) ?_
        refine z_icmp_eq 49 dX11_mayBeTheirs_44 (by decide) (fun c15 => ?_) (fun c15 => ?_)
        · exact hJ_F_X11_mayBeTheirs_J49x
        · refine z_iconst (v := 0) dX11_mayBeTheirs_47 rfl ?_
          exact z_ireturn dX11_mayBeTheirs_48 z_rR rfl (by decide) (by decide)
  have hJ_F_X11_mayBeTheirs_J49xx : z_F l M_X11_mayBeTheirs (30, 580, 0, 0) 0 0 49 [some (.ref 40), some (.int a0), some (.int a1), some (.int 0)] [] S D (z_ko (z_kR S D)) (F_X11_mayBeTheirs_J49xx a0 a1 D) := by
    unfold F_X11_mayBeTheirs_J49xx
    refine z_iincC (i := 3) (x := 0) (v := 1) (lv' := [some (.ref 40), some (.int a0), some (.int a1), some (.int 1)]) dX11_mayBeTheirs_49 rfl (by decide) (by decide) rfl rfl ?_
    refine z_goto 2 dX11_mayBeTheirs_52 (by decide) ?_
    exact hJ_F_X11_mayBeTheirs_J2xx
  have hJ_F_X11_mayBeTheirs_J2xxx : z_F l M_X11_mayBeTheirs (30, 580, 0, 0) 0 0 2 [some (.ref 40), some (.int a0), some (.int a1), some (.int 0)] [] S D (z_ko (z_kR S D)) (F_X11_mayBeTheirs_J2xxx a0 a1 D) := by
    unfold F_X11_mayBeTheirs_J2xxx
    refine z_iload_n (i := 3) (x := 0) dX11_mayBeTheirs_2 rfl rfl ?_
    refine z_iconst (v := 3) dX11_mayBeTheirs_3 rfl ?_
    refine z_icmp_geN 55 dX11_mayBeTheirs_4 (by decide) (by decide) ?_
    refine z_aload_n (i := 0) (x := 40) dX11_mayBeTheirs_7 rfl rfl ?_
    refine z_getR (j := 42) dX11_mayBeTheirs_8 kl_11 hs40 (by decide) rfl rfl kf_X11_77 ?_
    refine z_iload_n (i := 3) (x := 0) dX11_mayBeTheirs_11 rfl rfl ?_
    refine z_ialdC dX11_mayBeTheirs_12 hs61 (vp_in_iff.mpr (by decide)) ?_
    refine z_iconst (v := (-1)) dX11_mayBeTheirs_13 rfl ?_
    refine z_icmp_eq 49 dX11_mayBeTheirs_14 (by decide) (fun c1 => ?_) (fun c1 => ?_)
    · exact hJ_F_X11_mayBeTheirs_J49xx
    · refine z_aload_n (i := 0) (x := 40) dX11_mayBeTheirs_17 rfl rfl ?_
      refine z_iload_n (i := 1) (x := a0) dX11_mayBeTheirs_18 rfl rfl ?_
      refine z_iload_n (i := 3) (x := 0) dX11_mayBeTheirs_19 rfl rfl ?_
      refine z_cR (As := [.ref 40, .int a0, .int 0]) (rest := []) (em_X11_hasOf hl hW a0 0 D) (fun o7 h => z_runV 413 2 h rfl kk_X11_413 hs40 kl_11.1 kq_X11_hasOf rfl (Nat.le_of_ble_eq_true rfl) ⟨Nat.le_of_ble_eq_true rfl, Nat.le_of_ble_eq_true rfl, Nat.le_of_ble_eq_true rfl, Nat.le_of_ble_eq_true rfl⟩ dX11_mayBeTheirs_20) z_gR (fun a_17 hz16 => ?_)
      refine z_aload_n (i := 0) (x := 40) dX11_mayBeTheirs_23 rfl rfl ?_
      refine z_getR (j := 42) dX11_mayBeTheirs_24 kl_11 hs40 (by decide) rfl rfl kf_X11_77 ?_
      refine z_iload_n (i := 3) (x := 0) dX11_mayBeTheirs_27 rfl rfl ?_
      refine z_ialdC dX11_mayBeTheirs_28 hs61 (vp_in_iff.mpr (by decide)) ?_
      refine z_icmp_eq 49 dX11_mayBeTheirs_29 (by decide) (fun c18 => ?_) (fun c18 => ?_)
      · exact hJ_F_X11_mayBeTheirs_J49xx
      · refine z_aload_n (i := 0) (x := 40) dX11_mayBeTheirs_32 rfl rfl ?_
        refine z_iload_n (i := 2) (x := a1) dX11_mayBeTheirs_33 rfl rfl ?_
        refine z_iload_n (i := 3) (x := 0) dX11_mayBeTheirs_34 rfl rfl ?_
        refine z_cR (As := [.ref 40, .int a1, .int 0]) (rest := []) (em_X11_hasOf hl hW a1 0 D) (fun o7 h => z_runV 413 2 h rfl kk_X11_413 hs40 kl_11.1 kq_X11_hasOf rfl (Nat.le_of_ble_eq_true rfl) ⟨Nat.le_of_ble_eq_true rfl, Nat.le_of_ble_eq_true rfl, Nat.le_of_ble_eq_true rfl, Nat.le_of_ble_eq_true rfl⟩ dX11_mayBeTheirs_35) z_gR (fun a_20 hz19 => ?_)
        refine z_aload_n (i := 0) (x := 40) dX11_mayBeTheirs_38 rfl rfl ?_
        refine z_getR (j := 42) dX11_mayBeTheirs_39 kl_11 hs40 (by decide) rfl rfl kf_X11_77 ?_
        refine z_iload_n (i := 3) (x := 0) dX11_mayBeTheirs_42 rfl rfl ?_
        refine z_ialdC dX11_mayBeTheirs_43 hs61 (vp_in_iff.mpr (by decide)) ?_
        refine z_icmp_eq 49 dX11_mayBeTheirs_44 (by decide) (fun c21 => ?_) (fun c21 => ?_)
        · exact hJ_F_X11_mayBeTheirs_J49xx
        · refine z_iconst (v := 0) dX11_mayBeTheirs_47 rfl ?_
          exact z_ireturn dX11_mayBeTheirs_48 z_rR rfl (by decide) (by decide)
  refine z_iconst (v := 0) dX11_mayBeTheirs_0 rfl ?_
  refine z_istore_n (i := 3) (x := 0) (lv' := [some (.ref 40), some (.int a0), some (.int a1), some (.int 0)]) dX11_mayBeTheirs_1 rfl (by decide) rfl rfl ?_
  exact hJ_F_X11_mayBeTheirs_J2xxx

def F_X11_fits_L48 (kc11 : ((Int32 × Int32 × Int32) → Option (Int32 × z_Dat))) (a_7 : z_Dat) (v10 : Int32) (kc18 : ((Int32 × Int32 × Int32) → Option (Int32 × z_Dat))) (v15 : Int32) (v16 : Int32) (v17 : Int32) : Option (Int32 × z_Dat) :=
  if (a_7 40 20) ≤ v17 then (z_let (v10 + 1) (fun v20 => kc11 (v15, v16, v20)))
  else (z_bd (F_X11_mayBeTheirs v10 v17 a_7) (fun a_22 => if a_22 = 0 then (z_let (v17 + 1) (fun v24 => kc18 (v15, v16, v24)))
  else (z_let (v15 + 1) (fun v25 => if v16 = (-1) then (z_let ((10 * v10) + v17) (fun v27 => z_let (v17 + 1) (fun v28 => kc18 (v25, v27, v28))))
  else (z_let (v17 + 1) (fun v29 => kc18 (v25, v16, v29)))))))
def F_X11_fits_L33 (N : Nat) (a0 : Int32) (a_7 : z_Dat) (kc11 : ((Int32 × Int32 × Int32) → Option (Int32 × z_Dat))) (v8 : Int32) (v9 : Int32) (v10 : Int32) : Option (Int32 × z_Dat) :=
  if (a_7 40 20) ≤ v10 then (if a0 = 0 then (some (v8, a_7))
  else (some (v9, a_7)))
  else (z_let (v10 + 1) (fun v14 => z_loop (fun kc18 s => F_X11_fits_L48 kc11 a_7 v10 kc18 s.1 s.2.1 s.2.2) N (v8, v9, v14)))
def F_X11_fits (N : Nat) (a0 : Int32) (D : z_Dat) : Option (Int32 × z_Dat) :=
  z_let (z_up D 40 0 0) (fun D1 => z_bd (F_X11_may (F_X11_within a0 0 1) 1 1 D1) (fun a_4 => if a_4.1 = 0 then (some (0, a_4.2))
  else (z_bd (F_X11_take N a_4.2) (fun a_7 => z_loop (fun kc11 s => F_X11_fits_L33 N a0 a_7 kc11 s.1 s.2.1 s.2.2) N (0, (-1), 0)))))
set_option maxRecDepth 100000 in
set_option maxHeartbeats 4000000 in
theorem em_X11_fits {l : Launch} {S : List z_Shp} {oW : Nat} (hl : l.stackTraces = false) (hW : z_W S oW) (N : Nat) (a0 : Int32) (D : z_Dat) : ∀ out, z_ko (z_kI S) (F_X11_fits N a0 D) out → z_EM l M_X11_fits (40, 640, 0, 0) [.ref 40, .int a0] S D out := by
  have hs40 : S[40]? = some (13, 55, [none, some (some 41), none, none, none, none, none, none, none, some (some 42), some (some 43), some (some 44), some (some 45), some (some 46), some (some 47), some (some 48), none, none, none, none, none, none, some (some 49), some (some 50), some (some 51), some (some 52), some (some 53), none, none, some (some 54), some (some 55), some (some 56), none, none, none, none, none, none, some (some 57), some (some 58), some (some 59), some (some 60), some (some 61), none, some (some 62), some (some 63), none, none, some (some 64), some (some 65), none, none, none, some (some 66), none]) := hW.1 40 _ rfl
  refine z_meth hl rfl kp_X11 (Nat.le_of_ble_eq_true rfl) (lv := [some (.ref 40), some (.int a0), none, none, none, none]) rfl ?_
  unfold F_X11_fits
  refine z_aload_n (i := 0) (x := 40) dX11_fits_0 rfl rfl ?_
  refine z_iconst (v := 0) dX11_fits_1 rfl ?_
  refine z_putI (j := 0) dX11_fits_2 kl_11 tyX11_ok nmX11 hs40 (by decide) rfl rfl rfl rfl rfl rfl kf_X11_3 (fun D1 => ?_)
  refine z_aload_n (i := 0) (x := 40) dX11_fits_5 rfl rfl ?_
  refine z_iload_n (i := 1) (x := a0) dX11_fits_6 rfl rfl ?_
  refine z_iconst (v := 0) dX11_fits_7 rfl ?_
  refine z_iconst (v := 1) dX11_fits_8 rfl ?_
  refine z_cP (As := [.int a0, .int 0, .int 1]) (rest := [.ref 40]) (em_X11_within hl a0 0 1 D1) (fun o7 h => z_runS 376 3 h rfl kk_X11_376 kq_X11_within rfl (Nat.le_of_ble_eq_true rfl) ⟨Nat.le_of_ble_eq_true rfl, Nat.le_of_ble_eq_true rfl, Nat.le_of_ble_eq_true rfl, Nat.le_of_ble_eq_true rfl⟩ dX11_fits_9) z_gWI (fun hz2 => ?_)
  refine z_iconst (v := 1) dX11_fits_12 rfl ?_
  refine z_iconst (v := 1) dX11_fits_13 rfl ?_
  refine z_cWI (As := [.ref 40, .int (F_X11_within a0 0 1), .int 1, .int 1]) (rest := []) (em_X11_may hl hW (F_X11_within a0 0 1) 1 1 D1) (fun o7 h => z_runV 198 3 h rfl kk_X11_198 hs40 kl_11.1 kq_X11_may rfl (Nat.le_of_ble_eq_true rfl) ⟨Nat.le_of_ble_eq_true rfl, Nat.le_of_ble_eq_true rfl, Nat.le_of_ble_eq_true rfl, Nat.le_of_ble_eq_true rfl⟩ dX11_fits_14) z_gWI (fun a_4 hz3 => ?_)
  refine z_if_ne 22 dX11_fits_17 (by decide) (fun c5 => ?_) (fun c5 => ?_)
  · refine z_iconst (v := 0) dX11_fits_20 rfl ?_
    exact z_ireturn dX11_fits_21 z_rWI rfl (by decide) (by decide)
  · refine z_aload_n (i := 0) (x := 40) dX11_fits_22 rfl rfl ?_
    refine z_cWV (As := [.ref 40]) (rest := []) (em_X11_take hl hW N a_4.2) (fun o7 h => z_runV 308 0 h rfl kk_X11_308 hs40 kl_11.1 kq_X11_take rfl (Nat.le_of_ble_eq_true rfl) ⟨Nat.le_of_ble_eq_true rfl, Nat.le_of_ble_eq_true rfl, Nat.le_of_ble_eq_true rfl, Nat.le_of_ble_eq_true rfl⟩ dX11_fits_23) z_gWI (fun a_7 hz6 => ?_)
    refine z_iconst (v := 0) dX11_fits_26 rfl ?_
    refine z_istore_n (i := 2) (x := 0) (lv' := [some (.ref 40), some (.int a0), some (.int 0), none, none, none]) dX11_fits_27 rfl (by decide) rfl rfl ?_
    refine z_iconst (v := (-1)) dX11_fits_28 rfl ?_
    refine z_istore_n (i := 3) (x := (-1)) (lv' := [some (.ref 40), some (.int a0), some (.int 0), some (.int (-1)), none, none]) dX11_fits_29 rfl (by decide) rfl rfl ?_
    refine z_iconst (v := 0) dX11_fits_30 rfl ?_
    refine z_istore (i := 4) (x := 0) (lv' := [some (.ref 40), some (.int a0), some (.int 0), some (.int (-1)), some (.int 0), none]) dX11_fits_31 (by decide) rfl rfl ?_
    refine z_loops (lvOf := fun s : Int32 × Int32 × Int32 => [some (.ref 40), some (.int a0), some (.int s.1), some (.int s.2.1), some (.int s.2.2), none]) (dOf := fun s : Int32 × Int32 × Int32 => a_7) (fun kc11 hkc11 s => ?_) N (0, (-1), 0)
    obtain ⟨v8, v9, v10⟩ := s
    show z_F _ _ _ _ _ 33 [some (.ref 40), some (.int a0), some (.int v8), some (.int v9), some (.int v10), none] [] S a_7 _ (F_X11_fits_L33 N a0 a_7 kc11 v8 v9 v10)
    unfold F_X11_fits_L33
    refine z_iload (i := 4) (x := v10) dX11_fits_33 rfl ?_
    refine z_aload_n (i := 0) (x := 40) dX11_fits_35 rfl rfl ?_
    refine z_getI (j := 20) dX11_fits_36 kl_11 hs40 (by decide) rfl rfl kf_X11_159 ?_
    refine z_icmp_ge 104 dX11_fits_39 (by decide) (fun c12 => ?_) (fun c12 => ?_)
    · refine z_iload_n (i := 1) (x := a0) dX11_fits_104 rfl rfl ?_
      refine z_if_ne 112 dX11_fits_105 (by decide) (fun c13 => ?_) (fun c13 => ?_)
      · refine z_iload_n (i := 2) (x := v8) dX11_fits_108 rfl rfl ?_
        refine z_goto 113 dX11_fits_109 (by decide) ?_
        exact z_ireturn dX11_fits_113 z_rWI rfl (by decide) (by decide)
      · refine z_iload_n (i := 3) (x := v9) dX11_fits_112 rfl rfl ?_
        exact z_ireturn dX11_fits_113 z_rWI rfl (by decide) (by decide)
    · refine z_iload (i := 4) (x := v10) dX11_fits_42 rfl ?_
      refine z_iconst (v := 1) dX11_fits_44 rfl ?_
      refine z_iadd dX11_fits_45 ?_
      refine z_topi (fun v14 => ?_)
      refine z_istore (i := 5) (x := v14) (lv' := [some (.ref 40), some (.int a0), some (.int v8), some (.int v9), some (.int v10), some (.int v14)]) dX11_fits_46 (by decide) rfl rfl ?_
      refine z_loops (lvOf := fun s : Int32 × Int32 × Int32 => [some (.ref 40), some (.int a0), some (.int s.1), some (.int s.2.1), some (.int v10), some (.int s.2.2)]) (dOf := fun s : Int32 × Int32 × Int32 => a_7) (fun kc18 hkc18 s => ?_) N (v8, v9, v14)
      obtain ⟨v15, v16, v17⟩ := s
      show z_F _ _ _ _ _ 48 [some (.ref 40), some (.int a0), some (.int v15), some (.int v16), some (.int v10), some (.int v17)] [] S a_7 _ (F_X11_fits_L48 kc11 a_7 v10 kc18 v15 v16 v17)
      unfold F_X11_fits_L48
      refine z_iload (i := 5) (x := v17) dX11_fits_48 rfl ?_
      refine z_aload_n (i := 0) (x := 40) dX11_fits_50 rfl rfl ?_
      refine z_getI (j := 20) dX11_fits_51 kl_11 hs40 (by decide) rfl rfl kf_X11_159 ?_
      refine z_icmp_ge 98 dX11_fits_54 (by decide) (fun c19 => ?_) (fun c19 => ?_)
      · refine z_iinc (i := 4) (x := v10) (y := 1) dX11_fits_98 rfl (by decide) (by decide) rfl (fun v20 => ?_)
        refine z_goto 33 dX11_fits_101 (by decide) ?_
        refine z_weak (lv' := [some (.ref 40), some (.int a0), some (.int v15), some (.int v16), some (.int v20), none]) ⟨Or.inr rfl, ⟨Or.inr rfl, ⟨Or.inr rfl, ⟨Or.inr rfl, ⟨Or.inr rfl, ⟨Or.inl rfl, trivial⟩⟩⟩⟩⟩⟩ ?_
        exact hkc11 (v15, v16, v20)
      · refine z_aload_n (i := 0) (x := 40) dX11_fits_57 rfl rfl ?_
        refine z_iload (i := 4) (x := v10) dX11_fits_58 rfl ?_
        refine z_iload (i := 5) (x := v17) dX11_fits_60 rfl ?_
        refine z_cR (As := [.ref 40, .int v10, .int v17]) (rest := []) (em_X11_mayBeTheirs hl hW v10 v17 a_7) (fun o7 h => z_runV 416 2 h rfl kk_X11_416 hs40 kl_11.1 kq_X11_mayBeTheirs rfl (Nat.le_of_ble_eq_true rfl) ⟨Nat.le_of_ble_eq_true rfl, Nat.le_of_ble_eq_true rfl, Nat.le_of_ble_eq_true rfl, Nat.le_of_ble_eq_true rfl⟩ dX11_fits_62) z_gWI (fun a_22 hz21 => ?_)
        refine z_if_ne 71 dX11_fits_65 (by decide) (fun c23 => ?_) (fun c23 => ?_)
        · refine z_goto 92 dX11_fits_68 (by decide) ?_
          refine z_iinc (i := 5) (x := v17) (y := 1) dX11_fits_92 rfl (by decide) (by decide) rfl (fun v24 => ?_)
          refine z_goto 48 dX11_fits_95 (by decide) ?_
          exact hkc18 (v15, v16, v24)
        · refine z_iinc (i := 2) (x := v15) (y := 1) dX11_fits_71 rfl (by decide) (by decide) rfl (fun v25 => ?_)
          refine z_iload_n (i := 3) (x := v16) dX11_fits_74 rfl rfl ?_
          refine z_iconst (v := (-1)) dX11_fits_75 rfl ?_
          refine z_icmp_ne 90 dX11_fits_76 (by decide) (fun c26 => ?_) (fun c26 => ?_)
          · refine z_bipush (v := 10) dX11_fits_79 (by decide) ?_
            refine z_iload (i := 4) (x := v10) dX11_fits_81 rfl ?_
            refine z_imul dX11_fits_83 ?_
            refine z_iload (i := 5) (x := v17) dX11_fits_84 rfl ?_
            refine z_iadd dX11_fits_86 ?_
            refine z_goto 91 dX11_fits_87 (by decide) ?_
            refine z_topi (fun v27 => ?_)
            refine z_istore_n (i := 3) (x := v27) (lv' := [some (.ref 40), some (.int a0), some (.int v25), some (.int v27), some (.int v10), some (.int v17)]) dX11_fits_91 rfl (by decide) rfl rfl ?_
            refine z_iinc (i := 5) (x := v17) (y := 1) dX11_fits_92 rfl (by decide) (by decide) rfl (fun v28 => ?_)
            refine z_goto 48 dX11_fits_95 (by decide) ?_
            exact hkc18 (v25, v27, v28)
          · refine z_iload_n (i := 3) (x := v16) dX11_fits_90 rfl rfl ?_
            refine z_istore_n (i := 3) (x := v16) (lv' := [some (.ref 40), some (.int a0), some (.int v25), some (.int v16), some (.int v10), some (.int v17)]) dX11_fits_91 rfl (by decide) rfl rfl ?_
            refine z_iinc (i := 5) (x := v17) (y := 1) dX11_fits_92 rfl (by decide) (by decide) rfl (fun v29 => ?_)
            refine z_goto 48 dX11_fits_95 (by decide) ?_
            exact hkc18 (v25, v16, v29)

def F_X11_leftBy_L20 (kc3 : ((Int32 × Int32) → Option Int32)) (a0 : Int32) (a1 : Int32) (v2 : Int32) (D : z_Dat) (kc8 : ((Int32 × Int32) → Option Int32)) (v6 : Int32) (v7 : Int32) : Option Int32 :=
  if (D 40 20) ≤ v7 then (z_let (v2 + 1) (fun v10 => kc3 (v6, v10)))
  else (z_bd (F_X11_mayBeTheirs v2 v7 D) (fun a_12 => if a_12 = 0 then (z_let (v6 + 0) (fun v14 => z_let (v7 + 1) (fun v15 => kc8 (v14, v15))))
  else (z_bd (F_X11_hasOf v2 a0 D) (fun a_17 => if a_17 = a1 then (z_let (v6 + 1) (fun v19 => z_let (v7 + 1) (fun v20 => kc8 (v19, v20))))
  else (z_bd (F_X11_hasOf v7 a0 D) (fun a_22 => if a_22 = a1 then (z_let (v6 + 1) (fun v24 => z_let (v7 + 1) (fun v25 => kc8 (v24, v25))))
  else (z_let (v6 + 0) (fun v26 => z_let (v7 + 1) (fun v27 => kc8 (v26, v27))))))))))
def F_X11_leftBy_L5 (N : Nat) (a0 : Int32) (a1 : Int32) (D : z_Dat) (kc3 : ((Int32 × Int32) → Option Int32)) (v1 : Int32) (v2 : Int32) : Option Int32 :=
  if (D 40 20) ≤ v2 then (some v1)
  else (z_let (v2 + 1) (fun v5 => z_loop (fun kc8 s => F_X11_leftBy_L20 kc3 a0 a1 v2 D kc8 s.1 s.2) N (v1, v5)))
def F_X11_leftBy (N : Nat) (a0 : Int32) (a1 : Int32) (D : z_Dat) : Option Int32 :=
  z_loop (fun kc3 s => F_X11_leftBy_L5 N a0 a1 D kc3 s.1 s.2) N (0, 0)
set_option maxRecDepth 100000 in
set_option maxHeartbeats 4000000 in
theorem em_X11_leftBy {l : Launch} {S : List z_Shp} {oW : Nat} (hl : l.stackTraces = false) (hW : z_W S oW) (N : Nat) (a0 : Int32) (a1 : Int32) (D : z_Dat) : ∀ out, z_ko (z_kR S D) (F_X11_leftBy N a0 a1 D) out → z_EM l M_X11_leftBy (40, 640, 0, 0) [.ref 40, .int a0, .int a1] S D out := by
  have hs40 : S[40]? = some (13, 55, [none, some (some 41), none, none, none, none, none, none, none, some (some 42), some (some 43), some (some 44), some (some 45), some (some 46), some (some 47), some (some 48), none, none, none, none, none, none, some (some 49), some (some 50), some (some 51), some (some 52), some (some 53), none, none, some (some 54), some (some 55), some (some 56), none, none, none, none, none, none, some (some 57), some (some 58), some (some 59), some (some 60), some (some 61), none, some (some 62), some (some 63), none, none, some (some 64), some (some 65), none, none, none, some (some 66), none]) := hW.1 40 _ rfl
  refine z_meth hl rfl kp_X11 (Nat.le_of_ble_eq_true rfl) (lv := [some (.ref 40), some (.int a0), some (.int a1), none, none, none]) rfl ?_
  unfold F_X11_leftBy
  refine z_iconst (v := 0) dX11_leftBy_0 rfl ?_
  refine z_istore_n (i := 3) (x := 0) (lv' := [some (.ref 40), some (.int a0), some (.int a1), some (.int 0), none, none]) dX11_leftBy_1 rfl (by decide) rfl rfl ?_
  refine z_iconst (v := 0) dX11_leftBy_2 rfl ?_
  refine z_istore (i := 4) (x := 0) (lv' := [some (.ref 40), some (.int a0), some (.int a1), some (.int 0), some (.int 0), none]) dX11_leftBy_3 (by decide) rfl rfl ?_
  refine z_loops (lvOf := fun s : Int32 × Int32 => [some (.ref 40), some (.int a0), some (.int a1), some (.int s.1), some (.int s.2), none]) (dOf := fun s : Int32 × Int32 => D) (fun kc3 hkc3 s => ?_) N (0, 0)
  obtain ⟨v1, v2⟩ := s
  show z_F _ _ _ _ _ 5 [some (.ref 40), some (.int a0), some (.int a1), some (.int v1), some (.int v2), none] [] S D _ (F_X11_leftBy_L5 N a0 a1 D kc3 v1 v2)
  unfold F_X11_leftBy_L5
  refine z_iload (i := 4) (x := v2) dX11_leftBy_5 rfl ?_
  refine z_aload_n (i := 0) (x := 40) dX11_leftBy_7 rfl rfl ?_
  refine z_getI (j := 20) dX11_leftBy_8 kl_11 hs40 (by decide) rfl rfl kf_X11_159 ?_
  refine z_icmp_ge 82 dX11_leftBy_11 (by decide) (fun c4 => ?_) (fun c4 => ?_)
  · refine z_iload_n (i := 3) (x := v1) dX11_leftBy_82 rfl rfl ?_
    exact z_ireturn dX11_leftBy_83 z_rR rfl (by decide) (by decide)
  · refine z_iload (i := 4) (x := v2) dX11_leftBy_14 rfl ?_
    refine z_iconst (v := 1) dX11_leftBy_16 rfl ?_
    refine z_iadd dX11_leftBy_17 ?_
    refine z_topi (fun v5 => ?_)
    refine z_istore (i := 5) (x := v5) (lv' := [some (.ref 40), some (.int a0), some (.int a1), some (.int v1), some (.int v2), some (.int v5)]) dX11_leftBy_18 (by decide) rfl rfl ?_
    refine z_loops (lvOf := fun s : Int32 × Int32 => [some (.ref 40), some (.int a0), some (.int a1), some (.int s.1), some (.int v2), some (.int s.2)]) (dOf := fun s : Int32 × Int32 => D) (fun kc8 hkc8 s => ?_) N (v1, v5)
    obtain ⟨v6, v7⟩ := s
    show z_F _ _ _ _ _ 20 [some (.ref 40), some (.int a0), some (.int a1), some (.int v6), some (.int v2), some (.int v7)] [] S D _ (F_X11_leftBy_L20 kc3 a0 a1 v2 D kc8 v6 v7)
    unfold F_X11_leftBy_L20
    refine z_iload (i := 5) (x := v7) dX11_leftBy_20 rfl ?_
    refine z_aload_n (i := 0) (x := 40) dX11_leftBy_22 rfl rfl ?_
    refine z_getI (j := 20) dX11_leftBy_23 kl_11 hs40 (by decide) rfl rfl kf_X11_159 ?_
    refine z_icmp_ge 76 dX11_leftBy_26 (by decide) (fun c9 => ?_) (fun c9 => ?_)
    · refine z_iinc (i := 4) (x := v2) (y := 1) dX11_leftBy_76 rfl (by decide) (by decide) rfl (fun v10 => ?_)
      refine z_goto 5 dX11_leftBy_79 (by decide) ?_
      refine z_weak (lv' := [some (.ref 40), some (.int a0), some (.int a1), some (.int v6), some (.int v10), none]) ⟨Or.inr rfl, ⟨Or.inr rfl, ⟨Or.inr rfl, ⟨Or.inr rfl, ⟨Or.inr rfl, ⟨Or.inl rfl, trivial⟩⟩⟩⟩⟩⟩ ?_
      exact hkc3 (v6, v10)
    · refine z_iload_n (i := 3) (x := v6) dX11_leftBy_29 rfl rfl ?_
      refine z_aload_n (i := 0) (x := 40) dX11_leftBy_30 rfl rfl ?_
      refine z_iload (i := 4) (x := v2) dX11_leftBy_31 rfl ?_
      refine z_iload (i := 5) (x := v7) dX11_leftBy_33 rfl ?_
      refine z_cR (As := [.ref 40, .int v2, .int v7]) (rest := [.int v6]) (em_X11_mayBeTheirs hl hW v2 v7 D) (fun o7 h => z_runV 416 2 h rfl kk_X11_416 hs40 kl_11.1 kq_X11_mayBeTheirs rfl (Nat.le_of_ble_eq_true rfl) ⟨Nat.le_of_ble_eq_true rfl, Nat.le_of_ble_eq_true rfl, Nat.le_of_ble_eq_true rfl, Nat.le_of_ble_eq_true rfl⟩ dX11_leftBy_35) z_gR (fun a_12 hz11 => ?_)
      refine z_if_eq 67 dX11_leftBy_38 (by decide) (fun c13 => ?_) (fun c13 => ?_)
      · refine z_iconst (v := 0) dX11_leftBy_67 rfl ?_
        refine z_iadd dX11_leftBy_68 ?_
        refine z_topi (fun v14 => ?_)
        refine z_istore_n (i := 3) (x := v14) (lv' := [some (.ref 40), some (.int a0), some (.int a1), some (.int v14), some (.int v2), some (.int v7)]) dX11_leftBy_69 rfl (by decide) rfl rfl ?_
        refine z_iinc (i := 5) (x := v7) (y := 1) dX11_leftBy_70 rfl (by decide) (by decide) rfl (fun v15 => ?_)
        refine z_goto 20 dX11_leftBy_73 (by decide) ?_
        exact hkc8 (v14, v15)
      · refine z_aload_n (i := 0) (x := 40) dX11_leftBy_41 rfl rfl ?_
        refine z_iload (i := 4) (x := v2) dX11_leftBy_42 rfl ?_
        refine z_iload_n (i := 1) (x := a0) dX11_leftBy_44 rfl rfl ?_
        refine z_cR (As := [.ref 40, .int v2, .int a0]) (rest := [.int v6]) (em_X11_hasOf hl hW v2 a0 D) (fun o7 h => z_runV 413 2 h rfl kk_X11_413 hs40 kl_11.1 kq_X11_hasOf rfl (Nat.le_of_ble_eq_true rfl) ⟨Nat.le_of_ble_eq_true rfl, Nat.le_of_ble_eq_true rfl, Nat.le_of_ble_eq_true rfl, Nat.le_of_ble_eq_true rfl⟩ dX11_leftBy_45) z_gR (fun a_17 hz16 => ?_)
        refine z_iload_n (i := 2) (x := a1) dX11_leftBy_48 rfl rfl ?_
        refine z_icmp_eq 63 dX11_leftBy_49 (by decide) (fun c18 => ?_) (fun c18 => ?_)
        · refine z_iconst (v := 1) dX11_leftBy_63 rfl ?_
          refine z_goto 68 dX11_leftBy_64 (by decide) ?_
          refine z_iadd dX11_leftBy_68 ?_
          refine z_topi (fun v19 => ?_)
          refine z_istore_n (i := 3) (x := v19) (lv' := [some (.ref 40), some (.int a0), some (.int a1), some (.int v19), some (.int v2), some (.int v7)]) dX11_leftBy_69 rfl (by decide) rfl rfl ?_
          refine z_iinc (i := 5) (x := v7) (y := 1) dX11_leftBy_70 rfl (by decide) (by decide) rfl (fun v20 => ?_)
          refine z_goto 20 dX11_leftBy_73 (by decide) ?_
          exact hkc8 (v19, v20)
        · refine z_aload_n (i := 0) (x := 40) dX11_leftBy_52 rfl rfl ?_
          refine z_iload (i := 5) (x := v7) dX11_leftBy_53 rfl ?_
          refine z_iload_n (i := 1) (x := a0) dX11_leftBy_55 rfl rfl ?_
          refine z_cR (As := [.ref 40, .int v7, .int a0]) (rest := [.int v6]) (em_X11_hasOf hl hW v7 a0 D) (fun o7 h => z_runV 413 2 h rfl kk_X11_413 hs40 kl_11.1 kq_X11_hasOf rfl (Nat.le_of_ble_eq_true rfl) ⟨Nat.le_of_ble_eq_true rfl, Nat.le_of_ble_eq_true rfl, Nat.le_of_ble_eq_true rfl, Nat.le_of_ble_eq_true rfl⟩ dX11_leftBy_56) z_gR (fun a_22 hz21 => ?_)
          refine z_iload_n (i := 2) (x := a1) dX11_leftBy_59 rfl rfl ?_
          refine z_icmp_ne 67 dX11_leftBy_60 (by decide) (fun c23 => ?_) (fun c23 => ?_)
          · refine z_iconst (v := 1) dX11_leftBy_63 rfl ?_
            refine z_goto 68 dX11_leftBy_64 (by decide) ?_
            refine z_iadd dX11_leftBy_68 ?_
            refine z_topi (fun v24 => ?_)
            refine z_istore_n (i := 3) (x := v24) (lv' := [some (.ref 40), some (.int a0), some (.int a1), some (.int v24), some (.int v2), some (.int v7)]) dX11_leftBy_69 rfl (by decide) rfl rfl ?_
            refine z_iinc (i := 5) (x := v7) (y := 1) dX11_leftBy_70 rfl (by decide) (by decide) rfl (fun v25 => ?_)
            refine z_goto 20 dX11_leftBy_73 (by decide) ?_
            exact hkc8 (v24, v25)
          · refine z_iconst (v := 0) dX11_leftBy_67 rfl ?_
            refine z_iadd dX11_leftBy_68 ?_
            refine z_topi (fun v26 => ?_)
            refine z_istore_n (i := 3) (x := v26) (lv' := [some (.ref 40), some (.int a0), some (.int a1), some (.int v26), some (.int v2), some (.int v7)]) dX11_leftBy_69 rfl (by decide) rfl rfl ?_
            refine z_iinc (i := 5) (x := v7) (y := 1) dX11_leftBy_70 rfl (by decide) (by decide) rfl (fun v27 => ?_)
            refine z_goto 20 dX11_leftBy_73 (by decide) ?_
            exact hkc8 (v26, v27)

def F_X11_look_J33 (a0 : Int32) (v42 : Int32) (D43 : z_Dat) : Option (Int32 × z_Dat) :=
  if a0 = 0 then (some (2, D43))
  else (some (v42, D43))
def F_X11_look_J120 (a0 : Int32) (v40 : Int32) (D41 : z_Dat) : Option (Int32 × z_Dat) :=
  F_X11_look_J33 a0 v40 D41
def F_X11_look_J114 (a0 : Int32) (v38 : Int32) (D39 : z_Dat) : Option (Int32 × z_Dat) :=
  F_X11_look_J120 a0 v38 D39
def F_X11_look_J33x (a0 : Int32) (v47 : Int32) (D48 : z_Dat) : Option (Int32 × z_Dat) :=
  if a0 = 0 then (some (1, D48))
  else (some (v47, D48))
def F_X11_look_J120x (a0 : Int32) (v45 : Int32) (D46 : z_Dat) : Option (Int32 × z_Dat) :=
  F_X11_look_J33x a0 v45 D46
def F_X11_look_L59 (N : Nat) (a0 : Int32) (v30 : Int32) (D31 : z_Dat) (kc35 : ((Int32 × Int32) → Option (Int32 × z_Dat))) (v33 : Int32) (v34 : Int32) : Option (Int32 × z_Dat) :=
  if 9 < v34 then (if v33 < v30 then (F_X11_look_J114 a0 v33 D31)
  else (F_X11_look_J120x a0 v30 D31))
  else (z_bd (F_X11_leftBy N 2 v34 D31) (fun a_51 => if a_51 ≤ v33 then (z_let (v34 + 1) (fun v53 => kc35 (v33, v53)))
  else (z_bd (F_X11_leftBy N 2 v34 D31) (fun a_55 => z_let (v34 + 1) (fun v56 => kc35 (a_55, v56))))))
def F_X11_look_J33xx (N : Nat) (a0 : Int32) (v30 : Int32) (D31 : z_Dat) : Option (Int32 × z_Dat) :=
  if (D31 61 (z_ix 2)) = (-1) then (z_loop (fun kc35 s => F_X11_look_L59 N a0 v30 D31 kc35 s.1 s.2) N (0, 0))
  else (F_X11_look_J120x a0 v30 D31)
def F_X11_look_J120xx (N : Nat) (a0 : Int32) (v28 : Int32) (D29 : z_Dat) : Option (Int32 × z_Dat) :=
  F_X11_look_J33xx N a0 v28 D29
def F_X11_look_J114x (N : Nat) (a0 : Int32) (v26 : Int32) (D27 : z_Dat) : Option (Int32 × z_Dat) :=
  F_X11_look_J120xx N a0 v26 D27
def F_X11_look_J33xxx (a0 : Int32) (v70 : Int32) (D71 : z_Dat) : Option (Int32 × z_Dat) :=
  if a0 = 0 then (some (0, D71))
  else (some (v70, D71))
def F_X11_look_J120xxx (a0 : Int32) (v68 : Int32) (D69 : z_Dat) : Option (Int32 × z_Dat) :=
  F_X11_look_J33xxx a0 v68 D69
def F_X11_look_L59x (N : Nat) (a0 : Int32) (v60 : Int32) (D61 : z_Dat) (kc65 : ((Int32 × Int32) → Option (Int32 × z_Dat))) (v63 : Int32) (v64 : Int32) : Option (Int32 × z_Dat) :=
  if 9 < v64 then (if v63 < v60 then (F_X11_look_J114 a0 v63 D61)
  else (F_X11_look_J120xxx a0 v60 D61))
  else (z_bd (F_X11_leftBy N 2 v64 D61) (fun a_74 => if a_74 ≤ v63 then (z_let (v64 + 1) (fun v76 => kc65 (v63, v76)))
  else (z_bd (F_X11_leftBy N 2 v64 D61) (fun a_78 => z_let (v64 + 1) (fun v79 => kc65 (a_78, v79))))))
def F_X11_look_J33xxxx (N : Nat) (a0 : Int32) (v60 : Int32) (D61 : z_Dat) : Option (Int32 × z_Dat) :=
  if (D61 61 (z_ix 2)) = (-1) then (z_loop (fun kc65 s => F_X11_look_L59x N a0 v60 D61 kc65 s.1 s.2) N (0, 0))
  else (F_X11_look_J120xxx a0 v60 D61)
def F_X11_look_J120xxxx (N : Nat) (a0 : Int32) (v58 : Int32) (D59 : z_Dat) : Option (Int32 × z_Dat) :=
  F_X11_look_J33xxxx N a0 v58 D59
def F_X11_look_L59xx (N : Nat) (a0 : Int32) (v18 : Int32) (D19 : z_Dat) (kc23 : ((Int32 × Int32) → Option (Int32 × z_Dat))) (v21 : Int32) (v22 : Int32) : Option (Int32 × z_Dat) :=
  if 9 < v22 then (if v21 < v18 then (F_X11_look_J114x N a0 v21 D19)
  else (F_X11_look_J120xxxx N a0 v18 D19))
  else (z_bd (F_X11_leftBy N 1 v22 D19) (fun a_82 => if a_82 ≤ v21 then (z_let (v22 + 1) (fun v84 => kc23 (v21, v84)))
  else (z_bd (F_X11_leftBy N 1 v22 D19) (fun a_86 => z_let (v22 + 1) (fun v87 => kc23 (a_86, v87))))))
def F_X11_look_J33xxxxx (N : Nat) (a0 : Int32) (v18 : Int32) (D19 : z_Dat) : Option (Int32 × z_Dat) :=
  if (D19 61 (z_ix 1)) = (-1) then (z_loop (fun kc23 s => F_X11_look_L59xx N a0 v18 D19 kc23 s.1 s.2) N (0, 0))
  else (F_X11_look_J120xxxx N a0 v18 D19)
def F_X11_look_J120xxxxx (N : Nat) (a0 : Int32) (v16 : Int32) (D17 : z_Dat) : Option (Int32 × z_Dat) :=
  F_X11_look_J33xxxxx N a0 v16 D17
def F_X11_look_J114xx (N : Nat) (a0 : Int32) (v14 : Int32) (D15 : z_Dat) : Option (Int32 × z_Dat) :=
  F_X11_look_J120xxxxx N a0 v14 D15
def F_X11_look_L59xxx (N : Nat) (a0 : Int32) (D8 : z_Dat) (kc12 : ((Int32 × Int32) → Option (Int32 × z_Dat))) (v10 : Int32) (v11 : Int32) : Option (Int32 × z_Dat) :=
  if 9 < v11 then (F_X11_look_J114xx N a0 v10 D8)
  else (z_bd (F_X11_leftBy N 0 v11 D8) (fun a_90 => if a_90 ≤ v10 then (z_let (v11 + 1) (fun v92 => kc12 (v10, v92)))
  else (z_bd (F_X11_leftBy N 0 v11 D8) (fun a_94 => z_let (v11 + 1) (fun v95 => kc12 (a_94, v95))))))
def F_X11_look_L59xxxx (N : Nat) (a0 : Int32) (D98 : z_Dat) (kc102 : ((Int32 × Int32) → Option (Int32 × z_Dat))) (v100 : Int32) (v101 : Int32) : Option (Int32 × z_Dat) :=
  if 9 < v101 then (F_X11_look_J114x N a0 v100 D98)
  else (z_bd (F_X11_leftBy N 1 v101 D98) (fun a_105 => if a_105 ≤ v100 then (z_let (v101 + 1) (fun v107 => kc102 (v100, v107)))
  else (z_bd (F_X11_leftBy N 1 v101 D98) (fun a_109 => z_let (v101 + 1) (fun v110 => kc102 (a_109, v110))))))
def F_X11_look_L59xxxxx (N : Nat) (a0 : Int32) (D113 : z_Dat) (kc117 : ((Int32 × Int32) → Option (Int32 × z_Dat))) (v115 : Int32) (v116 : Int32) : Option (Int32 × z_Dat) :=
  if 9 < v116 then (F_X11_look_J114 a0 v115 D113)
  else (z_bd (F_X11_leftBy N 2 v116 D113) (fun a_120 => if a_120 ≤ v115 then (z_let (v116 + 1) (fun v122 => kc117 (v115, v122)))
  else (z_bd (F_X11_leftBy N 2 v116 D113) (fun a_124 => z_let (v116 + 1) (fun v125 => kc117 (a_124, v125))))))
def F_X11_look_J33xxxxxx (a0 : Int32) (D128 : z_Dat) : Option (Int32 × z_Dat) :=
  if a0 = 0 then (some ((-1), D128))
  else (some ((-1), D128))
def F_X11_look_J120xxxxxx (a0 : Int32) (D127 : z_Dat) : Option (Int32 × z_Dat) :=
  F_X11_look_J33xxxxxx a0 D127
def F_X11_look_J33xxxxxxx (N : Nat) (a0 : Int32) (D113 : z_Dat) : Option (Int32 × z_Dat) :=
  if (D113 61 (z_ix 2)) = (-1) then (z_loop (fun kc117 s => F_X11_look_L59xxxxx N a0 D113 kc117 s.1 s.2) N (0, 0))
  else (F_X11_look_J120xxxxxx a0 D113)
def F_X11_look_J120xxxxxxx (N : Nat) (a0 : Int32) (D112 : z_Dat) : Option (Int32 × z_Dat) :=
  F_X11_look_J33xxxxxxx N a0 D112
def F_X11_look_J33xxxxxxxx (N : Nat) (a0 : Int32) (D98 : z_Dat) : Option (Int32 × z_Dat) :=
  if (D98 61 (z_ix 1)) = (-1) then (z_loop (fun kc102 s => F_X11_look_L59xxxx N a0 D98 kc102 s.1 s.2) N (0, 0))
  else (F_X11_look_J120xxxxxxx N a0 D98)
def F_X11_look_J120xxxxxxxx (N : Nat) (a0 : Int32) (D97 : z_Dat) : Option (Int32 × z_Dat) :=
  F_X11_look_J33xxxxxxxx N a0 D97
def F_X11_look_J33xxxxxxxxx (N : Nat) (a0 : Int32) (D8 : z_Dat) : Option (Int32 × z_Dat) :=
  if (D8 61 (z_ix 0)) = (-1) then (z_loop (fun kc12 s => F_X11_look_L59xxx N a0 D8 kc12 s.1 s.2) N (0, 0))
  else (F_X11_look_J120xxxxxxxx N a0 D8)
def F_X11_look (N : Nat) (a0 : Int32) (D : z_Dat) : Option (Int32 × z_Dat) :=
  z_let (z_up D 40 0 0) (fun D1 => z_bd (F_X11_may (F_X11_within a0 0 1) 1 1 D1) (fun a_4 => if a_4.1 = 0 then (some (0, a_4.2))
  else (z_bd (F_X11_take N a_4.2) (fun a_7 => F_X11_look_J33xxxxxxxxx N a0 a_7))))
set_option maxRecDepth 100000 in
set_option maxHeartbeats 4000000 in
theorem em_X11_look {l : Launch} {S : List z_Shp} {oW : Nat} (hl : l.stackTraces = false) (hW : z_W S oW) (N : Nat) (a0 : Int32) (D : z_Dat) : ∀ out, z_ko (z_kI S) (F_X11_look N a0 D) out → z_EM l M_X11_look (50, 700, 0, 0) [.ref 40, .int a0] S D out := by
  have hs40 : S[40]? = some (13, 55, [none, some (some 41), none, none, none, none, none, none, none, some (some 42), some (some 43), some (some 44), some (some 45), some (some 46), some (some 47), some (some 48), none, none, none, none, none, none, some (some 49), some (some 50), some (some 51), some (some 52), some (some 53), none, none, some (some 54), some (some 55), some (some 56), none, none, none, none, none, none, some (some 57), some (some 58), some (some 59), some (some 60), some (some 61), none, some (some 62), some (some 63), none, none, some (some 64), some (some 65), none, none, none, some (some 66), none]) := hW.1 40 _ rfl
  have hs61 : S[61]? = some (0, 3, []) := hW.1 61 _ rfl
  refine z_meth hl rfl kp_X11 (Nat.le_of_ble_eq_true rfl) (lv := [some (.ref 40), some (.int a0), none, none, none, none, none]) rfl ?_
  unfold F_X11_look
  have hJ_F_X11_look_J33 : ∀ (v42 : Int32) (D43 : z_Dat) , z_F l M_X11_look (50, 700, 0, 0) 0 0 33 [some (.ref 40), some (.int a0), some (.int 2), some (.int v42), some (.int 3), none, none] [] S D43 (z_ko (z_kI S)) (F_X11_look_J33 a0 v42 D43) := by
    intro v42 D43
    unfold F_X11_look_J33
    refine z_iload (i := 4) (x := 3) dX11_look_33 rfl ?_
    refine z_iconst (v := 3) dX11_look_35 rfl ?_
    refine z_icmp_geJ 126 dX11_look_36 (by decide) (by decide) ?_
    refine z_iload_n (i := 1) (x := a0) dX11_look_126 rfl rfl ?_
    refine z_if_ne 134 dX11_look_127 (by decide) (fun c44 => ?_) (fun c44 => ?_)
    · refine z_iload_n (i := 2) (x := 2) dX11_look_130 rfl rfl ?_
      refine z_goto 135 dX11_look_131 (by decide) ?_
      exact z_ireturn dX11_look_135 z_rWI rfl (by decide) (by decide)
    · refine z_iload_n (i := 3) (x := v42) dX11_look_134 rfl rfl ?_
      exact z_ireturn dX11_look_135 z_rWI rfl (by decide) (by decide)
  have hJ_F_X11_look_J120 : ∀ (v40 : Int32) (D41 : z_Dat) , z_F l M_X11_look (50, 700, 0, 0) 0 0 120 [some (.ref 40), some (.int a0), some (.int 2), some (.int v40), some (.int 2), none, none] [] S D41 (z_ko (z_kI S)) (F_X11_look_J120 a0 v40 D41) := by
    intro v40 D41
    unfold F_X11_look_J120
    refine z_iincC (i := 4) (x := 2) (v := 3) (lv' := [some (.ref 40), some (.int a0), some (.int 2), some (.int v40), some (.int 3), none, none]) dX11_look_120 rfl (by decide) (by decide) rfl rfl ?_
    refine z_goto 33 dX11_look_123 (by decide) ?_
    exact hJ_F_X11_look_J33 v40 D41
  have hJ_F_X11_look_J114 : ∀ (v38 : Int32) (D39 : z_Dat) , z_F l M_X11_look (50, 700, 0, 0) 0 0 114 [some (.ref 40), some (.int a0), none, none, some (.int 2), some (.int v38), none] [] S D39 (z_ko (z_kI S)) (F_X11_look_J114 a0 v38 D39) := by
    intro v38 D39
    unfold F_X11_look_J114
    refine z_iload (i := 4) (x := 2) dX11_look_114 rfl ?_
    refine z_istore_n (i := 2) (x := 2) (lv' := [some (.ref 40), some (.int a0), some (.int 2), none, some (.int 2), some (.int v38), none]) dX11_look_116 rfl (by decide) rfl rfl ?_
    refine z_iload (i := 5) (x := v38) dX11_look_117 rfl ?_
    refine z_istore_n (i := 3) (x := v38) (lv' := [some (.ref 40), some (.int a0), some (.int 2), some (.int v38), some (.int 2), some (.int v38), none]) dX11_look_119 rfl (by decide) rfl rfl ?_
    refine z_weak (lv' := [some (.ref 40), some (.int a0), some (.int 2), some (.int v38), some (.int 2), none, none]) ⟨Or.inr rfl, ⟨Or.inr rfl, ⟨Or.inr rfl, ⟨Or.inr rfl, ⟨Or.inr rfl, ⟨Or.inl rfl, ⟨Or.inl rfl, trivial⟩⟩⟩⟩⟩⟩⟩ ?_
    exact hJ_F_X11_look_J120 v38 D39
  have hJ_F_X11_look_J33x : ∀ (v47 : Int32) (D48 : z_Dat) , z_F l M_X11_look (50, 700, 0, 0) 0 0 33 [some (.ref 40), some (.int a0), some (.int 1), some (.int v47), some (.int 3), none, none] [] S D48 (z_ko (z_kI S)) (F_X11_look_J33x a0 v47 D48) := by
    intro v47 D48
    unfold F_X11_look_J33x
    refine z_iload (i := 4) (x := 3) dX11_look_33 rfl ?_
    refine z_iconst (v := 3) dX11_look_35 rfl ?_
    refine z_icmp_geJ 126 dX11_look_36 (by decide) (by decide) ?_
    refine z_iload_n (i := 1) (x := a0) dX11_look_126 rfl rfl ?_
    refine z_if_ne 134 dX11_look_127 (by decide) (fun c49 => ?_) (fun c49 => ?_)
    · refine z_iload_n (i := 2) (x := 1) dX11_look_130 rfl rfl ?_
      refine z_goto 135 dX11_look_131 (by decide) ?_
      exact z_ireturn dX11_look_135 z_rWI rfl (by decide) (by decide)
    · refine z_iload_n (i := 3) (x := v47) dX11_look_134 rfl rfl ?_
      exact z_ireturn dX11_look_135 z_rWI rfl (by decide) (by decide)
  have hJ_F_X11_look_J120x : ∀ (v45 : Int32) (D46 : z_Dat) , z_F l M_X11_look (50, 700, 0, 0) 0 0 120 [some (.ref 40), some (.int a0), some (.int 1), some (.int v45), some (.int 2), none, none] [] S D46 (z_ko (z_kI S)) (F_X11_look_J120x a0 v45 D46) := by
    intro v45 D46
    unfold F_X11_look_J120x
    refine z_iincC (i := 4) (x := 2) (v := 3) (lv' := [some (.ref 40), some (.int a0), some (.int 1), some (.int v45), some (.int 3), none, none]) dX11_look_120 rfl (by decide) (by decide) rfl rfl ?_
    refine z_goto 33 dX11_look_123 (by decide) ?_
    exact hJ_F_X11_look_J33x v45 D46
  have hJ_F_X11_look_J33xx : ∀ (v30 : Int32) (D31 : z_Dat) , z_F l M_X11_look (50, 700, 0, 0) 0 0 33 [some (.ref 40), some (.int a0), some (.int 1), some (.int v30), some (.int 2), none, none] [] S D31 (z_ko (z_kI S)) (F_X11_look_J33xx N a0 v30 D31) := by
    intro v30 D31
    unfold F_X11_look_J33xx
    refine z_iload (i := 4) (x := 2) dX11_look_33 rfl ?_
    refine z_iconst (v := 3) dX11_look_35 rfl ?_
    refine z_icmp_geN 126 dX11_look_36 (by decide) (by decide) ?_
    refine z_aload_n (i := 0) (x := 40) dX11_look_39 rfl rfl ?_
    refine z_getR (j := 42) dX11_look_40 kl_11 hs40 (by decide) rfl rfl kf_X11_77 ?_
    refine z_iload (i := 4) (x := 2) dX11_look_43 rfl ?_
    refine z_ialdC dX11_look_45 hs61 (vp_in_iff.mpr (by decide)) ?_
    refine z_iconst (v := (-1)) dX11_look_46 rfl ?_
    refine z_icmp_eq 53 dX11_look_47 (by decide) (fun c32 => ?_) (fun c32 => ?_)
    · refine z_iconst (v := 0) dX11_look_53 rfl ?_
      refine z_istore (i := 5) (x := 0) (lv' := [some (.ref 40), some (.int a0), some (.int 1), some (.int v30), some (.int 2), some (.int 0), none]) dX11_look_54 (by decide) rfl rfl ?_
      refine z_iconst (v := 0) dX11_look_56 rfl ?_
      refine z_istore (i := 6) (x := 0) (lv' := [some (.ref 40), some (.int a0), some (.int 1), some (.int v30), some (.int 2), some (.int 0), some (.int 0)]) dX11_look_57 (by decide) rfl rfl ?_
      refine z_loops (lvOf := fun s : Int32 × Int32 => [some (.ref 40), some (.int a0), some (.int 1), some (.int v30), some (.int 2), some (.int s.1), some (.int s.2)]) (dOf := fun s : Int32 × Int32 => D31) (fun kc35 hkc35 s => ?_) N (0, 0)
      obtain ⟨v33, v34⟩ := s
      show z_F _ _ _ _ _ 59 [some (.ref 40), some (.int a0), some (.int 1), some (.int v30), some (.int 2), some (.int v33), some (.int v34)] [] S D31 _ (F_X11_look_L59 N a0 v30 D31 kc35 v33 v34)
      unfold F_X11_look_L59
      refine z_iload (i := 6) (x := v34) dX11_look_59 rfl ?_
      refine z_bipush (v := 9) dX11_look_61 (by decide) ?_
      refine z_icmp_gt 100 dX11_look_63 (by decide) (fun c36 => ?_) (fun c36 => ?_)
      · refine z_iload_n (i := 2) (x := 1) dX11_look_100 rfl rfl ?_
        refine z_iconst (v := (-1)) dX11_look_101 rfl ?_
        refine z_icmp_eqN 114 dX11_look_102 (by decide) (by decide) ?_
        refine z_iload (i := 5) (x := v33) dX11_look_105 rfl ?_
        refine z_iload_n (i := 3) (x := v30) dX11_look_107 rfl rfl ?_
        refine z_icmp_lt 114 dX11_look_108 (by decide) (fun c37 => ?_) (fun c37 => ?_)
        · refine z_weak (lv' := [some (.ref 40), some (.int a0), none, none, some (.int 2), some (.int v33), none]) ⟨Or.inr rfl, ⟨Or.inr rfl, ⟨Or.inl rfl, ⟨Or.inl rfl, ⟨Or.inr rfl, ⟨Or.inr rfl, ⟨Or.inl rfl, trivial⟩⟩⟩⟩⟩⟩⟩ ?_
          exact hJ_F_X11_look_J114 v33 D31
        · refine z_goto 120 dX11_look_111 (by decide) ?_
          refine z_weak (lv' := [some (.ref 40), some (.int a0), some (.int 1), some (.int v30), some (.int 2), none, none]) ⟨Or.inr rfl, ⟨Or.inr rfl, ⟨Or.inr rfl, ⟨Or.inr rfl, ⟨Or.inr rfl, ⟨Or.inl rfl, ⟨Or.inl rfl, trivial⟩⟩⟩⟩⟩⟩⟩ ?_
          exact hJ_F_X11_look_J120x v30 D31
      · refine z_aload_n (i := 0) (x := 40) dX11_look_66 rfl rfl ?_
        refine z_iload (i := 4) (x := 2) dX11_look_67 rfl ?_
        refine z_iload (i := 6) (x := v34) dX11_look_69 rfl ?_
        refine z_cR (As := [.ref 40, .int 2, .int v34]) (rest := []) (em_X11_leftBy hl hW N 2 v34 D31) (fun o7 h => z_runV 419 2 h rfl kk_X11_419 hs40 kl_11.1 kq_X11_leftBy rfl (Nat.le_of_ble_eq_true rfl) ⟨Nat.le_of_ble_eq_true rfl, Nat.le_of_ble_eq_true rfl, Nat.le_of_ble_eq_true rfl, Nat.le_of_ble_eq_true rfl⟩ dX11_look_71) z_gWI (fun a_51 hz50 => ?_)
        refine z_iload (i := 5) (x := v33) dX11_look_74 rfl ?_
        refine z_icmp_le 90 dX11_look_76 (by decide) (fun c52 => ?_) (fun c52 => ?_)
        · refine z_iload (i := 5) (x := v33) dX11_look_90 rfl ?_
          refine z_istore (i := 5) (x := v33) (lv' := [some (.ref 40), some (.int a0), some (.int 1), some (.int v30), some (.int 2), some (.int v33), some (.int v34)]) dX11_look_92 (by decide) rfl rfl ?_
          refine z_iinc (i := 6) (x := v34) (y := 1) dX11_look_94 rfl (by decide) (by decide) rfl (fun v53 => ?_)
          refine z_goto 59 dX11_look_97 (by decide) ?_
          exact hkc35 (v33, v53)
        · refine z_aload_n (i := 0) (x := 40) dX11_look_79 rfl rfl ?_
          refine z_iload (i := 4) (x := 2) dX11_look_80 rfl ?_
          refine z_iload (i := 6) (x := v34) dX11_look_82 rfl ?_
          refine z_cR (As := [.ref 40, .int 2, .int v34]) (rest := []) (em_X11_leftBy hl hW N 2 v34 D31) (fun o7 h => z_runV 419 2 h rfl kk_X11_419 hs40 kl_11.1 kq_X11_leftBy rfl (Nat.le_of_ble_eq_true rfl) ⟨Nat.le_of_ble_eq_true rfl, Nat.le_of_ble_eq_true rfl, Nat.le_of_ble_eq_true rfl, Nat.le_of_ble_eq_true rfl⟩ dX11_look_84) z_gWI (fun a_55 hz54 => ?_)
          refine z_goto 92 dX11_look_87 (by decide) ?_
          refine z_istore (i := 5) (x := a_55) (lv' := [some (.ref 40), some (.int a0), some (.int 1), some (.int v30), some (.int 2), some (.int a_55), some (.int v34)]) dX11_look_92 (by decide) rfl rfl ?_
          refine z_iinc (i := 6) (x := v34) (y := 1) dX11_look_94 rfl (by decide) (by decide) rfl (fun v56 => ?_)
          refine z_goto 59 dX11_look_97 (by decide) ?_
          exact hkc35 (a_55, v56)
    · refine z_goto 120 dX11_look_50 (by decide) ?_
      exact hJ_F_X11_look_J120x v30 D31
  have hJ_F_X11_look_J120xx : ∀ (v28 : Int32) (D29 : z_Dat) , z_F l M_X11_look (50, 700, 0, 0) 0 0 120 [some (.ref 40), some (.int a0), some (.int 1), some (.int v28), some (.int 1), none, none] [] S D29 (z_ko (z_kI S)) (F_X11_look_J120xx N a0 v28 D29) := by
    intro v28 D29
    unfold F_X11_look_J120xx
    refine z_iincC (i := 4) (x := 1) (v := 2) (lv' := [some (.ref 40), some (.int a0), some (.int 1), some (.int v28), some (.int 2), none, none]) dX11_look_120 rfl (by decide) (by decide) rfl rfl ?_
    refine z_goto 33 dX11_look_123 (by decide) ?_
    exact hJ_F_X11_look_J33xx v28 D29
  have hJ_F_X11_look_J114x : ∀ (v26 : Int32) (D27 : z_Dat) , z_F l M_X11_look (50, 700, 0, 0) 0 0 114 [some (.ref 40), some (.int a0), none, none, some (.int 1), some (.int v26), none] [] S D27 (z_ko (z_kI S)) (F_X11_look_J114x N a0 v26 D27) := by
    intro v26 D27
    unfold F_X11_look_J114x
    refine z_iload (i := 4) (x := 1) dX11_look_114 rfl ?_
    refine z_istore_n (i := 2) (x := 1) (lv' := [some (.ref 40), some (.int a0), some (.int 1), none, some (.int 1), some (.int v26), none]) dX11_look_116 rfl (by decide) rfl rfl ?_
    refine z_iload (i := 5) (x := v26) dX11_look_117 rfl ?_
    refine z_istore_n (i := 3) (x := v26) (lv' := [some (.ref 40), some (.int a0), some (.int 1), some (.int v26), some (.int 1), some (.int v26), none]) dX11_look_119 rfl (by decide) rfl rfl ?_
    refine z_weak (lv' := [some (.ref 40), some (.int a0), some (.int 1), some (.int v26), some (.int 1), none, none]) ⟨Or.inr rfl, ⟨Or.inr rfl, ⟨Or.inr rfl, ⟨Or.inr rfl, ⟨Or.inr rfl, ⟨Or.inl rfl, ⟨Or.inl rfl, trivial⟩⟩⟩⟩⟩⟩⟩ ?_
    exact hJ_F_X11_look_J120xx v26 D27
  have hJ_F_X11_look_J33xxx : ∀ (v70 : Int32) (D71 : z_Dat) , z_F l M_X11_look (50, 700, 0, 0) 0 0 33 [some (.ref 40), some (.int a0), some (.int 0), some (.int v70), some (.int 3), none, none] [] S D71 (z_ko (z_kI S)) (F_X11_look_J33xxx a0 v70 D71) := by
    intro v70 D71
    unfold F_X11_look_J33xxx
    refine z_iload (i := 4) (x := 3) dX11_look_33 rfl ?_
    refine z_iconst (v := 3) dX11_look_35 rfl ?_
    refine z_icmp_geJ 126 dX11_look_36 (by decide) (by decide) ?_
    refine z_iload_n (i := 1) (x := a0) dX11_look_126 rfl rfl ?_
    refine z_if_ne 134 dX11_look_127 (by decide) (fun c72 => ?_) (fun c72 => ?_)
    · refine z_iload_n (i := 2) (x := 0) dX11_look_130 rfl rfl ?_
      refine z_goto 135 dX11_look_131 (by decide) ?_
      exact z_ireturn dX11_look_135 z_rWI rfl (by decide) (by decide)
    · refine z_iload_n (i := 3) (x := v70) dX11_look_134 rfl rfl ?_
      exact z_ireturn dX11_look_135 z_rWI rfl (by decide) (by decide)
  have hJ_F_X11_look_J120xxx : ∀ (v68 : Int32) (D69 : z_Dat) , z_F l M_X11_look (50, 700, 0, 0) 0 0 120 [some (.ref 40), some (.int a0), some (.int 0), some (.int v68), some (.int 2), none, none] [] S D69 (z_ko (z_kI S)) (F_X11_look_J120xxx a0 v68 D69) := by
    intro v68 D69
    unfold F_X11_look_J120xxx
    refine z_iincC (i := 4) (x := 2) (v := 3) (lv' := [some (.ref 40), some (.int a0), some (.int 0), some (.int v68), some (.int 3), none, none]) dX11_look_120 rfl (by decide) (by decide) rfl rfl ?_
    refine z_goto 33 dX11_look_123 (by decide) ?_
    exact hJ_F_X11_look_J33xxx v68 D69
  have hJ_F_X11_look_J33xxxx : ∀ (v60 : Int32) (D61 : z_Dat) , z_F l M_X11_look (50, 700, 0, 0) 0 0 33 [some (.ref 40), some (.int a0), some (.int 0), some (.int v60), some (.int 2), none, none] [] S D61 (z_ko (z_kI S)) (F_X11_look_J33xxxx N a0 v60 D61) := by
    intro v60 D61
    unfold F_X11_look_J33xxxx
    refine z_iload (i := 4) (x := 2) dX11_look_33 rfl ?_
    refine z_iconst (v := 3) dX11_look_35 rfl ?_
    refine z_icmp_geN 126 dX11_look_36 (by decide) (by decide) ?_
    refine z_aload_n (i := 0) (x := 40) dX11_look_39 rfl rfl ?_
    refine z_getR (j := 42) dX11_look_40 kl_11 hs40 (by decide) rfl rfl kf_X11_77 ?_
    refine z_iload (i := 4) (x := 2) dX11_look_43 rfl ?_
    refine z_ialdC dX11_look_45 hs61 (vp_in_iff.mpr (by decide)) ?_
    refine z_iconst (v := (-1)) dX11_look_46 rfl ?_
    refine z_icmp_eq 53 dX11_look_47 (by decide) (fun c62 => ?_) (fun c62 => ?_)
    · refine z_iconst (v := 0) dX11_look_53 rfl ?_
      refine z_istore (i := 5) (x := 0) (lv' := [some (.ref 40), some (.int a0), some (.int 0), some (.int v60), some (.int 2), some (.int 0), none]) dX11_look_54 (by decide) rfl rfl ?_
      refine z_iconst (v := 0) dX11_look_56 rfl ?_
      refine z_istore (i := 6) (x := 0) (lv' := [some (.ref 40), some (.int a0), some (.int 0), some (.int v60), some (.int 2), some (.int 0), some (.int 0)]) dX11_look_57 (by decide) rfl rfl ?_
      refine z_loops (lvOf := fun s : Int32 × Int32 => [some (.ref 40), some (.int a0), some (.int 0), some (.int v60), some (.int 2), some (.int s.1), some (.int s.2)]) (dOf := fun s : Int32 × Int32 => D61) (fun kc65 hkc65 s => ?_) N (0, 0)
      obtain ⟨v63, v64⟩ := s
      show z_F _ _ _ _ _ 59 [some (.ref 40), some (.int a0), some (.int 0), some (.int v60), some (.int 2), some (.int v63), some (.int v64)] [] S D61 _ (F_X11_look_L59x N a0 v60 D61 kc65 v63 v64)
      unfold F_X11_look_L59x
      refine z_iload (i := 6) (x := v64) dX11_look_59 rfl ?_
      refine z_bipush (v := 9) dX11_look_61 (by decide) ?_
      refine z_icmp_gt 100 dX11_look_63 (by decide) (fun c66 => ?_) (fun c66 => ?_)
      · refine z_iload_n (i := 2) (x := 0) dX11_look_100 rfl rfl ?_
        refine z_iconst (v := (-1)) dX11_look_101 rfl ?_
        refine z_icmp_eqN 114 dX11_look_102 (by decide) (by decide) ?_
        refine z_iload (i := 5) (x := v63) dX11_look_105 rfl ?_
        refine z_iload_n (i := 3) (x := v60) dX11_look_107 rfl rfl ?_
        refine z_icmp_lt 114 dX11_look_108 (by decide) (fun c67 => ?_) (fun c67 => ?_)
        · refine z_weak (lv' := [some (.ref 40), some (.int a0), none, none, some (.int 2), some (.int v63), none]) ⟨Or.inr rfl, ⟨Or.inr rfl, ⟨Or.inl rfl, ⟨Or.inl rfl, ⟨Or.inr rfl, ⟨Or.inr rfl, ⟨Or.inl rfl, trivial⟩⟩⟩⟩⟩⟩⟩ ?_
          exact hJ_F_X11_look_J114 v63 D61
        · refine z_goto 120 dX11_look_111 (by decide) ?_
          refine z_weak (lv' := [some (.ref 40), some (.int a0), some (.int 0), some (.int v60), some (.int 2), none, none]) ⟨Or.inr rfl, ⟨Or.inr rfl, ⟨Or.inr rfl, ⟨Or.inr rfl, ⟨Or.inr rfl, ⟨Or.inl rfl, ⟨Or.inl rfl, trivial⟩⟩⟩⟩⟩⟩⟩ ?_
          exact hJ_F_X11_look_J120xxx v60 D61
      · refine z_aload_n (i := 0) (x := 40) dX11_look_66 rfl rfl ?_
        refine z_iload (i := 4) (x := 2) dX11_look_67 rfl ?_
        refine z_iload (i := 6) (x := v64) dX11_look_69 rfl ?_
        refine z_cR (As := [.ref 40, .int 2, .int v64]) (rest := []) (em_X11_leftBy hl hW N 2 v64 D61) (fun o7 h => z_runV 419 2 h rfl kk_X11_419 hs40 kl_11.1 kq_X11_leftBy rfl (Nat.le_of_ble_eq_true rfl) ⟨Nat.le_of_ble_eq_true rfl, Nat.le_of_ble_eq_true rfl, Nat.le_of_ble_eq_true rfl, Nat.le_of_ble_eq_true rfl⟩ dX11_look_71) z_gWI (fun a_74 hz73 => ?_)
        refine z_iload (i := 5) (x := v63) dX11_look_74 rfl ?_
        refine z_icmp_le 90 dX11_look_76 (by decide) (fun c75 => ?_) (fun c75 => ?_)
        · refine z_iload (i := 5) (x := v63) dX11_look_90 rfl ?_
          refine z_istore (i := 5) (x := v63) (lv' := [some (.ref 40), some (.int a0), some (.int 0), some (.int v60), some (.int 2), some (.int v63), some (.int v64)]) dX11_look_92 (by decide) rfl rfl ?_
          refine z_iinc (i := 6) (x := v64) (y := 1) dX11_look_94 rfl (by decide) (by decide) rfl (fun v76 => ?_)
          refine z_goto 59 dX11_look_97 (by decide) ?_
          exact hkc65 (v63, v76)
        · refine z_aload_n (i := 0) (x := 40) dX11_look_79 rfl rfl ?_
          refine z_iload (i := 4) (x := 2) dX11_look_80 rfl ?_
          refine z_iload (i := 6) (x := v64) dX11_look_82 rfl ?_
          refine z_cR (As := [.ref 40, .int 2, .int v64]) (rest := []) (em_X11_leftBy hl hW N 2 v64 D61) (fun o7 h => z_runV 419 2 h rfl kk_X11_419 hs40 kl_11.1 kq_X11_leftBy rfl (Nat.le_of_ble_eq_true rfl) ⟨Nat.le_of_ble_eq_true rfl, Nat.le_of_ble_eq_true rfl, Nat.le_of_ble_eq_true rfl, Nat.le_of_ble_eq_true rfl⟩ dX11_look_84) z_gWI (fun a_78 hz77 => ?_)
          refine z_goto 92 dX11_look_87 (by decide) ?_
          refine z_istore (i := 5) (x := a_78) (lv' := [some (.ref 40), some (.int a0), some (.int 0), some (.int v60), some (.int 2), some (.int a_78), some (.int v64)]) dX11_look_92 (by decide) rfl rfl ?_
          refine z_iinc (i := 6) (x := v64) (y := 1) dX11_look_94 rfl (by decide) (by decide) rfl (fun v79 => ?_)
          refine z_goto 59 dX11_look_97 (by decide) ?_
          exact hkc65 (a_78, v79)
    · refine z_goto 120 dX11_look_50 (by decide) ?_
      exact hJ_F_X11_look_J120xxx v60 D61
  have hJ_F_X11_look_J120xxxx : ∀ (v58 : Int32) (D59 : z_Dat) , z_F l M_X11_look (50, 700, 0, 0) 0 0 120 [some (.ref 40), some (.int a0), some (.int 0), some (.int v58), some (.int 1), none, none] [] S D59 (z_ko (z_kI S)) (F_X11_look_J120xxxx N a0 v58 D59) := by
    intro v58 D59
    unfold F_X11_look_J120xxxx
    refine z_iincC (i := 4) (x := 1) (v := 2) (lv' := [some (.ref 40), some (.int a0), some (.int 0), some (.int v58), some (.int 2), none, none]) dX11_look_120 rfl (by decide) (by decide) rfl rfl ?_
    refine z_goto 33 dX11_look_123 (by decide) ?_
    exact hJ_F_X11_look_J33xxxx v58 D59
  have hJ_F_X11_look_J33xxxxx : ∀ (v18 : Int32) (D19 : z_Dat) , z_F l M_X11_look (50, 700, 0, 0) 0 0 33 [some (.ref 40), some (.int a0), some (.int 0), some (.int v18), some (.int 1), none, none] [] S D19 (z_ko (z_kI S)) (F_X11_look_J33xxxxx N a0 v18 D19) := by
    intro v18 D19
    unfold F_X11_look_J33xxxxx
    refine z_iload (i := 4) (x := 1) dX11_look_33 rfl ?_
    refine z_iconst (v := 3) dX11_look_35 rfl ?_
    refine z_icmp_geN 126 dX11_look_36 (by decide) (by decide) ?_
    refine z_aload_n (i := 0) (x := 40) dX11_look_39 rfl rfl ?_
    refine z_getR (j := 42) dX11_look_40 kl_11 hs40 (by decide) rfl rfl kf_X11_77 ?_
    refine z_iload (i := 4) (x := 1) dX11_look_43 rfl ?_
    refine z_ialdC dX11_look_45 hs61 (vp_in_iff.mpr (by decide)) ?_
    refine z_iconst (v := (-1)) dX11_look_46 rfl ?_
    refine z_icmp_eq 53 dX11_look_47 (by decide) (fun c20 => ?_) (fun c20 => ?_)
    · refine z_iconst (v := 0) dX11_look_53 rfl ?_
      refine z_istore (i := 5) (x := 0) (lv' := [some (.ref 40), some (.int a0), some (.int 0), some (.int v18), some (.int 1), some (.int 0), none]) dX11_look_54 (by decide) rfl rfl ?_
      refine z_iconst (v := 0) dX11_look_56 rfl ?_
      refine z_istore (i := 6) (x := 0) (lv' := [some (.ref 40), some (.int a0), some (.int 0), some (.int v18), some (.int 1), some (.int 0), some (.int 0)]) dX11_look_57 (by decide) rfl rfl ?_
      refine z_loops (lvOf := fun s : Int32 × Int32 => [some (.ref 40), some (.int a0), some (.int 0), some (.int v18), some (.int 1), some (.int s.1), some (.int s.2)]) (dOf := fun s : Int32 × Int32 => D19) (fun kc23 hkc23 s => ?_) N (0, 0)
      obtain ⟨v21, v22⟩ := s
      show z_F _ _ _ _ _ 59 [some (.ref 40), some (.int a0), some (.int 0), some (.int v18), some (.int 1), some (.int v21), some (.int v22)] [] S D19 _ (F_X11_look_L59xx N a0 v18 D19 kc23 v21 v22)
      unfold F_X11_look_L59xx
      refine z_iload (i := 6) (x := v22) dX11_look_59 rfl ?_
      refine z_bipush (v := 9) dX11_look_61 (by decide) ?_
      refine z_icmp_gt 100 dX11_look_63 (by decide) (fun c24 => ?_) (fun c24 => ?_)
      · refine z_iload_n (i := 2) (x := 0) dX11_look_100 rfl rfl ?_
        refine z_iconst (v := (-1)) dX11_look_101 rfl ?_
        refine z_icmp_eqN 114 dX11_look_102 (by decide) (by decide) ?_
        refine z_iload (i := 5) (x := v21) dX11_look_105 rfl ?_
        refine z_iload_n (i := 3) (x := v18) dX11_look_107 rfl rfl ?_
        refine z_icmp_lt 114 dX11_look_108 (by decide) (fun c25 => ?_) (fun c25 => ?_)
        · refine z_weak (lv' := [some (.ref 40), some (.int a0), none, none, some (.int 1), some (.int v21), none]) ⟨Or.inr rfl, ⟨Or.inr rfl, ⟨Or.inl rfl, ⟨Or.inl rfl, ⟨Or.inr rfl, ⟨Or.inr rfl, ⟨Or.inl rfl, trivial⟩⟩⟩⟩⟩⟩⟩ ?_
          exact hJ_F_X11_look_J114x v21 D19
        · refine z_goto 120 dX11_look_111 (by decide) ?_
          refine z_weak (lv' := [some (.ref 40), some (.int a0), some (.int 0), some (.int v18), some (.int 1), none, none]) ⟨Or.inr rfl, ⟨Or.inr rfl, ⟨Or.inr rfl, ⟨Or.inr rfl, ⟨Or.inr rfl, ⟨Or.inl rfl, ⟨Or.inl rfl, trivial⟩⟩⟩⟩⟩⟩⟩ ?_
          exact hJ_F_X11_look_J120xxxx v18 D19
      · refine z_aload_n (i := 0) (x := 40) dX11_look_66 rfl rfl ?_
        refine z_iload (i := 4) (x := 1) dX11_look_67 rfl ?_
        refine z_iload (i := 6) (x := v22) dX11_look_69 rfl ?_
        refine z_cR (As := [.ref 40, .int 1, .int v22]) (rest := []) (em_X11_leftBy hl hW N 1 v22 D19) (fun o7 h => z_runV 419 2 h rfl kk_X11_419 hs40 kl_11.1 kq_X11_leftBy rfl (Nat.le_of_ble_eq_true rfl) ⟨Nat.le_of_ble_eq_true rfl, Nat.le_of_ble_eq_true rfl, Nat.le_of_ble_eq_true rfl, Nat.le_of_ble_eq_true rfl⟩ dX11_look_71) z_gWI (fun a_82 hz81 => ?_)
        refine z_iload (i := 5) (x := v21) dX11_look_74 rfl ?_
        refine z_icmp_le 90 dX11_look_76 (by decide) (fun c83 => ?_) (fun c83 => ?_)
        · refine z_iload (i := 5) (x := v21) dX11_look_90 rfl ?_
          refine z_istore (i := 5) (x := v21) (lv' := [some (.ref 40), some (.int a0), some (.int 0), some (.int v18), some (.int 1), some (.int v21), some (.int v22)]) dX11_look_92 (by decide) rfl rfl ?_
          refine z_iinc (i := 6) (x := v22) (y := 1) dX11_look_94 rfl (by decide) (by decide) rfl (fun v84 => ?_)
          refine z_goto 59 dX11_look_97 (by decide) ?_
          exact hkc23 (v21, v84)
        · refine z_aload_n (i := 0) (x := 40) dX11_look_79 rfl rfl ?_
          refine z_iload (i := 4) (x := 1) dX11_look_80 rfl ?_
          refine z_iload (i := 6) (x := v22) dX11_look_82 rfl ?_
          refine z_cR (As := [.ref 40, .int 1, .int v22]) (rest := []) (em_X11_leftBy hl hW N 1 v22 D19) (fun o7 h => z_runV 419 2 h rfl kk_X11_419 hs40 kl_11.1 kq_X11_leftBy rfl (Nat.le_of_ble_eq_true rfl) ⟨Nat.le_of_ble_eq_true rfl, Nat.le_of_ble_eq_true rfl, Nat.le_of_ble_eq_true rfl, Nat.le_of_ble_eq_true rfl⟩ dX11_look_84) z_gWI (fun a_86 hz85 => ?_)
          refine z_goto 92 dX11_look_87 (by decide) ?_
          refine z_istore (i := 5) (x := a_86) (lv' := [some (.ref 40), some (.int a0), some (.int 0), some (.int v18), some (.int 1), some (.int a_86), some (.int v22)]) dX11_look_92 (by decide) rfl rfl ?_
          refine z_iinc (i := 6) (x := v22) (y := 1) dX11_look_94 rfl (by decide) (by decide) rfl (fun v87 => ?_)
          refine z_goto 59 dX11_look_97 (by decide) ?_
          exact hkc23 (a_86, v87)
    · refine z_goto 120 dX11_look_50 (by decide) ?_
      exact hJ_F_X11_look_J120xxxx v18 D19
  have hJ_F_X11_look_J120xxxxx : ∀ (v16 : Int32) (D17 : z_Dat) , z_F l M_X11_look (50, 700, 0, 0) 0 0 120 [some (.ref 40), some (.int a0), some (.int 0), some (.int v16), some (.int 0), none, none] [] S D17 (z_ko (z_kI S)) (F_X11_look_J120xxxxx N a0 v16 D17) := by
    intro v16 D17
    unfold F_X11_look_J120xxxxx
    refine z_iincC (i := 4) (x := 0) (v := 1) (lv' := [some (.ref 40), some (.int a0), some (.int 0), some (.int v16), some (.int 1), none, none]) dX11_look_120 rfl (by decide) (by decide) rfl rfl ?_
    refine z_goto 33 dX11_look_123 (by decide) ?_
    exact hJ_F_X11_look_J33xxxxx v16 D17
  have hJ_F_X11_look_J114xx : ∀ (v14 : Int32) (D15 : z_Dat) , z_F l M_X11_look (50, 700, 0, 0) 0 0 114 [some (.ref 40), some (.int a0), none, none, some (.int 0), some (.int v14), none] [] S D15 (z_ko (z_kI S)) (F_X11_look_J114xx N a0 v14 D15) := by
    intro v14 D15
    unfold F_X11_look_J114xx
    refine z_iload (i := 4) (x := 0) dX11_look_114 rfl ?_
    refine z_istore_n (i := 2) (x := 0) (lv' := [some (.ref 40), some (.int a0), some (.int 0), none, some (.int 0), some (.int v14), none]) dX11_look_116 rfl (by decide) rfl rfl ?_
    refine z_iload (i := 5) (x := v14) dX11_look_117 rfl ?_
    refine z_istore_n (i := 3) (x := v14) (lv' := [some (.ref 40), some (.int a0), some (.int 0), some (.int v14), some (.int 0), some (.int v14), none]) dX11_look_119 rfl (by decide) rfl rfl ?_
    refine z_weak (lv' := [some (.ref 40), some (.int a0), some (.int 0), some (.int v14), some (.int 0), none, none]) ⟨Or.inr rfl, ⟨Or.inr rfl, ⟨Or.inr rfl, ⟨Or.inr rfl, ⟨Or.inr rfl, ⟨Or.inl rfl, ⟨Or.inl rfl, trivial⟩⟩⟩⟩⟩⟩⟩ ?_
    exact hJ_F_X11_look_J120xxxxx v14 D15
  have hJ_F_X11_look_J33xxxxxx : ∀ (D128 : z_Dat) , z_F l M_X11_look (50, 700, 0, 0) 0 0 33 [some (.ref 40), some (.int a0), some (.int (-1)), some (.int (-1)), some (.int 3), none, none] [] S D128 (z_ko (z_kI S)) (F_X11_look_J33xxxxxx a0 D128) := by
    intro D128
    unfold F_X11_look_J33xxxxxx
    refine z_iload (i := 4) (x := 3) dX11_look_33 rfl ?_
    refine z_iconst (v := 3) dX11_look_35 rfl ?_
    refine z_icmp_geJ 126 dX11_look_36 (by decide) (by decide) ?_
    refine z_iload_n (i := 1) (x := a0) dX11_look_126 rfl rfl ?_
    refine z_if_ne 134 dX11_look_127 (by decide) (fun c129 => ?_) (fun c129 => ?_)
    · refine z_iload_n (i := 2) (x := (-1)) dX11_look_130 rfl rfl ?_
      refine z_goto 135 dX11_look_131 (by decide) ?_
      exact z_ireturn dX11_look_135 z_rWI rfl (by decide) (by decide)
    · refine z_iload_n (i := 3) (x := (-1)) dX11_look_134 rfl rfl ?_
      exact z_ireturn dX11_look_135 z_rWI rfl (by decide) (by decide)
  have hJ_F_X11_look_J120xxxxxx : ∀ (D127 : z_Dat) , z_F l M_X11_look (50, 700, 0, 0) 0 0 120 [some (.ref 40), some (.int a0), some (.int (-1)), some (.int (-1)), some (.int 2), none, none] [] S D127 (z_ko (z_kI S)) (F_X11_look_J120xxxxxx a0 D127) := by
    intro D127
    unfold F_X11_look_J120xxxxxx
    refine z_iincC (i := 4) (x := 2) (v := 3) (lv' := [some (.ref 40), some (.int a0), some (.int (-1)), some (.int (-1)), some (.int 3), none, none]) dX11_look_120 rfl (by decide) (by decide) rfl rfl ?_
    refine z_goto 33 dX11_look_123 (by decide) ?_
    exact hJ_F_X11_look_J33xxxxxx D127
  have hJ_F_X11_look_J33xxxxxxx : ∀ (D113 : z_Dat) , z_F l M_X11_look (50, 700, 0, 0) 0 0 33 [some (.ref 40), some (.int a0), some (.int (-1)), some (.int (-1)), some (.int 2), none, none] [] S D113 (z_ko (z_kI S)) (F_X11_look_J33xxxxxxx N a0 D113) := by
    intro D113
    unfold F_X11_look_J33xxxxxxx
    refine z_iload (i := 4) (x := 2) dX11_look_33 rfl ?_
    refine z_iconst (v := 3) dX11_look_35 rfl ?_
    refine z_icmp_geN 126 dX11_look_36 (by decide) (by decide) ?_
    refine z_aload_n (i := 0) (x := 40) dX11_look_39 rfl rfl ?_
    refine z_getR (j := 42) dX11_look_40 kl_11 hs40 (by decide) rfl rfl kf_X11_77 ?_
    refine z_iload (i := 4) (x := 2) dX11_look_43 rfl ?_
    refine z_ialdC dX11_look_45 hs61 (vp_in_iff.mpr (by decide)) ?_
    refine z_iconst (v := (-1)) dX11_look_46 rfl ?_
    refine z_icmp_eq 53 dX11_look_47 (by decide) (fun c114 => ?_) (fun c114 => ?_)
    · refine z_iconst (v := 0) dX11_look_53 rfl ?_
      refine z_istore (i := 5) (x := 0) (lv' := [some (.ref 40), some (.int a0), some (.int (-1)), some (.int (-1)), some (.int 2), some (.int 0), none]) dX11_look_54 (by decide) rfl rfl ?_
      refine z_iconst (v := 0) dX11_look_56 rfl ?_
      refine z_istore (i := 6) (x := 0) (lv' := [some (.ref 40), some (.int a0), some (.int (-1)), some (.int (-1)), some (.int 2), some (.int 0), some (.int 0)]) dX11_look_57 (by decide) rfl rfl ?_
      refine z_loops (lvOf := fun s : Int32 × Int32 => [some (.ref 40), some (.int a0), some (.int (-1)), some (.int (-1)), some (.int 2), some (.int s.1), some (.int s.2)]) (dOf := fun s : Int32 × Int32 => D113) (fun kc117 hkc117 s => ?_) N (0, 0)
      obtain ⟨v115, v116⟩ := s
      show z_F _ _ _ _ _ 59 [some (.ref 40), some (.int a0), some (.int (-1)), some (.int (-1)), some (.int 2), some (.int v115), some (.int v116)] [] S D113 _ (F_X11_look_L59xxxxx N a0 D113 kc117 v115 v116)
      unfold F_X11_look_L59xxxxx
      refine z_iload (i := 6) (x := v116) dX11_look_59 rfl ?_
      refine z_bipush (v := 9) dX11_look_61 (by decide) ?_
      refine z_icmp_gt 100 dX11_look_63 (by decide) (fun c118 => ?_) (fun c118 => ?_)
      · refine z_iload_n (i := 2) (x := (-1)) dX11_look_100 rfl rfl ?_
        refine z_iconst (v := (-1)) dX11_look_101 rfl ?_
        refine z_icmp_eqJ 114 dX11_look_102 (by decide) (by decide) ?_
        refine z_weak (lv' := [some (.ref 40), some (.int a0), none, none, some (.int 2), some (.int v115), none]) ⟨Or.inr rfl, ⟨Or.inr rfl, ⟨Or.inl rfl, ⟨Or.inl rfl, ⟨Or.inr rfl, ⟨Or.inr rfl, ⟨Or.inl rfl, trivial⟩⟩⟩⟩⟩⟩⟩ ?_
        exact hJ_F_X11_look_J114 v115 D113
      · refine z_aload_n (i := 0) (x := 40) dX11_look_66 rfl rfl ?_
        refine z_iload (i := 4) (x := 2) dX11_look_67 rfl ?_
        refine z_iload (i := 6) (x := v116) dX11_look_69 rfl ?_
        refine z_cR (As := [.ref 40, .int 2, .int v116]) (rest := []) (em_X11_leftBy hl hW N 2 v116 D113) (fun o7 h => z_runV 419 2 h rfl kk_X11_419 hs40 kl_11.1 kq_X11_leftBy rfl (Nat.le_of_ble_eq_true rfl) ⟨Nat.le_of_ble_eq_true rfl, Nat.le_of_ble_eq_true rfl, Nat.le_of_ble_eq_true rfl, Nat.le_of_ble_eq_true rfl⟩ dX11_look_71) z_gWI (fun a_120 hz119 => ?_)
        refine z_iload (i := 5) (x := v115) dX11_look_74 rfl ?_
        refine z_icmp_le 90 dX11_look_76 (by decide) (fun c121 => ?_) (fun c121 => ?_)
        · refine z_iload (i := 5) (x := v115) dX11_look_90 rfl ?_
          refine z_istore (i := 5) (x := v115) (lv' := [some (.ref 40), some (.int a0), some (.int (-1)), some (.int (-1)), some (.int 2), some (.int v115), some (.int v116)]) dX11_look_92 (by decide) rfl rfl ?_
          refine z_iinc (i := 6) (x := v116) (y := 1) dX11_look_94 rfl (by decide) (by decide) rfl (fun v122 => ?_)
          refine z_goto 59 dX11_look_97 (by decide) ?_
          exact hkc117 (v115, v122)
        · refine z_aload_n (i := 0) (x := 40) dX11_look_79 rfl rfl ?_
          refine z_iload (i := 4) (x := 2) dX11_look_80 rfl ?_
          refine z_iload (i := 6) (x := v116) dX11_look_82 rfl ?_
          refine z_cR (As := [.ref 40, .int 2, .int v116]) (rest := []) (em_X11_leftBy hl hW N 2 v116 D113) (fun o7 h => z_runV 419 2 h rfl kk_X11_419 hs40 kl_11.1 kq_X11_leftBy rfl (Nat.le_of_ble_eq_true rfl) ⟨Nat.le_of_ble_eq_true rfl, Nat.le_of_ble_eq_true rfl, Nat.le_of_ble_eq_true rfl, Nat.le_of_ble_eq_true rfl⟩ dX11_look_84) z_gWI (fun a_124 hz123 => ?_)
          refine z_goto 92 dX11_look_87 (by decide) ?_
          refine z_istore (i := 5) (x := a_124) (lv' := [some (.ref 40), some (.int a0), some (.int (-1)), some (.int (-1)), some (.int 2), some (.int a_124), some (.int v116)]) dX11_look_92 (by decide) rfl rfl ?_
          refine z_iinc (i := 6) (x := v116) (y := 1) dX11_look_94 rfl (by decide) (by decide) rfl (fun v125 => ?_)
          refine z_goto 59 dX11_look_97 (by decide) ?_
          exact hkc117 (a_124, v125)
    · refine z_goto 120 dX11_look_50 (by decide) ?_
      exact hJ_F_X11_look_J120xxxxxx D113
  have hJ_F_X11_look_J120xxxxxxx : ∀ (D112 : z_Dat) , z_F l M_X11_look (50, 700, 0, 0) 0 0 120 [some (.ref 40), some (.int a0), some (.int (-1)), some (.int (-1)), some (.int 1), none, none] [] S D112 (z_ko (z_kI S)) (F_X11_look_J120xxxxxxx N a0 D112) := by
    intro D112
    unfold F_X11_look_J120xxxxxxx
    refine z_iincC (i := 4) (x := 1) (v := 2) (lv' := [some (.ref 40), some (.int a0), some (.int (-1)), some (.int (-1)), some (.int 2), none, none]) dX11_look_120 rfl (by decide) (by decide) rfl rfl ?_
    refine z_goto 33 dX11_look_123 (by decide) ?_
    exact hJ_F_X11_look_J33xxxxxxx D112
  have hJ_F_X11_look_J33xxxxxxxx : ∀ (D98 : z_Dat) , z_F l M_X11_look (50, 700, 0, 0) 0 0 33 [some (.ref 40), some (.int a0), some (.int (-1)), some (.int (-1)), some (.int 1), none, none] [] S D98 (z_ko (z_kI S)) (F_X11_look_J33xxxxxxxx N a0 D98) := by
    intro D98
    unfold F_X11_look_J33xxxxxxxx
    refine z_iload (i := 4) (x := 1) dX11_look_33 rfl ?_
    refine z_iconst (v := 3) dX11_look_35 rfl ?_
    refine z_icmp_geN 126 dX11_look_36 (by decide) (by decide) ?_
    refine z_aload_n (i := 0) (x := 40) dX11_look_39 rfl rfl ?_
    refine z_getR (j := 42) dX11_look_40 kl_11 hs40 (by decide) rfl rfl kf_X11_77 ?_
    refine z_iload (i := 4) (x := 1) dX11_look_43 rfl ?_
    refine z_ialdC dX11_look_45 hs61 (vp_in_iff.mpr (by decide)) ?_
    refine z_iconst (v := (-1)) dX11_look_46 rfl ?_
    refine z_icmp_eq 53 dX11_look_47 (by decide) (fun c99 => ?_) (fun c99 => ?_)
    · refine z_iconst (v := 0) dX11_look_53 rfl ?_
      refine z_istore (i := 5) (x := 0) (lv' := [some (.ref 40), some (.int a0), some (.int (-1)), some (.int (-1)), some (.int 1), some (.int 0), none]) dX11_look_54 (by decide) rfl rfl ?_
      refine z_iconst (v := 0) dX11_look_56 rfl ?_
      refine z_istore (i := 6) (x := 0) (lv' := [some (.ref 40), some (.int a0), some (.int (-1)), some (.int (-1)), some (.int 1), some (.int 0), some (.int 0)]) dX11_look_57 (by decide) rfl rfl ?_
      refine z_loops (lvOf := fun s : Int32 × Int32 => [some (.ref 40), some (.int a0), some (.int (-1)), some (.int (-1)), some (.int 1), some (.int s.1), some (.int s.2)]) (dOf := fun s : Int32 × Int32 => D98) (fun kc102 hkc102 s => ?_) N (0, 0)
      obtain ⟨v100, v101⟩ := s
      show z_F _ _ _ _ _ 59 [some (.ref 40), some (.int a0), some (.int (-1)), some (.int (-1)), some (.int 1), some (.int v100), some (.int v101)] [] S D98 _ (F_X11_look_L59xxxx N a0 D98 kc102 v100 v101)
      unfold F_X11_look_L59xxxx
      refine z_iload (i := 6) (x := v101) dX11_look_59 rfl ?_
      refine z_bipush (v := 9) dX11_look_61 (by decide) ?_
      refine z_icmp_gt 100 dX11_look_63 (by decide) (fun c103 => ?_) (fun c103 => ?_)
      · refine z_iload_n (i := 2) (x := (-1)) dX11_look_100 rfl rfl ?_
        refine z_iconst (v := (-1)) dX11_look_101 rfl ?_
        refine z_icmp_eqJ 114 dX11_look_102 (by decide) (by decide) ?_
        refine z_weak (lv' := [some (.ref 40), some (.int a0), none, none, some (.int 1), some (.int v100), none]) ⟨Or.inr rfl, ⟨Or.inr rfl, ⟨Or.inl rfl, ⟨Or.inl rfl, ⟨Or.inr rfl, ⟨Or.inr rfl, ⟨Or.inl rfl, trivial⟩⟩⟩⟩⟩⟩⟩ ?_
        exact hJ_F_X11_look_J114x v100 D98
      · refine z_aload_n (i := 0) (x := 40) dX11_look_66 rfl rfl ?_
        refine z_iload (i := 4) (x := 1) dX11_look_67 rfl ?_
        refine z_iload (i := 6) (x := v101) dX11_look_69 rfl ?_
        refine z_cR (As := [.ref 40, .int 1, .int v101]) (rest := []) (em_X11_leftBy hl hW N 1 v101 D98) (fun o7 h => z_runV 419 2 h rfl kk_X11_419 hs40 kl_11.1 kq_X11_leftBy rfl (Nat.le_of_ble_eq_true rfl) ⟨Nat.le_of_ble_eq_true rfl, Nat.le_of_ble_eq_true rfl, Nat.le_of_ble_eq_true rfl, Nat.le_of_ble_eq_true rfl⟩ dX11_look_71) z_gWI (fun a_105 hz104 => ?_)
        refine z_iload (i := 5) (x := v100) dX11_look_74 rfl ?_
        refine z_icmp_le 90 dX11_look_76 (by decide) (fun c106 => ?_) (fun c106 => ?_)
        · refine z_iload (i := 5) (x := v100) dX11_look_90 rfl ?_
          refine z_istore (i := 5) (x := v100) (lv' := [some (.ref 40), some (.int a0), some (.int (-1)), some (.int (-1)), some (.int 1), some (.int v100), some (.int v101)]) dX11_look_92 (by decide) rfl rfl ?_
          refine z_iinc (i := 6) (x := v101) (y := 1) dX11_look_94 rfl (by decide) (by decide) rfl (fun v107 => ?_)
          refine z_goto 59 dX11_look_97 (by decide) ?_
          exact hkc102 (v100, v107)
        · refine z_aload_n (i := 0) (x := 40) dX11_look_79 rfl rfl ?_
          refine z_iload (i := 4) (x := 1) dX11_look_80 rfl ?_
          refine z_iload (i := 6) (x := v101) dX11_look_82 rfl ?_
          refine z_cR (As := [.ref 40, .int 1, .int v101]) (rest := []) (em_X11_leftBy hl hW N 1 v101 D98) (fun o7 h => z_runV 419 2 h rfl kk_X11_419 hs40 kl_11.1 kq_X11_leftBy rfl (Nat.le_of_ble_eq_true rfl) ⟨Nat.le_of_ble_eq_true rfl, Nat.le_of_ble_eq_true rfl, Nat.le_of_ble_eq_true rfl, Nat.le_of_ble_eq_true rfl⟩ dX11_look_84) z_gWI (fun a_109 hz108 => ?_)
          refine z_goto 92 dX11_look_87 (by decide) ?_
          refine z_istore (i := 5) (x := a_109) (lv' := [some (.ref 40), some (.int a0), some (.int (-1)), some (.int (-1)), some (.int 1), some (.int a_109), some (.int v101)]) dX11_look_92 (by decide) rfl rfl ?_
          refine z_iinc (i := 6) (x := v101) (y := 1) dX11_look_94 rfl (by decide) (by decide) rfl (fun v110 => ?_)
          refine z_goto 59 dX11_look_97 (by decide) ?_
          exact hkc102 (a_109, v110)
    · refine z_goto 120 dX11_look_50 (by decide) ?_
      exact hJ_F_X11_look_J120xxxxxxx D98
  have hJ_F_X11_look_J120xxxxxxxx : ∀ (D97 : z_Dat) , z_F l M_X11_look (50, 700, 0, 0) 0 0 120 [some (.ref 40), some (.int a0), some (.int (-1)), some (.int (-1)), some (.int 0), none, none] [] S D97 (z_ko (z_kI S)) (F_X11_look_J120xxxxxxxx N a0 D97) := by
    intro D97
    unfold F_X11_look_J120xxxxxxxx
    refine z_iincC (i := 4) (x := 0) (v := 1) (lv' := [some (.ref 40), some (.int a0), some (.int (-1)), some (.int (-1)), some (.int 1), none, none]) dX11_look_120 rfl (by decide) (by decide) rfl rfl ?_
    refine z_goto 33 dX11_look_123 (by decide) ?_
    exact hJ_F_X11_look_J33xxxxxxxx D97
  have hJ_F_X11_look_J33xxxxxxxxx : ∀ (D8 : z_Dat) , z_F l M_X11_look (50, 700, 0, 0) 0 0 33 [some (.ref 40), some (.int a0), some (.int (-1)), some (.int (-1)), some (.int 0), none, none] [] S D8 (z_ko (z_kI S)) (F_X11_look_J33xxxxxxxxx N a0 D8) := by
    intro D8
    unfold F_X11_look_J33xxxxxxxxx
    refine z_iload (i := 4) (x := 0) dX11_look_33 rfl ?_
    refine z_iconst (v := 3) dX11_look_35 rfl ?_
    refine z_icmp_geN 126 dX11_look_36 (by decide) (by decide) ?_
    refine z_aload_n (i := 0) (x := 40) dX11_look_39 rfl rfl ?_
    refine z_getR (j := 42) dX11_look_40 kl_11 hs40 (by decide) rfl rfl kf_X11_77 ?_
    refine z_iload (i := 4) (x := 0) dX11_look_43 rfl ?_
    refine z_ialdC dX11_look_45 hs61 (vp_in_iff.mpr (by decide)) ?_
    refine z_iconst (v := (-1)) dX11_look_46 rfl ?_
    refine z_icmp_eq 53 dX11_look_47 (by decide) (fun c9 => ?_) (fun c9 => ?_)
    · refine z_iconst (v := 0) dX11_look_53 rfl ?_
      refine z_istore (i := 5) (x := 0) (lv' := [some (.ref 40), some (.int a0), some (.int (-1)), some (.int (-1)), some (.int 0), some (.int 0), none]) dX11_look_54 (by decide) rfl rfl ?_
      refine z_iconst (v := 0) dX11_look_56 rfl ?_
      refine z_istore (i := 6) (x := 0) (lv' := [some (.ref 40), some (.int a0), some (.int (-1)), some (.int (-1)), some (.int 0), some (.int 0), some (.int 0)]) dX11_look_57 (by decide) rfl rfl ?_
      refine z_loops (lvOf := fun s : Int32 × Int32 => [some (.ref 40), some (.int a0), some (.int (-1)), some (.int (-1)), some (.int 0), some (.int s.1), some (.int s.2)]) (dOf := fun s : Int32 × Int32 => D8) (fun kc12 hkc12 s => ?_) N (0, 0)
      obtain ⟨v10, v11⟩ := s
      show z_F _ _ _ _ _ 59 [some (.ref 40), some (.int a0), some (.int (-1)), some (.int (-1)), some (.int 0), some (.int v10), some (.int v11)] [] S D8 _ (F_X11_look_L59xxx N a0 D8 kc12 v10 v11)
      unfold F_X11_look_L59xxx
      refine z_iload (i := 6) (x := v11) dX11_look_59 rfl ?_
      refine z_bipush (v := 9) dX11_look_61 (by decide) ?_
      refine z_icmp_gt 100 dX11_look_63 (by decide) (fun c13 => ?_) (fun c13 => ?_)
      · refine z_iload_n (i := 2) (x := (-1)) dX11_look_100 rfl rfl ?_
        refine z_iconst (v := (-1)) dX11_look_101 rfl ?_
        refine z_icmp_eqJ 114 dX11_look_102 (by decide) (by decide) ?_
        refine z_weak (lv' := [some (.ref 40), some (.int a0), none, none, some (.int 0), some (.int v10), none]) ⟨Or.inr rfl, ⟨Or.inr rfl, ⟨Or.inl rfl, ⟨Or.inl rfl, ⟨Or.inr rfl, ⟨Or.inr rfl, ⟨Or.inl rfl, trivial⟩⟩⟩⟩⟩⟩⟩ ?_
        exact hJ_F_X11_look_J114xx v10 D8
      · refine z_aload_n (i := 0) (x := 40) dX11_look_66 rfl rfl ?_
        refine z_iload (i := 4) (x := 0) dX11_look_67 rfl ?_
        refine z_iload (i := 6) (x := v11) dX11_look_69 rfl ?_
        refine z_cR (As := [.ref 40, .int 0, .int v11]) (rest := []) (em_X11_leftBy hl hW N 0 v11 D8) (fun o7 h => z_runV 419 2 h rfl kk_X11_419 hs40 kl_11.1 kq_X11_leftBy rfl (Nat.le_of_ble_eq_true rfl) ⟨Nat.le_of_ble_eq_true rfl, Nat.le_of_ble_eq_true rfl, Nat.le_of_ble_eq_true rfl, Nat.le_of_ble_eq_true rfl⟩ dX11_look_71) z_gWI (fun a_90 hz89 => ?_)
        refine z_iload (i := 5) (x := v10) dX11_look_74 rfl ?_
        refine z_icmp_le 90 dX11_look_76 (by decide) (fun c91 => ?_) (fun c91 => ?_)
        · refine z_iload (i := 5) (x := v10) dX11_look_90 rfl ?_
          refine z_istore (i := 5) (x := v10) (lv' := [some (.ref 40), some (.int a0), some (.int (-1)), some (.int (-1)), some (.int 0), some (.int v10), some (.int v11)]) dX11_look_92 (by decide) rfl rfl ?_
          refine z_iinc (i := 6) (x := v11) (y := 1) dX11_look_94 rfl (by decide) (by decide) rfl (fun v92 => ?_)
          refine z_goto 59 dX11_look_97 (by decide) ?_
          exact hkc12 (v10, v92)
        · refine z_aload_n (i := 0) (x := 40) dX11_look_79 rfl rfl ?_
          refine z_iload (i := 4) (x := 0) dX11_look_80 rfl ?_
          refine z_iload (i := 6) (x := v11) dX11_look_82 rfl ?_
          refine z_cR (As := [.ref 40, .int 0, .int v11]) (rest := []) (em_X11_leftBy hl hW N 0 v11 D8) (fun o7 h => z_runV 419 2 h rfl kk_X11_419 hs40 kl_11.1 kq_X11_leftBy rfl (Nat.le_of_ble_eq_true rfl) ⟨Nat.le_of_ble_eq_true rfl, Nat.le_of_ble_eq_true rfl, Nat.le_of_ble_eq_true rfl, Nat.le_of_ble_eq_true rfl⟩ dX11_look_84) z_gWI (fun a_94 hz93 => ?_)
          refine z_goto 92 dX11_look_87 (by decide) ?_
          refine z_istore (i := 5) (x := a_94) (lv' := [some (.ref 40), some (.int a0), some (.int (-1)), some (.int (-1)), some (.int 0), some (.int a_94), some (.int v11)]) dX11_look_92 (by decide) rfl rfl ?_
          refine z_iinc (i := 6) (x := v11) (y := 1) dX11_look_94 rfl (by decide) (by decide) rfl (fun v95 => ?_)
          refine z_goto 59 dX11_look_97 (by decide) ?_
          exact hkc12 (a_94, v95)
    · refine z_goto 120 dX11_look_50 (by decide) ?_
      exact hJ_F_X11_look_J120xxxxxxxx D8
  refine z_aload_n (i := 0) (x := 40) dX11_look_0 rfl rfl ?_
  refine z_iconst (v := 0) dX11_look_1 rfl ?_
  refine z_putI (j := 0) dX11_look_2 kl_11 tyX11_ok nmX11 hs40 (by decide) rfl rfl rfl rfl rfl rfl kf_X11_3 (fun D1 => ?_)
  refine z_aload_n (i := 0) (x := 40) dX11_look_5 rfl rfl ?_
  refine z_iload_n (i := 1) (x := a0) dX11_look_6 rfl rfl ?_
  refine z_iconst (v := 0) dX11_look_7 rfl ?_
  refine z_iconst (v := 1) dX11_look_8 rfl ?_
  refine z_cP (As := [.int a0, .int 0, .int 1]) (rest := [.ref 40]) (em_X11_within hl a0 0 1 D1) (fun o7 h => z_runS 376 3 h rfl kk_X11_376 kq_X11_within rfl (Nat.le_of_ble_eq_true rfl) ⟨Nat.le_of_ble_eq_true rfl, Nat.le_of_ble_eq_true rfl, Nat.le_of_ble_eq_true rfl, Nat.le_of_ble_eq_true rfl⟩ dX11_look_9) z_gWI (fun hz2 => ?_)
  refine z_iconst (v := 1) dX11_look_12 rfl ?_
  refine z_iconst (v := 1) dX11_look_13 rfl ?_
  refine z_cWI (As := [.ref 40, .int (F_X11_within a0 0 1), .int 1, .int 1]) (rest := []) (em_X11_may hl hW (F_X11_within a0 0 1) 1 1 D1) (fun o7 h => z_runV 198 3 h rfl kk_X11_198 hs40 kl_11.1 kq_X11_may rfl (Nat.le_of_ble_eq_true rfl) ⟨Nat.le_of_ble_eq_true rfl, Nat.le_of_ble_eq_true rfl, Nat.le_of_ble_eq_true rfl, Nat.le_of_ble_eq_true rfl⟩ dX11_look_14) z_gWI (fun a_4 hz3 => ?_)
  refine z_if_ne 22 dX11_look_17 (by decide) (fun c5 => ?_) (fun c5 => ?_)
  · refine z_iconst (v := 0) dX11_look_20 rfl ?_
    exact z_ireturn dX11_look_21 z_rWI rfl (by decide) (by decide)
  · refine z_aload_n (i := 0) (x := 40) dX11_look_22 rfl rfl ?_
    refine z_cWV (As := [.ref 40]) (rest := []) (em_X11_take hl hW N a_4.2) (fun o7 h => z_runV 308 0 h rfl kk_X11_308 hs40 kl_11.1 kq_X11_take rfl (Nat.le_of_ble_eq_true rfl) ⟨Nat.le_of_ble_eq_true rfl, Nat.le_of_ble_eq_true rfl, Nat.le_of_ble_eq_true rfl, Nat.le_of_ble_eq_true rfl⟩ dX11_look_23) z_gWI (fun a_7 hz6 => ?_)
    refine z_iconst (v := (-1)) dX11_look_26 rfl ?_
    refine z_istore_n (i := 2) (x := (-1)) (lv' := [some (.ref 40), some (.int a0), some (.int (-1)), none, none, none, none]) dX11_look_27 rfl (by decide) rfl rfl ?_
    refine z_iconst (v := (-1)) dX11_look_28 rfl ?_
    refine z_istore_n (i := 3) (x := (-1)) (lv' := [some (.ref 40), some (.int a0), some (.int (-1)), some (.int (-1)), none, none, none]) dX11_look_29 rfl (by decide) rfl rfl ?_
    refine z_iconst (v := 0) dX11_look_30 rfl ?_
    refine z_istore (i := 4) (x := 0) (lv' := [some (.ref 40), some (.int a0), some (.int (-1)), some (.int (-1)), some (.int 0), none, none]) dX11_look_31 (by decide) rfl rfl ?_
    exact hJ_F_X11_look_J33xxxxxxxxx a_7

def F_X11_mayMatch (a0 : Int32) (a1 : Int32) (D : z_Dat) : Option Int32 :=
  if z_inb (32 + a0) 60 then (if (D 58 (z_ix (32 + a0))) = (-1) then (if z_inb (32 + a1) 60 then (if (D 58 (z_ix (32 + a1))) = (-1) then (if z_inb a0 8 then (if z_inb a1 8 then (if (D 48 (z_ix a0)) = (D 48 (z_ix a1)) then (some 0)
  else (z_bd (F_X11_shadeOf a0 D) (fun a_5 => z_bd (F_X11_shadeOf a1 D) (fun a_7 => if 6 < (F_X11_apart a_5 a_7) then (some 0)
  else (some 1))))) else none) else none)
  else (some 0)) else none)
  else (some 0)) else none
set_option maxRecDepth 100000 in
set_option maxHeartbeats 4000000 in
theorem em_X11_mayMatch {l : Launch} {S : List z_Shp} {oW : Nat} (hl : l.stackTraces = false) (hW : z_W S oW) (a0 : Int32) (a1 : Int32) (D : z_Dat) : ∀ out, z_ko (z_kR S D) (F_X11_mayMatch a0 a1 D) out → z_EM l M_X11_mayMatch (40, 640, 0, 0) [.ref 40, .int a0, .int a1] S D out := by
  have hs40 : S[40]? = some (13, 55, [none, some (some 41), none, none, none, none, none, none, none, some (some 42), some (some 43), some (some 44), some (some 45), some (some 46), some (some 47), some (some 48), none, none, none, none, none, none, some (some 49), some (some 50), some (some 51), some (some 52), some (some 53), none, none, some (some 54), some (some 55), some (some 56), none, none, none, none, none, none, some (some 57), some (some 58), some (some 59), some (some 60), some (some 61), none, some (some 62), some (some 63), none, none, some (some 64), some (some 65), none, none, none, some (some 66), none]) := hW.1 40 _ rfl
  have hs48 : S[48]? = some (0, 8, []) := hW.1 48 _ rfl
  have hs58 : S[58]? = some (0, 60, []) := hW.1 58 _ rfl
  refine z_meth hl rfl kp_X11 (Nat.le_of_ble_eq_true rfl) (lv := [some (.ref 40), some (.int a0), some (.int a1)]) rfl ?_
  unfold F_X11_mayMatch
  refine z_aload_n (i := 0) (x := 40) dX11_mayMatch_0 rfl rfl ?_
  refine z_getR (j := 39) dX11_mayMatch_1 kl_11 hs40 (by decide) rfl rfl kf_X11_68 ?_
  refine z_bipush (v := 32) dX11_mayMatch_4 (by decide) ?_
  refine z_iload_n (i := 1) (x := a0) dX11_mayMatch_6 rfl rfl ?_
  refine z_iadd dX11_mayMatch_7 ?_
  refine z_iald dX11_mayMatch_8 hs58 ?_
  refine z_iconst (v := (-1)) dX11_mayMatch_9 rfl ?_
  refine z_icmp_ne 63 dX11_mayMatch_10 (by decide) (fun c1 => ?_) (fun c1 => ?_)
  · refine z_aload_n (i := 0) (x := 40) dX11_mayMatch_13 rfl rfl ?_
    refine z_getR (j := 39) dX11_mayMatch_14 kl_11 hs40 (by decide) rfl rfl kf_X11_68 ?_
    refine z_bipush (v := 32) dX11_mayMatch_17 (by decide) ?_
    refine z_iload_n (i := 2) (x := a1) dX11_mayMatch_19 rfl rfl ?_
    refine z_iadd dX11_mayMatch_20 ?_
    refine z_iald dX11_mayMatch_21 hs58 ?_
    refine z_iconst (v := (-1)) dX11_mayMatch_22 rfl ?_
    refine z_icmp_ne 63 dX11_mayMatch_23 (by decide) (fun c2 => ?_) (fun c2 => ?_)
    · refine z_aload_n (i := 0) (x := 40) dX11_mayMatch_26 rfl rfl ?_
      refine z_getR (j := 15) dX11_mayMatch_27 kl_11 hs40 (by decide) rfl rfl kf_X11_38 ?_
      refine z_iload_n (i := 1) (x := a0) dX11_mayMatch_30 rfl rfl ?_
      refine z_iald dX11_mayMatch_31 hs48 ?_
      refine z_aload_n (i := 0) (x := 40) dX11_mayMatch_32 rfl rfl ?_
      refine z_getR (j := 15) dX11_mayMatch_33 kl_11 hs40 (by decide) rfl rfl kf_X11_38 ?_
      refine z_iload_n (i := 2) (x := a1) dX11_mayMatch_36 rfl rfl ?_
      refine z_iald dX11_mayMatch_37 hs48 ?_
      refine z_icmp_eq 63 dX11_mayMatch_38 (by decide) (fun c3 => ?_) (fun c3 => ?_)
      · refine z_iconst (v := 0) dX11_mayMatch_63 rfl ?_
        exact z_ireturn dX11_mayMatch_64 z_rR rfl (by decide) (by decide)
      · refine z_aload_n (i := 0) (x := 40) dX11_mayMatch_41 rfl rfl ?_
        refine z_iload_n (i := 1) (x := a0) dX11_mayMatch_42 rfl rfl ?_
        refine z_cR (As := [.ref 40, .int a0]) (rest := []) (em_X11_shadeOf hl hW a0 D) (fun o7 h => z_runV 339 1 h rfl kk_X11_339 hs40 kl_11.1 kq_X11_shadeOf rfl (Nat.le_of_ble_eq_true rfl) ⟨Nat.le_of_ble_eq_true rfl, Nat.le_of_ble_eq_true rfl, Nat.le_of_ble_eq_true rfl, Nat.le_of_ble_eq_true rfl⟩ dX11_mayMatch_43) z_gR (fun a_5 hz4 => ?_)
        refine z_aload_n (i := 0) (x := 40) dX11_mayMatch_46 rfl rfl ?_
        refine z_iload_n (i := 2) (x := a1) dX11_mayMatch_47 rfl rfl ?_
        refine z_cR (As := [.ref 40, .int a1]) (rest := [.int a_5]) (em_X11_shadeOf hl hW a1 D) (fun o7 h => z_runV 339 1 h rfl kk_X11_339 hs40 kl_11.1 kq_X11_shadeOf rfl (Nat.le_of_ble_eq_true rfl) ⟨Nat.le_of_ble_eq_true rfl, Nat.le_of_ble_eq_true rfl, Nat.le_of_ble_eq_true rfl, Nat.le_of_ble_eq_true rfl⟩ dX11_mayMatch_48) z_gR (fun a_7 hz6 => ?_)
        refine z_cP (As := [.int a_5, .int a_7]) (rest := []) (em_X11_apart hl a_5 a_7 D) (fun o7 h => z_runS 333 2 h rfl kk_X11_333 kq_X11_apart rfl (Nat.le_of_ble_eq_true rfl) ⟨Nat.le_of_ble_eq_true rfl, Nat.le_of_ble_eq_true rfl, Nat.le_of_ble_eq_true rfl, Nat.le_of_ble_eq_true rfl⟩ dX11_mayMatch_51) z_gR (fun hz8 => ?_)
        refine z_bipush (v := 6) dX11_mayMatch_54 (by decide) ?_
        refine z_icmp_gt 63 dX11_mayMatch_56 (by decide) (fun c9 => ?_) (fun c9 => ?_)
        · refine z_iconst (v := 0) dX11_mayMatch_63 rfl ?_
          exact z_ireturn dX11_mayMatch_64 z_rR rfl (by decide) (by decide)
        · refine z_iconst (v := 1) dX11_mayMatch_59 rfl ?_
          refine z_goto 64 dX11_mayMatch_60 (by decide) ?_
          exact z_ireturn dX11_mayMatch_64 z_rR rfl (by decide) (by decide)
    · refine z_iconst (v := 0) dX11_mayMatch_63 rfl ?_
      exact z_ireturn dX11_mayMatch_64 z_rR rfl (by decide) (by decide)
  · refine z_iconst (v := 0) dX11_mayMatch_63 rfl ?_
    exact z_ireturn dX11_mayMatch_64 z_rR rfl (by decide) (by decide)

def F_X11_worthOf (a0 : Int32) (a1 : Int32) (D : z_Dat) : Option Int32 :=
  z_bd (F_X11_shadeOf a0 D) (fun a_2 => z_bd (F_X11_shadeOf a1 D) (fun a_4 => some (1000 - (F_X11_apart a_2 a_4))))
set_option maxRecDepth 100000 in
set_option maxHeartbeats 4000000 in
theorem em_X11_worthOf {l : Launch} {S : List z_Shp} {oW : Nat} (hl : l.stackTraces = false) (hW : z_W S oW) (a0 : Int32) (a1 : Int32) (D : z_Dat) : ∀ out, z_ko (z_kR S D) (F_X11_worthOf a0 a1 D) out → z_EM l M_X11_worthOf (40, 640, 0, 0) [.ref 40, .int a0, .int a1] S D out := by
  have hs40 : S[40]? = some (13, 55, [none, some (some 41), none, none, none, none, none, none, none, some (some 42), some (some 43), some (some 44), some (some 45), some (some 46), some (some 47), some (some 48), none, none, none, none, none, none, some (some 49), some (some 50), some (some 51), some (some 52), some (some 53), none, none, some (some 54), some (some 55), some (some 56), none, none, none, none, none, none, some (some 57), some (some 58), some (some 59), some (some 60), some (some 61), none, some (some 62), some (some 63), none, none, some (some 64), some (some 65), none, none, none, some (some 66), none]) := hW.1 40 _ rfl
  refine z_meth hl rfl kp_X11 (Nat.le_of_ble_eq_true rfl) (lv := [some (.ref 40), some (.int a0), some (.int a1)]) rfl ?_
  unfold F_X11_worthOf
  refine z_sipush (v := 1000) dX11_worthOf_0 (by decide) ?_
  refine z_aload_n (i := 0) (x := 40) dX11_worthOf_3 rfl rfl ?_
  refine z_iload_n (i := 1) (x := a0) dX11_worthOf_4 rfl rfl ?_
  refine z_cR (As := [.ref 40, .int a0]) (rest := [.int 1000]) (em_X11_shadeOf hl hW a0 D) (fun o7 h => z_runV 339 1 h rfl kk_X11_339 hs40 kl_11.1 kq_X11_shadeOf rfl (Nat.le_of_ble_eq_true rfl) ⟨Nat.le_of_ble_eq_true rfl, Nat.le_of_ble_eq_true rfl, Nat.le_of_ble_eq_true rfl, Nat.le_of_ble_eq_true rfl⟩ dX11_worthOf_5) z_gR (fun a_2 hz1 => ?_)
  refine z_aload_n (i := 0) (x := 40) dX11_worthOf_8 rfl rfl ?_
  refine z_iload_n (i := 2) (x := a1) dX11_worthOf_9 rfl rfl ?_
  refine z_cR (As := [.ref 40, .int a1]) (rest := [.int a_2, .int 1000]) (em_X11_shadeOf hl hW a1 D) (fun o7 h => z_runV 339 1 h rfl kk_X11_339 hs40 kl_11.1 kq_X11_shadeOf rfl (Nat.le_of_ble_eq_true rfl) ⟨Nat.le_of_ble_eq_true rfl, Nat.le_of_ble_eq_true rfl, Nat.le_of_ble_eq_true rfl, Nat.le_of_ble_eq_true rfl⟩ dX11_worthOf_10) z_gR (fun a_4 hz3 => ?_)
  refine z_cP (As := [.int a_2, .int a_4]) (rest := [.int 1000]) (em_X11_apart hl a_2 a_4 D) (fun o7 h => z_runS 333 2 h rfl kk_X11_333 kq_X11_apart rfl (Nat.le_of_ble_eq_true rfl) ⟨Nat.le_of_ble_eq_true rfl, Nat.le_of_ble_eq_true rfl, Nat.le_of_ble_eq_true rfl, Nat.le_of_ble_eq_true rfl⟩ dX11_worthOf_13) z_gR (fun hz5 => ?_)
  refine z_isub dX11_worthOf_16 ?_
  exact z_ireturn dX11_worthOf_17 z_rR rfl (by decide) (by decide)

def F_X11_firstOut_L2 (a0 : Int32) (kc2 : (Int32 → Option Int32)) (v1 : Int32) : Option Int32 :=
  if ((z_shr a0 v1) &&& 1) = 1 then (z_let (v1 + 1) (fun v4 => kc2 v4))
  else (some v1)
def F_X11_firstOut (N : Nat) (a0 : Int32) : Option Int32 :=
  z_loop (fun kc2 s => F_X11_firstOut_L2 a0 kc2 s) N 0
set_option maxRecDepth 100000 in
set_option maxHeartbeats 4000000 in
theorem em_X11_firstOut {l : Launch} {S : List z_Shp} (hl : l.stackTraces = false) (N : Nat) (a0 : Int32) (D : z_Dat) : ∀ out, z_ko (z_kR S D) (F_X11_firstOut N a0) out → z_EM l M_X11_firstOut (20, 520, 0, 0) [.int a0] S D out := by
  refine z_meth hl rfl kp_X11 (Nat.le_of_ble_eq_true rfl) (lv := [some (.int a0), none]) rfl ?_
  unfold F_X11_firstOut
  refine z_iconst (v := 0) dX11_firstOut_0 rfl ?_
  refine z_istore_n (i := 1) (x := 0) (lv' := [some (.int a0), some (.int 0)]) dX11_firstOut_1 rfl (by decide) rfl rfl ?_
  refine z_loops (lvOf := fun s : Int32 => [some (.int a0), some (.int s)]) (dOf := fun s : Int32 => D) (fun kc2 hkc2 s => ?_) N 0
  obtain ⟨v1, hq⟩ : ∃ z, z = s := ⟨_, rfl⟩
  subst hq
  show z_F _ _ _ _ _ 2 [some (.int a0), some (.int v1)] [] S D _ (F_X11_firstOut_L2 a0 kc2 v1)
  unfold F_X11_firstOut_L2
  refine z_iload_n (i := 0) (x := a0) dX11_firstOut_2 rfl rfl ?_
  refine z_iload_n (i := 1) (x := v1) dX11_firstOut_3 rfl rfl ?_
  refine z_ishr dX11_firstOut_4 ?_
  refine z_iconst (v := 1) dX11_firstOut_5 rfl ?_
  refine z_iand dX11_firstOut_6 ?_
  refine z_iconst (v := 1) dX11_firstOut_7 rfl ?_
  refine z_icmp_ne 17 dX11_firstOut_8 (by decide) (fun c3 => ?_) (fun c3 => ?_)
  · refine z_iinc (i := 1) (x := v1) (y := 1) dX11_firstOut_11 rfl (by decide) (by decide) rfl (fun v4 => ?_)
    refine z_goto 2 dX11_firstOut_14 (by decide) ?_
    exact hkc2 v4
  · refine z_iload_n (i := 1) (x := v1) dX11_firstOut_17 rfl rfl ?_
    exact z_ireturn dX11_firstOut_18 z_rR rfl (by decide) (by decide)

def F_X11_findMatch_L189 (kc16 : ((Int32 × z_Dat) → Option z_Dat)) (v14 : Int32) (D15 : z_Dat) (a_19 : Int32) (kc23 : ((Int32 × Int32) → Option z_Dat)) (v21 : Int32) (v22 : Int32) : Option z_Dat :=
  if v22 ≤ a_19 then (z_let (v14 ||| (z_shl 1 a_19)) (fun v25 => if v21 = (-1) then (kc16 (v25, D15))
  else (z_let (v25 ||| (z_shl 1 v21)) (fun v27 => if z_inb a_19 8 then z_let (z_up D15 65 (z_ix a_19) v21) (fun D28 => if z_inb v21 8 then z_let (z_up D28 65 (z_ix v21) a_19) (fun D29 => kc16 (v27, D29)) else none) else none))))
  else (if ((z_shr v14 v22) &&& 1) = 0 then (z_bd (F_X11_mayMatch a_19 v22 D15) (fun a_32 => if a_32 = 0 then (z_let (v22 + (-1)) (fun v34 => kc23 (v21, v34)))
  else (z_bd (F_X11_worthOf a_19 v22 D15) (fun a_36 => if z_inb ((v14 ||| (z_shl 1 a_19)) ||| (z_shl 1 v22)) 256 then (if z_inb v14 256 then (if (a_36 + (D15 64 (z_ix ((v14 ||| (z_shl 1 a_19)) ||| (z_shl 1 v22))))) = (D15 64 (z_ix v14)) then (z_let (v22 + (-1)) (fun v38 => kc23 (v22, v38)))
  else (z_let (v22 + (-1)) (fun v39 => kc23 (v21, v39)))) else none) else none))))
  else (z_let (v22 + (-1)) (fun v40 => kc23 (v21, v40))))
def F_X11_findMatch_L168 (N : Nat) (v3 : Int32) (kc16 : ((Int32 × z_Dat) → Option z_Dat)) (v14 : Int32) (D15 : z_Dat) : Option z_Dat :=
  if v14 = v3 then (some D15)
  else (z_bd (F_X11_firstOut N v14) (fun a_19 => z_let ((D15 40 20) - 1) (fun v20 => z_loop (fun kc23 s => F_X11_findMatch_L189 kc16 v14 D15 a_19 kc23 s.1 s.2) N ((-1), v20))))
def F_X11_findMatch_L145 (N : Nat) (v3 : Int32) (kc12 : ((Int32 × z_Dat) → Option z_Dat)) (v10 : Int32) (D11 : z_Dat) : Option z_Dat :=
  if (D11 40 20) ≤ v10 then (z_loop (fun kc16 s => F_X11_findMatch_L168 N v3 kc16 s.1 s.2) N (0, D11))
  else (if z_inb v10 8 then z_let (z_up D11 65 (z_ix v10) (-1)) (fun D43 => z_let (v10 + 1) (fun v44 => kc12 (v44, D43))) else none)
def F_X11_findMatch_L50 (kc8 : ((Int32 × z_Dat) → Option z_Dat)) (v6 : Int32) (D7 : z_Dat) (a_47 : Int32) (kc52 : ((Int32 × Int32) → Option z_Dat)) (v50 : Int32) (v51 : Int32) : Option z_Dat :=
  if (D7 40 20) ≤ v51 then (if z_inb v6 256 then z_let (z_up D7 64 (z_ix v6) v50) (fun D54 => z_let (v6 + (-1)) (fun v55 => kc8 (v55, D54))) else none)
  else (if ((z_shr v6 v51) &&& 1) = 1 then (z_let (v51 + 1) (fun v57 => kc52 (v50, v57)))
  else (z_bd (F_X11_mayMatch a_47 v51 D7) (fun a_59 => if a_59 = 0 then (z_let (v51 + 1) (fun v61 => kc52 (v50, v61)))
  else (z_bd (F_X11_worthOf a_47 v51 D7) (fun a_63 => if z_inb ((v6 ||| (z_shl 1 a_47)) ||| (z_shl 1 v51)) 256 then (z_let (a_63 + (D7 64 (z_ix ((v6 ||| (z_shl 1 a_47)) ||| (z_shl 1 v51))))) (fun v64 => if v64 ≤ v50 then (z_let (v51 + 1) (fun v66 => kc52 (v50, v66)))
  else (z_let (v51 + 1) (fun v67 => kc52 (v64, v67))))) else none)))))
def F_X11_findMatch_L24 (N : Nat) (v3 : Int32) (kc8 : ((Int32 × z_Dat) → Option z_Dat)) (v6 : Int32) (D7 : z_Dat) : Option z_Dat :=
  if v6 < 0 then (z_loop (fun kc12 s => F_X11_findMatch_L145 N v3 kc12 s.1 s.2) N (0, D7))
  else (z_bd (F_X11_firstOut N v6) (fun a_47 => if z_inb (v6 ||| (z_shl 1 a_47)) 256 then (z_let (D7 64 (z_ix (v6 ||| (z_shl 1 a_47)))) (fun v48 => z_let (a_47 + 1) (fun v49 => z_loop (fun kc52 s => F_X11_findMatch_L50 kc8 v6 D7 a_47 kc52 s.1 s.2) N (v48, v49)))) else none))
def F_X11_findMatch (N : Nat) (D : z_Dat) : Option z_Dat :=
  z_bd (F_X11_take N D) (fun a_2 => z_let ((z_shl 1 (a_2 40 20)) - 1) (fun v3 => if z_inb v3 256 then z_let (z_up a_2 64 (z_ix v3) 0) (fun D4 => z_let (v3 - 1) (fun v5 => z_loop (fun kc8 s => F_X11_findMatch_L24 N v3 kc8 s.1 s.2) N (v5, D4))) else none))
set_option maxRecDepth 100000 in
set_option maxHeartbeats 4000000 in
theorem em_X11_findMatch {l : Launch} {S : List z_Shp} {oW : Nat} (hl : l.stackTraces = false) (hW : z_W S oW) (N : Nat) (D : z_Dat) : ∀ out, z_ko (z_kV S) (F_X11_findMatch N D) out → z_EM l M_X11_findMatch (50, 700, 0, 0) [.ref 40] S D out := by
  have hs40 : S[40]? = some (13, 55, [none, some (some 41), none, none, none, none, none, none, none, some (some 42), some (some 43), some (some 44), some (some 45), some (some 46), some (some 47), some (some 48), none, none, none, none, none, none, some (some 49), some (some 50), some (some 51), some (some 52), some (some 53), none, none, some (some 54), some (some 55), some (some 56), none, none, none, none, none, none, some (some 57), some (some 58), some (some 59), some (some 60), some (some 61), none, some (some 62), some (some 63), none, none, some (some 64), some (some 65), none, none, none, some (some 66), none]) := hW.1 40 _ rfl
  have hs64 : S[64]? = some (0, 256, []) := hW.1 64 _ rfl
  have hs65 : S[65]? = some (0, 8, []) := hW.1 65 _ rfl
  refine z_meth hl rfl kp_X11 (Nat.le_of_ble_eq_true rfl) (lv := [some (.ref 40), none, none, none, none, none, none]) rfl ?_
  unfold F_X11_findMatch
  refine z_aload_n (i := 0) (x := 40) dX11_findMatch_0 rfl rfl ?_
  refine z_cWV (As := [.ref 40]) (rest := []) (em_X11_take hl hW N D) (fun o7 h => z_runV 308 0 h rfl kk_X11_308 hs40 kl_11.1 kq_X11_take rfl (Nat.le_of_ble_eq_true rfl) ⟨Nat.le_of_ble_eq_true rfl, Nat.le_of_ble_eq_true rfl, Nat.le_of_ble_eq_true rfl, Nat.le_of_ble_eq_true rfl⟩ dX11_findMatch_1) z_gWV (fun a_2 hz1 => ?_)
  refine z_iconst (v := 1) dX11_findMatch_4 rfl ?_
  refine z_aload_n (i := 0) (x := 40) dX11_findMatch_5 rfl rfl ?_
  refine z_getI (j := 20) dX11_findMatch_6 kl_11 hs40 (by decide) rfl rfl kf_X11_159 ?_
  refine z_ishl dX11_findMatch_9 ?_
  refine z_iconst (v := 1) dX11_findMatch_10 rfl ?_
  refine z_isub dX11_findMatch_11 ?_
  refine z_topi (fun v3 => ?_)
  refine z_istore_n (i := 1) (x := v3) (lv' := [some (.ref 40), some (.int v3), none, none, none, none, none]) dX11_findMatch_12 rfl (by decide) rfl rfl ?_
  refine z_aload_n (i := 0) (x := 40) dX11_findMatch_13 rfl rfl ?_
  refine z_getR (j := 48) dX11_findMatch_14 kl_11 hs40 (by decide) rfl rfl kf_X11_86 ?_
  refine z_iload_n (i := 1) (x := v3) dX11_findMatch_17 rfl rfl ?_
  refine z_iconst (v := 0) dX11_findMatch_18 rfl ?_
  refine z_iast dX11_findMatch_19 hs64 (fun D4 => ?_)
  refine z_iload_n (i := 1) (x := v3) dX11_findMatch_20 rfl rfl ?_
  refine z_iconst (v := 1) dX11_findMatch_21 rfl ?_
  refine z_isub dX11_findMatch_22 ?_
  refine z_topi (fun v5 => ?_)
  refine z_istore_n (i := 2) (x := v5) (lv' := [some (.ref 40), some (.int v3), some (.int v5), none, none, none, none]) dX11_findMatch_23 rfl (by decide) rfl rfl ?_
  refine z_loops (lvOf := fun s : Int32 × z_Dat => [some (.ref 40), some (.int v3), some (.int s.1), none, none, none, none]) (dOf := fun s : Int32 × z_Dat => s.2) (fun kc8 hkc8 s => ?_) N (v5, D4)
  obtain ⟨v6, D7⟩ := s
  show z_F _ _ _ _ _ 24 [some (.ref 40), some (.int v3), some (.int v6), none, none, none, none] [] S D7 _ (F_X11_findMatch_L24 N v3 kc8 v6 D7)
  unfold F_X11_findMatch_L24
  refine z_iload_n (i := 2) (x := v6) dX11_findMatch_24 rfl rfl ?_
  refine z_if_lt 143 dX11_findMatch_25 (by decide) (fun c9 => ?_) (fun c9 => ?_)
  · refine z_iconst (v := 0) dX11_findMatch_143 rfl ?_
    refine z_istore_n (i := 2) (x := 0) (lv' := [some (.ref 40), some (.int v3), some (.int 0), none, none, none, none]) dX11_findMatch_144 rfl (by decide) rfl rfl ?_
    refine z_loops (lvOf := fun s : Int32 × z_Dat => [some (.ref 40), some (.int v3), some (.int s.1), none, none, none, none]) (dOf := fun s : Int32 × z_Dat => s.2) (fun kc12 hkc12 s => ?_) N (0, D7)
    obtain ⟨v10, D11⟩ := s
    show z_F _ _ _ _ _ 145 [some (.ref 40), some (.int v3), some (.int v10), none, none, none, none] [] S D11 _ (F_X11_findMatch_L145 N v3 kc12 v10 D11)
    unfold F_X11_findMatch_L145
    refine z_iload_n (i := 2) (x := v10) dX11_findMatch_145 rfl rfl ?_
    refine z_aload_n (i := 0) (x := 40) dX11_findMatch_146 rfl rfl ?_
    refine z_getI (j := 20) dX11_findMatch_147 kl_11 hs40 (by decide) rfl rfl kf_X11_159 ?_
    refine z_icmp_ge 166 dX11_findMatch_150 (by decide) (fun c13 => ?_) (fun c13 => ?_)
    · refine z_iconst (v := 0) dX11_findMatch_166 rfl ?_
      refine z_istore_n (i := 2) (x := 0) (lv' := [some (.ref 40), some (.int v3), some (.int 0), none, none, none, none]) dX11_findMatch_167 rfl (by decide) rfl rfl ?_
      refine z_loops (lvOf := fun s : Int32 × z_Dat => [some (.ref 40), some (.int v3), some (.int s.1), none, none, none, none]) (dOf := fun s : Int32 × z_Dat => s.2) (fun kc16 hkc16 s => ?_) N (0, D11)
      obtain ⟨v14, D15⟩ := s
      show z_F _ _ _ _ _ 168 [some (.ref 40), some (.int v3), some (.int v14), none, none, none, none] [] S D15 _ (F_X11_findMatch_L168 N v3 kc16 v14 D15)
      unfold F_X11_findMatch_L168
      refine z_iload_n (i := 2) (x := v14) dX11_findMatch_168 rfl rfl ?_
      refine z_iload_n (i := 1) (x := v3) dX11_findMatch_169 rfl rfl ?_
      refine z_icmp_eq 297 dX11_findMatch_170 (by decide) (fun c17 => ?_) (fun c17 => ?_)
      · exact z_vreturn dX11_findMatch_297 z_rWV trivial (by decide) (by decide)
      · refine z_iload_n (i := 2) (x := v14) dX11_findMatch_173 rfl rfl ?_
        refine z_cR (As := [.int v14]) (rest := []) (em_X11_firstOut hl N v14 D15) (fun o7 h => z_runS 422 1 h rfl kk_X11_422 kq_X11_firstOut rfl (Nat.le_of_ble_eq_true rfl) ⟨Nat.le_of_ble_eq_true rfl, Nat.le_of_ble_eq_true rfl, Nat.le_of_ble_eq_true rfl, Nat.le_of_ble_eq_true rfl⟩ dX11_findMatch_174) z_gWV (fun a_19 hz18 => ?_)
        refine z_istore_n (i := 3) (x := a_19) (lv' := [some (.ref 40), some (.int v3), some (.int v14), some (.int a_19), none, none, none]) dX11_findMatch_177 rfl (by decide) rfl rfl ?_
        refine z_iconst (v := (-1)) dX11_findMatch_178 rfl ?_
        refine z_istore (i := 4) (x := (-1)) (lv' := [some (.ref 40), some (.int v3), some (.int v14), some (.int a_19), some (.int (-1)), none, none]) dX11_findMatch_179 (by decide) rfl rfl ?_
        refine z_aload_n (i := 0) (x := 40) dX11_findMatch_181 rfl rfl ?_
        refine z_getI (j := 20) dX11_findMatch_182 kl_11 hs40 (by decide) rfl rfl kf_X11_159 ?_
        refine z_iconst (v := 1) dX11_findMatch_185 rfl ?_
        refine z_isub dX11_findMatch_186 ?_
        refine z_topi (fun v20 => ?_)
        refine z_istore (i := 5) (x := v20) (lv' := [some (.ref 40), some (.int v3), some (.int v14), some (.int a_19), some (.int (-1)), some (.int v20), none]) dX11_findMatch_187 (by decide) rfl rfl ?_
        refine z_loops (lvOf := fun s : Int32 × Int32 => [some (.ref 40), some (.int v3), some (.int v14), some (.int a_19), some (.int s.1), some (.int s.2), none]) (dOf := fun s : Int32 × Int32 => D15) (fun kc23 hkc23 s => ?_) N ((-1), v20)
        obtain ⟨v21, v22⟩ := s
        show z_F _ _ _ _ _ 189 [some (.ref 40), some (.int v3), some (.int v14), some (.int a_19), some (.int v21), some (.int v22), none] [] S D15 _ (F_X11_findMatch_L189 kc16 v14 D15 a_19 kc23 v21 v22)
        unfold F_X11_findMatch_L189
        refine z_iload (i := 5) (x := v22) dX11_findMatch_189 rfl ?_
        refine z_iload_n (i := 3) (x := a_19) dX11_findMatch_191 rfl rfl ?_
        refine z_icmp_le 256 dX11_findMatch_192 (by decide) (fun c24 => ?_) (fun c24 => ?_)
        · refine z_iload_n (i := 2) (x := v14) dX11_findMatch_256 rfl rfl ?_
          refine z_iconst (v := 1) dX11_findMatch_257 rfl ?_
          refine z_iload_n (i := 3) (x := a_19) dX11_findMatch_258 rfl rfl ?_
          refine z_ishl dX11_findMatch_259 ?_
          refine z_ior dX11_findMatch_260 ?_
          refine z_topi (fun v25 => ?_)
          refine z_istore_n (i := 2) (x := v25) (lv' := [some (.ref 40), some (.int v3), some (.int v25), some (.int a_19), some (.int v21), some (.int v22), none]) dX11_findMatch_261 rfl (by decide) rfl rfl ?_
          refine z_iload (i := 4) (x := v21) dX11_findMatch_262 rfl ?_
          refine z_iconst (v := (-1)) dX11_findMatch_264 rfl ?_
          refine z_icmp_ne 271 dX11_findMatch_265 (by decide) (fun c26 => ?_) (fun c26 => ?_)
          · refine z_goto 168 dX11_findMatch_268 (by decide) ?_
            refine z_weak (lv' := [some (.ref 40), some (.int v3), some (.int v25), none, none, none, none]) ⟨Or.inr rfl, ⟨Or.inr rfl, ⟨Or.inr rfl, ⟨Or.inl rfl, ⟨Or.inl rfl, ⟨Or.inl rfl, ⟨Or.inl rfl, trivial⟩⟩⟩⟩⟩⟩⟩ ?_
            exact hkc16 (v25, D15)
          · refine z_iload_n (i := 2) (x := v25) dX11_findMatch_271 rfl rfl ?_
            refine z_iconst (v := 1) dX11_findMatch_272 rfl ?_
            refine z_iload (i := 4) (x := v21) dX11_findMatch_273 rfl ?_
            refine z_ishl dX11_findMatch_275 ?_
            refine z_ior dX11_findMatch_276 ?_
            refine z_topi (fun v27 => ?_)
            refine z_istore_n (i := 2) (x := v27) (lv' := [some (.ref 40), some (.int v3), some (.int v27), some (.int a_19), some (.int v21), some (.int v22), none]) dX11_findMatch_277 rfl (by decide) rfl rfl ?_
            refine z_aload_n (i := 0) (x := 40) dX11_findMatch_278 rfl rfl ?_
            refine z_getR (j := 49) dX11_findMatch_279 kl_11 hs40 (by decide) rfl rfl kf_X11_89 ?_
            refine z_iload_n (i := 3) (x := a_19) dX11_findMatch_282 rfl rfl ?_
            refine z_iload (i := 4) (x := v21) dX11_findMatch_283 rfl ?_
            refine z_iast dX11_findMatch_285 hs65 (fun D28 => ?_)
            refine z_aload_n (i := 0) (x := 40) dX11_findMatch_286 rfl rfl ?_
            refine z_getR (j := 49) dX11_findMatch_287 kl_11 hs40 (by decide) rfl rfl kf_X11_89 ?_
            refine z_iload (i := 4) (x := v21) dX11_findMatch_290 rfl ?_
            refine z_iload_n (i := 3) (x := a_19) dX11_findMatch_292 rfl rfl ?_
            refine z_iast dX11_findMatch_293 hs65 (fun D29 => ?_)
            refine z_goto 168 dX11_findMatch_294 (by decide) ?_
            refine z_weak (lv' := [some (.ref 40), some (.int v3), some (.int v27), none, none, none, none]) ⟨Or.inr rfl, ⟨Or.inr rfl, ⟨Or.inr rfl, ⟨Or.inl rfl, ⟨Or.inl rfl, ⟨Or.inl rfl, ⟨Or.inl rfl, trivial⟩⟩⟩⟩⟩⟩⟩ ?_
            exact hkc16 (v27, D29)
        · refine z_iload_n (i := 2) (x := v14) dX11_findMatch_195 rfl rfl ?_
          refine z_iload (i := 5) (x := v22) dX11_findMatch_196 rfl ?_
          refine z_ishr dX11_findMatch_198 ?_
          refine z_iconst (v := 1) dX11_findMatch_199 rfl ?_
          refine z_iand dX11_findMatch_200 ?_
          refine z_if_ne 250 dX11_findMatch_201 (by decide) (fun c30 => ?_) (fun c30 => ?_)
          · refine z_aload_n (i := 0) (x := 40) dX11_findMatch_204 rfl rfl ?_
            refine z_iload_n (i := 3) (x := a_19) dX11_findMatch_205 rfl rfl ?_
            refine z_iload (i := 5) (x := v22) dX11_findMatch_206 rfl ?_
            refine z_cR (As := [.ref 40, .int a_19, .int v22]) (rest := []) (em_X11_mayMatch hl hW a_19 v22 D15) (fun o7 h => z_runV 425 2 h rfl kk_X11_425 hs40 kl_11.1 kq_X11_mayMatch rfl (Nat.le_of_ble_eq_true rfl) ⟨Nat.le_of_ble_eq_true rfl, Nat.le_of_ble_eq_true rfl, Nat.le_of_ble_eq_true rfl, Nat.le_of_ble_eq_true rfl⟩ dX11_findMatch_208) z_gWV (fun a_32 hz31 => ?_)
            refine z_if_eq 250 dX11_findMatch_211 (by decide) (fun c33 => ?_) (fun c33 => ?_)
            · refine z_iinc (i := 5) (x := v22) (y := (-1)) dX11_findMatch_250 rfl (by decide) (by decide) rfl (fun v34 => ?_)
              refine z_goto 189 dX11_findMatch_253 (by decide) ?_
              exact hkc23 (v21, v34)
            · refine z_aload_n (i := 0) (x := 40) dX11_findMatch_214 rfl rfl ?_
              refine z_iload_n (i := 3) (x := a_19) dX11_findMatch_215 rfl rfl ?_
              refine z_iload (i := 5) (x := v22) dX11_findMatch_216 rfl ?_
              refine z_cR (As := [.ref 40, .int a_19, .int v22]) (rest := []) (em_X11_worthOf hl hW a_19 v22 D15) (fun o7 h => z_runV 428 2 h rfl kk_X11_428 hs40 kl_11.1 kq_X11_worthOf rfl (Nat.le_of_ble_eq_true rfl) ⟨Nat.le_of_ble_eq_true rfl, Nat.le_of_ble_eq_true rfl, Nat.le_of_ble_eq_true rfl, Nat.le_of_ble_eq_true rfl⟩ dX11_findMatch_218) z_gWV (fun a_36 hz35 => ?_)
              refine z_aload_n (i := 0) (x := 40) dX11_findMatch_221 rfl rfl ?_
              refine z_getR (j := 48) dX11_findMatch_222 kl_11 hs40 (by decide) rfl rfl kf_X11_86 ?_
              refine z_iload_n (i := 2) (x := v14) dX11_findMatch_225 rfl rfl ?_
              refine z_iconst (v := 1) dX11_findMatch_226 rfl ?_
              refine z_iload_n (i := 3) (x := a_19) dX11_findMatch_227 rfl rfl ?_
              refine z_ishl dX11_findMatch_228 ?_
              refine z_ior dX11_findMatch_229 ?_
              refine z_iconst (v := 1) dX11_findMatch_230 rfl ?_
              refine z_iload (i := 5) (x := v22) dX11_findMatch_231 rfl ?_
              refine z_ishl dX11_findMatch_233 ?_
              refine z_ior dX11_findMatch_234 ?_
              refine z_iald dX11_findMatch_235 hs64 ?_
              refine z_iadd dX11_findMatch_236 ?_
              refine z_aload_n (i := 0) (x := 40) dX11_findMatch_237 rfl rfl ?_
              refine z_getR (j := 48) dX11_findMatch_238 kl_11 hs40 (by decide) rfl rfl kf_X11_86 ?_
              refine z_iload_n (i := 2) (x := v14) dX11_findMatch_241 rfl rfl ?_
              refine z_iald dX11_findMatch_242 hs64 ?_
              refine z_icmp_ne 250 dX11_findMatch_243 (by decide) (fun c37 => ?_) (fun c37 => ?_)
              · refine z_iload (i := 5) (x := v22) dX11_findMatch_246 rfl ?_
                refine z_istore (i := 4) (x := v22) (lv' := [some (.ref 40), some (.int v3), some (.int v14), some (.int a_19), some (.int v22), some (.int v22), none]) dX11_findMatch_248 (by decide) rfl rfl ?_
                refine z_iinc (i := 5) (x := v22) (y := (-1)) dX11_findMatch_250 rfl (by decide) (by decide) rfl (fun v38 => ?_)
                refine z_goto 189 dX11_findMatch_253 (by decide) ?_
                exact hkc23 (v22, v38)
              · refine z_iinc (i := 5) (x := v22) (y := (-1)) dX11_findMatch_250 rfl (by decide) (by decide) rfl (fun v39 => ?_)
                refine z_goto 189 dX11_findMatch_253 (by decide) ?_
                exact hkc23 (v21, v39)
          · refine z_iinc (i := 5) (x := v22) (y := (-1)) dX11_findMatch_250 rfl (by decide) (by decide) rfl (fun v40 => ?_)
            refine z_goto 189 dX11_findMatch_253 (by decide) ?_
            exact hkc23 (v21, v40)
    · refine z_aload_n (i := 0) (x := 40) dX11_findMatch_153 rfl rfl ?_
      refine z_getR (j := 49) dX11_findMatch_154 kl_11 hs40 (by decide) rfl rfl kf_X11_89 ?_
      refine z_iload_n (i := 2) (x := v10) dX11_findMatch_157 rfl rfl ?_
      refine z_iconst (v := (-1)) dX11_findMatch_158 rfl ?_
      refine z_iast dX11_findMatch_159 hs65 (fun D43 => ?_)
      refine z_iinc (i := 2) (x := v10) (y := 1) dX11_findMatch_160 rfl (by decide) (by decide) rfl (fun v44 => ?_)
      refine z_goto 145 dX11_findMatch_163 (by decide) ?_
      exact hkc12 (v44, D43)
  · refine z_iload_n (i := 2) (x := v6) dX11_findMatch_28 rfl rfl ?_
    refine z_cR (As := [.int v6]) (rest := []) (em_X11_firstOut hl N v6 D7) (fun o7 h => z_runS 422 1 h rfl kk_X11_422 kq_X11_firstOut rfl (Nat.le_of_ble_eq_true rfl) ⟨Nat.le_of_ble_eq_true rfl, Nat.le_of_ble_eq_true rfl, Nat.le_of_ble_eq_true rfl, Nat.le_of_ble_eq_true rfl⟩ dX11_findMatch_29) z_gWV (fun a_47 hz46 => ?_)
    refine z_istore_n (i := 3) (x := a_47) (lv' := [some (.ref 40), some (.int v3), some (.int v6), some (.int a_47), none, none, none]) dX11_findMatch_32 rfl (by decide) rfl rfl ?_
    refine z_aload_n (i := 0) (x := 40) dX11_findMatch_33 rfl rfl ?_
    refine z_getR (j := 48) dX11_findMatch_34 kl_11 hs40 (by decide) rfl rfl kf_X11_86 ?_
    refine z_iload_n (i := 2) (x := v6) dX11_findMatch_37 rfl rfl ?_
    refine z_iconst (v := 1) dX11_findMatch_38 rfl ?_
    refine z_iload_n (i := 3) (x := a_47) dX11_findMatch_39 rfl rfl ?_
    refine z_ishl dX11_findMatch_40 ?_
    refine z_ior dX11_findMatch_41 ?_
    refine z_iald dX11_findMatch_42 hs64 ?_
    refine z_topi (fun v48 => ?_)
    refine z_istore (i := 4) (x := v48) (lv' := [some (.ref 40), some (.int v3), some (.int v6), some (.int a_47), some (.int v48), none, none]) dX11_findMatch_43 (by decide) rfl rfl ?_
    refine z_iload_n (i := 3) (x := a_47) dX11_findMatch_45 rfl rfl ?_
    refine z_iconst (v := 1) dX11_findMatch_46 rfl ?_
    refine z_iadd dX11_findMatch_47 ?_
    refine z_topi (fun v49 => ?_)
    refine z_istore (i := 5) (x := v49) (lv' := [some (.ref 40), some (.int v3), some (.int v6), some (.int a_47), some (.int v48), some (.int v49), none]) dX11_findMatch_48 (by decide) rfl rfl ?_
    refine z_loops (lvOf := fun s : Int32 × Int32 => [some (.ref 40), some (.int v3), some (.int v6), some (.int a_47), some (.int s.1), some (.int s.2), none]) (dOf := fun s : Int32 × Int32 => D7) (fun kc52 hkc52 s => ?_) N (v48, v49)
    obtain ⟨v50, v51⟩ := s
    show z_F _ _ _ _ _ 50 [some (.ref 40), some (.int v3), some (.int v6), some (.int a_47), some (.int v50), some (.int v51), none] [] S D7 _ (F_X11_findMatch_L50 kc8 v6 D7 a_47 kc52 v50 v51)
    unfold F_X11_findMatch_L50
    refine z_iload (i := 5) (x := v51) dX11_findMatch_50 rfl ?_
    refine z_aload_n (i := 0) (x := 40) dX11_findMatch_52 rfl rfl ?_
    refine z_getI (j := 20) dX11_findMatch_53 kl_11 hs40 (by decide) rfl rfl kf_X11_159 ?_
    refine z_icmp_ge 129 dX11_findMatch_56 (by decide) (fun c53 => ?_) (fun c53 => ?_)
    · refine z_aload_n (i := 0) (x := 40) dX11_findMatch_129 rfl rfl ?_
      refine z_getR (j := 48) dX11_findMatch_130 kl_11 hs40 (by decide) rfl rfl kf_X11_86 ?_
      refine z_iload_n (i := 2) (x := v6) dX11_findMatch_133 rfl rfl ?_
      refine z_iload (i := 4) (x := v50) dX11_findMatch_134 rfl ?_
      refine z_iast dX11_findMatch_136 hs64 (fun D54 => ?_)
      refine z_iinc (i := 2) (x := v6) (y := (-1)) dX11_findMatch_137 rfl (by decide) (by decide) rfl (fun v55 => ?_)
      refine z_goto 24 dX11_findMatch_140 (by decide) ?_
      refine z_weak (lv' := [some (.ref 40), some (.int v3), some (.int v55), none, none, none, none]) ⟨Or.inr rfl, ⟨Or.inr rfl, ⟨Or.inr rfl, ⟨Or.inl rfl, ⟨Or.inl rfl, ⟨Or.inl rfl, ⟨Or.inl rfl, trivial⟩⟩⟩⟩⟩⟩⟩ ?_
      exact hkc8 (v55, D54)
    · refine z_iload_n (i := 2) (x := v6) dX11_findMatch_59 rfl rfl ?_
      refine z_iload (i := 5) (x := v51) dX11_findMatch_60 rfl ?_
      refine z_ishr dX11_findMatch_62 ?_
      refine z_iconst (v := 1) dX11_findMatch_63 rfl ?_
      refine z_iand dX11_findMatch_64 ?_
      refine z_iconst (v := 1) dX11_findMatch_65 rfl ?_
      refine z_icmp_eq 123 dX11_findMatch_66 (by decide) (fun c56 => ?_) (fun c56 => ?_)
      · refine z_iinc (i := 5) (x := v51) (y := 1) dX11_findMatch_123 rfl (by decide) (by decide) rfl (fun v57 => ?_)
        refine z_goto 50 dX11_findMatch_126 (by decide) ?_
        exact hkc52 (v50, v57)
      · refine z_aload_n (i := 0) (x := 40) dX11_findMatch_69 rfl rfl ?_
        refine z_iload_n (i := 3) (x := a_47) dX11_findMatch_70 rfl rfl ?_
        refine z_iload (i := 5) (x := v51) dX11_findMatch_71 rfl ?_
        refine z_cR (As := [.ref 40, .int a_47, .int v51]) (rest := []) (em_X11_mayMatch hl hW a_47 v51 D7) (fun o7 h => z_runV 425 2 h rfl kk_X11_425 hs40 kl_11.1 kq_X11_mayMatch rfl (Nat.le_of_ble_eq_true rfl) ⟨Nat.le_of_ble_eq_true rfl, Nat.le_of_ble_eq_true rfl, Nat.le_of_ble_eq_true rfl, Nat.le_of_ble_eq_true rfl⟩ dX11_findMatch_73) z_gWV (fun a_59 hz58 => ?_)
        refine z_if_ne 82 dX11_findMatch_76 (by decide) (fun c60 => ?_) (fun c60 => ?_)
        · refine z_goto 123 dX11_findMatch_79 (by decide) ?_
          refine z_iinc (i := 5) (x := v51) (y := 1) dX11_findMatch_123 rfl (by decide) (by decide) rfl (fun v61 => ?_)
          refine z_goto 50 dX11_findMatch_126 (by decide) ?_
          exact hkc52 (v50, v61)
        · refine z_aload_n (i := 0) (x := 40) dX11_findMatch_82 rfl rfl ?_
          refine z_iload_n (i := 3) (x := a_47) dX11_findMatch_83 rfl rfl ?_
          refine z_iload (i := 5) (x := v51) dX11_findMatch_84 rfl ?_
          refine z_cR (As := [.ref 40, .int a_47, .int v51]) (rest := []) (em_X11_worthOf hl hW a_47 v51 D7) (fun o7 h => z_runV 428 2 h rfl kk_X11_428 hs40 kl_11.1 kq_X11_worthOf rfl (Nat.le_of_ble_eq_true rfl) ⟨Nat.le_of_ble_eq_true rfl, Nat.le_of_ble_eq_true rfl, Nat.le_of_ble_eq_true rfl, Nat.le_of_ble_eq_true rfl⟩ dX11_findMatch_86) z_gWV (fun a_63 hz62 => ?_)
          refine z_aload_n (i := 0) (x := 40) dX11_findMatch_89 rfl rfl ?_
          refine z_getR (j := 48) dX11_findMatch_90 kl_11 hs40 (by decide) rfl rfl kf_X11_86 ?_
          refine z_iload_n (i := 2) (x := v6) dX11_findMatch_93 rfl rfl ?_
          refine z_iconst (v := 1) dX11_findMatch_94 rfl ?_
          refine z_iload_n (i := 3) (x := a_47) dX11_findMatch_95 rfl rfl ?_
          refine z_ishl dX11_findMatch_96 ?_
          refine z_ior dX11_findMatch_97 ?_
          refine z_iconst (v := 1) dX11_findMatch_98 rfl ?_
          refine z_iload (i := 5) (x := v51) dX11_findMatch_99 rfl ?_
          refine z_ishl dX11_findMatch_101 ?_
          refine z_ior dX11_findMatch_102 ?_
          refine z_iald dX11_findMatch_103 hs64 ?_
          refine z_iadd dX11_findMatch_104 ?_
          refine z_topi (fun v64 => ?_)
          refine z_istore (i := 6) (x := v64) (lv' := [some (.ref 40), some (.int v3), some (.int v6), some (.int a_47), some (.int v50), some (.int v51), some (.int v64)]) dX11_findMatch_105 (by decide) rfl rfl ?_
          refine z_iload (i := 6) (x := v64) dX11_findMatch_107 rfl ?_
          refine z_iload (i := 4) (x := v50) dX11_findMatch_109 rfl ?_
          refine z_icmp_le 119 dX11_findMatch_111 (by decide) (fun c65 => ?_) (fun c65 => ?_)
          · refine z_iload (i := 4) (x := v50) dX11_findMatch_119 rfl ?_
            refine z_istore (i := 4) (x := v50) (lv' := [some (.ref 40), some (.int v3), some (.int v6), some (.int a_47), some (.int v50), some (.int v51), some (.int v64)]) dX11_findMatch_121 (by decide) rfl rfl ?_
            refine z_iinc (i := 5) (x := v51) (y := 1) dX11_findMatch_123 rfl (by decide) (by decide) rfl (fun v66 => ?_)
            refine z_goto 50 dX11_findMatch_126 (by decide) ?_
            refine z_weak (lv' := [some (.ref 40), some (.int v3), some (.int v6), some (.int a_47), some (.int v50), some (.int v66), none]) ⟨Or.inr rfl, ⟨Or.inr rfl, ⟨Or.inr rfl, ⟨Or.inr rfl, ⟨Or.inr rfl, ⟨Or.inr rfl, ⟨Or.inl rfl, trivial⟩⟩⟩⟩⟩⟩⟩ ?_
            exact hkc52 (v50, v66)
          · refine z_iload (i := 6) (x := v64) dX11_findMatch_114 rfl ?_
            refine z_goto 121 dX11_findMatch_116 (by decide) ?_
            refine z_istore (i := 4) (x := v64) (lv' := [some (.ref 40), some (.int v3), some (.int v6), some (.int a_47), some (.int v64), some (.int v51), some (.int v64)]) dX11_findMatch_121 (by decide) rfl rfl ?_
            refine z_iinc (i := 5) (x := v51) (y := 1) dX11_findMatch_123 rfl (by decide) (by decide) rfl (fun v67 => ?_)
            refine z_goto 50 dX11_findMatch_126 (by decide) ?_
            refine z_weak (lv' := [some (.ref 40), some (.int v3), some (.int v6), some (.int a_47), some (.int v64), some (.int v67), none]) ⟨Or.inr rfl, ⟨Or.inr rfl, ⟨Or.inr rfl, ⟨Or.inr rfl, ⟨Or.inr rfl, ⟨Or.inr rfl, ⟨Or.inl rfl, trivial⟩⟩⟩⟩⟩⟩⟩ ?_
            exact hkc52 (v64, v67)

def F_X11_match (N : Nat) (a0 : Int32) (D : z_Dat) : Option (Int32 × z_Dat) :=
  z_let (z_up D 40 0 0) (fun D1 => z_bd (F_X11_may (F_X11_within a0 0 1) 1 1 D1) (fun a_4 => if a_4.1 = 0 then (some (0, a_4.2))
  else (z_bd (F_X11_findMatch N a_4.2) (fun a_7 => z_let (((a_7 64 (z_ix 0)) + 999) / 1000) (fun v8 => if a0 = 0 then (some (v8, a_7))
  else (some ((1000 * v8) - (a_7 64 (z_ix 0)), a_7)))))))
set_option maxRecDepth 100000 in
set_option maxHeartbeats 4000000 in
theorem em_X11_match {l : Launch} {S : List z_Shp} {oW : Nat} (hl : l.stackTraces = false) (hW : z_W S oW) (N : Nat) (a0 : Int32) (D : z_Dat) : ∀ out, z_ko (z_kI S) (F_X11_match N a0 D) out → z_EM l M_X11_match (60, 760, 0, 0) [.ref 40, .int a0] S D out := by
  have hs40 : S[40]? = some (13, 55, [none, some (some 41), none, none, none, none, none, none, none, some (some 42), some (some 43), some (some 44), some (some 45), some (some 46), some (some 47), some (some 48), none, none, none, none, none, none, some (some 49), some (some 50), some (some 51), some (some 52), some (some 53), none, none, some (some 54), some (some 55), some (some 56), none, none, none, none, none, none, some (some 57), some (some 58), some (some 59), some (some 60), some (some 61), none, some (some 62), some (some 63), none, none, some (some 64), some (some 65), none, none, none, some (some 66), none]) := hW.1 40 _ rfl
  have hs64 : S[64]? = some (0, 256, []) := hW.1 64 _ rfl
  refine z_meth hl rfl kp_X11 (Nat.le_of_ble_eq_true rfl) (lv := [some (.ref 40), some (.int a0), none]) rfl ?_
  unfold F_X11_match
  refine z_aload_n (i := 0) (x := 40) dX11_match_0 rfl rfl ?_
  refine z_iconst (v := 0) dX11_match_1 rfl ?_
  refine z_putI (j := 0) dX11_match_2 kl_11 tyX11_ok nmX11 hs40 (by decide) rfl rfl rfl rfl rfl rfl kf_X11_3 (fun D1 => ?_)
  refine z_aload_n (i := 0) (x := 40) dX11_match_5 rfl rfl ?_
  refine z_iload_n (i := 1) (x := a0) dX11_match_6 rfl rfl ?_
  refine z_iconst (v := 0) dX11_match_7 rfl ?_
  refine z_iconst (v := 1) dX11_match_8 rfl ?_
  refine z_cP (As := [.int a0, .int 0, .int 1]) (rest := [.ref 40]) (em_X11_within hl a0 0 1 D1) (fun o7 h => z_runS 376 3 h rfl kk_X11_376 kq_X11_within rfl (Nat.le_of_ble_eq_true rfl) ⟨Nat.le_of_ble_eq_true rfl, Nat.le_of_ble_eq_true rfl, Nat.le_of_ble_eq_true rfl, Nat.le_of_ble_eq_true rfl⟩ dX11_match_9) z_gWI (fun hz2 => ?_)
  refine z_iconst (v := 1) dX11_match_12 rfl ?_
  refine z_iconst (v := 1) dX11_match_13 rfl ?_
  refine z_cWI (As := [.ref 40, .int (F_X11_within a0 0 1), .int 1, .int 1]) (rest := []) (em_X11_may hl hW (F_X11_within a0 0 1) 1 1 D1) (fun o7 h => z_runV 198 3 h rfl kk_X11_198 hs40 kl_11.1 kq_X11_may rfl (Nat.le_of_ble_eq_true rfl) ⟨Nat.le_of_ble_eq_true rfl, Nat.le_of_ble_eq_true rfl, Nat.le_of_ble_eq_true rfl, Nat.le_of_ble_eq_true rfl⟩ dX11_match_14) z_gWI (fun a_4 hz3 => ?_)
  refine z_if_ne 22 dX11_match_17 (by decide) (fun c5 => ?_) (fun c5 => ?_)
  · refine z_iconst (v := 0) dX11_match_20 rfl ?_
    exact z_ireturn dX11_match_21 z_rWI rfl (by decide) (by decide)
  · refine z_aload_n (i := 0) (x := 40) dX11_match_22 rfl rfl ?_
    refine z_cWV (As := [.ref 40]) (rest := []) (em_X11_findMatch hl hW N a_4.2) (fun o7 h => z_runV 431 0 h rfl kk_X11_431 hs40 kl_11.1 kq_X11_findMatch rfl (Nat.le_of_ble_eq_true rfl) ⟨Nat.le_of_ble_eq_true rfl, Nat.le_of_ble_eq_true rfl, Nat.le_of_ble_eq_true rfl, Nat.le_of_ble_eq_true rfl⟩ dX11_match_23) z_gWI (fun a_7 hz6 => ?_)
    refine z_aload_n (i := 0) (x := 40) dX11_match_26 rfl rfl ?_
    refine z_getR (j := 48) dX11_match_27 kl_11 hs40 (by decide) rfl rfl kf_X11_86 ?_
    refine z_iconst (v := 0) dX11_match_30 rfl ?_
    refine z_ialdC dX11_match_31 hs64 (vp_in_iff.mpr (by decide)) ?_
    refine z_sipush (v := 999) dX11_match_32 (by decide) ?_
    refine z_iadd dX11_match_35 ?_
    refine z_sipush (v := 1000) dX11_match_36 (by decide) ?_
    refine z_idivC dX11_match_39 (by decide) ?_
    refine z_topi (fun v8 => ?_)
    refine z_istore_n (i := 2) (x := v8) (lv' := [some (.ref 40), some (.int a0), some (.int v8)]) dX11_match_40 rfl (by decide) rfl rfl ?_
    refine z_iload_n (i := 1) (x := a0) dX11_match_41 rfl rfl ?_
    refine z_if_ne 49 dX11_match_42 (by decide) (fun c9 => ?_) (fun c9 => ?_)
    · refine z_iload_n (i := 2) (x := v8) dX11_match_45 rfl rfl ?_
      refine z_goto 61 dX11_match_46 (by decide) ?_
      exact z_ireturn dX11_match_61 z_rWI rfl (by decide) (by decide)
    · refine z_sipush (v := 1000) dX11_match_49 (by decide) ?_
      refine z_iload_n (i := 2) (x := v8) dX11_match_52 rfl rfl ?_
      refine z_imul dX11_match_53 ?_
      refine z_aload_n (i := 0) (x := 40) dX11_match_54 rfl rfl ?_
      refine z_getR (j := 48) dX11_match_55 kl_11 hs40 (by decide) rfl rfl kf_X11_86 ?_
      refine z_iconst (v := 0) dX11_match_58 rfl ?_
      refine z_ialdC dX11_match_59 hs64 (vp_in_iff.mpr (by decide)) ?_
      refine z_isub dX11_match_60 ?_
      exact z_ireturn dX11_match_61 z_rWI rfl (by decide) (by decide)

def F_X11_bride (N : Nat) (a0 : Int32) (D : z_Dat) : Option (Int32 × z_Dat) :=
  z_let (z_up D 40 0 0) (fun D1 => z_bd (F_X11_isPerson a0 1 D1) (fun a_3 => if a_3.1 = 0 then (some (0, a_3.2))
  else (z_bd (F_X11_findMatch N a_3.2) (fun a_6 => if z_inb a0 8 then (some (a_6 65 (z_ix a0), a_6)) else none))))
set_option maxRecDepth 100000 in
set_option maxHeartbeats 4000000 in
theorem em_X11_bride {l : Launch} {S : List z_Shp} {oW : Nat} (hl : l.stackTraces = false) (hW : z_W S oW) (N : Nat) (a0 : Int32) (D : z_Dat) : ∀ out, z_ko (z_kI S) (F_X11_bride N a0 D) out → z_EM l M_X11_bride (60, 760, 0, 0) [.ref 40, .int a0] S D out := by
  have hs40 : S[40]? = some (13, 55, [none, some (some 41), none, none, none, none, none, none, none, some (some 42), some (some 43), some (some 44), some (some 45), some (some 46), some (some 47), some (some 48), none, none, none, none, none, none, some (some 49), some (some 50), some (some 51), some (some 52), some (some 53), none, none, some (some 54), some (some 55), some (some 56), none, none, none, none, none, none, some (some 57), some (some 58), some (some 59), some (some 60), some (some 61), none, some (some 62), some (some 63), none, none, some (some 64), some (some 65), none, none, none, some (some 66), none]) := hW.1 40 _ rfl
  have hs65 : S[65]? = some (0, 8, []) := hW.1 65 _ rfl
  refine z_meth hl rfl kp_X11 (Nat.le_of_ble_eq_true rfl) (lv := [some (.ref 40), some (.int a0)]) rfl ?_
  unfold F_X11_bride
  refine z_aload_n (i := 0) (x := 40) dX11_bride_0 rfl rfl ?_
  refine z_iconst (v := 0) dX11_bride_1 rfl ?_
  refine z_putI (j := 0) dX11_bride_2 kl_11 tyX11_ok nmX11 hs40 (by decide) rfl rfl rfl rfl rfl rfl kf_X11_3 (fun D1 => ?_)
  refine z_aload_n (i := 0) (x := 40) dX11_bride_5 rfl rfl ?_
  refine z_iload_n (i := 1) (x := a0) dX11_bride_6 rfl rfl ?_
  refine z_iconst (v := 1) dX11_bride_7 rfl ?_
  refine z_cWI (As := [.ref 40, .int a0, .int 1]) (rest := []) (em_X11_isPerson hl hW a0 1 D1) (fun o7 h => z_runV 391 2 h rfl kk_X11_391 hs40 kl_11.1 kq_X11_isPerson rfl (Nat.le_of_ble_eq_true rfl) ⟨Nat.le_of_ble_eq_true rfl, Nat.le_of_ble_eq_true rfl, Nat.le_of_ble_eq_true rfl, Nat.le_of_ble_eq_true rfl⟩ dX11_bride_8) z_gWI (fun a_3 hz2 => ?_)
  refine z_if_ne 16 dX11_bride_11 (by decide) (fun c4 => ?_) (fun c4 => ?_)
  · refine z_iconst (v := 0) dX11_bride_14 rfl ?_
    exact z_ireturn dX11_bride_15 z_rWI rfl (by decide) (by decide)
  · refine z_aload_n (i := 0) (x := 40) dX11_bride_16 rfl rfl ?_
    refine z_cWV (As := [.ref 40]) (rest := []) (em_X11_findMatch hl hW N a_3.2) (fun o7 h => z_runV 431 0 h rfl kk_X11_431 hs40 kl_11.1 kq_X11_findMatch rfl (Nat.le_of_ble_eq_true rfl) ⟨Nat.le_of_ble_eq_true rfl, Nat.le_of_ble_eq_true rfl, Nat.le_of_ble_eq_true rfl, Nat.le_of_ble_eq_true rfl⟩ dX11_bride_17) z_gWI (fun a_6 hz5 => ?_)
    refine z_aload_n (i := 0) (x := 40) dX11_bride_20 rfl rfl ?_
    refine z_getR (j := 49) dX11_bride_21 kl_11 hs40 (by decide) rfl rfl kf_X11_89 ?_
    refine z_iload_n (i := 1) (x := a0) dX11_bride_24 rfl rfl ?_
    refine z_iald dX11_bride_25 hs65 ?_
    exact z_ireturn dX11_bride_26 z_rWI rfl (by decide) (by decide)

def F_X11_needOf_L5 (a0 : Int32) (a1 : Int32) (D : z_Dat) (kc3 : ((Int32 × Int32) → Option Int32)) (v1 : Int32) (v2 : Int32) : Option Int32 :=
  if (D 40 19) ≤ v2 then (some v1)
  else (if ((z_shr a0 v2) &&& 1) = 1 then (if z_inb ((4 * v2) + a1) 24 then (z_let (v1 + (D 47 (z_ix ((4 * v2) + a1)))) (fun v6 => z_let (v2 + 1) (fun v7 => kc3 (v6, v7)))) else none)
  else (z_let (v1 + 0) (fun v8 => z_let (v2 + 1) (fun v9 => kc3 (v8, v9)))))
def F_X11_needOf (N : Nat) (a0 : Int32) (a1 : Int32) (D : z_Dat) : Option Int32 :=
  z_loop (fun kc3 s => F_X11_needOf_L5 a0 a1 D kc3 s.1 s.2) N (0, 0)
set_option maxRecDepth 100000 in
set_option maxHeartbeats 4000000 in
theorem em_X11_needOf {l : Launch} {S : List z_Shp} {oW : Nat} (hl : l.stackTraces = false) (hW : z_W S oW) (N : Nat) (a0 : Int32) (a1 : Int32) (D : z_Dat) : ∀ out, z_ko (z_kR S D) (F_X11_needOf N a0 a1 D) out → z_EM l M_X11_needOf (20, 520, 0, 0) [.ref 40, .int a0, .int a1] S D out := by
  have hs40 : S[40]? = some (13, 55, [none, some (some 41), none, none, none, none, none, none, none, some (some 42), some (some 43), some (some 44), some (some 45), some (some 46), some (some 47), some (some 48), none, none, none, none, none, none, some (some 49), some (some 50), some (some 51), some (some 52), some (some 53), none, none, some (some 54), some (some 55), some (some 56), none, none, none, none, none, none, some (some 57), some (some 58), some (some 59), some (some 60), some (some 61), none, some (some 62), some (some 63), none, none, some (some 64), some (some 65), none, none, none, some (some 66), none]) := hW.1 40 _ rfl
  have hs47 : S[47]? = some (0, 24, []) := hW.1 47 _ rfl
  refine z_meth hl rfl kp_X11 (Nat.le_of_ble_eq_true rfl) (lv := [some (.ref 40), some (.int a0), some (.int a1), none, none]) rfl ?_
  unfold F_X11_needOf
  refine z_iconst (v := 0) dX11_needOf_0 rfl ?_
  refine z_istore_n (i := 3) (x := 0) (lv' := [some (.ref 40), some (.int a0), some (.int a1), some (.int 0), none]) dX11_needOf_1 rfl (by decide) rfl rfl ?_
  refine z_iconst (v := 0) dX11_needOf_2 rfl ?_
  refine z_istore (i := 4) (x := 0) (lv' := [some (.ref 40), some (.int a0), some (.int a1), some (.int 0), some (.int 0)]) dX11_needOf_3 (by decide) rfl rfl ?_
  refine z_loops (lvOf := fun s : Int32 × Int32 => [some (.ref 40), some (.int a0), some (.int a1), some (.int s.1), some (.int s.2)]) (dOf := fun s : Int32 × Int32 => D) (fun kc3 hkc3 s => ?_) N (0, 0)
  obtain ⟨v1, v2⟩ := s
  show z_F _ _ _ _ _ 5 [some (.ref 40), some (.int a0), some (.int a1), some (.int v1), some (.int v2)] [] S D _ (F_X11_needOf_L5 a0 a1 D kc3 v1 v2)
  unfold F_X11_needOf_L5
  refine z_iload (i := 4) (x := v2) dX11_needOf_5 rfl ?_
  refine z_aload_n (i := 0) (x := 40) dX11_needOf_7 rfl rfl ?_
  refine z_getI (j := 19) dX11_needOf_8 kl_11 hs40 (by decide) rfl rfl kf_X11_156 ?_
  refine z_icmp_ge 48 dX11_needOf_11 (by decide) (fun c4 => ?_) (fun c4 => ?_)
  · refine z_iload_n (i := 3) (x := v1) dX11_needOf_48 rfl rfl ?_
    exact z_ireturn dX11_needOf_49 z_rR rfl (by decide) (by decide)
  · refine z_iload_n (i := 3) (x := v1) dX11_needOf_14 rfl rfl ?_
    refine z_iload_n (i := 1) (x := a0) dX11_needOf_15 rfl rfl ?_
    refine z_iload (i := 4) (x := v2) dX11_needOf_16 rfl ?_
    refine z_ishr dX11_needOf_18 ?_
    refine z_iconst (v := 1) dX11_needOf_19 rfl ?_
    refine z_iand dX11_needOf_20 ?_
    refine z_iconst (v := 1) dX11_needOf_21 rfl ?_
    refine z_icmp_ne 39 dX11_needOf_22 (by decide) (fun c5 => ?_) (fun c5 => ?_)
    · refine z_aload_n (i := 0) (x := 40) dX11_needOf_25 rfl rfl ?_
      refine z_getR (j := 14) dX11_needOf_26 kl_11 hs40 (by decide) rfl rfl kf_X11_35 ?_
      refine z_iconst (v := 4) dX11_needOf_29 rfl ?_
      refine z_iload (i := 4) (x := v2) dX11_needOf_30 rfl ?_
      refine z_imul dX11_needOf_32 ?_
      refine z_iload_n (i := 2) (x := a1) dX11_needOf_33 rfl rfl ?_
      refine z_iadd dX11_needOf_34 ?_
      refine z_iald dX11_needOf_35 hs47 ?_
      refine z_goto 40 dX11_needOf_36 (by decide) ?_
      refine z_iadd dX11_needOf_40 ?_
      refine z_topi (fun v6 => ?_)
      refine z_istore_n (i := 3) (x := v6) (lv' := [some (.ref 40), some (.int a0), some (.int a1), some (.int v6), some (.int v2)]) dX11_needOf_41 rfl (by decide) rfl rfl ?_
      refine z_iinc (i := 4) (x := v2) (y := 1) dX11_needOf_42 rfl (by decide) (by decide) rfl (fun v7 => ?_)
      refine z_goto 5 dX11_needOf_45 (by decide) ?_
      exact hkc3 (v6, v7)
    · refine z_iconst (v := 0) dX11_needOf_39 rfl ?_
      refine z_iadd dX11_needOf_40 ?_
      refine z_topi (fun v8 => ?_)
      refine z_istore_n (i := 3) (x := v8) (lv' := [some (.ref 40), some (.int a0), some (.int a1), some (.int v8), some (.int v2)]) dX11_needOf_41 rfl (by decide) rfl rfl ?_
      refine z_iinc (i := 4) (x := v2) (y := 1) dX11_needOf_42 rfl (by decide) (by decide) rfl (fun v9 => ?_)
      refine z_goto 5 dX11_needOf_45 (by decide) ?_
      exact hkc3 (v8, v9)

def F_X11_enough_L41 (N : Nat) (a0 : Int32) (kc12 : ((Int32 × z_Dat) → Option (Int32 × z_Dat))) (v10 : Int32) (D11 : z_Dat) : Option (Int32 × z_Dat) :=
  if 100 < v10 then (some ((-1), D11))
  else (z_bd (F_X11_needOf N a0 0 D11) (fun a_15 => if (D11 58 (z_ix 56)) < a_15 then (z_bd (F_X11_passes N D11) (fun a_18 => z_let (v10 + 1) (fun v19 => kc12 (v19, a_18))))
  else (z_bd (F_X11_needOf N a0 1 D11) (fun a_21 => if (D11 58 (z_ix 57)) < a_21 then (z_bd (F_X11_passes N D11) (fun a_24 => z_let (v10 + 1) (fun v25 => kc12 (v25, a_24))))
  else (z_bd (F_X11_needOf N a0 2 D11) (fun a_27 => if (D11 58 (z_ix 58)) < a_27 then (z_bd (F_X11_passes N D11) (fun a_30 => z_let (v10 + 1) (fun v31 => kc12 (v31, a_30))))
  else (some (v10, D11))))))))
def F_X11_enough_J25 (N : Nat) (a0 : Int32) (D4 : z_Dat) : Option (Int32 × z_Dat) :=
  z_bd (F_X11_may 0 1 1 D4) (fun a_6 => if a_6.1 = 0 then (some (0, a_6.2))
  else (z_bd (F_X11_take N a_6.2) (fun a_9 => z_loop (fun kc12 s => F_X11_enough_L41 N a0 kc12 s.1 s.2) N (0, a_9))))
def F_X11_enough_J24 (N : Nat) (a0 : Int32) (D3 : z_Dat) : Option (Int32 × z_Dat) :=
  F_X11_enough_J25 N a0 D3
def F_X11_enough_L41x (N : Nat) (a0 : Int32) (kc42 : ((Int32 × z_Dat) → Option (Int32 × z_Dat))) (v40 : Int32) (D41 : z_Dat) : Option (Int32 × z_Dat) :=
  if 100 < v40 then (some ((-1), D41))
  else (z_bd (F_X11_needOf N a0 0 D41) (fun a_45 => if (D41 58 (z_ix 56)) < a_45 then (z_bd (F_X11_passes N D41) (fun a_48 => z_let (v40 + 1) (fun v49 => kc42 (v49, a_48))))
  else (z_bd (F_X11_needOf N a0 1 D41) (fun a_51 => if (D41 58 (z_ix 57)) < a_51 then (z_bd (F_X11_passes N D41) (fun a_54 => z_let (v40 + 1) (fun v55 => kc42 (v55, a_54))))
  else (z_bd (F_X11_needOf N a0 2 D41) (fun a_57 => if (D41 58 (z_ix 58)) < a_57 then (z_bd (F_X11_passes N D41) (fun a_60 => z_let (v40 + 1) (fun v61 => kc42 (v61, a_60))))
  else (some (v40, D41))))))))
def F_X11_enough_J25x (N : Nat) (a0 : Int32) (D34 : z_Dat) : Option (Int32 × z_Dat) :=
  z_bd (F_X11_may 1 1 1 D34) (fun a_36 => if a_36.1 = 0 then (some (0, a_36.2))
  else (z_bd (F_X11_take N a_36.2) (fun a_39 => z_loop (fun kc42 s => F_X11_enough_L41x N a0 kc42 s.1 s.2) N (0, a_39))))
def F_X11_enough (N : Nat) (a0 : Int32) (D : z_Dat) : Option (Int32 × z_Dat) :=
  z_let (z_up D 40 0 0) (fun D1 => if a0 < 0 then (F_X11_enough_J24 N a0 D1)
  else (if (z_shl 1 (D1 40 19)) ≤ a0 then (F_X11_enough_J24 N a0 D1)
  else (F_X11_enough_J25x N a0 D1)))
set_option maxRecDepth 100000 in
set_option maxHeartbeats 4000000 in
theorem em_X11_enough {l : Launch} {S : List z_Shp} {oW : Nat} (hl : l.stackTraces = false) (hW : z_W S oW) (N : Nat) (a0 : Int32) (D : z_Dat) : ∀ out, z_ko (z_kI S) (F_X11_enough N a0 D) out → z_EM l M_X11_enough (40, 640, 0, 0) [.ref 40, .int a0] S D out := by
  have hs40 : S[40]? = some (13, 55, [none, some (some 41), none, none, none, none, none, none, none, some (some 42), some (some 43), some (some 44), some (some 45), some (some 46), some (some 47), some (some 48), none, none, none, none, none, none, some (some 49), some (some 50), some (some 51), some (some 52), some (some 53), none, none, some (some 54), some (some 55), some (some 56), none, none, none, none, none, none, some (some 57), some (some 58), some (some 59), some (some 60), some (some 61), none, some (some 62), some (some 63), none, none, some (some 64), some (some 65), none, none, none, some (some 66), none]) := hW.1 40 _ rfl
  have hs58 : S[58]? = some (0, 60, []) := hW.1 58 _ rfl
  refine z_meth hl rfl kp_X11 (Nat.le_of_ble_eq_true rfl) (lv := [some (.ref 40), some (.int a0), none]) rfl ?_
  unfold F_X11_enough
  have hJ_F_X11_enough_J25 : ∀ (D4 : z_Dat) , z_F l M_X11_enough (40, 640, 0, 0) 0 0 25 [some (.ref 40), some (.int a0), none] [.int 0, .ref 40] S D4 (z_ko (z_kI S)) (F_X11_enough_J25 N a0 D4) := by
    intro D4
    unfold F_X11_enough_J25
    refine z_iconst (v := 1) dX11_enough_25 rfl ?_
    refine z_iconst (v := 1) dX11_enough_26 rfl ?_
    refine z_cWI (As := [.ref 40, .int 0, .int 1, .int 1]) (rest := []) (em_X11_may hl hW 0 1 1 D4) (fun o7 h => z_runV 198 3 h rfl kk_X11_198 hs40 kl_11.1 kq_X11_may rfl (Nat.le_of_ble_eq_true rfl) ⟨Nat.le_of_ble_eq_true rfl, Nat.le_of_ble_eq_true rfl, Nat.le_of_ble_eq_true rfl, Nat.le_of_ble_eq_true rfl⟩ dX11_enough_27) z_gWI (fun a_6 hz5 => ?_)
    refine z_if_ne 35 dX11_enough_30 (by decide) (fun c7 => ?_) (fun c7 => ?_)
    · refine z_iconst (v := 0) dX11_enough_33 rfl ?_
      exact z_ireturn dX11_enough_34 z_rWI rfl (by decide) (by decide)
    · refine z_aload_n (i := 0) (x := 40) dX11_enough_35 rfl rfl ?_
      refine z_cWV (As := [.ref 40]) (rest := []) (em_X11_take hl hW N a_6.2) (fun o7 h => z_runV 308 0 h rfl kk_X11_308 hs40 kl_11.1 kq_X11_take rfl (Nat.le_of_ble_eq_true rfl) ⟨Nat.le_of_ble_eq_true rfl, Nat.le_of_ble_eq_true rfl, Nat.le_of_ble_eq_true rfl, Nat.le_of_ble_eq_true rfl⟩ dX11_enough_36) z_gWI (fun a_9 hz8 => ?_)
      refine z_iconst (v := 0) dX11_enough_39 rfl ?_
      refine z_istore_n (i := 2) (x := 0) (lv' := [some (.ref 40), some (.int a0), some (.int 0)]) dX11_enough_40 rfl (by decide) rfl rfl ?_
      refine z_loops (lvOf := fun s : Int32 × z_Dat => [some (.ref 40), some (.int a0), some (.int s.1)]) (dOf := fun s : Int32 × z_Dat => s.2) (fun kc12 hkc12 s => ?_) N (0, a_9)
      obtain ⟨v10, D11⟩ := s
      show z_F _ _ _ _ _ 41 [some (.ref 40), some (.int a0), some (.int v10)] [] S D11 _ (F_X11_enough_L41 N a0 kc12 v10 D11)
      unfold F_X11_enough_L41
      refine z_iload_n (i := 2) (x := v10) dX11_enough_41 rfl rfl ?_
      refine z_bipush (v := 100) dX11_enough_42 (by decide) ?_
      refine z_icmp_gt 107 dX11_enough_44 (by decide) (fun c13 => ?_) (fun c13 => ?_)
      · refine z_iconst (v := (-1)) dX11_enough_107 rfl ?_
        exact z_ireturn dX11_enough_108 z_rWI rfl (by decide) (by decide)
      · refine z_aload_n (i := 0) (x := 40) dX11_enough_47 rfl rfl ?_
        refine z_getR (j := 39) dX11_enough_48 kl_11 hs40 (by decide) rfl rfl kf_X11_68 ?_
        refine z_bipush (v := 56) dX11_enough_51 (by decide) ?_
        refine z_ialdC dX11_enough_53 hs58 (vp_in_iff.mpr (by decide)) ?_
        refine z_aload_n (i := 0) (x := 40) dX11_enough_54 rfl rfl ?_
        refine z_iload_n (i := 1) (x := a0) dX11_enough_55 rfl rfl ?_
        refine z_iconst (v := 0) dX11_enough_56 rfl ?_
        refine z_cR (As := [.ref 40, .int a0, .int 0]) (rest := [.int (D11 58 (z_ix 56))]) (em_X11_needOf hl hW N a0 0 D11) (fun o7 h => z_runV 434 2 h rfl kk_X11_434 hs40 kl_11.1 kq_X11_needOf rfl (Nat.le_of_ble_eq_true rfl) ⟨Nat.le_of_ble_eq_true rfl, Nat.le_of_ble_eq_true rfl, Nat.le_of_ble_eq_true rfl, Nat.le_of_ble_eq_true rfl⟩ dX11_enough_57) z_gWI (fun a_15 hz14 => ?_)
        refine z_icmp_lt 97 dX11_enough_60 (by decide) (fun c16 => ?_) (fun c16 => ?_)
        · refine z_aload_n (i := 0) (x := 40) dX11_enough_97 rfl rfl ?_
          refine z_cWV (As := [.ref 40]) (rest := []) (em_X11_passes hl hW N D11) (fun o7 h => z_runV 373 0 h rfl kk_X11_373 hs40 kl_11.1 kq_X11_passes rfl (Nat.le_of_ble_eq_true rfl) ⟨Nat.le_of_ble_eq_true rfl, Nat.le_of_ble_eq_true rfl, Nat.le_of_ble_eq_true rfl, Nat.le_of_ble_eq_true rfl⟩ dX11_enough_98) z_gWI (fun a_18 hz17 => ?_)
          refine z_iinc (i := 2) (x := v10) (y := 1) dX11_enough_101 rfl (by decide) (by decide) rfl (fun v19 => ?_)
          refine z_goto 41 dX11_enough_104 (by decide) ?_
          exact hkc12 (v19, a_18)
        · refine z_aload_n (i := 0) (x := 40) dX11_enough_63 rfl rfl ?_
          refine z_getR (j := 39) dX11_enough_64 kl_11 hs40 (by decide) rfl rfl kf_X11_68 ?_
          refine z_bipush (v := 57) dX11_enough_67 (by decide) ?_
          refine z_ialdC dX11_enough_69 hs58 (vp_in_iff.mpr (by decide)) ?_
          refine z_aload_n (i := 0) (x := 40) dX11_enough_70 rfl rfl ?_
          refine z_iload_n (i := 1) (x := a0) dX11_enough_71 rfl rfl ?_
          refine z_iconst (v := 1) dX11_enough_72 rfl ?_
          refine z_cR (As := [.ref 40, .int a0, .int 1]) (rest := [.int (D11 58 (z_ix 57))]) (em_X11_needOf hl hW N a0 1 D11) (fun o7 h => z_runV 434 2 h rfl kk_X11_434 hs40 kl_11.1 kq_X11_needOf rfl (Nat.le_of_ble_eq_true rfl) ⟨Nat.le_of_ble_eq_true rfl, Nat.le_of_ble_eq_true rfl, Nat.le_of_ble_eq_true rfl, Nat.le_of_ble_eq_true rfl⟩ dX11_enough_73) z_gWI (fun a_21 hz20 => ?_)
          refine z_icmp_lt 97 dX11_enough_76 (by decide) (fun c22 => ?_) (fun c22 => ?_)
          · refine z_aload_n (i := 0) (x := 40) dX11_enough_97 rfl rfl ?_
            refine z_cWV (As := [.ref 40]) (rest := []) (em_X11_passes hl hW N D11) (fun o7 h => z_runV 373 0 h rfl kk_X11_373 hs40 kl_11.1 kq_X11_passes rfl (Nat.le_of_ble_eq_true rfl) ⟨Nat.le_of_ble_eq_true rfl, Nat.le_of_ble_eq_true rfl, Nat.le_of_ble_eq_true rfl, Nat.le_of_ble_eq_true rfl⟩ dX11_enough_98) z_gWI (fun a_24 hz23 => ?_)
            refine z_iinc (i := 2) (x := v10) (y := 1) dX11_enough_101 rfl (by decide) (by decide) rfl (fun v25 => ?_)
            refine z_goto 41 dX11_enough_104 (by decide) ?_
            exact hkc12 (v25, a_24)
          · refine z_aload_n (i := 0) (x := 40) dX11_enough_79 rfl rfl ?_
            refine z_getR (j := 39) dX11_enough_80 kl_11 hs40 (by decide) rfl rfl kf_X11_68 ?_
            refine z_bipush (v := 58) dX11_enough_83 (by decide) ?_
            refine z_ialdC dX11_enough_85 hs58 (vp_in_iff.mpr (by decide)) ?_
            refine z_aload_n (i := 0) (x := 40) dX11_enough_86 rfl rfl ?_
            refine z_iload_n (i := 1) (x := a0) dX11_enough_87 rfl rfl ?_
            refine z_iconst (v := 2) dX11_enough_88 rfl ?_
            refine z_cR (As := [.ref 40, .int a0, .int 2]) (rest := [.int (D11 58 (z_ix 58))]) (em_X11_needOf hl hW N a0 2 D11) (fun o7 h => z_runV 434 2 h rfl kk_X11_434 hs40 kl_11.1 kq_X11_needOf rfl (Nat.le_of_ble_eq_true rfl) ⟨Nat.le_of_ble_eq_true rfl, Nat.le_of_ble_eq_true rfl, Nat.le_of_ble_eq_true rfl, Nat.le_of_ble_eq_true rfl⟩ dX11_enough_89) z_gWI (fun a_27 hz26 => ?_)
            refine z_icmp_lt 97 dX11_enough_92 (by decide) (fun c28 => ?_) (fun c28 => ?_)
            · refine z_aload_n (i := 0) (x := 40) dX11_enough_97 rfl rfl ?_
              refine z_cWV (As := [.ref 40]) (rest := []) (em_X11_passes hl hW N D11) (fun o7 h => z_runV 373 0 h rfl kk_X11_373 hs40 kl_11.1 kq_X11_passes rfl (Nat.le_of_ble_eq_true rfl) ⟨Nat.le_of_ble_eq_true rfl, Nat.le_of_ble_eq_true rfl, Nat.le_of_ble_eq_true rfl, Nat.le_of_ble_eq_true rfl⟩ dX11_enough_98) z_gWI (fun a_30 hz29 => ?_)
              refine z_iinc (i := 2) (x := v10) (y := 1) dX11_enough_101 rfl (by decide) (by decide) rfl (fun v31 => ?_)
              refine z_goto 41 dX11_enough_104 (by decide) ?_
              exact hkc12 (v31, a_30)
            · refine z_iload_n (i := 2) (x := v10) dX11_enough_95 rfl rfl ?_
              exact z_ireturn dX11_enough_96 z_rWI rfl (by decide) (by decide)
  have hJ_F_X11_enough_J24 : ∀ (D3 : z_Dat) , z_F l M_X11_enough (40, 640, 0, 0) 0 0 24 [some (.ref 40), some (.int a0), none] [.ref 40] S D3 (z_ko (z_kI S)) (F_X11_enough_J24 N a0 D3) := by
    intro D3
    unfold F_X11_enough_J24
    refine z_iconst (v := 0) dX11_enough_24 rfl ?_
    exact hJ_F_X11_enough_J25 D3
  have hJ_F_X11_enough_J25x : ∀ (D34 : z_Dat) , z_F l M_X11_enough (40, 640, 0, 0) 0 0 25 [some (.ref 40), some (.int a0), none] [.int 1, .ref 40] S D34 (z_ko (z_kI S)) (F_X11_enough_J25x N a0 D34) := by
    intro D34
    unfold F_X11_enough_J25x
    refine z_iconst (v := 1) dX11_enough_25 rfl ?_
    refine z_iconst (v := 1) dX11_enough_26 rfl ?_
    refine z_cWI (As := [.ref 40, .int 1, .int 1, .int 1]) (rest := []) (em_X11_may hl hW 1 1 1 D34) (fun o7 h => z_runV 198 3 h rfl kk_X11_198 hs40 kl_11.1 kq_X11_may rfl (Nat.le_of_ble_eq_true rfl) ⟨Nat.le_of_ble_eq_true rfl, Nat.le_of_ble_eq_true rfl, Nat.le_of_ble_eq_true rfl, Nat.le_of_ble_eq_true rfl⟩ dX11_enough_27) z_gWI (fun a_36 hz35 => ?_)
    refine z_if_ne 35 dX11_enough_30 (by decide) (fun c37 => ?_) (fun c37 => ?_)
    · refine z_iconst (v := 0) dX11_enough_33 rfl ?_
      exact z_ireturn dX11_enough_34 z_rWI rfl (by decide) (by decide)
    · refine z_aload_n (i := 0) (x := 40) dX11_enough_35 rfl rfl ?_
      refine z_cWV (As := [.ref 40]) (rest := []) (em_X11_take hl hW N a_36.2) (fun o7 h => z_runV 308 0 h rfl kk_X11_308 hs40 kl_11.1 kq_X11_take rfl (Nat.le_of_ble_eq_true rfl) ⟨Nat.le_of_ble_eq_true rfl, Nat.le_of_ble_eq_true rfl, Nat.le_of_ble_eq_true rfl, Nat.le_of_ble_eq_true rfl⟩ dX11_enough_36) z_gWI (fun a_39 hz38 => ?_)
      refine z_iconst (v := 0) dX11_enough_39 rfl ?_
      refine z_istore_n (i := 2) (x := 0) (lv' := [some (.ref 40), some (.int a0), some (.int 0)]) dX11_enough_40 rfl (by decide) rfl rfl ?_
      refine z_loops (lvOf := fun s : Int32 × z_Dat => [some (.ref 40), some (.int a0), some (.int s.1)]) (dOf := fun s : Int32 × z_Dat => s.2) (fun kc42 hkc42 s => ?_) N (0, a_39)
      obtain ⟨v40, D41⟩ := s
      show z_F _ _ _ _ _ 41 [some (.ref 40), some (.int a0), some (.int v40)] [] S D41 _ (F_X11_enough_L41x N a0 kc42 v40 D41)
      unfold F_X11_enough_L41x
      refine z_iload_n (i := 2) (x := v40) dX11_enough_41 rfl rfl ?_
      refine z_bipush (v := 100) dX11_enough_42 (by decide) ?_
      refine z_icmp_gt 107 dX11_enough_44 (by decide) (fun c43 => ?_) (fun c43 => ?_)
      · refine z_iconst (v := (-1)) dX11_enough_107 rfl ?_
        exact z_ireturn dX11_enough_108 z_rWI rfl (by decide) (by decide)
      · refine z_aload_n (i := 0) (x := 40) dX11_enough_47 rfl rfl ?_
        refine z_getR (j := 39) dX11_enough_48 kl_11 hs40 (by decide) rfl rfl kf_X11_68 ?_
        refine z_bipush (v := 56) dX11_enough_51 (by decide) ?_
        refine z_ialdC dX11_enough_53 hs58 (vp_in_iff.mpr (by decide)) ?_
        refine z_aload_n (i := 0) (x := 40) dX11_enough_54 rfl rfl ?_
        refine z_iload_n (i := 1) (x := a0) dX11_enough_55 rfl rfl ?_
        refine z_iconst (v := 0) dX11_enough_56 rfl ?_
        refine z_cR (As := [.ref 40, .int a0, .int 0]) (rest := [.int (D41 58 (z_ix 56))]) (em_X11_needOf hl hW N a0 0 D41) (fun o7 h => z_runV 434 2 h rfl kk_X11_434 hs40 kl_11.1 kq_X11_needOf rfl (Nat.le_of_ble_eq_true rfl) ⟨Nat.le_of_ble_eq_true rfl, Nat.le_of_ble_eq_true rfl, Nat.le_of_ble_eq_true rfl, Nat.le_of_ble_eq_true rfl⟩ dX11_enough_57) z_gWI (fun a_45 hz44 => ?_)
        refine z_icmp_lt 97 dX11_enough_60 (by decide) (fun c46 => ?_) (fun c46 => ?_)
        · refine z_aload_n (i := 0) (x := 40) dX11_enough_97 rfl rfl ?_
          refine z_cWV (As := [.ref 40]) (rest := []) (em_X11_passes hl hW N D41) (fun o7 h => z_runV 373 0 h rfl kk_X11_373 hs40 kl_11.1 kq_X11_passes rfl (Nat.le_of_ble_eq_true rfl) ⟨Nat.le_of_ble_eq_true rfl, Nat.le_of_ble_eq_true rfl, Nat.le_of_ble_eq_true rfl, Nat.le_of_ble_eq_true rfl⟩ dX11_enough_98) z_gWI (fun a_48 hz47 => ?_)
          refine z_iinc (i := 2) (x := v40) (y := 1) dX11_enough_101 rfl (by decide) (by decide) rfl (fun v49 => ?_)
          refine z_goto 41 dX11_enough_104 (by decide) ?_
          exact hkc42 (v49, a_48)
        · refine z_aload_n (i := 0) (x := 40) dX11_enough_63 rfl rfl ?_
          refine z_getR (j := 39) dX11_enough_64 kl_11 hs40 (by decide) rfl rfl kf_X11_68 ?_
          refine z_bipush (v := 57) dX11_enough_67 (by decide) ?_
          refine z_ialdC dX11_enough_69 hs58 (vp_in_iff.mpr (by decide)) ?_
          refine z_aload_n (i := 0) (x := 40) dX11_enough_70 rfl rfl ?_
          refine z_iload_n (i := 1) (x := a0) dX11_enough_71 rfl rfl ?_
          refine z_iconst (v := 1) dX11_enough_72 rfl ?_
          refine z_cR (As := [.ref 40, .int a0, .int 1]) (rest := [.int (D41 58 (z_ix 57))]) (em_X11_needOf hl hW N a0 1 D41) (fun o7 h => z_runV 434 2 h rfl kk_X11_434 hs40 kl_11.1 kq_X11_needOf rfl (Nat.le_of_ble_eq_true rfl) ⟨Nat.le_of_ble_eq_true rfl, Nat.le_of_ble_eq_true rfl, Nat.le_of_ble_eq_true rfl, Nat.le_of_ble_eq_true rfl⟩ dX11_enough_73) z_gWI (fun a_51 hz50 => ?_)
          refine z_icmp_lt 97 dX11_enough_76 (by decide) (fun c52 => ?_) (fun c52 => ?_)
          · refine z_aload_n (i := 0) (x := 40) dX11_enough_97 rfl rfl ?_
            refine z_cWV (As := [.ref 40]) (rest := []) (em_X11_passes hl hW N D41) (fun o7 h => z_runV 373 0 h rfl kk_X11_373 hs40 kl_11.1 kq_X11_passes rfl (Nat.le_of_ble_eq_true rfl) ⟨Nat.le_of_ble_eq_true rfl, Nat.le_of_ble_eq_true rfl, Nat.le_of_ble_eq_true rfl, Nat.le_of_ble_eq_true rfl⟩ dX11_enough_98) z_gWI (fun a_54 hz53 => ?_)
            refine z_iinc (i := 2) (x := v40) (y := 1) dX11_enough_101 rfl (by decide) (by decide) rfl (fun v55 => ?_)
            refine z_goto 41 dX11_enough_104 (by decide) ?_
            exact hkc42 (v55, a_54)
          · refine z_aload_n (i := 0) (x := 40) dX11_enough_79 rfl rfl ?_
            refine z_getR (j := 39) dX11_enough_80 kl_11 hs40 (by decide) rfl rfl kf_X11_68 ?_
            refine z_bipush (v := 58) dX11_enough_83 (by decide) ?_
            refine z_ialdC dX11_enough_85 hs58 (vp_in_iff.mpr (by decide)) ?_
            refine z_aload_n (i := 0) (x := 40) dX11_enough_86 rfl rfl ?_
            refine z_iload_n (i := 1) (x := a0) dX11_enough_87 rfl rfl ?_
            refine z_iconst (v := 2) dX11_enough_88 rfl ?_
            refine z_cR (As := [.ref 40, .int a0, .int 2]) (rest := [.int (D41 58 (z_ix 58))]) (em_X11_needOf hl hW N a0 2 D41) (fun o7 h => z_runV 434 2 h rfl kk_X11_434 hs40 kl_11.1 kq_X11_needOf rfl (Nat.le_of_ble_eq_true rfl) ⟨Nat.le_of_ble_eq_true rfl, Nat.le_of_ble_eq_true rfl, Nat.le_of_ble_eq_true rfl, Nat.le_of_ble_eq_true rfl⟩ dX11_enough_89) z_gWI (fun a_57 hz56 => ?_)
            refine z_icmp_lt 97 dX11_enough_92 (by decide) (fun c58 => ?_) (fun c58 => ?_)
            · refine z_aload_n (i := 0) (x := 40) dX11_enough_97 rfl rfl ?_
              refine z_cWV (As := [.ref 40]) (rest := []) (em_X11_passes hl hW N D41) (fun o7 h => z_runV 373 0 h rfl kk_X11_373 hs40 kl_11.1 kq_X11_passes rfl (Nat.le_of_ble_eq_true rfl) ⟨Nat.le_of_ble_eq_true rfl, Nat.le_of_ble_eq_true rfl, Nat.le_of_ble_eq_true rfl, Nat.le_of_ble_eq_true rfl⟩ dX11_enough_98) z_gWI (fun a_60 hz59 => ?_)
              refine z_iinc (i := 2) (x := v40) (y := 1) dX11_enough_101 rfl (by decide) (by decide) rfl (fun v61 => ?_)
              refine z_goto 41 dX11_enough_104 (by decide) ?_
              exact hkc42 (v61, a_60)
            · refine z_iload_n (i := 2) (x := v40) dX11_enough_95 rfl rfl ?_
              exact z_ireturn dX11_enough_96 z_rWI rfl (by decide) (by decide)
  refine z_aload_n (i := 0) (x := 40) dX11_enough_0 rfl rfl ?_
  refine z_iconst (v := 0) dX11_enough_1 rfl ?_
  refine z_putI (j := 0) dX11_enough_2 kl_11 tyX11_ok nmX11 hs40 (by decide) rfl rfl rfl rfl rfl rfl kf_X11_3 (fun D1 => ?_)
  refine z_aload_n (i := 0) (x := 40) dX11_enough_5 rfl rfl ?_
  refine z_iload_n (i := 1) (x := a0) dX11_enough_6 rfl rfl ?_
  refine z_if_lt 24 dX11_enough_7 (by decide) (fun c2 => ?_) (fun c2 => ?_)
  · exact hJ_F_X11_enough_J24 D1
  · refine z_iload_n (i := 1) (x := a0) dX11_enough_10 rfl rfl ?_
    refine z_iconst (v := 1) dX11_enough_11 rfl ?_
    refine z_aload_n (i := 0) (x := 40) dX11_enough_12 rfl rfl ?_
    refine z_getI (j := 19) dX11_enough_13 kl_11 hs40 (by decide) rfl rfl kf_X11_156 ?_
    refine z_ishl dX11_enough_16 ?_
    refine z_icmp_ge 24 dX11_enough_17 (by decide) (fun c33 => ?_) (fun c33 => ?_)
    · exact hJ_F_X11_enough_J24 D1
    · refine z_iconst (v := 1) dX11_enough_20 rfl ?_
      refine z_goto 25 dX11_enough_21 (by decide) ?_
      exact hJ_F_X11_enough_J25x D1

def F_X11_level (a0 : Int32) (a1 : Int32) (D : z_Dat) : Option (Int32 × z_Dat) :=
  z_let (z_up D 40 0 0) (fun D1 => z_bd (F_X11_may (F_X11_isDye a0) 1 0 D1) (fun a_4 => if a_4.1 = 0 then (some (0, a_4.2))
  else (z_bd (F_X11_may (F_X11_within a1 1 99) 2 1 a_4.2) (fun a_8 => if a_8.1 = 0 then (some (0, a_8.2))
  else (if z_inb (56 + a0) 60 then (if a1 = 0 then none else (z_let ((a_8.2 57 (z_ix (56 + a0))) / a1) (fun v11 => if v11 ≤ 9 then (some (v11, a_8.2))
  else (some (9, a_8.2))))) else none)))))
set_option maxRecDepth 100000 in
set_option maxHeartbeats 4000000 in
theorem em_X11_level {l : Launch} {S : List z_Shp} {oW : Nat} (hl : l.stackTraces = false) (hW : z_W S oW) (a0 : Int32) (a1 : Int32) (D : z_Dat) : ∀ out, z_ko (z_kI S) (F_X11_level a0 a1 D) out → z_EM l M_X11_level (30, 580, 0, 0) [.ref 40, .int a0, .int a1] S D out := by
  have hs40 : S[40]? = some (13, 55, [none, some (some 41), none, none, none, none, none, none, none, some (some 42), some (some 43), some (some 44), some (some 45), some (some 46), some (some 47), some (some 48), none, none, none, none, none, none, some (some 49), some (some 50), some (some 51), some (some 52), some (some 53), none, none, some (some 54), some (some 55), some (some 56), none, none, none, none, none, none, some (some 57), some (some 58), some (some 59), some (some 60), some (some 61), none, some (some 62), some (some 63), none, none, some (some 64), some (some 65), none, none, none, some (some 66), none]) := hW.1 40 _ rfl
  have hs57 : S[57]? = some (0, 60, []) := hW.1 57 _ rfl
  refine z_meth hl rfl kp_X11 (Nat.le_of_ble_eq_true rfl) (lv := [some (.ref 40), some (.int a0), some (.int a1), none]) rfl ?_
  unfold F_X11_level
  refine z_aload_n (i := 0) (x := 40) dX11_level_0 rfl rfl ?_
  refine z_iconst (v := 0) dX11_level_1 rfl ?_
  refine z_putI (j := 0) dX11_level_2 kl_11 tyX11_ok nmX11 hs40 (by decide) rfl rfl rfl rfl rfl rfl kf_X11_3 (fun D1 => ?_)
  refine z_aload_n (i := 0) (x := 40) dX11_level_5 rfl rfl ?_
  refine z_iload_n (i := 1) (x := a0) dX11_level_6 rfl rfl ?_
  refine z_cP (As := [.int a0]) (rest := [.ref 40]) (em_X11_isDye hl a0 D1) (fun o7 h => z_runS 394 1 h rfl kk_X11_394 kq_X11_isDye rfl (Nat.le_of_ble_eq_true rfl) ⟨Nat.le_of_ble_eq_true rfl, Nat.le_of_ble_eq_true rfl, Nat.le_of_ble_eq_true rfl, Nat.le_of_ble_eq_true rfl⟩ dX11_level_7) z_gWI (fun hz2 => ?_)
  refine z_iconst (v := 1) dX11_level_10 rfl ?_
  refine z_iconst (v := 0) dX11_level_11 rfl ?_
  refine z_cWI (As := [.ref 40, .int (F_X11_isDye a0), .int 1, .int 0]) (rest := []) (em_X11_may hl hW (F_X11_isDye a0) 1 0 D1) (fun o7 h => z_runV 198 3 h rfl kk_X11_198 hs40 kl_11.1 kq_X11_may rfl (Nat.le_of_ble_eq_true rfl) ⟨Nat.le_of_ble_eq_true rfl, Nat.le_of_ble_eq_true rfl, Nat.le_of_ble_eq_true rfl, Nat.le_of_ble_eq_true rfl⟩ dX11_level_12) z_gWI (fun a_4 hz3 => ?_)
  refine z_if_eq 34 dX11_level_15 (by decide) (fun c5 => ?_) (fun c5 => ?_)
  · refine z_iconst (v := 0) dX11_level_34 rfl ?_
    exact z_ireturn dX11_level_35 z_rWI rfl (by decide) (by decide)
  · refine z_aload_n (i := 0) (x := 40) dX11_level_18 rfl rfl ?_
    refine z_iload_n (i := 2) (x := a1) dX11_level_19 rfl rfl ?_
    refine z_iconst (v := 1) dX11_level_20 rfl ?_
    refine z_bipush (v := 99) dX11_level_21 (by decide) ?_
    refine z_cP (As := [.int a1, .int 1, .int 99]) (rest := [.ref 40]) (em_X11_within hl a1 1 99 a_4.2) (fun o7 h => z_runS 376 3 h rfl kk_X11_376 kq_X11_within rfl (Nat.le_of_ble_eq_true rfl) ⟨Nat.le_of_ble_eq_true rfl, Nat.le_of_ble_eq_true rfl, Nat.le_of_ble_eq_true rfl, Nat.le_of_ble_eq_true rfl⟩ dX11_level_23) z_gWI (fun hz6 => ?_)
    refine z_iconst (v := 2) dX11_level_26 rfl ?_
    refine z_iconst (v := 1) dX11_level_27 rfl ?_
    refine z_cWI (As := [.ref 40, .int (F_X11_within a1 1 99), .int 2, .int 1]) (rest := []) (em_X11_may hl hW (F_X11_within a1 1 99) 2 1 a_4.2) (fun o7 h => z_runV 198 3 h rfl kk_X11_198 hs40 kl_11.1 kq_X11_may rfl (Nat.le_of_ble_eq_true rfl) ⟨Nat.le_of_ble_eq_true rfl, Nat.le_of_ble_eq_true rfl, Nat.le_of_ble_eq_true rfl, Nat.le_of_ble_eq_true rfl⟩ dX11_level_28) z_gWI (fun a_8 hz7 => ?_)
    refine z_if_ne 36 dX11_level_31 (by decide) (fun c9 => ?_) (fun c9 => ?_)
    · refine z_iconst (v := 0) dX11_level_34 rfl ?_
      exact z_ireturn dX11_level_35 z_rWI rfl (by decide) (by decide)
    · refine z_aload_n (i := 0) (x := 40) dX11_level_36 rfl rfl ?_
      refine z_getR (j := 38) dX11_level_37 kl_11 hs40 (by decide) rfl rfl kf_X11_65 ?_
      refine z_bipush (v := 56) dX11_level_40 (by decide) ?_
      refine z_iload_n (i := 1) (x := a0) dX11_level_42 rfl rfl ?_
      refine z_iadd dX11_level_43 ?_
      refine z_iald dX11_level_44 hs57 ?_
      refine z_iload_n (i := 2) (x := a1) dX11_level_45 rfl rfl ?_
      refine z_idiv dX11_level_46 (fun c10 => ?_)
      refine z_topi (fun v11 => ?_)
      refine z_istore_n (i := 3) (x := v11) (lv' := [some (.ref 40), some (.int a0), some (.int a1), some (.int v11)]) dX11_level_47 rfl (by decide) rfl rfl ?_
      refine z_iload_n (i := 3) (x := v11) dX11_level_48 rfl rfl ?_
      refine z_bipush (v := 9) dX11_level_49 (by decide) ?_
      refine z_icmp_le 59 dX11_level_51 (by decide) (fun c12 => ?_) (fun c12 => ?_)
      · refine z_iload_n (i := 3) (x := v11) dX11_level_59 rfl rfl ?_
        exact z_ireturn dX11_level_60 z_rWI rfl (by decide) (by decide)
      · refine z_bipush (v := 9) dX11_level_54 (by decide) ?_
        refine z_goto 60 dX11_level_56 (by decide) ?_
        exact z_ireturn dX11_level_60 z_rWI rfl (by decide) (by decide)

def F_X11_least_L6 (a0 : Int64) (a1 : Int64) (a2 : Int32) (kc3 : ((Int64 × Int64) → Option Int64)) (v1 : Int64) (v2 : Int64) : Option Int64 :=
  if (lg_cmp v2 0) = 0 then (if a2 = 0 then (if v1 = 0 then none else (some (a0 / v1)))
  else (if v1 = 0 then none else (some (a1 / v1))))
  else (if v2 = 0 then none else (z_let (v1 - v1 / v2 * v2) (fun v9 => kc3 (v2, v9))))
def F_X11_least (N : Nat) (a0 : Int64) (a1 : Int64) (a2 : Int32) : Option Int64 :=
  z_loop (fun kc3 s => F_X11_least_L6 a0 a1 a2 kc3 s.1 s.2) N (a0, a1)
set_option maxRecDepth 100000 in
set_option maxHeartbeats 4000000 in
theorem em_X11_least {l : Launch} {S : List z_Shp} (hl : l.stackTraces = false) (N : Nat) (a0 : Int64) (a1 : Int64) (a2 : Int32) (D : z_Dat) : ∀ out, z_ko (z_kRJ S D) (F_X11_least N a0 a1 a2) out → z_EM l M_X11_least (20, 520, 0, 0) [.long a0, .long a1, .int a2] S D out := by
  refine z_meth hl rfl kp_X11 (Nat.le_of_ble_eq_true rfl) (lv := [some (.long a0), none, some (.long a1), none, some (.int a2), none, none, none, none, none, none]) rfl ?_
  unfold F_X11_least
  refine z_lload_n (i := 0) (x := a0) dX11_least_0 rfl rfl ?_
  refine z_lstore (i := 5) (x := a0) (lv' := [some (.long a0), none, some (.long a1), none, some (.int a2), some (.long a0), none, none, none, none, none]) dX11_least_1 (by decide) rfl rfl ?_
  refine z_lload_n (i := 2) (x := a1) dX11_least_3 rfl rfl ?_
  refine z_lstore (i := 7) (x := a1) (lv' := [some (.long a0), none, some (.long a1), none, some (.int a2), some (.long a0), none, some (.long a1), none, none, none]) dX11_least_4 (by decide) rfl rfl ?_
  refine z_loops (lvOf := fun s : Int64 × Int64 => [some (.long a0), none, some (.long a1), none, some (.int a2), some (.long s.1), none, some (.long s.2), none, none, none]) (dOf := fun s : Int64 × Int64 => D) (fun kc3 hkc3 s => ?_) N (a0, a1)
  obtain ⟨v1, v2⟩ := s
  show z_F _ _ _ _ _ 6 [some (.long a0), none, some (.long a1), none, some (.int a2), some (.long v1), none, some (.long v2), none, none, none] [] S D _ (F_X11_least_L6 a0 a1 a2 kc3 v1 v2)
  unfold F_X11_least_L6
  refine z_lload (i := 7) (x := v2) dX11_least_6 rfl ?_
  refine z_lconst (v := 0) dX11_least_8 rfl ?_
  refine z_lcmp dX11_least_9 ?_
  refine z_if_eq 31 dX11_least_10 (by decide) (fun c4 => ?_) (fun c4 => ?_)
  · refine z_iload (i := 4) (x := a2) dX11_least_31 rfl ?_
    refine z_if_ne 40 dX11_least_33 (by decide) (fun c5 => ?_) (fun c5 => ?_)
    · refine z_lload_n (i := 0) (x := a0) dX11_least_36 rfl rfl ?_
      refine z_goto 41 dX11_least_37 (by decide) ?_
      refine z_lload (i := 5) (x := v1) dX11_least_41 rfl ?_
      refine z_ldiv dX11_least_43 (fun c6 => ?_)
      exact z_lreturn dX11_least_44 z_rRJ trivial (by decide) (by decide)
    · refine z_lload_n (i := 2) (x := a1) dX11_least_40 rfl rfl ?_
      refine z_lload (i := 5) (x := v1) dX11_least_41 rfl ?_
      refine z_ldiv dX11_least_43 (fun c7 => ?_)
      exact z_lreturn dX11_least_44 z_rRJ trivial (by decide) (by decide)
  · refine z_lload (i := 5) (x := v1) dX11_least_13 rfl ?_
    refine z_lload (i := 7) (x := v2) dX11_least_15 rfl ?_
    refine z_lrem dX11_least_17 (fun c8 => ?_)
    refine z_topl (fun v9 => ?_)
    refine z_lstore (i := 9) (x := v9) (lv' := [some (.long a0), none, some (.long a1), none, some (.int a2), some (.long v1), none, some (.long v2), none, some (.long v9), none]) dX11_least_18 (by decide) rfl rfl ?_
    refine z_lload (i := 7) (x := v2) dX11_least_20 rfl ?_
    refine z_lstore (i := 5) (x := v2) (lv' := [some (.long a0), none, some (.long a1), none, some (.int a2), some (.long v2), none, some (.long v2), none, some (.long v9), none]) dX11_least_22 (by decide) rfl rfl ?_
    refine z_lload (i := 9) (x := v9) dX11_least_24 rfl ?_
    refine z_lstore (i := 7) (x := v9) (lv' := [some (.long a0), none, some (.long a1), none, some (.int a2), some (.long v2), none, some (.long v9), none, some (.long v9), none]) dX11_least_26 (by decide) rfl rfl ?_
    refine z_goto 6 dX11_least_28 (by decide) ?_
    refine z_weak (lv' := [some (.long a0), none, some (.long a1), none, some (.int a2), some (.long v2), none, some (.long v9), none, none, none]) ⟨Or.inr rfl, ⟨Or.inl rfl, ⟨Or.inr rfl, ⟨Or.inl rfl, ⟨Or.inr rfl, ⟨Or.inr rfl, ⟨Or.inl rfl, ⟨Or.inr rfl, ⟨Or.inl rfl, ⟨Or.inl rfl, ⟨Or.inl rfl, trivial⟩⟩⟩⟩⟩⟩⟩⟩⟩⟩⟩ ?_
    exact hkc3 (v2, v9)

def F_X11_night_L106 (kc15 : ((Int64 × Int32) → Option (Int64 × z_Dat))) (a0 : Int32) (a1 : Int32) (v13 : Int64) (v14 : Int32) (kc22 : ((Int32 × Int64 × Int32) → Option (Int64 × z_Dat))) (v19 : Int32) (v20 : Int64) (v21 : Int32) : Option (Int64 × z_Dat) :=
  if a0 ≤ v21 then (if (2 * v19) ≤ a0 then (z_let (v13 + 0) (fun v25 => z_let (v14 + 1) (fun v26 => kc15 (v25, v26))))
  else (z_let (v13 + v20) (fun v27 => z_let (v14 + 1) (fun v28 => kc15 (v27, v28)))))
  else (z_let (v19 + ((z_shr v14 v21) &&& 1)) (fun v29 => if ((z_shr v14 v21) &&& 1) = 1 then (z_let (v20 * a1.toInt64) (fun v31 => z_let (v21 + 1) (fun v32 => kc22 (v29, v31, v32))))
  else (z_let (v20 * ((16 - a1).toInt64)) (fun v33 => z_let (v21 + 1) (fun v34 => kc22 (v29, v33, v34))))))
def F_X11_night_L89 (N : Nat) (a0 : Int32) (a1 : Int32) (a2 : Int32) (a_7 : (Int32 × z_Dat)) (v9 : Int64) (kc15 : ((Int64 × Int32) → Option (Int64 × z_Dat))) (v13 : Int64) (v14 : Int32) : Option (Int64 × z_Dat) :=
  if (z_shl 1 a0) ≤ v14 then (z_bd (F_X11_least N v13 v9 a2) (fun a_18 => some (a_18, a_7.2)))
  else (z_loop (fun kc22 s => F_X11_night_L106 kc15 a0 a1 v13 v14 kc22 s.1 s.2.1 s.2.2) N (0, 1, 0))
def F_X11_night_L66 (N : Nat) (a0 : Int32) (a1 : Int32) (a2 : Int32) (a_7 : (Int32 × z_Dat)) (kc11 : ((Int64 × Int32) → Option (Int64 × z_Dat))) (v9 : Int64) (v10 : Int32) : Option (Int64 × z_Dat) :=
  if a0 ≤ v10 then (z_loop (fun kc15 s => F_X11_night_L89 N a0 a1 a2 a_7 v9 kc15 s.1 s.2) N (0, 0))
  else (z_let (v9 * 16) (fun v37 => z_let (v10 + 1) (fun v38 => kc11 (v37, v38))))
def F_X11_night_J47 (N : Nat) (a0 : Int32) (a1 : Int32) (a2 : Int32) (D5 : z_Dat) : Option (Int64 × z_Dat) :=
  z_bd (F_X11_may 0 1 1 D5) (fun a_7 => if a_7.1 = 0 then (some (0, a_7.2))
  else (z_loop (fun kc11 s => F_X11_night_L66 N a0 a1 a2 a_7 kc11 s.1 s.2) N (1, 0)))
def F_X11_night_J46 (N : Nat) (a0 : Int32) (a1 : Int32) (a2 : Int32) (D4 : z_Dat) : Option (Int64 × z_Dat) :=
  F_X11_night_J47 N a0 a1 a2 D4
def F_X11_night_L106x (kc55 : ((Int64 × Int32) → Option (Int64 × z_Dat))) (a0 : Int32) (a1 : Int32) (v53 : Int64) (v54 : Int32) (kc62 : ((Int32 × Int64 × Int32) → Option (Int64 × z_Dat))) (v59 : Int32) (v60 : Int64) (v61 : Int32) : Option (Int64 × z_Dat) :=
  if a0 ≤ v61 then (if (2 * v59) ≤ a0 then (z_let (v53 + 0) (fun v65 => z_let (v54 + 1) (fun v66 => kc55 (v65, v66))))
  else (z_let (v53 + v60) (fun v67 => z_let (v54 + 1) (fun v68 => kc55 (v67, v68)))))
  else (z_let (v59 + ((z_shr v54 v61) &&& 1)) (fun v69 => if ((z_shr v54 v61) &&& 1) = 1 then (z_let (v60 * a1.toInt64) (fun v71 => z_let (v61 + 1) (fun v72 => kc62 (v69, v71, v72))))
  else (z_let (v60 * ((16 - a1).toInt64)) (fun v73 => z_let (v61 + 1) (fun v74 => kc62 (v69, v73, v74))))))
def F_X11_night_L89x (N : Nat) (a0 : Int32) (a1 : Int32) (a2 : Int32) (a_47 : (Int32 × z_Dat)) (v49 : Int64) (kc55 : ((Int64 × Int32) → Option (Int64 × z_Dat))) (v53 : Int64) (v54 : Int32) : Option (Int64 × z_Dat) :=
  if (z_shl 1 a0) ≤ v54 then (z_bd (F_X11_least N v53 v49 a2) (fun a_58 => some (a_58, a_47.2)))
  else (z_loop (fun kc62 s => F_X11_night_L106x kc55 a0 a1 v53 v54 kc62 s.1 s.2.1 s.2.2) N (0, 1, 0))
def F_X11_night_L66x (N : Nat) (a0 : Int32) (a1 : Int32) (a2 : Int32) (a_47 : (Int32 × z_Dat)) (kc51 : ((Int64 × Int32) → Option (Int64 × z_Dat))) (v49 : Int64) (v50 : Int32) : Option (Int64 × z_Dat) :=
  if a0 ≤ v50 then (z_loop (fun kc55 s => F_X11_night_L89x N a0 a1 a2 a_47 v49 kc55 s.1 s.2) N (0, 0))
  else (z_let (v49 * 16) (fun v77 => z_let (v50 + 1) (fun v78 => kc51 (v77, v78))))
def F_X11_night_J47x (N : Nat) (a0 : Int32) (a1 : Int32) (a2 : Int32) (D45 : z_Dat) : Option (Int64 × z_Dat) :=
  z_bd (F_X11_may 1 1 1 D45) (fun a_47 => if a_47.1 = 0 then (some (0, a_47.2))
  else (z_loop (fun kc51 s => F_X11_night_L66x N a0 a1 a2 a_47 kc51 s.1 s.2) N (1, 0)))
def F_X11_night (N : Nat) (a0 : Int32) (a1 : Int32) (a2 : Int32) (D : z_Dat) : Option (Int64 × z_Dat) :=
  z_let (z_up D 40 0 0) (fun D1 => if (F_X11_within a0 1 9) = 0 then (F_X11_night_J46 N a0 a1 a2 D1)
  else (if (z_rem a0 2) = 1 then (if (F_X11_within a1 0 16) = 0 then (F_X11_night_J46 N a0 a1 a2 D1)
  else (if (F_X11_within a2 0 1) = 0 then (F_X11_night_J46 N a0 a1 a2 D1)
  else (F_X11_night_J47x N a0 a1 a2 D1)))
  else (F_X11_night_J46 N a0 a1 a2 D1)))
set_option maxRecDepth 100000 in
set_option maxHeartbeats 4000000 in
theorem em_X11_night {l : Launch} {S : List z_Shp} {oW : Nat} (hl : l.stackTraces = false) (hW : z_W S oW) (N : Nat) (a0 : Int32) (a1 : Int32) (a2 : Int32) (D : z_Dat) : ∀ out, z_ko (z_kJ S) (F_X11_night N a0 a1 a2 D) out → z_EM l M_X11_night (30, 580, 0, 0) [.ref 40, .int a0, .int a1, .int a2] S D out := by
  have hs40 : S[40]? = some (13, 55, [none, some (some 41), none, none, none, none, none, none, none, some (some 42), some (some 43), some (some 44), some (some 45), some (some 46), some (some 47), some (some 48), none, none, none, none, none, none, some (some 49), some (some 50), some (some 51), some (some 52), some (some 53), none, none, some (some 54), some (some 55), some (some 56), none, none, none, none, none, none, some (some 57), some (some 58), some (some 59), some (some 60), some (some 61), none, some (some 62), some (some 63), none, none, some (some 64), some (some 65), none, none, none, some (some 66), none]) := hW.1 40 _ rfl
  refine z_meth hl rfl kp_X11 (Nat.le_of_ble_eq_true rfl) (lv := [some (.ref 40), some (.int a0), some (.int a1), some (.int a2), none, none, none, none, none, none, none, none, none]) rfl ?_
  unfold F_X11_night
  have hJ_F_X11_night_J47 : ∀ (D5 : z_Dat) , z_F l M_X11_night (30, 580, 0, 0) 0 0 47 [none, some (.int a0), some (.int a1), some (.int a2), none, none, none, none, none, none, none, none, none] [.int 0, .ref 40] S D5 (z_ko (z_kJ S)) (F_X11_night_J47 N a0 a1 a2 D5) := by
    intro D5
    unfold F_X11_night_J47
    refine z_iconst (v := 1) dX11_night_47 rfl ?_
    refine z_iconst (v := 1) dX11_night_48 rfl ?_
    refine z_cWI (As := [.ref 40, .int 0, .int 1, .int 1]) (rest := []) (em_X11_may hl hW 0 1 1 D5) (fun o7 h => z_runV 198 3 h rfl kk_X11_198 hs40 kl_11.1 kq_X11_may rfl (Nat.le_of_ble_eq_true rfl) ⟨Nat.le_of_ble_eq_true rfl, Nat.le_of_ble_eq_true rfl, Nat.le_of_ble_eq_true rfl, Nat.le_of_ble_eq_true rfl⟩ dX11_night_49) z_gWJ (fun a_7 hz6 => ?_)
    refine z_if_ne 57 dX11_night_52 (by decide) (fun c8 => ?_) (fun c8 => ?_)
    · refine z_lconst (v := 0) dX11_night_55 rfl ?_
      exact z_lreturn dX11_night_56 z_rWJ trivial (by decide) (by decide)
    · refine z_lconst (v := 0) dX11_night_57 rfl ?_
      refine z_lstore (i := 4) (x := 0) (lv' := [none, some (.int a0), some (.int a1), some (.int a2), some (.long 0), none, none, none, none, none, none, none, none]) dX11_night_58 (by decide) rfl rfl ?_
      refine z_lconst (v := 1) dX11_night_60 rfl ?_
      refine z_lstore (i := 6) (x := 1) (lv' := [none, some (.int a0), some (.int a1), some (.int a2), some (.long 0), none, some (.long 1), none, none, none, none, none, none]) dX11_night_61 (by decide) rfl rfl ?_
      refine z_iconst (v := 0) dX11_night_63 rfl ?_
      refine z_istore (i := 8) (x := 0) (lv' := [none, some (.int a0), some (.int a1), some (.int a2), some (.long 0), none, some (.long 1), none, some (.int 0), none, none, none, none]) dX11_night_64 (by decide) rfl rfl ?_
      refine z_loops (lvOf := fun s : Int64 × Int32 => [none, some (.int a0), some (.int a1), some (.int a2), some (.long 0), none, some (.long s.1), none, some (.int s.2), none, none, none, none]) (dOf := fun s : Int64 × Int32 => a_7.2) (fun kc11 hkc11 s => ?_) N (1, 0)
      obtain ⟨v9, v10⟩ := s
      show z_F _ _ _ _ _ 66 [none, some (.int a0), some (.int a1), some (.int a2), some (.long 0), none, some (.long v9), none, some (.int v10), none, none, none, none] [] S a_7.2 _ (F_X11_night_L66 N a0 a1 a2 a_7 kc11 v9 v10)
      unfold F_X11_night_L66
      refine z_iload (i := 8) (x := v10) dX11_night_66 rfl ?_
      refine z_iload_n (i := 1) (x := a0) dX11_night_68 rfl rfl ?_
      refine z_icmp_ge 86 dX11_night_69 (by decide) (fun c12 => ?_) (fun c12 => ?_)
      · refine z_iconst (v := 0) dX11_night_86 rfl ?_
        refine z_istore (i := 8) (x := 0) (lv' := [none, some (.int a0), some (.int a1), some (.int a2), some (.long 0), none, some (.long v9), none, some (.int 0), none, none, none, none]) dX11_night_87 (by decide) rfl rfl ?_
        refine z_loops (lvOf := fun s : Int64 × Int32 => [none, some (.int a0), some (.int a1), some (.int a2), some (.long s.1), none, some (.long v9), none, some (.int s.2), none, none, none, none]) (dOf := fun s : Int64 × Int32 => a_7.2) (fun kc15 hkc15 s => ?_) N (0, 0)
        obtain ⟨v13, v14⟩ := s
        show z_F _ _ _ _ _ 89 [none, some (.int a0), some (.int a1), some (.int a2), some (.long v13), none, some (.long v9), none, some (.int v14), none, none, none, none] [] S a_7.2 _ (F_X11_night_L89 N a0 a1 a2 a_7 v9 kc15 v13 v14)
        unfold F_X11_night_L89
        refine z_iload (i := 8) (x := v14) dX11_night_89 rfl ?_
        refine z_iconst (v := 1) dX11_night_91 rfl ?_
        refine z_iload_n (i := 1) (x := a0) dX11_night_92 rfl rfl ?_
        refine z_ishl dX11_night_93 ?_
        refine z_icmp_ge 181 dX11_night_94 (by decide) (fun c16 => ?_) (fun c16 => ?_)
        · refine z_lload (i := 4) (x := v13) dX11_night_181 rfl ?_
          refine z_lload (i := 6) (x := v9) dX11_night_183 rfl ?_
          refine z_iload_n (i := 3) (x := a2) dX11_night_185 rfl rfl ?_
          refine z_cRJ (As := [.long v13, .long v9, .int a2]) (rest := []) (em_X11_least hl N v13 v9 a2 a_7.2) (fun o7 h => z_runS 439 3 h rfl kk_X11_439 kq_X11_least rfl (Nat.le_of_ble_eq_true rfl) ⟨Nat.le_of_ble_eq_true rfl, Nat.le_of_ble_eq_true rfl, Nat.le_of_ble_eq_true rfl, Nat.le_of_ble_eq_true rfl⟩ dX11_night_186) z_gWJ (fun a_18 hz17 => ?_)
          exact z_lreturn dX11_night_189 z_rWJ trivial (by decide) (by decide)
        · refine z_iconst (v := 0) dX11_night_97 rfl ?_
          refine z_istore (i := 9) (x := 0) (lv' := [none, some (.int a0), some (.int a1), some (.int a2), some (.long v13), none, some (.long v9), none, some (.int v14), some (.int 0), none, none, none]) dX11_night_98 (by decide) rfl rfl ?_
          refine z_lconst (v := 1) dX11_night_100 rfl ?_
          refine z_lstore (i := 10) (x := 1) (lv' := [none, some (.int a0), some (.int a1), some (.int a2), some (.long v13), none, some (.long v9), none, some (.int v14), some (.int 0), some (.long 1), none, none]) dX11_night_101 (by decide) rfl rfl ?_
          refine z_iconst (v := 0) dX11_night_103 rfl ?_
          refine z_istore (i := 12) (x := 0) (lv' := [none, some (.int a0), some (.int a1), some (.int a2), some (.long v13), none, some (.long v9), none, some (.int v14), some (.int 0), some (.long 1), none, some (.int 0)]) dX11_night_104 (by decide) rfl rfl ?_
          refine z_loops (lvOf := fun s : Int32 × Int64 × Int32 => [none, some (.int a0), some (.int a1), some (.int a2), some (.long v13), none, some (.long v9), none, some (.int v14), some (.int s.1), some (.long s.2.1), none, some (.int s.2.2)]) (dOf := fun s : Int32 × Int64 × Int32 => a_7.2) (fun kc22 hkc22 s => ?_) N (0, 1, 0)
          obtain ⟨v19, v20, v21⟩ := s
          show z_F _ _ _ _ _ 106 [none, some (.int a0), some (.int a1), some (.int a2), some (.long v13), none, some (.long v9), none, some (.int v14), some (.int v19), some (.long v20), none, some (.int v21)] [] S a_7.2 _ (F_X11_night_L106 kc15 a0 a1 v13 v14 kc22 v19 v20 v21)
          unfold F_X11_night_L106
          refine z_iload (i := 12) (x := v21) dX11_night_106 rfl ?_
          refine z_iload_n (i := 1) (x := a0) dX11_night_108 rfl rfl ?_
          refine z_icmp_ge 156 dX11_night_109 (by decide) (fun c23 => ?_) (fun c23 => ?_)
          · refine z_lload (i := 4) (x := v13) dX11_night_156 rfl ?_
            refine z_iconst (v := 2) dX11_night_158 rfl ?_
            refine z_iload (i := 9) (x := v19) dX11_night_159 rfl ?_
            refine z_imul dX11_night_161 ?_
            refine z_iload_n (i := 1) (x := a0) dX11_night_162 rfl rfl ?_
            refine z_icmp_le 171 dX11_night_163 (by decide) (fun c24 => ?_) (fun c24 => ?_)
            · refine z_lconst (v := 0) dX11_night_171 rfl ?_
              refine z_ladd dX11_night_172 ?_
              refine z_topl (fun v25 => ?_)
              refine z_lstore (i := 4) (x := v25) (lv' := [none, some (.int a0), some (.int a1), some (.int a2), some (.long v25), none, some (.long v9), none, some (.int v14), some (.int v19), some (.long v20), none, some (.int v21)]) dX11_night_173 (by decide) rfl rfl ?_
              refine z_iinc (i := 8) (x := v14) (y := 1) dX11_night_175 rfl (by decide) (by decide) rfl (fun v26 => ?_)
              refine z_goto 89 dX11_night_178 (by decide) ?_
              refine z_weak (lv' := [none, some (.int a0), some (.int a1), some (.int a2), some (.long v25), none, some (.long v9), none, some (.int v26), none, none, none, none]) ⟨Or.inl rfl, ⟨Or.inr rfl, ⟨Or.inr rfl, ⟨Or.inr rfl, ⟨Or.inr rfl, ⟨Or.inl rfl, ⟨Or.inr rfl, ⟨Or.inl rfl, ⟨Or.inr rfl, ⟨Or.inl rfl, ⟨Or.inl rfl, ⟨Or.inl rfl, ⟨Or.inl rfl, trivial⟩⟩⟩⟩⟩⟩⟩⟩⟩⟩⟩⟩⟩ ?_
              exact hkc15 (v25, v26)
            · refine z_lload (i := 10) (x := v20) dX11_night_166 rfl ?_
              refine z_goto 172 dX11_night_168 (by decide) ?_
              refine z_ladd dX11_night_172 ?_
              refine z_topl (fun v27 => ?_)
              refine z_lstore (i := 4) (x := v27) (lv' := [none, some (.int a0), some (.int a1), some (.int a2), some (.long v27), none, some (.long v9), none, some (.int v14), some (.int v19), some (.long v20), none, some (.int v21)]) dX11_night_173 (by decide) rfl rfl ?_
              refine z_iinc (i := 8) (x := v14) (y := 1) dX11_night_175 rfl (by decide) (by decide) rfl (fun v28 => ?_)
              refine z_goto 89 dX11_night_178 (by decide) ?_
              refine z_weak (lv' := [none, some (.int a0), some (.int a1), some (.int a2), some (.long v27), none, some (.long v9), none, some (.int v28), none, none, none, none]) ⟨Or.inl rfl, ⟨Or.inr rfl, ⟨Or.inr rfl, ⟨Or.inr rfl, ⟨Or.inr rfl, ⟨Or.inl rfl, ⟨Or.inr rfl, ⟨Or.inl rfl, ⟨Or.inr rfl, ⟨Or.inl rfl, ⟨Or.inl rfl, ⟨Or.inl rfl, ⟨Or.inl rfl, trivial⟩⟩⟩⟩⟩⟩⟩⟩⟩⟩⟩⟩⟩ ?_
              exact hkc15 (v27, v28)
          · refine z_iload (i := 9) (x := v19) dX11_night_112 rfl ?_
            refine z_iload (i := 8) (x := v14) dX11_night_114 rfl ?_
            refine z_iload (i := 12) (x := v21) dX11_night_116 rfl ?_
            refine z_ishr dX11_night_118 ?_
            refine z_iconst (v := 1) dX11_night_119 rfl ?_
            refine z_iand dX11_night_120 ?_
            refine z_iadd dX11_night_121 ?_
            refine z_topi (fun v29 => ?_)
            refine z_istore (i := 9) (x := v29) (lv' := [none, some (.int a0), some (.int a1), some (.int a2), some (.long v13), none, some (.long v9), none, some (.int v14), some (.int v29), some (.long v20), none, some (.int v21)]) dX11_night_122 (by decide) rfl rfl ?_
            refine z_lload (i := 10) (x := v20) dX11_night_124 rfl ?_
            refine z_iload (i := 8) (x := v14) dX11_night_126 rfl ?_
            refine z_iload (i := 12) (x := v21) dX11_night_128 rfl ?_
            refine z_ishr dX11_night_130 ?_
            refine z_iconst (v := 1) dX11_night_131 rfl ?_
            refine z_iand dX11_night_132 ?_
            refine z_iconst (v := 1) dX11_night_133 rfl ?_
            refine z_icmp_ne 142 dX11_night_134 (by decide) (fun c30 => ?_) (fun c30 => ?_)
            · refine z_iload_n (i := 2) (x := a1) dX11_night_137 rfl rfl ?_
              refine z_i2l dX11_night_138 ?_
              refine z_goto 147 dX11_night_139 (by decide) ?_
              refine z_lmul dX11_night_147 ?_
              refine z_topl (fun v31 => ?_)
              refine z_lstore (i := 10) (x := v31) (lv' := [none, some (.int a0), some (.int a1), some (.int a2), some (.long v13), none, some (.long v9), none, some (.int v14), some (.int v29), some (.long v31), none, some (.int v21)]) dX11_night_148 (by decide) rfl rfl ?_
              refine z_iinc (i := 12) (x := v21) (y := 1) dX11_night_150 rfl (by decide) (by decide) rfl (fun v32 => ?_)
              refine z_goto 106 dX11_night_153 (by decide) ?_
              exact hkc22 (v29, v31, v32)
            · refine z_bipush (v := 16) dX11_night_142 (by decide) ?_
              refine z_iload_n (i := 2) (x := a1) dX11_night_144 rfl rfl ?_
              refine z_isub dX11_night_145 ?_
              refine z_i2l dX11_night_146 ?_
              refine z_lmul dX11_night_147 ?_
              refine z_topl (fun v33 => ?_)
              refine z_lstore (i := 10) (x := v33) (lv' := [none, some (.int a0), some (.int a1), some (.int a2), some (.long v13), none, some (.long v9), none, some (.int v14), some (.int v29), some (.long v33), none, some (.int v21)]) dX11_night_148 (by decide) rfl rfl ?_
              refine z_iinc (i := 12) (x := v21) (y := 1) dX11_night_150 rfl (by decide) (by decide) rfl (fun v34 => ?_)
              refine z_goto 106 dX11_night_153 (by decide) ?_
              exact hkc22 (v29, v33, v34)
      · refine z_lload (i := 6) (x := v9) dX11_night_72 rfl ?_
        refine z_ldc2 (v := 16) dX11_night_74 kd_X11_437 ?_
        refine z_lmul dX11_night_77 ?_
        refine z_topl (fun v37 => ?_)
        refine z_lstore (i := 6) (x := v37) (lv' := [none, some (.int a0), some (.int a1), some (.int a2), some (.long 0), none, some (.long v37), none, some (.int v10), none, none, none, none]) dX11_night_78 (by decide) rfl rfl ?_
        refine z_iinc (i := 8) (x := v10) (y := 1) dX11_night_80 rfl (by decide) (by decide) rfl (fun v38 => ?_)
        refine z_goto 66 dX11_night_83 (by decide) ?_
        exact hkc11 (v37, v38)
  have hJ_F_X11_night_J46 : ∀ (D4 : z_Dat) , z_F l M_X11_night (30, 580, 0, 0) 0 0 46 [none, some (.int a0), some (.int a1), some (.int a2), none, none, none, none, none, none, none, none, none] [.ref 40] S D4 (z_ko (z_kJ S)) (F_X11_night_J46 N a0 a1 a2 D4) := by
    intro D4
    unfold F_X11_night_J46
    refine z_iconst (v := 0) dX11_night_46 rfl ?_
    exact hJ_F_X11_night_J47 D4
  have hJ_F_X11_night_J47x : ∀ (D45 : z_Dat) , z_F l M_X11_night (30, 580, 0, 0) 0 0 47 [none, some (.int a0), some (.int a1), some (.int a2), none, none, none, none, none, none, none, none, none] [.int 1, .ref 40] S D45 (z_ko (z_kJ S)) (F_X11_night_J47x N a0 a1 a2 D45) := by
    intro D45
    unfold F_X11_night_J47x
    refine z_iconst (v := 1) dX11_night_47 rfl ?_
    refine z_iconst (v := 1) dX11_night_48 rfl ?_
    refine z_cWI (As := [.ref 40, .int 1, .int 1, .int 1]) (rest := []) (em_X11_may hl hW 1 1 1 D45) (fun o7 h => z_runV 198 3 h rfl kk_X11_198 hs40 kl_11.1 kq_X11_may rfl (Nat.le_of_ble_eq_true rfl) ⟨Nat.le_of_ble_eq_true rfl, Nat.le_of_ble_eq_true rfl, Nat.le_of_ble_eq_true rfl, Nat.le_of_ble_eq_true rfl⟩ dX11_night_49) z_gWJ (fun a_47 hz46 => ?_)
    refine z_if_ne 57 dX11_night_52 (by decide) (fun c48 => ?_) (fun c48 => ?_)
    · refine z_lconst (v := 0) dX11_night_55 rfl ?_
      exact z_lreturn dX11_night_56 z_rWJ trivial (by decide) (by decide)
    · refine z_lconst (v := 0) dX11_night_57 rfl ?_
      refine z_lstore (i := 4) (x := 0) (lv' := [none, some (.int a0), some (.int a1), some (.int a2), some (.long 0), none, none, none, none, none, none, none, none]) dX11_night_58 (by decide) rfl rfl ?_
      refine z_lconst (v := 1) dX11_night_60 rfl ?_
      refine z_lstore (i := 6) (x := 1) (lv' := [none, some (.int a0), some (.int a1), some (.int a2), some (.long 0), none, some (.long 1), none, none, none, none, none, none]) dX11_night_61 (by decide) rfl rfl ?_
      refine z_iconst (v := 0) dX11_night_63 rfl ?_
      refine z_istore (i := 8) (x := 0) (lv' := [none, some (.int a0), some (.int a1), some (.int a2), some (.long 0), none, some (.long 1), none, some (.int 0), none, none, none, none]) dX11_night_64 (by decide) rfl rfl ?_
      refine z_loops (lvOf := fun s : Int64 × Int32 => [none, some (.int a0), some (.int a1), some (.int a2), some (.long 0), none, some (.long s.1), none, some (.int s.2), none, none, none, none]) (dOf := fun s : Int64 × Int32 => a_47.2) (fun kc51 hkc51 s => ?_) N (1, 0)
      obtain ⟨v49, v50⟩ := s
      show z_F _ _ _ _ _ 66 [none, some (.int a0), some (.int a1), some (.int a2), some (.long 0), none, some (.long v49), none, some (.int v50), none, none, none, none] [] S a_47.2 _ (F_X11_night_L66x N a0 a1 a2 a_47 kc51 v49 v50)
      unfold F_X11_night_L66x
      refine z_iload (i := 8) (x := v50) dX11_night_66 rfl ?_
      refine z_iload_n (i := 1) (x := a0) dX11_night_68 rfl rfl ?_
      refine z_icmp_ge 86 dX11_night_69 (by decide) (fun c52 => ?_) (fun c52 => ?_)
      · refine z_iconst (v := 0) dX11_night_86 rfl ?_
        refine z_istore (i := 8) (x := 0) (lv' := [none, some (.int a0), some (.int a1), some (.int a2), some (.long 0), none, some (.long v49), none, some (.int 0), none, none, none, none]) dX11_night_87 (by decide) rfl rfl ?_
        refine z_loops (lvOf := fun s : Int64 × Int32 => [none, some (.int a0), some (.int a1), some (.int a2), some (.long s.1), none, some (.long v49), none, some (.int s.2), none, none, none, none]) (dOf := fun s : Int64 × Int32 => a_47.2) (fun kc55 hkc55 s => ?_) N (0, 0)
        obtain ⟨v53, v54⟩ := s
        show z_F _ _ _ _ _ 89 [none, some (.int a0), some (.int a1), some (.int a2), some (.long v53), none, some (.long v49), none, some (.int v54), none, none, none, none] [] S a_47.2 _ (F_X11_night_L89x N a0 a1 a2 a_47 v49 kc55 v53 v54)
        unfold F_X11_night_L89x
        refine z_iload (i := 8) (x := v54) dX11_night_89 rfl ?_
        refine z_iconst (v := 1) dX11_night_91 rfl ?_
        refine z_iload_n (i := 1) (x := a0) dX11_night_92 rfl rfl ?_
        refine z_ishl dX11_night_93 ?_
        refine z_icmp_ge 181 dX11_night_94 (by decide) (fun c56 => ?_) (fun c56 => ?_)
        · refine z_lload (i := 4) (x := v53) dX11_night_181 rfl ?_
          refine z_lload (i := 6) (x := v49) dX11_night_183 rfl ?_
          refine z_iload_n (i := 3) (x := a2) dX11_night_185 rfl rfl ?_
          refine z_cRJ (As := [.long v53, .long v49, .int a2]) (rest := []) (em_X11_least hl N v53 v49 a2 a_47.2) (fun o7 h => z_runS 439 3 h rfl kk_X11_439 kq_X11_least rfl (Nat.le_of_ble_eq_true rfl) ⟨Nat.le_of_ble_eq_true rfl, Nat.le_of_ble_eq_true rfl, Nat.le_of_ble_eq_true rfl, Nat.le_of_ble_eq_true rfl⟩ dX11_night_186) z_gWJ (fun a_58 hz57 => ?_)
          exact z_lreturn dX11_night_189 z_rWJ trivial (by decide) (by decide)
        · refine z_iconst (v := 0) dX11_night_97 rfl ?_
          refine z_istore (i := 9) (x := 0) (lv' := [none, some (.int a0), some (.int a1), some (.int a2), some (.long v53), none, some (.long v49), none, some (.int v54), some (.int 0), none, none, none]) dX11_night_98 (by decide) rfl rfl ?_
          refine z_lconst (v := 1) dX11_night_100 rfl ?_
          refine z_lstore (i := 10) (x := 1) (lv' := [none, some (.int a0), some (.int a1), some (.int a2), some (.long v53), none, some (.long v49), none, some (.int v54), some (.int 0), some (.long 1), none, none]) dX11_night_101 (by decide) rfl rfl ?_
          refine z_iconst (v := 0) dX11_night_103 rfl ?_
          refine z_istore (i := 12) (x := 0) (lv' := [none, some (.int a0), some (.int a1), some (.int a2), some (.long v53), none, some (.long v49), none, some (.int v54), some (.int 0), some (.long 1), none, some (.int 0)]) dX11_night_104 (by decide) rfl rfl ?_
          refine z_loops (lvOf := fun s : Int32 × Int64 × Int32 => [none, some (.int a0), some (.int a1), some (.int a2), some (.long v53), none, some (.long v49), none, some (.int v54), some (.int s.1), some (.long s.2.1), none, some (.int s.2.2)]) (dOf := fun s : Int32 × Int64 × Int32 => a_47.2) (fun kc62 hkc62 s => ?_) N (0, 1, 0)
          obtain ⟨v59, v60, v61⟩ := s
          show z_F _ _ _ _ _ 106 [none, some (.int a0), some (.int a1), some (.int a2), some (.long v53), none, some (.long v49), none, some (.int v54), some (.int v59), some (.long v60), none, some (.int v61)] [] S a_47.2 _ (F_X11_night_L106x kc55 a0 a1 v53 v54 kc62 v59 v60 v61)
          unfold F_X11_night_L106x
          refine z_iload (i := 12) (x := v61) dX11_night_106 rfl ?_
          refine z_iload_n (i := 1) (x := a0) dX11_night_108 rfl rfl ?_
          refine z_icmp_ge 156 dX11_night_109 (by decide) (fun c63 => ?_) (fun c63 => ?_)
          · refine z_lload (i := 4) (x := v53) dX11_night_156 rfl ?_
            refine z_iconst (v := 2) dX11_night_158 rfl ?_
            refine z_iload (i := 9) (x := v59) dX11_night_159 rfl ?_
            refine z_imul dX11_night_161 ?_
            refine z_iload_n (i := 1) (x := a0) dX11_night_162 rfl rfl ?_
            refine z_icmp_le 171 dX11_night_163 (by decide) (fun c64 => ?_) (fun c64 => ?_)
            · refine z_lconst (v := 0) dX11_night_171 rfl ?_
              refine z_ladd dX11_night_172 ?_
              refine z_topl (fun v65 => ?_)
              refine z_lstore (i := 4) (x := v65) (lv' := [none, some (.int a0), some (.int a1), some (.int a2), some (.long v65), none, some (.long v49), none, some (.int v54), some (.int v59), some (.long v60), none, some (.int v61)]) dX11_night_173 (by decide) rfl rfl ?_
              refine z_iinc (i := 8) (x := v54) (y := 1) dX11_night_175 rfl (by decide) (by decide) rfl (fun v66 => ?_)
              refine z_goto 89 dX11_night_178 (by decide) ?_
              refine z_weak (lv' := [none, some (.int a0), some (.int a1), some (.int a2), some (.long v65), none, some (.long v49), none, some (.int v66), none, none, none, none]) ⟨Or.inl rfl, ⟨Or.inr rfl, ⟨Or.inr rfl, ⟨Or.inr rfl, ⟨Or.inr rfl, ⟨Or.inl rfl, ⟨Or.inr rfl, ⟨Or.inl rfl, ⟨Or.inr rfl, ⟨Or.inl rfl, ⟨Or.inl rfl, ⟨Or.inl rfl, ⟨Or.inl rfl, trivial⟩⟩⟩⟩⟩⟩⟩⟩⟩⟩⟩⟩⟩ ?_
              exact hkc55 (v65, v66)
            · refine z_lload (i := 10) (x := v60) dX11_night_166 rfl ?_
              refine z_goto 172 dX11_night_168 (by decide) ?_
              refine z_ladd dX11_night_172 ?_
              refine z_topl (fun v67 => ?_)
              refine z_lstore (i := 4) (x := v67) (lv' := [none, some (.int a0), some (.int a1), some (.int a2), some (.long v67), none, some (.long v49), none, some (.int v54), some (.int v59), some (.long v60), none, some (.int v61)]) dX11_night_173 (by decide) rfl rfl ?_
              refine z_iinc (i := 8) (x := v54) (y := 1) dX11_night_175 rfl (by decide) (by decide) rfl (fun v68 => ?_)
              refine z_goto 89 dX11_night_178 (by decide) ?_
              refine z_weak (lv' := [none, some (.int a0), some (.int a1), some (.int a2), some (.long v67), none, some (.long v49), none, some (.int v68), none, none, none, none]) ⟨Or.inl rfl, ⟨Or.inr rfl, ⟨Or.inr rfl, ⟨Or.inr rfl, ⟨Or.inr rfl, ⟨Or.inl rfl, ⟨Or.inr rfl, ⟨Or.inl rfl, ⟨Or.inr rfl, ⟨Or.inl rfl, ⟨Or.inl rfl, ⟨Or.inl rfl, ⟨Or.inl rfl, trivial⟩⟩⟩⟩⟩⟩⟩⟩⟩⟩⟩⟩⟩ ?_
              exact hkc55 (v67, v68)
          · refine z_iload (i := 9) (x := v59) dX11_night_112 rfl ?_
            refine z_iload (i := 8) (x := v54) dX11_night_114 rfl ?_
            refine z_iload (i := 12) (x := v61) dX11_night_116 rfl ?_
            refine z_ishr dX11_night_118 ?_
            refine z_iconst (v := 1) dX11_night_119 rfl ?_
            refine z_iand dX11_night_120 ?_
            refine z_iadd dX11_night_121 ?_
            refine z_topi (fun v69 => ?_)
            refine z_istore (i := 9) (x := v69) (lv' := [none, some (.int a0), some (.int a1), some (.int a2), some (.long v53), none, some (.long v49), none, some (.int v54), some (.int v69), some (.long v60), none, some (.int v61)]) dX11_night_122 (by decide) rfl rfl ?_
            refine z_lload (i := 10) (x := v60) dX11_night_124 rfl ?_
            refine z_iload (i := 8) (x := v54) dX11_night_126 rfl ?_
            refine z_iload (i := 12) (x := v61) dX11_night_128 rfl ?_
            refine z_ishr dX11_night_130 ?_
            refine z_iconst (v := 1) dX11_night_131 rfl ?_
            refine z_iand dX11_night_132 ?_
            refine z_iconst (v := 1) dX11_night_133 rfl ?_
            refine z_icmp_ne 142 dX11_night_134 (by decide) (fun c70 => ?_) (fun c70 => ?_)
            · refine z_iload_n (i := 2) (x := a1) dX11_night_137 rfl rfl ?_
              refine z_i2l dX11_night_138 ?_
              refine z_goto 147 dX11_night_139 (by decide) ?_
              refine z_lmul dX11_night_147 ?_
              refine z_topl (fun v71 => ?_)
              refine z_lstore (i := 10) (x := v71) (lv' := [none, some (.int a0), some (.int a1), some (.int a2), some (.long v53), none, some (.long v49), none, some (.int v54), some (.int v69), some (.long v71), none, some (.int v61)]) dX11_night_148 (by decide) rfl rfl ?_
              refine z_iinc (i := 12) (x := v61) (y := 1) dX11_night_150 rfl (by decide) (by decide) rfl (fun v72 => ?_)
              refine z_goto 106 dX11_night_153 (by decide) ?_
              exact hkc62 (v69, v71, v72)
            · refine z_bipush (v := 16) dX11_night_142 (by decide) ?_
              refine z_iload_n (i := 2) (x := a1) dX11_night_144 rfl rfl ?_
              refine z_isub dX11_night_145 ?_
              refine z_i2l dX11_night_146 ?_
              refine z_lmul dX11_night_147 ?_
              refine z_topl (fun v73 => ?_)
              refine z_lstore (i := 10) (x := v73) (lv' := [none, some (.int a0), some (.int a1), some (.int a2), some (.long v53), none, some (.long v49), none, some (.int v54), some (.int v69), some (.long v73), none, some (.int v61)]) dX11_night_148 (by decide) rfl rfl ?_
              refine z_iinc (i := 12) (x := v61) (y := 1) dX11_night_150 rfl (by decide) (by decide) rfl (fun v74 => ?_)
              refine z_goto 106 dX11_night_153 (by decide) ?_
              exact hkc62 (v69, v73, v74)
      · refine z_lload (i := 6) (x := v49) dX11_night_72 rfl ?_
        refine z_ldc2 (v := 16) dX11_night_74 kd_X11_437 ?_
        refine z_lmul dX11_night_77 ?_
        refine z_topl (fun v77 => ?_)
        refine z_lstore (i := 6) (x := v77) (lv' := [none, some (.int a0), some (.int a1), some (.int a2), some (.long 0), none, some (.long v77), none, some (.int v50), none, none, none, none]) dX11_night_78 (by decide) rfl rfl ?_
        refine z_iinc (i := 8) (x := v50) (y := 1) dX11_night_80 rfl (by decide) (by decide) rfl (fun v78 => ?_)
        refine z_goto 66 dX11_night_83 (by decide) ?_
        exact hkc51 (v77, v78)
  refine z_aload_n (i := 0) (x := 40) dX11_night_0 rfl rfl ?_
  refine z_iconst (v := 0) dX11_night_1 rfl ?_
  refine z_putI (j := 0) dX11_night_2 kl_11 tyX11_ok nmX11 hs40 (by decide) rfl rfl rfl rfl rfl rfl kf_X11_3 (fun D1 => ?_)
  refine z_aload_n (i := 0) (x := 40) dX11_night_5 rfl rfl ?_
  refine z_iload_n (i := 1) (x := a0) dX11_night_6 rfl rfl ?_
  refine z_iconst (v := 1) dX11_night_7 rfl ?_
  refine z_bipush (v := 9) dX11_night_8 (by decide) ?_
  refine z_cP (As := [.int a0, .int 1, .int 9]) (rest := [.ref 40]) (em_X11_within hl a0 1 9 D1) (fun o7 h => z_runS 376 3 h rfl kk_X11_376 kq_X11_within rfl (Nat.le_of_ble_eq_true rfl) ⟨Nat.le_of_ble_eq_true rfl, Nat.le_of_ble_eq_true rfl, Nat.le_of_ble_eq_true rfl, Nat.le_of_ble_eq_true rfl⟩ dX11_night_10) z_gWJ (fun hz2 => ?_)
  refine z_if_eq 46 dX11_night_13 (by decide) (fun c3 => ?_) (fun c3 => ?_)
  · refine z_weak (lv' := [none, some (.int a0), some (.int a1), some (.int a2), none, none, none, none, none, none, none, none, none]) ⟨Or.inl rfl, ⟨Or.inr rfl, ⟨Or.inr rfl, ⟨Or.inr rfl, ⟨Or.inl rfl, ⟨Or.inl rfl, ⟨Or.inl rfl, ⟨Or.inl rfl, ⟨Or.inl rfl, ⟨Or.inl rfl, ⟨Or.inl rfl, ⟨Or.inl rfl, ⟨Or.inl rfl, trivial⟩⟩⟩⟩⟩⟩⟩⟩⟩⟩⟩⟩⟩ ?_
    exact hJ_F_X11_night_J46 D1
  · refine z_iload_n (i := 1) (x := a0) dX11_night_16 rfl rfl ?_
    refine z_iconst (v := 2) dX11_night_17 rfl ?_
    refine z_iremC dX11_night_18 (by decide) ?_
    refine z_iconst (v := 1) dX11_night_19 rfl ?_
    refine z_icmp_ne 46 dX11_night_20 (by decide) (fun c40 => ?_) (fun c40 => ?_)
    · refine z_iload_n (i := 2) (x := a1) dX11_night_23 rfl rfl ?_
      refine z_iconst (v := 0) dX11_night_24 rfl ?_
      refine z_bipush (v := 16) dX11_night_25 (by decide) ?_
      refine z_cP (As := [.int a1, .int 0, .int 16]) (rest := [.ref 40]) (em_X11_within hl a1 0 16 D1) (fun o7 h => z_runS 376 3 h rfl kk_X11_376 kq_X11_within rfl (Nat.le_of_ble_eq_true rfl) ⟨Nat.le_of_ble_eq_true rfl, Nat.le_of_ble_eq_true rfl, Nat.le_of_ble_eq_true rfl, Nat.le_of_ble_eq_true rfl⟩ dX11_night_27) z_gWJ (fun hz41 => ?_)
      refine z_if_eq 46 dX11_night_30 (by decide) (fun c42 => ?_) (fun c42 => ?_)
      · refine z_weak (lv' := [none, some (.int a0), some (.int a1), some (.int a2), none, none, none, none, none, none, none, none, none]) ⟨Or.inl rfl, ⟨Or.inr rfl, ⟨Or.inr rfl, ⟨Or.inr rfl, ⟨Or.inl rfl, ⟨Or.inl rfl, ⟨Or.inl rfl, ⟨Or.inl rfl, ⟨Or.inl rfl, ⟨Or.inl rfl, ⟨Or.inl rfl, ⟨Or.inl rfl, ⟨Or.inl rfl, trivial⟩⟩⟩⟩⟩⟩⟩⟩⟩⟩⟩⟩⟩ ?_
        exact hJ_F_X11_night_J46 D1
      · refine z_iload_n (i := 3) (x := a2) dX11_night_33 rfl rfl ?_
        refine z_iconst (v := 0) dX11_night_34 rfl ?_
        refine z_iconst (v := 1) dX11_night_35 rfl ?_
        refine z_cP (As := [.int a2, .int 0, .int 1]) (rest := [.ref 40]) (em_X11_within hl a2 0 1 D1) (fun o7 h => z_runS 376 3 h rfl kk_X11_376 kq_X11_within rfl (Nat.le_of_ble_eq_true rfl) ⟨Nat.le_of_ble_eq_true rfl, Nat.le_of_ble_eq_true rfl, Nat.le_of_ble_eq_true rfl, Nat.le_of_ble_eq_true rfl⟩ dX11_night_36) z_gWJ (fun hz43 => ?_)
        refine z_if_eq 46 dX11_night_39 (by decide) (fun c44 => ?_) (fun c44 => ?_)
        · refine z_weak (lv' := [none, some (.int a0), some (.int a1), some (.int a2), none, none, none, none, none, none, none, none, none]) ⟨Or.inl rfl, ⟨Or.inr rfl, ⟨Or.inr rfl, ⟨Or.inr rfl, ⟨Or.inl rfl, ⟨Or.inl rfl, ⟨Or.inl rfl, ⟨Or.inl rfl, ⟨Or.inl rfl, ⟨Or.inl rfl, ⟨Or.inl rfl, ⟨Or.inl rfl, ⟨Or.inl rfl, trivial⟩⟩⟩⟩⟩⟩⟩⟩⟩⟩⟩⟩⟩ ?_
          exact hJ_F_X11_night_J46 D1
        · refine z_iconst (v := 1) dX11_night_42 rfl ?_
          refine z_goto 47 dX11_night_43 (by decide) ?_
          refine z_weak (lv' := [none, some (.int a0), some (.int a1), some (.int a2), none, none, none, none, none, none, none, none, none]) ⟨Or.inl rfl, ⟨Or.inr rfl, ⟨Or.inr rfl, ⟨Or.inr rfl, ⟨Or.inl rfl, ⟨Or.inl rfl, ⟨Or.inl rfl, ⟨Or.inl rfl, ⟨Or.inl rfl, ⟨Or.inl rfl, ⟨Or.inl rfl, ⟨Or.inl rfl, ⟨Or.inl rfl, trivial⟩⟩⟩⟩⟩⟩⟩⟩⟩⟩⟩⟩⟩ ?_
          exact hJ_F_X11_night_J47x D1
    · refine z_weak (lv' := [none, some (.int a0), some (.int a1), some (.int a2), none, none, none, none, none, none, none, none, none]) ⟨Or.inl rfl, ⟨Or.inr rfl, ⟨Or.inr rfl, ⟨Or.inr rfl, ⟨Or.inl rfl, ⟨Or.inl rfl, ⟨Or.inl rfl, ⟨Or.inl rfl, ⟨Or.inl rfl, ⟨Or.inl rfl, ⟨Or.inl rfl, ⟨Or.inl rfl, ⟨Or.inl rfl, trivial⟩⟩⟩⟩⟩⟩⟩⟩⟩⟩⟩⟩⟩ ?_
      exact hJ_F_X11_night_J46 D1

def F_X11_followsOf_L5 (a0 : Int32) (a1 : Int32) (D : z_Dat) (kc3 : ((Int32 × Int32) → Option Int32)) (v1 : Int32) (v2 : Int32) : Option Int32 :=
  if (D 40 20) ≤ v2 then (some v1)
  else (z_bd (F_X11_shadeOf v2 D) (fun a_6 => z_bd (F_X11_vatOf a0 D) (fun a_8 => z_bd (F_X11_shadeOf v2 D) (fun a_11 => z_bd (F_X11_vatOf a1 D) (fun a_13 => if (F_X11_apart a_11 a_13) ≤ (F_X11_apart a_6 a_8) then (z_let (v1 + 0) (fun v16 => z_let (v2 + 1) (fun v17 => kc3 (v16, v17))))
  else (z_let (v1 + 1) (fun v18 => z_let (v2 + 1) (fun v19 => kc3 (v18, v19)))))))))
def F_X11_followsOf (N : Nat) (a0 : Int32) (a1 : Int32) (D : z_Dat) : Option Int32 :=
  z_loop (fun kc3 s => F_X11_followsOf_L5 a0 a1 D kc3 s.1 s.2) N (0, 0)
set_option maxRecDepth 100000 in
set_option maxHeartbeats 4000000 in
theorem em_X11_followsOf {l : Launch} {S : List z_Shp} {oW : Nat} (hl : l.stackTraces = false) (hW : z_W S oW) (N : Nat) (a0 : Int32) (a1 : Int32) (D : z_Dat) : ∀ out, z_ko (z_kR S D) (F_X11_followsOf N a0 a1 D) out → z_EM l M_X11_followsOf (40, 640, 0, 0) [.ref 40, .int a0, .int a1] S D out := by
  have hs40 : S[40]? = some (13, 55, [none, some (some 41), none, none, none, none, none, none, none, some (some 42), some (some 43), some (some 44), some (some 45), some (some 46), some (some 47), some (some 48), none, none, none, none, none, none, some (some 49), some (some 50), some (some 51), some (some 52), some (some 53), none, none, some (some 54), some (some 55), some (some 56), none, none, none, none, none, none, some (some 57), some (some 58), some (some 59), some (some 60), some (some 61), none, some (some 62), some (some 63), none, none, some (some 64), some (some 65), none, none, none, some (some 66), none]) := hW.1 40 _ rfl
  refine z_meth hl rfl kp_X11 (Nat.le_of_ble_eq_true rfl) (lv := [some (.ref 40), some (.int a0), some (.int a1), none, none]) rfl ?_
  unfold F_X11_followsOf
  refine z_iconst (v := 0) dX11_followsOf_0 rfl ?_
  refine z_istore_n (i := 3) (x := 0) (lv' := [some (.ref 40), some (.int a0), some (.int a1), some (.int 0), none]) dX11_followsOf_1 rfl (by decide) rfl rfl ?_
  refine z_iconst (v := 0) dX11_followsOf_2 rfl ?_
  refine z_istore (i := 4) (x := 0) (lv' := [some (.ref 40), some (.int a0), some (.int a1), some (.int 0), some (.int 0)]) dX11_followsOf_3 (by decide) rfl rfl ?_
  refine z_loops (lvOf := fun s : Int32 × Int32 => [some (.ref 40), some (.int a0), some (.int a1), some (.int s.1), some (.int s.2)]) (dOf := fun s : Int32 × Int32 => D) (fun kc3 hkc3 s => ?_) N (0, 0)
  obtain ⟨v1, v2⟩ := s
  show z_F _ _ _ _ _ 5 [some (.ref 40), some (.int a0), some (.int a1), some (.int v1), some (.int v2)] [] S D _ (F_X11_followsOf_L5 a0 a1 D kc3 v1 v2)
  unfold F_X11_followsOf_L5
  refine z_iload (i := 4) (x := v2) dX11_followsOf_5 rfl ?_
  refine z_aload_n (i := 0) (x := 40) dX11_followsOf_7 rfl rfl ?_
  refine z_getI (j := 20) dX11_followsOf_8 kl_11 hs40 (by decide) rfl rfl kf_X11_159 ?_
  refine z_icmp_ge 59 dX11_followsOf_11 (by decide) (fun c4 => ?_) (fun c4 => ?_)
  · refine z_iload_n (i := 3) (x := v1) dX11_followsOf_59 rfl rfl ?_
    exact z_ireturn dX11_followsOf_60 z_rR rfl (by decide) (by decide)
  · refine z_iload_n (i := 3) (x := v1) dX11_followsOf_14 rfl rfl ?_
    refine z_aload_n (i := 0) (x := 40) dX11_followsOf_15 rfl rfl ?_
    refine z_iload (i := 4) (x := v2) dX11_followsOf_16 rfl ?_
    refine z_cR (As := [.ref 40, .int v2]) (rest := [.int v1]) (em_X11_shadeOf hl hW v2 D) (fun o7 h => z_runV 339 1 h rfl kk_X11_339 hs40 kl_11.1 kq_X11_shadeOf rfl (Nat.le_of_ble_eq_true rfl) ⟨Nat.le_of_ble_eq_true rfl, Nat.le_of_ble_eq_true rfl, Nat.le_of_ble_eq_true rfl, Nat.le_of_ble_eq_true rfl⟩ dX11_followsOf_18) z_gR (fun a_6 hz5 => ?_)
    refine z_aload_n (i := 0) (x := 40) dX11_followsOf_21 rfl rfl ?_
    refine z_iload_n (i := 1) (x := a0) dX11_followsOf_22 rfl rfl ?_
    refine z_cR (As := [.ref 40, .int a0]) (rest := [.int a_6, .int v1]) (em_X11_vatOf hl hW a0 D) (fun o7 h => z_runV 330 1 h rfl kk_X11_330 hs40 kl_11.1 kq_X11_vatOf rfl (Nat.le_of_ble_eq_true rfl) ⟨Nat.le_of_ble_eq_true rfl, Nat.le_of_ble_eq_true rfl, Nat.le_of_ble_eq_true rfl, Nat.le_of_ble_eq_true rfl⟩ dX11_followsOf_23) z_gR (fun a_8 hz7 => ?_)
    refine z_cP (As := [.int a_6, .int a_8]) (rest := [.int v1]) (em_X11_apart hl a_6 a_8 D) (fun o7 h => z_runS 333 2 h rfl kk_X11_333 kq_X11_apart rfl (Nat.le_of_ble_eq_true rfl) ⟨Nat.le_of_ble_eq_true rfl, Nat.le_of_ble_eq_true rfl, Nat.le_of_ble_eq_true rfl, Nat.le_of_ble_eq_true rfl⟩ dX11_followsOf_26) z_gR (fun hz9 => ?_)
    refine z_aload_n (i := 0) (x := 40) dX11_followsOf_29 rfl rfl ?_
    refine z_iload (i := 4) (x := v2) dX11_followsOf_30 rfl ?_
    refine z_cR (As := [.ref 40, .int v2]) (rest := [.int (F_X11_apart a_6 a_8), .int v1]) (em_X11_shadeOf hl hW v2 D) (fun o7 h => z_runV 339 1 h rfl kk_X11_339 hs40 kl_11.1 kq_X11_shadeOf rfl (Nat.le_of_ble_eq_true rfl) ⟨Nat.le_of_ble_eq_true rfl, Nat.le_of_ble_eq_true rfl, Nat.le_of_ble_eq_true rfl, Nat.le_of_ble_eq_true rfl⟩ dX11_followsOf_32) z_gR (fun a_11 hz10 => ?_)
    refine z_aload_n (i := 0) (x := 40) dX11_followsOf_35 rfl rfl ?_
    refine z_iload_n (i := 2) (x := a1) dX11_followsOf_36 rfl rfl ?_
    refine z_cR (As := [.ref 40, .int a1]) (rest := [.int a_11, .int (F_X11_apart a_6 a_8), .int v1]) (em_X11_vatOf hl hW a1 D) (fun o7 h => z_runV 330 1 h rfl kk_X11_330 hs40 kl_11.1 kq_X11_vatOf rfl (Nat.le_of_ble_eq_true rfl) ⟨Nat.le_of_ble_eq_true rfl, Nat.le_of_ble_eq_true rfl, Nat.le_of_ble_eq_true rfl, Nat.le_of_ble_eq_true rfl⟩ dX11_followsOf_37) z_gR (fun a_13 hz12 => ?_)
    refine z_cP (As := [.int a_11, .int a_13]) (rest := [.int (F_X11_apart a_6 a_8), .int v1]) (em_X11_apart hl a_11 a_13 D) (fun o7 h => z_runS 333 2 h rfl kk_X11_333 kq_X11_apart rfl (Nat.le_of_ble_eq_true rfl) ⟨Nat.le_of_ble_eq_true rfl, Nat.le_of_ble_eq_true rfl, Nat.le_of_ble_eq_true rfl, Nat.le_of_ble_eq_true rfl⟩ dX11_followsOf_40) z_gR (fun hz14 => ?_)
    refine z_icmp_ge 50 dX11_followsOf_43 (by decide) (fun c15 => ?_) (fun c15 => ?_)
    · refine z_iconst (v := 0) dX11_followsOf_50 rfl ?_
      refine z_iadd dX11_followsOf_51 ?_
      refine z_topi (fun v16 => ?_)
      refine z_istore_n (i := 3) (x := v16) (lv' := [some (.ref 40), some (.int a0), some (.int a1), some (.int v16), some (.int v2)]) dX11_followsOf_52 rfl (by decide) rfl rfl ?_
      refine z_iinc (i := 4) (x := v2) (y := 1) dX11_followsOf_53 rfl (by decide) (by decide) rfl (fun v17 => ?_)
      refine z_goto 5 dX11_followsOf_56 (by decide) ?_
      exact hkc3 (v16, v17)
    · refine z_iconst (v := 1) dX11_followsOf_46 rfl ?_
      refine z_goto 51 dX11_followsOf_47 (by decide) ?_
      refine z_iadd dX11_followsOf_51 ?_
      refine z_topi (fun v18 => ?_)
      refine z_istore_n (i := 3) (x := v18) (lv' := [some (.ref 40), some (.int a0), some (.int a1), some (.int v18), some (.int v2)]) dX11_followsOf_52 rfl (by decide) rfl rfl ?_
      refine z_iinc (i := 4) (x := v2) (y := 1) dX11_followsOf_53 rfl (by decide) (by decide) rfl (fun v19 => ?_)
      refine z_goto 5 dX11_followsOf_56 (by decide) ?_
      exact hkc3 (v18, v19)

def F_X11_isRest_L2 (N : Nat) (a0 : Int32) (a1 : Int32) (D : z_Dat) (kc2 : (Int32 → Option Int32)) (v1 : Int32) : Option Int32 :=
  if (D 40 19) ≤ v1 then (some 1)
  else (z_bd (F_X11_followsOf N v1 a1 D) (fun a_5 => z_bd (F_X11_followsOf N a0 a1 D) (fun a_7 => if a_7 < a_5 then (some 0)
  else (z_bd (F_X11_followsOf N v1 a0 D) (fun a_10 => z_bd (F_X11_followsOf N a1 a0 D) (fun a_12 => if a_10 ≤ a_12 then (z_let (v1 + 1) (fun v14 => kc2 v14))
  else (some 0)))))))
def F_X11_isRest (N : Nat) (a0 : Int32) (a1 : Int32) (D : z_Dat) : Option Int32 :=
  z_loop (fun kc2 s => F_X11_isRest_L2 N a0 a1 D kc2 s) N 0
set_option maxRecDepth 100000 in
set_option maxHeartbeats 4000000 in
theorem em_X11_isRest {l : Launch} {S : List z_Shp} {oW : Nat} (hl : l.stackTraces = false) (hW : z_W S oW) (N : Nat) (a0 : Int32) (a1 : Int32) (D : z_Dat) : ∀ out, z_ko (z_kR S D) (F_X11_isRest N a0 a1 D) out → z_EM l M_X11_isRest (50, 700, 0, 0) [.ref 40, .int a0, .int a1] S D out := by
  have hs40 : S[40]? = some (13, 55, [none, some (some 41), none, none, none, none, none, none, none, some (some 42), some (some 43), some (some 44), some (some 45), some (some 46), some (some 47), some (some 48), none, none, none, none, none, none, some (some 49), some (some 50), some (some 51), some (some 52), some (some 53), none, none, some (some 54), some (some 55), some (some 56), none, none, none, none, none, none, some (some 57), some (some 58), some (some 59), some (some 60), some (some 61), none, some (some 62), some (some 63), none, none, some (some 64), some (some 65), none, none, none, some (some 66), none]) := hW.1 40 _ rfl
  refine z_meth hl rfl kp_X11 (Nat.le_of_ble_eq_true rfl) (lv := [some (.ref 40), some (.int a0), some (.int a1), none]) rfl ?_
  unfold F_X11_isRest
  refine z_iconst (v := 0) dX11_isRest_0 rfl ?_
  refine z_istore_n (i := 3) (x := 0) (lv' := [some (.ref 40), some (.int a0), some (.int a1), some (.int 0)]) dX11_isRest_1 rfl (by decide) rfl rfl ?_
  refine z_loops (lvOf := fun s : Int32 => [some (.ref 40), some (.int a0), some (.int a1), some (.int s)]) (dOf := fun s : Int32 => D) (fun kc2 hkc2 s => ?_) N 0
  obtain ⟨v1, hq⟩ : ∃ z, z = s := ⟨_, rfl⟩
  subst hq
  show z_F _ _ _ _ _ 2 [some (.ref 40), some (.int a0), some (.int a1), some (.int v1)] [] S D _ (F_X11_isRest_L2 N a0 a1 D kc2 v1)
  unfold F_X11_isRest_L2
  refine z_iload_n (i := 3) (x := v1) dX11_isRest_2 rfl rfl ?_
  refine z_aload_n (i := 0) (x := 40) dX11_isRest_3 rfl rfl ?_
  refine z_getI (j := 19) dX11_isRest_4 kl_11 hs40 (by decide) rfl rfl kf_X11_156 ?_
  refine z_icmp_ge 48 dX11_isRest_7 (by decide) (fun c3 => ?_) (fun c3 => ?_)
  · refine z_iconst (v := 1) dX11_isRest_48 rfl ?_
    exact z_ireturn dX11_isRest_49 z_rR rfl (by decide) (by decide)
  · refine z_aload_n (i := 0) (x := 40) dX11_isRest_10 rfl rfl ?_
    refine z_iload_n (i := 3) (x := v1) dX11_isRest_11 rfl rfl ?_
    refine z_iload_n (i := 2) (x := a1) dX11_isRest_12 rfl rfl ?_
    refine z_cR (As := [.ref 40, .int v1, .int a1]) (rest := []) (em_X11_followsOf hl hW N v1 a1 D) (fun o7 h => z_runV 442 2 h rfl kk_X11_442 hs40 kl_11.1 kq_X11_followsOf rfl (Nat.le_of_ble_eq_true rfl) ⟨Nat.le_of_ble_eq_true rfl, Nat.le_of_ble_eq_true rfl, Nat.le_of_ble_eq_true rfl, Nat.le_of_ble_eq_true rfl⟩ dX11_isRest_13) z_gR (fun a_5 hz4 => ?_)
    refine z_aload_n (i := 0) (x := 40) dX11_isRest_16 rfl rfl ?_
    refine z_iload_n (i := 1) (x := a0) dX11_isRest_17 rfl rfl ?_
    refine z_iload_n (i := 2) (x := a1) dX11_isRest_18 rfl rfl ?_
    refine z_cR (As := [.ref 40, .int a0, .int a1]) (rest := [.int a_5]) (em_X11_followsOf hl hW N a0 a1 D) (fun o7 h => z_runV 442 2 h rfl kk_X11_442 hs40 kl_11.1 kq_X11_followsOf rfl (Nat.le_of_ble_eq_true rfl) ⟨Nat.le_of_ble_eq_true rfl, Nat.le_of_ble_eq_true rfl, Nat.le_of_ble_eq_true rfl, Nat.le_of_ble_eq_true rfl⟩ dX11_isRest_19) z_gR (fun a_7 hz6 => ?_)
    refine z_icmp_gt 40 dX11_isRest_22 (by decide) (fun c8 => ?_) (fun c8 => ?_)
    · refine z_iconst (v := 0) dX11_isRest_40 rfl ?_
      exact z_ireturn dX11_isRest_41 z_rR rfl (by decide) (by decide)
    · refine z_aload_n (i := 0) (x := 40) dX11_isRest_25 rfl rfl ?_
      refine z_iload_n (i := 3) (x := v1) dX11_isRest_26 rfl rfl ?_
      refine z_iload_n (i := 1) (x := a0) dX11_isRest_27 rfl rfl ?_
      refine z_cR (As := [.ref 40, .int v1, .int a0]) (rest := []) (em_X11_followsOf hl hW N v1 a0 D) (fun o7 h => z_runV 442 2 h rfl kk_X11_442 hs40 kl_11.1 kq_X11_followsOf rfl (Nat.le_of_ble_eq_true rfl) ⟨Nat.le_of_ble_eq_true rfl, Nat.le_of_ble_eq_true rfl, Nat.le_of_ble_eq_true rfl, Nat.le_of_ble_eq_true rfl⟩ dX11_isRest_28) z_gR (fun a_10 hz9 => ?_)
      refine z_aload_n (i := 0) (x := 40) dX11_isRest_31 rfl rfl ?_
      refine z_iload_n (i := 2) (x := a1) dX11_isRest_32 rfl rfl ?_
      refine z_iload_n (i := 1) (x := a0) dX11_isRest_33 rfl rfl ?_
      refine z_cR (As := [.ref 40, .int a1, .int a0]) (rest := [.int a_10]) (em_X11_followsOf hl hW N a1 a0 D) (fun o7 h => z_runV 442 2 h rfl kk_X11_442 hs40 kl_11.1 kq_X11_followsOf rfl (Nat.le_of_ble_eq_true rfl) ⟨Nat.le_of_ble_eq_true rfl, Nat.le_of_ble_eq_true rfl, Nat.le_of_ble_eq_true rfl, Nat.le_of_ble_eq_true rfl⟩ dX11_isRest_34) z_gR (fun a_12 hz11 => ?_)
      refine z_icmp_le 42 dX11_isRest_37 (by decide) (fun c13 => ?_) (fun c13 => ?_)
      · refine z_iinc (i := 3) (x := v1) (y := 1) dX11_isRest_42 rfl (by decide) (by decide) rfl (fun v14 => ?_)
        refine z_goto 2 dX11_isRest_45 (by decide) ?_
        exact hkc2 v14
      · refine z_iconst (v := 0) dX11_isRest_40 rfl ?_
        exact z_ireturn dX11_isRest_41 z_rR rfl (by decide) (by decide)

def F_X11_guilds_L45 (N : Nat) (kc11 : ((Int32 × Int32 × Int32) → Option (Int32 × z_Dat))) (a_7 : z_Dat) (v10 : Int32) (kc23 : ((Int32 × Int32 × Int32) → Option (Int32 × z_Dat))) (v20 : Int32) (v21 : Int32) (v22 : Int32) : Option (Int32 × z_Dat) :=
  if (a_7 40 19) ≤ v22 then (z_let (v10 + 1) (fun v25 => kc11 (v20, v21, v25)))
  else (z_bd (F_X11_isRest N v10 v22 a_7) (fun a_27 => if a_27 = 0 then (z_let (v22 + 1) (fun v29 => kc23 (v20, v21, v29)))
  else (z_let (v20 + 1) (fun v30 => if v21 = (-1) then (z_let ((10 * v10) + v22) (fun v32 => z_let (v22 + 1) (fun v33 => kc23 (v30, v32, v33))))
  else (z_let (v22 + 1) (fun v34 => kc23 (v30, v21, v34)))))))
def F_X11_guilds_L33 (N : Nat) (a0 : Int32) (a_7 : z_Dat) (kc11 : ((Int32 × Int32 × Int32) → Option (Int32 × z_Dat))) (v8 : Int32) (v9 : Int32) (v10 : Int32) : Option (Int32 × z_Dat) :=
  if (a_7 40 19) ≤ v10 then (if a0 = 0 then (some (v8, a_7))
  else (if a0 = 1 then (some (v9, a_7))
  else (if v9 = (-1) then (some (0, a_7))
  else (z_bd (F_X11_followsOf N (v9 / 10) (z_rem v9 10) a_7) (fun a_17 => z_bd (F_X11_followsOf N (z_rem v9 10) (v9 / 10) a_7) (fun a_19 => some (a_17 + a_19, a_7)))))))
  else (z_loop (fun kc23 s => F_X11_guilds_L45 N kc11 a_7 v10 kc23 s.1 s.2.1 s.2.2) N (v8, v9, 0))
def F_X11_guilds (N : Nat) (a0 : Int32) (D : z_Dat) : Option (Int32 × z_Dat) :=
  z_let (z_up D 40 0 0) (fun D1 => z_bd (F_X11_may (F_X11_within a0 0 2) 1 1 D1) (fun a_4 => if a_4.1 = 0 then (some (0, a_4.2))
  else (z_bd (F_X11_take N a_4.2) (fun a_7 => z_loop (fun kc11 s => F_X11_guilds_L33 N a0 a_7 kc11 s.1 s.2.1 s.2.2) N (0, (-1), 0)))))
set_option maxRecDepth 100000 in
set_option maxHeartbeats 4000000 in
theorem em_X11_guilds {l : Launch} {S : List z_Shp} {oW : Nat} (hl : l.stackTraces = false) (hW : z_W S oW) (N : Nat) (a0 : Int32) (D : z_Dat) : ∀ out, z_ko (z_kI S) (F_X11_guilds N a0 D) out → z_EM l M_X11_guilds (60, 760, 0, 0) [.ref 40, .int a0] S D out := by
  have hs40 : S[40]? = some (13, 55, [none, some (some 41), none, none, none, none, none, none, none, some (some 42), some (some 43), some (some 44), some (some 45), some (some 46), some (some 47), some (some 48), none, none, none, none, none, none, some (some 49), some (some 50), some (some 51), some (some 52), some (some 53), none, none, some (some 54), some (some 55), some (some 56), none, none, none, none, none, none, some (some 57), some (some 58), some (some 59), some (some 60), some (some 61), none, some (some 62), some (some 63), none, none, some (some 64), some (some 65), none, none, none, some (some 66), none]) := hW.1 40 _ rfl
  refine z_meth hl rfl kp_X11 (Nat.le_of_ble_eq_true rfl) (lv := [some (.ref 40), some (.int a0), none, none, none, none]) rfl ?_
  unfold F_X11_guilds
  refine z_aload_n (i := 0) (x := 40) dX11_guilds_0 rfl rfl ?_
  refine z_iconst (v := 0) dX11_guilds_1 rfl ?_
  refine z_putI (j := 0) dX11_guilds_2 kl_11 tyX11_ok nmX11 hs40 (by decide) rfl rfl rfl rfl rfl rfl kf_X11_3 (fun D1 => ?_)
  refine z_aload_n (i := 0) (x := 40) dX11_guilds_5 rfl rfl ?_
  refine z_iload_n (i := 1) (x := a0) dX11_guilds_6 rfl rfl ?_
  refine z_iconst (v := 0) dX11_guilds_7 rfl ?_
  refine z_iconst (v := 2) dX11_guilds_8 rfl ?_
  refine z_cP (As := [.int a0, .int 0, .int 2]) (rest := [.ref 40]) (em_X11_within hl a0 0 2 D1) (fun o7 h => z_runS 376 3 h rfl kk_X11_376 kq_X11_within rfl (Nat.le_of_ble_eq_true rfl) ⟨Nat.le_of_ble_eq_true rfl, Nat.le_of_ble_eq_true rfl, Nat.le_of_ble_eq_true rfl, Nat.le_of_ble_eq_true rfl⟩ dX11_guilds_9) z_gWI (fun hz2 => ?_)
  refine z_iconst (v := 1) dX11_guilds_12 rfl ?_
  refine z_iconst (v := 1) dX11_guilds_13 rfl ?_
  refine z_cWI (As := [.ref 40, .int (F_X11_within a0 0 2), .int 1, .int 1]) (rest := []) (em_X11_may hl hW (F_X11_within a0 0 2) 1 1 D1) (fun o7 h => z_runV 198 3 h rfl kk_X11_198 hs40 kl_11.1 kq_X11_may rfl (Nat.le_of_ble_eq_true rfl) ⟨Nat.le_of_ble_eq_true rfl, Nat.le_of_ble_eq_true rfl, Nat.le_of_ble_eq_true rfl, Nat.le_of_ble_eq_true rfl⟩ dX11_guilds_14) z_gWI (fun a_4 hz3 => ?_)
  refine z_if_ne 22 dX11_guilds_17 (by decide) (fun c5 => ?_) (fun c5 => ?_)
  · refine z_iconst (v := 0) dX11_guilds_20 rfl ?_
    exact z_ireturn dX11_guilds_21 z_rWI rfl (by decide) (by decide)
  · refine z_aload_n (i := 0) (x := 40) dX11_guilds_22 rfl rfl ?_
    refine z_cWV (As := [.ref 40]) (rest := []) (em_X11_take hl hW N a_4.2) (fun o7 h => z_runV 308 0 h rfl kk_X11_308 hs40 kl_11.1 kq_X11_take rfl (Nat.le_of_ble_eq_true rfl) ⟨Nat.le_of_ble_eq_true rfl, Nat.le_of_ble_eq_true rfl, Nat.le_of_ble_eq_true rfl, Nat.le_of_ble_eq_true rfl⟩ dX11_guilds_23) z_gWI (fun a_7 hz6 => ?_)
    refine z_iconst (v := 0) dX11_guilds_26 rfl ?_
    refine z_istore_n (i := 2) (x := 0) (lv' := [some (.ref 40), some (.int a0), some (.int 0), none, none, none]) dX11_guilds_27 rfl (by decide) rfl rfl ?_
    refine z_iconst (v := (-1)) dX11_guilds_28 rfl ?_
    refine z_istore_n (i := 3) (x := (-1)) (lv' := [some (.ref 40), some (.int a0), some (.int 0), some (.int (-1)), none, none]) dX11_guilds_29 rfl (by decide) rfl rfl ?_
    refine z_iconst (v := 0) dX11_guilds_30 rfl ?_
    refine z_istore (i := 4) (x := 0) (lv' := [some (.ref 40), some (.int a0), some (.int 0), some (.int (-1)), some (.int 0), none]) dX11_guilds_31 (by decide) rfl rfl ?_
    refine z_loops (lvOf := fun s : Int32 × Int32 × Int32 => [some (.ref 40), some (.int a0), some (.int s.1), some (.int s.2.1), some (.int s.2.2), none]) (dOf := fun s : Int32 × Int32 × Int32 => a_7) (fun kc11 hkc11 s => ?_) N (0, (-1), 0)
    obtain ⟨v8, v9, v10⟩ := s
    show z_F _ _ _ _ _ 33 [some (.ref 40), some (.int a0), some (.int v8), some (.int v9), some (.int v10), none] [] S a_7 _ (F_X11_guilds_L33 N a0 a_7 kc11 v8 v9 v10)
    unfold F_X11_guilds_L33
    refine z_iload (i := 4) (x := v10) dX11_guilds_33 rfl ?_
    refine z_aload_n (i := 0) (x := 40) dX11_guilds_35 rfl rfl ?_
    refine z_getI (j := 19) dX11_guilds_36 kl_11 hs40 (by decide) rfl rfl kf_X11_156 ?_
    refine z_icmp_ge 101 dX11_guilds_39 (by decide) (fun c12 => ?_) (fun c12 => ?_)
    · refine z_iload_n (i := 1) (x := a0) dX11_guilds_101 rfl rfl ?_
      refine z_if_ne 109 dX11_guilds_102 (by decide) (fun c13 => ?_) (fun c13 => ?_)
      · refine z_iload_n (i := 2) (x := v8) dX11_guilds_105 rfl rfl ?_
        refine z_goto 152 dX11_guilds_106 (by decide) ?_
        exact z_ireturn dX11_guilds_152 z_rWI rfl (by decide) (by decide)
      · refine z_iload_n (i := 1) (x := a0) dX11_guilds_109 rfl rfl ?_
        refine z_iconst (v := 1) dX11_guilds_110 rfl ?_
        refine z_icmp_ne 118 dX11_guilds_111 (by decide) (fun c14 => ?_) (fun c14 => ?_)
        · refine z_iload_n (i := 3) (x := v9) dX11_guilds_114 rfl rfl ?_
          refine z_goto 152 dX11_guilds_115 (by decide) ?_
          exact z_ireturn dX11_guilds_152 z_rWI rfl (by decide) (by decide)
        · refine z_iload_n (i := 3) (x := v9) dX11_guilds_118 rfl rfl ?_
          refine z_iconst (v := (-1)) dX11_guilds_119 rfl ?_
          refine z_icmp_ne 127 dX11_guilds_120 (by decide) (fun c15 => ?_) (fun c15 => ?_)
          · refine z_iconst (v := 0) dX11_guilds_123 rfl ?_
            refine z_goto 152 dX11_guilds_124 (by decide) ?_
            exact z_ireturn dX11_guilds_152 z_rWI rfl (by decide) (by decide)
          · refine z_aload_n (i := 0) (x := 40) dX11_guilds_127 rfl rfl ?_
            refine z_iload_n (i := 3) (x := v9) dX11_guilds_128 rfl rfl ?_
            refine z_bipush (v := 10) dX11_guilds_129 (by decide) ?_
            refine z_idivC dX11_guilds_131 (by decide) ?_
            refine z_iload_n (i := 3) (x := v9) dX11_guilds_132 rfl rfl ?_
            refine z_bipush (v := 10) dX11_guilds_133 (by decide) ?_
            refine z_iremC dX11_guilds_135 (by decide) ?_
            refine z_cR (As := [.ref 40, .int (v9 / 10), .int (z_rem v9 10)]) (rest := []) (em_X11_followsOf hl hW N (v9 / 10) (z_rem v9 10) a_7) (fun o7 h => z_runV 442 2 h rfl kk_X11_442 hs40 kl_11.1 kq_X11_followsOf rfl (Nat.le_of_ble_eq_true rfl) ⟨Nat.le_of_ble_eq_true rfl, Nat.le_of_ble_eq_true rfl, Nat.le_of_ble_eq_true rfl, Nat.le_of_ble_eq_true rfl⟩ dX11_guilds_136) z_gWI (fun a_17 hz16 => ?_)
            refine z_aload_n (i := 0) (x := 40) dX11_guilds_139 rfl rfl ?_
            refine z_iload_n (i := 3) (x := v9) dX11_guilds_140 rfl rfl ?_
            refine z_bipush (v := 10) dX11_guilds_141 (by decide) ?_
            refine z_iremC dX11_guilds_143 (by decide) ?_
            refine z_iload_n (i := 3) (x := v9) dX11_guilds_144 rfl rfl ?_
            refine z_bipush (v := 10) dX11_guilds_145 (by decide) ?_
            refine z_idivC dX11_guilds_147 (by decide) ?_
            refine z_cR (As := [.ref 40, .int (z_rem v9 10), .int (v9 / 10)]) (rest := [.int a_17]) (em_X11_followsOf hl hW N (z_rem v9 10) (v9 / 10) a_7) (fun o7 h => z_runV 442 2 h rfl kk_X11_442 hs40 kl_11.1 kq_X11_followsOf rfl (Nat.le_of_ble_eq_true rfl) ⟨Nat.le_of_ble_eq_true rfl, Nat.le_of_ble_eq_true rfl, Nat.le_of_ble_eq_true rfl, Nat.le_of_ble_eq_true rfl⟩ dX11_guilds_148) z_gWI (fun a_19 hz18 => ?_)
            refine z_iadd dX11_guilds_151 ?_
            exact z_ireturn dX11_guilds_152 z_rWI rfl (by decide) (by decide)
    · refine z_iconst (v := 0) dX11_guilds_42 rfl ?_
      refine z_istore (i := 5) (x := 0) (lv' := [some (.ref 40), some (.int a0), some (.int v8), some (.int v9), some (.int v10), some (.int 0)]) dX11_guilds_43 (by decide) rfl rfl ?_
      refine z_loops (lvOf := fun s : Int32 × Int32 × Int32 => [some (.ref 40), some (.int a0), some (.int s.1), some (.int s.2.1), some (.int v10), some (.int s.2.2)]) (dOf := fun s : Int32 × Int32 × Int32 => a_7) (fun kc23 hkc23 s => ?_) N (v8, v9, 0)
      obtain ⟨v20, v21, v22⟩ := s
      show z_F _ _ _ _ _ 45 [some (.ref 40), some (.int a0), some (.int v20), some (.int v21), some (.int v10), some (.int v22)] [] S a_7 _ (F_X11_guilds_L45 N kc11 a_7 v10 kc23 v20 v21 v22)
      unfold F_X11_guilds_L45
      refine z_iload (i := 5) (x := v22) dX11_guilds_45 rfl ?_
      refine z_aload_n (i := 0) (x := 40) dX11_guilds_47 rfl rfl ?_
      refine z_getI (j := 19) dX11_guilds_48 kl_11 hs40 (by decide) rfl rfl kf_X11_156 ?_
      refine z_icmp_ge 95 dX11_guilds_51 (by decide) (fun c24 => ?_) (fun c24 => ?_)
      · refine z_iinc (i := 4) (x := v10) (y := 1) dX11_guilds_95 rfl (by decide) (by decide) rfl (fun v25 => ?_)
        refine z_goto 33 dX11_guilds_98 (by decide) ?_
        refine z_weak (lv' := [some (.ref 40), some (.int a0), some (.int v20), some (.int v21), some (.int v25), none]) ⟨Or.inr rfl, ⟨Or.inr rfl, ⟨Or.inr rfl, ⟨Or.inr rfl, ⟨Or.inr rfl, ⟨Or.inl rfl, trivial⟩⟩⟩⟩⟩⟩ ?_
        exact hkc11 (v20, v21, v25)
      · refine z_aload_n (i := 0) (x := 40) dX11_guilds_54 rfl rfl ?_
        refine z_iload (i := 4) (x := v10) dX11_guilds_55 rfl ?_
        refine z_iload (i := 5) (x := v22) dX11_guilds_57 rfl ?_
        refine z_cR (As := [.ref 40, .int v10, .int v22]) (rest := []) (em_X11_isRest hl hW N v10 v22 a_7) (fun o7 h => z_runV 445 2 h rfl kk_X11_445 hs40 kl_11.1 kq_X11_isRest rfl (Nat.le_of_ble_eq_true rfl) ⟨Nat.le_of_ble_eq_true rfl, Nat.le_of_ble_eq_true rfl, Nat.le_of_ble_eq_true rfl, Nat.le_of_ble_eq_true rfl⟩ dX11_guilds_59) z_gWI (fun a_27 hz26 => ?_)
        refine z_if_ne 68 dX11_guilds_62 (by decide) (fun c28 => ?_) (fun c28 => ?_)
        · refine z_goto 89 dX11_guilds_65 (by decide) ?_
          refine z_iinc (i := 5) (x := v22) (y := 1) dX11_guilds_89 rfl (by decide) (by decide) rfl (fun v29 => ?_)
          refine z_goto 45 dX11_guilds_92 (by decide) ?_
          exact hkc23 (v20, v21, v29)
        · refine z_iinc (i := 2) (x := v20) (y := 1) dX11_guilds_68 rfl (by decide) (by decide) rfl (fun v30 => ?_)
          refine z_iload_n (i := 3) (x := v21) dX11_guilds_71 rfl rfl ?_
          refine z_iconst (v := (-1)) dX11_guilds_72 rfl ?_
          refine z_icmp_ne 87 dX11_guilds_73 (by decide) (fun c31 => ?_) (fun c31 => ?_)
          · refine z_bipush (v := 10) dX11_guilds_76 (by decide) ?_
            refine z_iload (i := 4) (x := v10) dX11_guilds_78 rfl ?_
            refine z_imul dX11_guilds_80 ?_
            refine z_iload (i := 5) (x := v22) dX11_guilds_81 rfl ?_
            refine z_iadd dX11_guilds_83 ?_
            refine z_goto 88 dX11_guilds_84 (by decide) ?_
            refine z_topi (fun v32 => ?_)
            refine z_istore_n (i := 3) (x := v32) (lv' := [some (.ref 40), some (.int a0), some (.int v30), some (.int v32), some (.int v10), some (.int v22)]) dX11_guilds_88 rfl (by decide) rfl rfl ?_
            refine z_iinc (i := 5) (x := v22) (y := 1) dX11_guilds_89 rfl (by decide) (by decide) rfl (fun v33 => ?_)
            refine z_goto 45 dX11_guilds_92 (by decide) ?_
            exact hkc23 (v30, v32, v33)
          · refine z_iload_n (i := 3) (x := v21) dX11_guilds_87 rfl rfl ?_
            refine z_istore_n (i := 3) (x := v21) (lv' := [some (.ref 40), some (.int a0), some (.int v30), some (.int v21), some (.int v10), some (.int v22)]) dX11_guilds_88 rfl (by decide) rfl rfl ?_
            refine z_iinc (i := 5) (x := v22) (y := 1) dX11_guilds_89 rfl (by decide) (by decide) rfl (fun v34 => ?_)
            refine z_goto 45 dX11_guilds_92 (by decide) ?_
            exact hkc23 (v30, v21, v34)

def F_X11_follows_J39 (N : Nat) (a0 : Int32) (a1 : Int32) (D5 : z_Dat) : Option (Int32 × z_Dat) :=
  z_bd (F_X11_may 0 1 0 D5) (fun a_7 => if a_7.1 = 0 then (some (0, a_7.2))
  else (z_bd (F_X11_take N a_7.2) (fun a_10 => z_bd (F_X11_followsOf N a0 a1 a_10) (fun a_12 => some (a_12, a_10)))))
def F_X11_follows_J38 (N : Nat) (a0 : Int32) (a1 : Int32) (D4 : z_Dat) : Option (Int32 × z_Dat) :=
  F_X11_follows_J39 N a0 a1 D4
def F_X11_follows_J39x (N : Nat) (a0 : Int32) (a1 : Int32) (D15 : z_Dat) : Option (Int32 × z_Dat) :=
  z_bd (F_X11_may 1 1 0 D15) (fun a_17 => if a_17.1 = 0 then (some (0, a_17.2))
  else (z_bd (F_X11_take N a_17.2) (fun a_20 => z_bd (F_X11_followsOf N a0 a1 a_20) (fun a_22 => some (a_22, a_20)))))
def F_X11_follows (N : Nat) (a0 : Int32) (a1 : Int32) (D : z_Dat) : Option (Int32 × z_Dat) :=
  z_let (z_up D 40 0 0) (fun D1 => if (F_X11_within a0 0 ((D1 40 19) - 1)) = 0 then (F_X11_follows_J38 N a0 a1 D1)
  else (if (F_X11_within a1 0 ((D1 40 19) - 1)) = 0 then (F_X11_follows_J38 N a0 a1 D1)
  else (F_X11_follows_J39x N a0 a1 D1)))
set_option maxRecDepth 100000 in
set_option maxHeartbeats 4000000 in
theorem em_X11_follows {l : Launch} {S : List z_Shp} {oW : Nat} (hl : l.stackTraces = false) (hW : z_W S oW) (N : Nat) (a0 : Int32) (a1 : Int32) (D : z_Dat) : ∀ out, z_ko (z_kI S) (F_X11_follows N a0 a1 D) out → z_EM l M_X11_follows (50, 700, 0, 0) [.ref 40, .int a0, .int a1] S D out := by
  have hs40 : S[40]? = some (13, 55, [none, some (some 41), none, none, none, none, none, none, none, some (some 42), some (some 43), some (some 44), some (some 45), some (some 46), some (some 47), some (some 48), none, none, none, none, none, none, some (some 49), some (some 50), some (some 51), some (some 52), some (some 53), none, none, some (some 54), some (some 55), some (some 56), none, none, none, none, none, none, some (some 57), some (some 58), some (some 59), some (some 60), some (some 61), none, some (some 62), some (some 63), none, none, some (some 64), some (some 65), none, none, none, some (some 66), none]) := hW.1 40 _ rfl
  refine z_meth hl rfl kp_X11 (Nat.le_of_ble_eq_true rfl) (lv := [some (.ref 40), some (.int a0), some (.int a1)]) rfl ?_
  unfold F_X11_follows
  have hJ_F_X11_follows_J39 : ∀ (D5 : z_Dat) , z_F l M_X11_follows (50, 700, 0, 0) 0 0 39 [some (.ref 40), some (.int a0), some (.int a1)] [.int 0, .ref 40] S D5 (z_ko (z_kI S)) (F_X11_follows_J39 N a0 a1 D5) := by
    intro D5
    unfold F_X11_follows_J39
    refine z_iconst (v := 1) dX11_follows_39 rfl ?_
    refine z_iconst (v := 0) dX11_follows_40 rfl ?_
    refine z_cWI (As := [.ref 40, .int 0, .int 1, .int 0]) (rest := []) (em_X11_may hl hW 0 1 0 D5) (fun o7 h => z_runV 198 3 h rfl kk_X11_198 hs40 kl_11.1 kq_X11_may rfl (Nat.le_of_ble_eq_true rfl) ⟨Nat.le_of_ble_eq_true rfl, Nat.le_of_ble_eq_true rfl, Nat.le_of_ble_eq_true rfl, Nat.le_of_ble_eq_true rfl⟩ dX11_follows_41) z_gWI (fun a_7 hz6 => ?_)
    refine z_if_ne 49 dX11_follows_44 (by decide) (fun c8 => ?_) (fun c8 => ?_)
    · refine z_iconst (v := 0) dX11_follows_47 rfl ?_
      exact z_ireturn dX11_follows_48 z_rWI rfl (by decide) (by decide)
    · refine z_aload_n (i := 0) (x := 40) dX11_follows_49 rfl rfl ?_
      refine z_cWV (As := [.ref 40]) (rest := []) (em_X11_take hl hW N a_7.2) (fun o7 h => z_runV 308 0 h rfl kk_X11_308 hs40 kl_11.1 kq_X11_take rfl (Nat.le_of_ble_eq_true rfl) ⟨Nat.le_of_ble_eq_true rfl, Nat.le_of_ble_eq_true rfl, Nat.le_of_ble_eq_true rfl, Nat.le_of_ble_eq_true rfl⟩ dX11_follows_50) z_gWI (fun a_10 hz9 => ?_)
      refine z_aload_n (i := 0) (x := 40) dX11_follows_53 rfl rfl ?_
      refine z_iload_n (i := 1) (x := a0) dX11_follows_54 rfl rfl ?_
      refine z_iload_n (i := 2) (x := a1) dX11_follows_55 rfl rfl ?_
      refine z_cR (As := [.ref 40, .int a0, .int a1]) (rest := []) (em_X11_followsOf hl hW N a0 a1 a_10) (fun o7 h => z_runV 442 2 h rfl kk_X11_442 hs40 kl_11.1 kq_X11_followsOf rfl (Nat.le_of_ble_eq_true rfl) ⟨Nat.le_of_ble_eq_true rfl, Nat.le_of_ble_eq_true rfl, Nat.le_of_ble_eq_true rfl, Nat.le_of_ble_eq_true rfl⟩ dX11_follows_56) z_gWI (fun a_12 hz11 => ?_)
      exact z_ireturn dX11_follows_59 z_rWI rfl (by decide) (by decide)
  have hJ_F_X11_follows_J38 : ∀ (D4 : z_Dat) , z_F l M_X11_follows (50, 700, 0, 0) 0 0 38 [some (.ref 40), some (.int a0), some (.int a1)] [.ref 40] S D4 (z_ko (z_kI S)) (F_X11_follows_J38 N a0 a1 D4) := by
    intro D4
    unfold F_X11_follows_J38
    refine z_iconst (v := 0) dX11_follows_38 rfl ?_
    exact hJ_F_X11_follows_J39 D4
  have hJ_F_X11_follows_J39x : ∀ (D15 : z_Dat) , z_F l M_X11_follows (50, 700, 0, 0) 0 0 39 [some (.ref 40), some (.int a0), some (.int a1)] [.int 1, .ref 40] S D15 (z_ko (z_kI S)) (F_X11_follows_J39x N a0 a1 D15) := by
    intro D15
    unfold F_X11_follows_J39x
    refine z_iconst (v := 1) dX11_follows_39 rfl ?_
    refine z_iconst (v := 0) dX11_follows_40 rfl ?_
    refine z_cWI (As := [.ref 40, .int 1, .int 1, .int 0]) (rest := []) (em_X11_may hl hW 1 1 0 D15) (fun o7 h => z_runV 198 3 h rfl kk_X11_198 hs40 kl_11.1 kq_X11_may rfl (Nat.le_of_ble_eq_true rfl) ⟨Nat.le_of_ble_eq_true rfl, Nat.le_of_ble_eq_true rfl, Nat.le_of_ble_eq_true rfl, Nat.le_of_ble_eq_true rfl⟩ dX11_follows_41) z_gWI (fun a_17 hz16 => ?_)
    refine z_if_ne 49 dX11_follows_44 (by decide) (fun c18 => ?_) (fun c18 => ?_)
    · refine z_iconst (v := 0) dX11_follows_47 rfl ?_
      exact z_ireturn dX11_follows_48 z_rWI rfl (by decide) (by decide)
    · refine z_aload_n (i := 0) (x := 40) dX11_follows_49 rfl rfl ?_
      refine z_cWV (As := [.ref 40]) (rest := []) (em_X11_take hl hW N a_17.2) (fun o7 h => z_runV 308 0 h rfl kk_X11_308 hs40 kl_11.1 kq_X11_take rfl (Nat.le_of_ble_eq_true rfl) ⟨Nat.le_of_ble_eq_true rfl, Nat.le_of_ble_eq_true rfl, Nat.le_of_ble_eq_true rfl, Nat.le_of_ble_eq_true rfl⟩ dX11_follows_50) z_gWI (fun a_20 hz19 => ?_)
      refine z_aload_n (i := 0) (x := 40) dX11_follows_53 rfl rfl ?_
      refine z_iload_n (i := 1) (x := a0) dX11_follows_54 rfl rfl ?_
      refine z_iload_n (i := 2) (x := a1) dX11_follows_55 rfl rfl ?_
      refine z_cR (As := [.ref 40, .int a0, .int a1]) (rest := []) (em_X11_followsOf hl hW N a0 a1 a_20) (fun o7 h => z_runV 442 2 h rfl kk_X11_442 hs40 kl_11.1 kq_X11_followsOf rfl (Nat.le_of_ble_eq_true rfl) ⟨Nat.le_of_ble_eq_true rfl, Nat.le_of_ble_eq_true rfl, Nat.le_of_ble_eq_true rfl, Nat.le_of_ble_eq_true rfl⟩ dX11_follows_56) z_gWI (fun a_22 hz21 => ?_)
      exact z_ireturn dX11_follows_59 z_rWI rfl (by decide) (by decide)
  refine z_aload_n (i := 0) (x := 40) dX11_follows_0 rfl rfl ?_
  refine z_iconst (v := 0) dX11_follows_1 rfl ?_
  refine z_putI (j := 0) dX11_follows_2 kl_11 tyX11_ok nmX11 hs40 (by decide) rfl rfl rfl rfl rfl rfl kf_X11_3 (fun D1 => ?_)
  refine z_aload_n (i := 0) (x := 40) dX11_follows_5 rfl rfl ?_
  refine z_iload_n (i := 1) (x := a0) dX11_follows_6 rfl rfl ?_
  refine z_iconst (v := 0) dX11_follows_7 rfl ?_
  refine z_aload_n (i := 0) (x := 40) dX11_follows_8 rfl rfl ?_
  refine z_getI (j := 19) dX11_follows_9 kl_11 hs40 (by decide) rfl rfl kf_X11_156 ?_
  refine z_iconst (v := 1) dX11_follows_12 rfl ?_
  refine z_isub dX11_follows_13 ?_
  refine z_cP (As := [.int a0, .int 0, .int ((D1 40 19) - 1)]) (rest := [.ref 40]) (em_X11_within hl a0 0 ((D1 40 19) - 1) D1) (fun o7 h => z_runS 376 3 h rfl kk_X11_376 kq_X11_within rfl (Nat.le_of_ble_eq_true rfl) ⟨Nat.le_of_ble_eq_true rfl, Nat.le_of_ble_eq_true rfl, Nat.le_of_ble_eq_true rfl, Nat.le_of_ble_eq_true rfl⟩ dX11_follows_14) z_gWI (fun hz2 => ?_)
  refine z_if_eq 38 dX11_follows_17 (by decide) (fun c3 => ?_) (fun c3 => ?_)
  · exact hJ_F_X11_follows_J38 D1
  · refine z_iload_n (i := 2) (x := a1) dX11_follows_20 rfl rfl ?_
    refine z_iconst (v := 0) dX11_follows_21 rfl ?_
    refine z_aload_n (i := 0) (x := 40) dX11_follows_22 rfl rfl ?_
    refine z_getI (j := 19) dX11_follows_23 kl_11 hs40 (by decide) rfl rfl kf_X11_156 ?_
    refine z_iconst (v := 1) dX11_follows_26 rfl ?_
    refine z_isub dX11_follows_27 ?_
    refine z_cP (As := [.int a1, .int 0, .int ((D1 40 19) - 1)]) (rest := [.ref 40]) (em_X11_within hl a1 0 ((D1 40 19) - 1) D1) (fun o7 h => z_runS 376 3 h rfl kk_X11_376 kq_X11_within rfl (Nat.le_of_ble_eq_true rfl) ⟨Nat.le_of_ble_eq_true rfl, Nat.le_of_ble_eq_true rfl, Nat.le_of_ble_eq_true rfl, Nat.le_of_ble_eq_true rfl⟩ dX11_follows_28) z_gWI (fun hz13 => ?_)
    refine z_if_eq 38 dX11_follows_31 (by decide) (fun c14 => ?_) (fun c14 => ?_)
    · exact hJ_F_X11_follows_J38 D1
    · refine z_iconst (v := 1) dX11_follows_34 rfl ?_
      refine z_goto 39 dX11_follows_35 (by decide) ?_
      exact hJ_F_X11_follows_J39x D1

def F_X11_ahead_L85 (D12 : z_Dat) (kc23 : ((Int32 × Int32) → Option (Int32 × z_Dat))) (v21 : Int32) (v22 : Int32) : Option (Int32 × z_Dat) :=
  if (3 * (D12 40 20)) ≤ v22 then (some (v21, D12))
  else (if z_inb (0 + v22) 60 then (z_let (v21 + (D12 58 (z_ix (0 + v22)))) (fun v25 => z_let (v22 + 1) (fun v26 => kc23 (v25, v26)))) else none)
def F_X11_ahead_L46 (N : Nat) (a0 : Int32) (a1 : Int32) (kc13 : ((Int32 × z_Dat) → Option (Int32 × z_Dat))) (v11 : Int32) (D12 : z_Dat) : Option (Int32 × z_Dat) :=
  if a0 ≤ v11 then (if a1 = 0 then (z_bd (F_X11_sitting N D12) (fun a_17 => some (a_17.1, a_17.2)))
  else (if a1 = 2 then (z_bd (F_X11_unlikeShades N D12) (fun a_20 => some (a_20, D12)))
  else (z_loop (fun kc23 s => F_X11_ahead_L85 D12 kc23 s.1 s.2) N (0, 0))))
  else (z_bd (F_X11_passes N D12) (fun a_29 => z_let (v11 + 1) (fun v30 => kc13 (v30, a_29))))
def F_X11_ahead_J30 (N : Nat) (a0 : Int32) (a1 : Int32) (D5 : z_Dat) : Option (Int32 × z_Dat) :=
  z_bd (F_X11_may 0 1 1 D5) (fun a_7 => if a_7.1 = 0 then (some (0, a_7.2))
  else (z_bd (F_X11_take N a_7.2) (fun a_10 => z_loop (fun kc13 s => F_X11_ahead_L46 N a0 a1 kc13 s.1 s.2) N (0, a_10))))
def F_X11_ahead_J29 (N : Nat) (a0 : Int32) (a1 : Int32) (D4 : z_Dat) : Option (Int32 × z_Dat) :=
  F_X11_ahead_J30 N a0 a1 D4
def F_X11_ahead_L85x (D41 : z_Dat) (kc52 : ((Int32 × Int32) → Option (Int32 × z_Dat))) (v50 : Int32) (v51 : Int32) : Option (Int32 × z_Dat) :=
  if (3 * (D41 40 20)) ≤ v51 then (some (v50, D41))
  else (if z_inb (0 + v51) 60 then (z_let (v50 + (D41 58 (z_ix (0 + v51)))) (fun v54 => z_let (v51 + 1) (fun v55 => kc52 (v54, v55)))) else none)
def F_X11_ahead_L46x (N : Nat) (a0 : Int32) (a1 : Int32) (kc42 : ((Int32 × z_Dat) → Option (Int32 × z_Dat))) (v40 : Int32) (D41 : z_Dat) : Option (Int32 × z_Dat) :=
  if a0 ≤ v40 then (if a1 = 0 then (z_bd (F_X11_sitting N D41) (fun a_46 => some (a_46.1, a_46.2)))
  else (if a1 = 2 then (z_bd (F_X11_unlikeShades N D41) (fun a_49 => some (a_49, D41)))
  else (z_loop (fun kc52 s => F_X11_ahead_L85x D41 kc52 s.1 s.2) N (0, 0))))
  else (z_bd (F_X11_passes N D41) (fun a_58 => z_let (v40 + 1) (fun v59 => kc42 (v59, a_58))))
def F_X11_ahead_J30x (N : Nat) (a0 : Int32) (a1 : Int32) (D34 : z_Dat) : Option (Int32 × z_Dat) :=
  z_bd (F_X11_may 1 1 1 D34) (fun a_36 => if a_36.1 = 0 then (some (0, a_36.2))
  else (z_bd (F_X11_take N a_36.2) (fun a_39 => z_loop (fun kc42 s => F_X11_ahead_L46x N a0 a1 kc42 s.1 s.2) N (0, a_39))))
def F_X11_ahead (N : Nat) (a0 : Int32) (a1 : Int32) (D : z_Dat) : Option (Int32 × z_Dat) :=
  z_let (z_up D 40 0 0) (fun D1 => if (F_X11_within a0 0 100) = 0 then (F_X11_ahead_J29 N a0 a1 D1)
  else (if (F_X11_within a1 0 2) = 0 then (F_X11_ahead_J29 N a0 a1 D1)
  else (F_X11_ahead_J30x N a0 a1 D1)))
set_option maxRecDepth 100000 in
set_option maxHeartbeats 4000000 in
theorem em_X11_ahead {l : Launch} {S : List z_Shp} {oW : Nat} (hl : l.stackTraces = false) (hW : z_W S oW) (N : Nat) (a0 : Int32) (a1 : Int32) (D : z_Dat) : ∀ out, z_ko (z_kI S) (F_X11_ahead N a0 a1 D) out → z_EM l M_X11_ahead (80, 880, 0, 0) [.ref 40, .int a0, .int a1] S D out := by
  have hs40 : S[40]? = some (13, 55, [none, some (some 41), none, none, none, none, none, none, none, some (some 42), some (some 43), some (some 44), some (some 45), some (some 46), some (some 47), some (some 48), none, none, none, none, none, none, some (some 49), some (some 50), some (some 51), some (some 52), some (some 53), none, none, some (some 54), some (some 55), some (some 56), none, none, none, none, none, none, some (some 57), some (some 58), some (some 59), some (some 60), some (some 61), none, some (some 62), some (some 63), none, none, some (some 64), some (some 65), none, none, none, some (some 66), none]) := hW.1 40 _ rfl
  have hs58 : S[58]? = some (0, 60, []) := hW.1 58 _ rfl
  refine z_meth hl rfl kp_X11 (Nat.le_of_ble_eq_true rfl) (lv := [some (.ref 40), some (.int a0), some (.int a1), none, none]) rfl ?_
  unfold F_X11_ahead
  have hJ_F_X11_ahead_J30 : ∀ (D5 : z_Dat) , z_F l M_X11_ahead (80, 880, 0, 0) 0 0 30 [some (.ref 40), some (.int a0), some (.int a1), none, none] [.int 0, .ref 40] S D5 (z_ko (z_kI S)) (F_X11_ahead_J30 N a0 a1 D5) := by
    intro D5
    unfold F_X11_ahead_J30
    refine z_iconst (v := 1) dX11_ahead_30 rfl ?_
    refine z_iconst (v := 1) dX11_ahead_31 rfl ?_
    refine z_cWI (As := [.ref 40, .int 0, .int 1, .int 1]) (rest := []) (em_X11_may hl hW 0 1 1 D5) (fun o7 h => z_runV 198 3 h rfl kk_X11_198 hs40 kl_11.1 kq_X11_may rfl (Nat.le_of_ble_eq_true rfl) ⟨Nat.le_of_ble_eq_true rfl, Nat.le_of_ble_eq_true rfl, Nat.le_of_ble_eq_true rfl, Nat.le_of_ble_eq_true rfl⟩ dX11_ahead_32) z_gWI (fun a_7 hz6 => ?_)
    refine z_if_ne 40 dX11_ahead_35 (by decide) (fun c8 => ?_) (fun c8 => ?_)
    · refine z_iconst (v := 0) dX11_ahead_38 rfl ?_
      exact z_ireturn dX11_ahead_39 z_rWI rfl (by decide) (by decide)
    · refine z_aload_n (i := 0) (x := 40) dX11_ahead_40 rfl rfl ?_
      refine z_cWV (As := [.ref 40]) (rest := []) (em_X11_take hl hW N a_7.2) (fun o7 h => z_runV 308 0 h rfl kk_X11_308 hs40 kl_11.1 kq_X11_take rfl (Nat.le_of_ble_eq_true rfl) ⟨Nat.le_of_ble_eq_true rfl, Nat.le_of_ble_eq_true rfl, Nat.le_of_ble_eq_true rfl, Nat.le_of_ble_eq_true rfl⟩ dX11_ahead_41) z_gWI (fun a_10 hz9 => ?_)
      refine z_iconst (v := 0) dX11_ahead_44 rfl ?_
      refine z_istore_n (i := 3) (x := 0) (lv' := [some (.ref 40), some (.int a0), some (.int a1), some (.int 0), none]) dX11_ahead_45 rfl (by decide) rfl rfl ?_
      refine z_loops (lvOf := fun s : Int32 × z_Dat => [some (.ref 40), some (.int a0), some (.int a1), some (.int s.1), none]) (dOf := fun s : Int32 × z_Dat => s.2) (fun kc13 hkc13 s => ?_) N (0, a_10)
      obtain ⟨v11, D12⟩ := s
      show z_F _ _ _ _ _ 46 [some (.ref 40), some (.int a0), some (.int a1), some (.int v11), none] [] S D12 _ (F_X11_ahead_L46 N a0 a1 kc13 v11 D12)
      unfold F_X11_ahead_L46
      refine z_iload_n (i := 3) (x := v11) dX11_ahead_46 rfl rfl ?_
      refine z_iload_n (i := 1) (x := a0) dX11_ahead_47 rfl rfl ?_
      refine z_icmp_ge 61 dX11_ahead_48 (by decide) (fun c14 => ?_) (fun c14 => ?_)
      · refine z_iload_n (i := 2) (x := a1) dX11_ahead_61 rfl rfl ?_
        refine z_if_ne 70 dX11_ahead_62 (by decide) (fun c15 => ?_) (fun c15 => ?_)
        · refine z_aload_n (i := 0) (x := 40) dX11_ahead_65 rfl rfl ?_
          refine z_cWI (As := [.ref 40]) (rest := []) (em_X11_sitting hl hW N D12) (fun o7 h => z_runV 379 0 h rfl kk_X11_379 hs40 kl_11.1 kq_X11_sitting rfl (Nat.le_of_ble_eq_true rfl) ⟨Nat.le_of_ble_eq_true rfl, Nat.le_of_ble_eq_true rfl, Nat.le_of_ble_eq_true rfl, Nat.le_of_ble_eq_true rfl⟩ dX11_ahead_66) z_gWI (fun a_17 hz16 => ?_)
          exact z_ireturn dX11_ahead_69 z_rWI rfl (by decide) (by decide)
        · refine z_iload_n (i := 2) (x := a1) dX11_ahead_70 rfl rfl ?_
          refine z_iconst (v := 2) dX11_ahead_71 rfl ?_
          refine z_icmp_ne 80 dX11_ahead_72 (by decide) (fun c18 => ?_) (fun c18 => ?_)
          · refine z_aload_n (i := 0) (x := 40) dX11_ahead_75 rfl rfl ?_
            refine z_cR (As := [.ref 40]) (rest := []) (em_X11_unlikeShades hl hW N D12) (fun o7 h => z_runV 385 0 h rfl kk_X11_385 hs40 kl_11.1 kq_X11_unlikeShades rfl (Nat.le_of_ble_eq_true rfl) ⟨Nat.le_of_ble_eq_true rfl, Nat.le_of_ble_eq_true rfl, Nat.le_of_ble_eq_true rfl, Nat.le_of_ble_eq_true rfl⟩ dX11_ahead_76) z_gWI (fun a_20 hz19 => ?_)
            exact z_ireturn dX11_ahead_79 z_rWI rfl (by decide) (by decide)
          · refine z_iconst (v := 0) dX11_ahead_80 rfl ?_
            refine z_istore_n (i := 3) (x := 0) (lv' := [some (.ref 40), some (.int a0), some (.int a1), some (.int 0), none]) dX11_ahead_81 rfl (by decide) rfl rfl ?_
            refine z_iconst (v := 0) dX11_ahead_82 rfl ?_
            refine z_istore (i := 4) (x := 0) (lv' := [some (.ref 40), some (.int a0), some (.int a1), some (.int 0), some (.int 0)]) dX11_ahead_83 (by decide) rfl rfl ?_
            refine z_weak (lv' := [some (.ref 40), none, none, some (.int 0), some (.int 0)]) ⟨Or.inr rfl, ⟨Or.inl rfl, ⟨Or.inl rfl, ⟨Or.inr rfl, ⟨Or.inr rfl, trivial⟩⟩⟩⟩⟩ ?_
            refine z_loops (lvOf := fun s : Int32 × Int32 => [some (.ref 40), none, none, some (.int s.1), some (.int s.2)]) (dOf := fun s : Int32 × Int32 => D12) (fun kc23 hkc23 s => ?_) N (0, 0)
            obtain ⟨v21, v22⟩ := s
            show z_F _ _ _ _ _ 85 [some (.ref 40), none, none, some (.int v21), some (.int v22)] [] S D12 _ (F_X11_ahead_L85 D12 kc23 v21 v22)
            unfold F_X11_ahead_L85
            refine z_iload (i := 4) (x := v22) dX11_ahead_85 rfl ?_
            refine z_iconst (v := 3) dX11_ahead_87 rfl ?_
            refine z_aload_n (i := 0) (x := 40) dX11_ahead_88 rfl rfl ?_
            refine z_getI (j := 20) dX11_ahead_89 kl_11 hs40 (by decide) rfl rfl kf_X11_159 ?_
            refine z_imul dX11_ahead_92 ?_
            refine z_icmp_ge 114 dX11_ahead_93 (by decide) (fun c24 => ?_) (fun c24 => ?_)
            · refine z_iload_n (i := 3) (x := v21) dX11_ahead_114 rfl rfl ?_
              exact z_ireturn dX11_ahead_115 z_rWI rfl (by decide) (by decide)
            · refine z_iload_n (i := 3) (x := v21) dX11_ahead_96 rfl rfl ?_
              refine z_aload_n (i := 0) (x := 40) dX11_ahead_97 rfl rfl ?_
              refine z_getR (j := 39) dX11_ahead_98 kl_11 hs40 (by decide) rfl rfl kf_X11_68 ?_
              refine z_iconst (v := 0) dX11_ahead_101 rfl ?_
              refine z_iload (i := 4) (x := v22) dX11_ahead_102 rfl ?_
              refine z_iadd dX11_ahead_104 ?_
              refine z_iald dX11_ahead_105 hs58 ?_
              refine z_iadd dX11_ahead_106 ?_
              refine z_topi (fun v25 => ?_)
              refine z_istore_n (i := 3) (x := v25) (lv' := [some (.ref 40), none, none, some (.int v25), some (.int v22)]) dX11_ahead_107 rfl (by decide) rfl rfl ?_
              refine z_iinc (i := 4) (x := v22) (y := 1) dX11_ahead_108 rfl (by decide) (by decide) rfl (fun v26 => ?_)
              refine z_goto 85 dX11_ahead_111 (by decide) ?_
              exact hkc23 (v25, v26)
      · refine z_aload_n (i := 0) (x := 40) dX11_ahead_51 rfl rfl ?_
        refine z_cWV (As := [.ref 40]) (rest := []) (em_X11_passes hl hW N D12) (fun o7 h => z_runV 373 0 h rfl kk_X11_373 hs40 kl_11.1 kq_X11_passes rfl (Nat.le_of_ble_eq_true rfl) ⟨Nat.le_of_ble_eq_true rfl, Nat.le_of_ble_eq_true rfl, Nat.le_of_ble_eq_true rfl, Nat.le_of_ble_eq_true rfl⟩ dX11_ahead_52) z_gWI (fun a_29 hz28 => ?_)
        refine z_iinc (i := 3) (x := v11) (y := 1) dX11_ahead_55 rfl (by decide) (by decide) rfl (fun v30 => ?_)
        refine z_goto 46 dX11_ahead_58 (by decide) ?_
        exact hkc13 (v30, a_29)
  have hJ_F_X11_ahead_J29 : ∀ (D4 : z_Dat) , z_F l M_X11_ahead (80, 880, 0, 0) 0 0 29 [some (.ref 40), some (.int a0), some (.int a1), none, none] [.ref 40] S D4 (z_ko (z_kI S)) (F_X11_ahead_J29 N a0 a1 D4) := by
    intro D4
    unfold F_X11_ahead_J29
    refine z_iconst (v := 0) dX11_ahead_29 rfl ?_
    exact hJ_F_X11_ahead_J30 D4
  have hJ_F_X11_ahead_J30x : ∀ (D34 : z_Dat) , z_F l M_X11_ahead (80, 880, 0, 0) 0 0 30 [some (.ref 40), some (.int a0), some (.int a1), none, none] [.int 1, .ref 40] S D34 (z_ko (z_kI S)) (F_X11_ahead_J30x N a0 a1 D34) := by
    intro D34
    unfold F_X11_ahead_J30x
    refine z_iconst (v := 1) dX11_ahead_30 rfl ?_
    refine z_iconst (v := 1) dX11_ahead_31 rfl ?_
    refine z_cWI (As := [.ref 40, .int 1, .int 1, .int 1]) (rest := []) (em_X11_may hl hW 1 1 1 D34) (fun o7 h => z_runV 198 3 h rfl kk_X11_198 hs40 kl_11.1 kq_X11_may rfl (Nat.le_of_ble_eq_true rfl) ⟨Nat.le_of_ble_eq_true rfl, Nat.le_of_ble_eq_true rfl, Nat.le_of_ble_eq_true rfl, Nat.le_of_ble_eq_true rfl⟩ dX11_ahead_32) z_gWI (fun a_36 hz35 => ?_)
    refine z_if_ne 40 dX11_ahead_35 (by decide) (fun c37 => ?_) (fun c37 => ?_)
    · refine z_iconst (v := 0) dX11_ahead_38 rfl ?_
      exact z_ireturn dX11_ahead_39 z_rWI rfl (by decide) (by decide)
    · refine z_aload_n (i := 0) (x := 40) dX11_ahead_40 rfl rfl ?_
      refine z_cWV (As := [.ref 40]) (rest := []) (em_X11_take hl hW N a_36.2) (fun o7 h => z_runV 308 0 h rfl kk_X11_308 hs40 kl_11.1 kq_X11_take rfl (Nat.le_of_ble_eq_true rfl) ⟨Nat.le_of_ble_eq_true rfl, Nat.le_of_ble_eq_true rfl, Nat.le_of_ble_eq_true rfl, Nat.le_of_ble_eq_true rfl⟩ dX11_ahead_41) z_gWI (fun a_39 hz38 => ?_)
      refine z_iconst (v := 0) dX11_ahead_44 rfl ?_
      refine z_istore_n (i := 3) (x := 0) (lv' := [some (.ref 40), some (.int a0), some (.int a1), some (.int 0), none]) dX11_ahead_45 rfl (by decide) rfl rfl ?_
      refine z_loops (lvOf := fun s : Int32 × z_Dat => [some (.ref 40), some (.int a0), some (.int a1), some (.int s.1), none]) (dOf := fun s : Int32 × z_Dat => s.2) (fun kc42 hkc42 s => ?_) N (0, a_39)
      obtain ⟨v40, D41⟩ := s
      show z_F _ _ _ _ _ 46 [some (.ref 40), some (.int a0), some (.int a1), some (.int v40), none] [] S D41 _ (F_X11_ahead_L46x N a0 a1 kc42 v40 D41)
      unfold F_X11_ahead_L46x
      refine z_iload_n (i := 3) (x := v40) dX11_ahead_46 rfl rfl ?_
      refine z_iload_n (i := 1) (x := a0) dX11_ahead_47 rfl rfl ?_
      refine z_icmp_ge 61 dX11_ahead_48 (by decide) (fun c43 => ?_) (fun c43 => ?_)
      · refine z_iload_n (i := 2) (x := a1) dX11_ahead_61 rfl rfl ?_
        refine z_if_ne 70 dX11_ahead_62 (by decide) (fun c44 => ?_) (fun c44 => ?_)
        · refine z_aload_n (i := 0) (x := 40) dX11_ahead_65 rfl rfl ?_
          refine z_cWI (As := [.ref 40]) (rest := []) (em_X11_sitting hl hW N D41) (fun o7 h => z_runV 379 0 h rfl kk_X11_379 hs40 kl_11.1 kq_X11_sitting rfl (Nat.le_of_ble_eq_true rfl) ⟨Nat.le_of_ble_eq_true rfl, Nat.le_of_ble_eq_true rfl, Nat.le_of_ble_eq_true rfl, Nat.le_of_ble_eq_true rfl⟩ dX11_ahead_66) z_gWI (fun a_46 hz45 => ?_)
          exact z_ireturn dX11_ahead_69 z_rWI rfl (by decide) (by decide)
        · refine z_iload_n (i := 2) (x := a1) dX11_ahead_70 rfl rfl ?_
          refine z_iconst (v := 2) dX11_ahead_71 rfl ?_
          refine z_icmp_ne 80 dX11_ahead_72 (by decide) (fun c47 => ?_) (fun c47 => ?_)
          · refine z_aload_n (i := 0) (x := 40) dX11_ahead_75 rfl rfl ?_
            refine z_cR (As := [.ref 40]) (rest := []) (em_X11_unlikeShades hl hW N D41) (fun o7 h => z_runV 385 0 h rfl kk_X11_385 hs40 kl_11.1 kq_X11_unlikeShades rfl (Nat.le_of_ble_eq_true rfl) ⟨Nat.le_of_ble_eq_true rfl, Nat.le_of_ble_eq_true rfl, Nat.le_of_ble_eq_true rfl, Nat.le_of_ble_eq_true rfl⟩ dX11_ahead_76) z_gWI (fun a_49 hz48 => ?_)
            exact z_ireturn dX11_ahead_79 z_rWI rfl (by decide) (by decide)
          · refine z_iconst (v := 0) dX11_ahead_80 rfl ?_
            refine z_istore_n (i := 3) (x := 0) (lv' := [some (.ref 40), some (.int a0), some (.int a1), some (.int 0), none]) dX11_ahead_81 rfl (by decide) rfl rfl ?_
            refine z_iconst (v := 0) dX11_ahead_82 rfl ?_
            refine z_istore (i := 4) (x := 0) (lv' := [some (.ref 40), some (.int a0), some (.int a1), some (.int 0), some (.int 0)]) dX11_ahead_83 (by decide) rfl rfl ?_
            refine z_weak (lv' := [some (.ref 40), none, none, some (.int 0), some (.int 0)]) ⟨Or.inr rfl, ⟨Or.inl rfl, ⟨Or.inl rfl, ⟨Or.inr rfl, ⟨Or.inr rfl, trivial⟩⟩⟩⟩⟩ ?_
            refine z_loops (lvOf := fun s : Int32 × Int32 => [some (.ref 40), none, none, some (.int s.1), some (.int s.2)]) (dOf := fun s : Int32 × Int32 => D41) (fun kc52 hkc52 s => ?_) N (0, 0)
            obtain ⟨v50, v51⟩ := s
            show z_F _ _ _ _ _ 85 [some (.ref 40), none, none, some (.int v50), some (.int v51)] [] S D41 _ (F_X11_ahead_L85x D41 kc52 v50 v51)
            unfold F_X11_ahead_L85x
            refine z_iload (i := 4) (x := v51) dX11_ahead_85 rfl ?_
            refine z_iconst (v := 3) dX11_ahead_87 rfl ?_
            refine z_aload_n (i := 0) (x := 40) dX11_ahead_88 rfl rfl ?_
            refine z_getI (j := 20) dX11_ahead_89 kl_11 hs40 (by decide) rfl rfl kf_X11_159 ?_
            refine z_imul dX11_ahead_92 ?_
            refine z_icmp_ge 114 dX11_ahead_93 (by decide) (fun c53 => ?_) (fun c53 => ?_)
            · refine z_iload_n (i := 3) (x := v50) dX11_ahead_114 rfl rfl ?_
              exact z_ireturn dX11_ahead_115 z_rWI rfl (by decide) (by decide)
            · refine z_iload_n (i := 3) (x := v50) dX11_ahead_96 rfl rfl ?_
              refine z_aload_n (i := 0) (x := 40) dX11_ahead_97 rfl rfl ?_
              refine z_getR (j := 39) dX11_ahead_98 kl_11 hs40 (by decide) rfl rfl kf_X11_68 ?_
              refine z_iconst (v := 0) dX11_ahead_101 rfl ?_
              refine z_iload (i := 4) (x := v51) dX11_ahead_102 rfl ?_
              refine z_iadd dX11_ahead_104 ?_
              refine z_iald dX11_ahead_105 hs58 ?_
              refine z_iadd dX11_ahead_106 ?_
              refine z_topi (fun v54 => ?_)
              refine z_istore_n (i := 3) (x := v54) (lv' := [some (.ref 40), none, none, some (.int v54), some (.int v51)]) dX11_ahead_107 rfl (by decide) rfl rfl ?_
              refine z_iinc (i := 4) (x := v51) (y := 1) dX11_ahead_108 rfl (by decide) (by decide) rfl (fun v55 => ?_)
              refine z_goto 85 dX11_ahead_111 (by decide) ?_
              exact hkc52 (v54, v55)
      · refine z_aload_n (i := 0) (x := 40) dX11_ahead_51 rfl rfl ?_
        refine z_cWV (As := [.ref 40]) (rest := []) (em_X11_passes hl hW N D41) (fun o7 h => z_runV 373 0 h rfl kk_X11_373 hs40 kl_11.1 kq_X11_passes rfl (Nat.le_of_ble_eq_true rfl) ⟨Nat.le_of_ble_eq_true rfl, Nat.le_of_ble_eq_true rfl, Nat.le_of_ble_eq_true rfl, Nat.le_of_ble_eq_true rfl⟩ dX11_ahead_52) z_gWI (fun a_58 hz57 => ?_)
        refine z_iinc (i := 3) (x := v40) (y := 1) dX11_ahead_55 rfl (by decide) (by decide) rfl (fun v59 => ?_)
        refine z_goto 46 dX11_ahead_58 (by decide) ?_
        exact hkc42 (v59, a_58)
  refine z_aload_n (i := 0) (x := 40) dX11_ahead_0 rfl rfl ?_
  refine z_iconst (v := 0) dX11_ahead_1 rfl ?_
  refine z_putI (j := 0) dX11_ahead_2 kl_11 tyX11_ok nmX11 hs40 (by decide) rfl rfl rfl rfl rfl rfl kf_X11_3 (fun D1 => ?_)
  refine z_aload_n (i := 0) (x := 40) dX11_ahead_5 rfl rfl ?_
  refine z_iload_n (i := 1) (x := a0) dX11_ahead_6 rfl rfl ?_
  refine z_iconst (v := 0) dX11_ahead_7 rfl ?_
  refine z_bipush (v := 100) dX11_ahead_8 (by decide) ?_
  refine z_cP (As := [.int a0, .int 0, .int 100]) (rest := [.ref 40]) (em_X11_within hl a0 0 100 D1) (fun o7 h => z_runS 376 3 h rfl kk_X11_376 kq_X11_within rfl (Nat.le_of_ble_eq_true rfl) ⟨Nat.le_of_ble_eq_true rfl, Nat.le_of_ble_eq_true rfl, Nat.le_of_ble_eq_true rfl, Nat.le_of_ble_eq_true rfl⟩ dX11_ahead_10) z_gWI (fun hz2 => ?_)
  refine z_if_eq 29 dX11_ahead_13 (by decide) (fun c3 => ?_) (fun c3 => ?_)
  · exact hJ_F_X11_ahead_J29 D1
  · refine z_iload_n (i := 2) (x := a1) dX11_ahead_16 rfl rfl ?_
    refine z_iconst (v := 0) dX11_ahead_17 rfl ?_
    refine z_iconst (v := 2) dX11_ahead_18 rfl ?_
    refine z_cP (As := [.int a1, .int 0, .int 2]) (rest := [.ref 40]) (em_X11_within hl a1 0 2 D1) (fun o7 h => z_runS 376 3 h rfl kk_X11_376 kq_X11_within rfl (Nat.le_of_ble_eq_true rfl) ⟨Nat.le_of_ble_eq_true rfl, Nat.le_of_ble_eq_true rfl, Nat.le_of_ble_eq_true rfl, Nat.le_of_ble_eq_true rfl⟩ dX11_ahead_19) z_gWI (fun hz32 => ?_)
    refine z_if_eq 29 dX11_ahead_22 (by decide) (fun c33 => ?_) (fun c33 => ?_)
    · exact hJ_F_X11_ahead_J29 D1
    · refine z_iconst (v := 1) dX11_ahead_25 rfl ?_
      refine z_goto 30 dX11_ahead_26 (by decide) ?_
      exact hJ_F_X11_ahead_J30x D1

def F_X11_draws (a0 : Int32) (D : z_Dat) : Option (Int32 × z_Dat) :=
  z_let (z_up D 40 50 (((D 40 50) * 1103515245) + 12345)) (fun D1 => if a0 = 0 then none else (some (z_rem ((z_shr (D1 40 50) 16) &&& 32767) a0, D1)))
set_option maxRecDepth 100000 in
set_option maxHeartbeats 4000000 in
theorem em_X11_draws {l : Launch} {S : List z_Shp} {oW : Nat} (hl : l.stackTraces = false) (hW : z_W S oW) (a0 : Int32) (D : z_Dat) : ∀ out, z_ko (z_kI S) (F_X11_draws a0 D) out → z_EM l M_X11_draws (20, 520, 0, 0) [.ref 40, .int a0] S D out := by
  have hs40 : S[40]? = some (13, 55, [none, some (some 41), none, none, none, none, none, none, none, some (some 42), some (some 43), some (some 44), some (some 45), some (some 46), some (some 47), some (some 48), none, none, none, none, none, none, some (some 49), some (some 50), some (some 51), some (some 52), some (some 53), none, none, some (some 54), some (some 55), some (some 56), none, none, none, none, none, none, some (some 57), some (some 58), some (some 59), some (some 60), some (some 61), none, some (some 62), some (some 63), none, none, some (some 64), some (some 65), none, none, none, some (some 66), none]) := hW.1 40 _ rfl
  refine z_meth hl rfl kp_X11 (Nat.le_of_ble_eq_true rfl) (lv := [some (.ref 40), some (.int a0)]) rfl ?_
  unfold F_X11_draws
  refine z_aload_n (i := 0) (x := 40) dX11_draws_0 rfl rfl ?_
  refine z_aload_n (i := 0) (x := 40) dX11_draws_1 rfl rfl ?_
  refine z_getI (j := 50) dX11_draws_2 kl_11 hs40 (by decide) rfl rfl kf_X11_448 ?_
  refine z_ldcw (v := 1103515245) dX11_draws_5 kd_X11_451 ?_
  refine z_imul dX11_draws_8 ?_
  refine z_sipush (v := 12345) dX11_draws_9 (by decide) ?_
  refine z_iadd dX11_draws_12 ?_
  refine z_putI (j := 50) dX11_draws_13 kl_11 tyX11_ok nmX11 hs40 (by decide) rfl rfl rfl rfl rfl rfl kf_X11_448 (fun D1 => ?_)
  refine z_aload_n (i := 0) (x := 40) dX11_draws_16 rfl rfl ?_
  refine z_getI (j := 50) dX11_draws_17 kl_11 hs40 (by decide) rfl rfl kf_X11_448 ?_
  refine z_bipush (v := 16) dX11_draws_20 (by decide) ?_
  refine z_ishr dX11_draws_22 ?_
  refine z_sipush (v := 32767) dX11_draws_23 (by decide) ?_
  refine z_iand dX11_draws_26 ?_
  refine z_iload_n (i := 1) (x := a0) dX11_draws_27 rfl rfl ?_
  refine z_irem dX11_draws_28 (fun c2 => ?_)
  exact z_ireturn dX11_draws_29 z_rWI rfl (by decide) (by decide)

def F_X11_agesGo_J59 (N : Nat) (kc8 : ((Int32 × z_Dat) → Option z_Dat)) (v13 : Int32) (D14 : z_Dat) : Option z_Dat :=
  if (D14 40 20) ≤ 0 then (z_bd (F_X11_passes N D14) (fun a_17 => z_let (v13 + 1) (fun v18 => kc8 (v18, a_17))))
  else (if (D14 40 19) ≤ 0 then (z_bd (F_X11_passes N D14) (fun a_21 => z_let (v13 + 1) (fun v22 => kc8 (v22, a_21))))
  else (z_bd (F_X11_draws (D14 40 20) D14) (fun a_24 => z_bd (F_X11_draws (a_24.2 40 19) a_24.2) (fun a_26 => z_bd (F_X11_dips a_24.1 a_26.1 a_26.2) (fun a_28 => if a_28.1 = 0 then (z_let (z_up a_28.2 40 51 ((a_24.2 40 51) + 0)) (fun D30 => z_bd (F_X11_passes N D30) (fun a_32 => z_let (v13 + 1) (fun v33 => kc8 (v33, a_32)))))
  else (z_let (z_up a_28.2 40 51 ((a_24.2 40 51) + 1)) (fun D34 => z_bd (F_X11_passes N D34) (fun a_36 => z_let (v13 + 1) (fun v37 => kc8 (v37, a_36))))))))))
def F_X11_agesGo_J55 (N : Nat) (kc8 : ((Int32 × z_Dat) → Option z_Dat)) (v41 : Int32) (v42 : Int32) (D43 : z_Dat) : Option z_Dat :=
  z_let (z_up D43 40 52 (v42 + 0)) (fun D44 => F_X11_agesGo_J59 N kc8 v41 D44)
def F_X11_agesGo_J55x (N : Nat) (kc8 : ((Int32 × z_Dat) → Option z_Dat)) (v45 : Int32) (v46 : Int32) (D47 : z_Dat) : Option z_Dat :=
  z_let (z_up D47 40 52 (v46 + 1)) (fun D48 => F_X11_agesGo_J59 N kc8 v45 D48)
def F_X11_agesGo_L22 (N : Nat) (a1 : Int32) (a2 : Int32) (kc8 : ((Int32 × z_Dat) → Option z_Dat)) (v6 : Int32) (D7 : z_Dat) : Option z_Dat :=
  if a2 ≤ v6 then (some D7)
  else (z_bd (F_X11_draws 16 D7) (fun a_11 => if a1 ≤ a_11.1 then (F_X11_agesGo_J59 N kc8 v6 a_11.2)
  else (z_bd (F_X11_rains N a_11.2) (fun a_39 => if a_39.1 = 0 then (F_X11_agesGo_J55 N kc8 v6 (a_11.2 40 52) a_39.2)
  else (F_X11_agesGo_J55x N kc8 v6 (a_11.2 40 52) a_39.2)))))
def F_X11_agesGo (N : Nat) (a0 : Int32) (a1 : Int32) (a2 : Int32) (D : z_Dat) : Option z_Dat :=
  z_bd (F_X11_take N D) (fun a_2 => z_let (z_up a_2 40 50 a0) (fun D3 => z_let (z_up D3 40 51 0) (fun D4 => z_let (z_up D4 40 52 0) (fun D5 => z_loop (fun kc8 s => F_X11_agesGo_L22 N a1 a2 kc8 s.1 s.2) N (0, D5)))))
set_option maxRecDepth 100000 in
set_option maxHeartbeats 4000000 in
theorem em_X11_agesGo {l : Launch} {S : List z_Shp} {oW : Nat} (hl : l.stackTraces = false) (hW : z_W S oW) (N : Nat) (a0 : Int32) (a1 : Int32) (a2 : Int32) (D : z_Dat) : ∀ out, z_ko (z_kV S) (F_X11_agesGo N a0 a1 a2 D) out → z_EM l M_X11_agesGo (50, 700, 0, 0) [.ref 40, .int a0, .int a1, .int a2] S D out := by
  have hs40 : S[40]? = some (13, 55, [none, some (some 41), none, none, none, none, none, none, none, some (some 42), some (some 43), some (some 44), some (some 45), some (some 46), some (some 47), some (some 48), none, none, none, none, none, none, some (some 49), some (some 50), some (some 51), some (some 52), some (some 53), none, none, some (some 54), some (some 55), some (some 56), none, none, none, none, none, none, some (some 57), some (some 58), some (some 59), some (some 60), some (some 61), none, some (some 62), some (some 63), none, none, some (some 64), some (some 65), none, none, none, some (some 66), none]) := hW.1 40 _ rfl
  refine z_meth hl rfl kp_X11 (Nat.le_of_ble_eq_true rfl) (lv := [some (.ref 40), some (.int a0), some (.int a1), some (.int a2), none, none]) rfl ?_
  unfold F_X11_agesGo
  refine z_aload_n (i := 0) (x := 40) dX11_agesGo_0 rfl rfl ?_
  refine z_cWV (As := [.ref 40]) (rest := []) (em_X11_take hl hW N D) (fun o7 h => z_runV 308 0 h rfl kk_X11_308 hs40 kl_11.1 kq_X11_take rfl (Nat.le_of_ble_eq_true rfl) ⟨Nat.le_of_ble_eq_true rfl, Nat.le_of_ble_eq_true rfl, Nat.le_of_ble_eq_true rfl, Nat.le_of_ble_eq_true rfl⟩ dX11_agesGo_1) z_gWV (fun a_2 hz1 => ?_)
  refine z_aload_n (i := 0) (x := 40) dX11_agesGo_4 rfl rfl ?_
  refine z_iload_n (i := 1) (x := a0) dX11_agesGo_5 rfl rfl ?_
  refine z_putI (j := 50) dX11_agesGo_6 kl_11 tyX11_ok nmX11 hs40 (by decide) rfl rfl rfl rfl rfl rfl kf_X11_448 (fun D3 => ?_)
  refine z_aload_n (i := 0) (x := 40) dX11_agesGo_9 rfl rfl ?_
  refine z_iconst (v := 0) dX11_agesGo_10 rfl ?_
  refine z_putI (j := 51) dX11_agesGo_11 kl_11 tyX11_ok nmX11 hs40 (by decide) rfl rfl rfl rfl rfl rfl kf_X11_452 (fun D4 => ?_)
  refine z_aload_n (i := 0) (x := 40) dX11_agesGo_14 rfl rfl ?_
  refine z_iconst (v := 0) dX11_agesGo_15 rfl ?_
  refine z_putI (j := 52) dX11_agesGo_16 kl_11 tyX11_ok nmX11 hs40 (by decide) rfl rfl rfl rfl rfl rfl kf_X11_455 (fun D5 => ?_)
  refine z_iconst (v := 0) dX11_agesGo_19 rfl ?_
  refine z_istore (i := 4) (x := 0) (lv' := [some (.ref 40), some (.int a0), some (.int a1), some (.int a2), some (.int 0), none]) dX11_agesGo_20 (by decide) rfl rfl ?_
  refine z_weak (lv' := [some (.ref 40), none, some (.int a1), some (.int a2), some (.int 0), none]) ⟨Or.inr rfl, ⟨Or.inl rfl, ⟨Or.inr rfl, ⟨Or.inr rfl, ⟨Or.inr rfl, ⟨Or.inl rfl, trivial⟩⟩⟩⟩⟩⟩ ?_
  refine z_loops (lvOf := fun s : Int32 × z_Dat => [some (.ref 40), none, some (.int a1), some (.int a2), some (.int s.1), none]) (dOf := fun s : Int32 × z_Dat => s.2) (fun kc8 hkc8 s => ?_) N (0, D5)
  obtain ⟨v6, D7⟩ := s
  show z_F _ _ _ _ _ 22 [some (.ref 40), none, some (.int a1), some (.int a2), some (.int v6), none] [] S D7 _ (F_X11_agesGo_L22 N a1 a2 kc8 v6 D7)
  unfold F_X11_agesGo_L22
  have hJ_F_X11_agesGo_J59 : ∀ (v13 : Int32) (D14 : z_Dat) , z_F l M_X11_agesGo (50, 700, 0, 0) 0 0 59 [some (.ref 40), none, some (.int a1), some (.int a2), some (.int v13), none] [] S D14 (z_ko (z_kV S)) (F_X11_agesGo_J59 N kc8 v13 D14) := by
    intro v13 D14
    unfold F_X11_agesGo_J59
    refine z_aload_n (i := 0) (x := 40) dX11_agesGo_59 rfl rfl ?_
    refine z_getI (j := 20) dX11_agesGo_60 kl_11 hs40 (by decide) rfl rfl kf_X11_159 ?_
    refine z_if_le 114 dX11_agesGo_63 (by decide) (fun c15 => ?_) (fun c15 => ?_)
    · refine z_aload_n (i := 0) (x := 40) dX11_agesGo_114 rfl rfl ?_
      refine z_cWV (As := [.ref 40]) (rest := []) (em_X11_passes hl hW N D14) (fun o7 h => z_runV 373 0 h rfl kk_X11_373 hs40 kl_11.1 kq_X11_passes rfl (Nat.le_of_ble_eq_true rfl) ⟨Nat.le_of_ble_eq_true rfl, Nat.le_of_ble_eq_true rfl, Nat.le_of_ble_eq_true rfl, Nat.le_of_ble_eq_true rfl⟩ dX11_agesGo_115) z_gWV (fun a_17 hz16 => ?_)
      refine z_iinc (i := 4) (x := v13) (y := 1) dX11_agesGo_118 rfl (by decide) (by decide) rfl (fun v18 => ?_)
      refine z_goto 22 dX11_agesGo_121 (by decide) ?_
      exact hkc8 (v18, a_17)
    · refine z_aload_n (i := 0) (x := 40) dX11_agesGo_66 rfl rfl ?_
      refine z_getI (j := 19) dX11_agesGo_67 kl_11 hs40 (by decide) rfl rfl kf_X11_156 ?_
      refine z_if_le 114 dX11_agesGo_70 (by decide) (fun c19 => ?_) (fun c19 => ?_)
      · refine z_aload_n (i := 0) (x := 40) dX11_agesGo_114 rfl rfl ?_
        refine z_cWV (As := [.ref 40]) (rest := []) (em_X11_passes hl hW N D14) (fun o7 h => z_runV 373 0 h rfl kk_X11_373 hs40 kl_11.1 kq_X11_passes rfl (Nat.le_of_ble_eq_true rfl) ⟨Nat.le_of_ble_eq_true rfl, Nat.le_of_ble_eq_true rfl, Nat.le_of_ble_eq_true rfl, Nat.le_of_ble_eq_true rfl⟩ dX11_agesGo_115) z_gWV (fun a_21 hz20 => ?_)
        refine z_iinc (i := 4) (x := v13) (y := 1) dX11_agesGo_118 rfl (by decide) (by decide) rfl (fun v22 => ?_)
        refine z_goto 22 dX11_agesGo_121 (by decide) ?_
        exact hkc8 (v22, a_21)
      · refine z_aload_n (i := 0) (x := 40) dX11_agesGo_73 rfl rfl ?_
        refine z_aload_n (i := 0) (x := 40) dX11_agesGo_74 rfl rfl ?_
        refine z_getI (j := 20) dX11_agesGo_75 kl_11 hs40 (by decide) rfl rfl kf_X11_159 ?_
        refine z_cWI (As := [.ref 40, .int (D14 40 20)]) (rest := []) (em_X11_draws hl hW (D14 40 20) D14) (fun o7 h => z_runV 458 1 h rfl kk_X11_458 hs40 kl_11.1 kq_X11_draws rfl (Nat.le_of_ble_eq_true rfl) ⟨Nat.le_of_ble_eq_true rfl, Nat.le_of_ble_eq_true rfl, Nat.le_of_ble_eq_true rfl, Nat.le_of_ble_eq_true rfl⟩ dX11_agesGo_78) z_gWV (fun a_24 hz23 => ?_)
        refine z_istore (i := 5) (x := a_24.1) (lv' := [some (.ref 40), none, some (.int a1), some (.int a2), some (.int v13), some (.int a_24.1)]) dX11_agesGo_81 (by decide) rfl rfl ?_
        refine z_aload_n (i := 0) (x := 40) dX11_agesGo_83 rfl rfl ?_
        refine z_dup dX11_agesGo_84 rfl ?_
        refine z_getI (j := 51) dX11_agesGo_85 kl_11 hs40 (by decide) rfl rfl kf_X11_452 ?_
        refine z_aload_n (i := 0) (x := 40) dX11_agesGo_88 rfl rfl ?_
        refine z_iload (i := 5) (x := a_24.1) dX11_agesGo_89 rfl ?_
        refine z_aload_n (i := 0) (x := 40) dX11_agesGo_91 rfl rfl ?_
        refine z_aload_n (i := 0) (x := 40) dX11_agesGo_92 rfl rfl ?_
        refine z_getI (j := 19) dX11_agesGo_93 kl_11 hs40 (by decide) rfl rfl kf_X11_156 ?_
        refine z_cWI (As := [.ref 40, .int (a_24.2 40 19)]) (rest := [.int a_24.1, .ref 40, .int (a_24.2 40 51), .ref 40]) (em_X11_draws hl hW (a_24.2 40 19) a_24.2) (fun o7 h => z_runV 458 1 h rfl kk_X11_458 hs40 kl_11.1 kq_X11_draws rfl (Nat.le_of_ble_eq_true rfl) ⟨Nat.le_of_ble_eq_true rfl, Nat.le_of_ble_eq_true rfl, Nat.le_of_ble_eq_true rfl, Nat.le_of_ble_eq_true rfl⟩ dX11_agesGo_96) z_gWV (fun a_26 hz25 => ?_)
        refine z_cWI (As := [.ref 40, .int a_24.1, .int a_26.1]) (rest := [.int (a_24.2 40 51), .ref 40]) (em_X11_dips hl hW a_24.1 a_26.1 a_26.2) (fun o7 h => z_runV 361 2 h rfl kk_X11_361 hs40 kl_11.1 kq_X11_dips rfl (Nat.le_of_ble_eq_true rfl) ⟨Nat.le_of_ble_eq_true rfl, Nat.le_of_ble_eq_true rfl, Nat.le_of_ble_eq_true rfl, Nat.le_of_ble_eq_true rfl⟩ dX11_agesGo_99) z_gWV (fun a_28 hz27 => ?_)
        refine z_if_eq 109 dX11_agesGo_102 (by decide) (fun c29 => ?_) (fun c29 => ?_)
        · refine z_iconst (v := 0) dX11_agesGo_109 rfl ?_
          refine z_iadd dX11_agesGo_110 ?_
          refine z_putI (j := 51) dX11_agesGo_111 kl_11 tyX11_ok nmX11 hs40 (by decide) rfl rfl rfl rfl rfl rfl kf_X11_452 (fun D30 => ?_)
          refine z_aload_n (i := 0) (x := 40) dX11_agesGo_114 rfl rfl ?_
          refine z_cWV (As := [.ref 40]) (rest := []) (em_X11_passes hl hW N D30) (fun o7 h => z_runV 373 0 h rfl kk_X11_373 hs40 kl_11.1 kq_X11_passes rfl (Nat.le_of_ble_eq_true rfl) ⟨Nat.le_of_ble_eq_true rfl, Nat.le_of_ble_eq_true rfl, Nat.le_of_ble_eq_true rfl, Nat.le_of_ble_eq_true rfl⟩ dX11_agesGo_115) z_gWV (fun a_32 hz31 => ?_)
          refine z_iinc (i := 4) (x := v13) (y := 1) dX11_agesGo_118 rfl (by decide) (by decide) rfl (fun v33 => ?_)
          refine z_goto 22 dX11_agesGo_121 (by decide) ?_
          refine z_weak (lv' := [some (.ref 40), none, some (.int a1), some (.int a2), some (.int v33), none]) ⟨Or.inr rfl, ⟨Or.inl rfl, ⟨Or.inr rfl, ⟨Or.inr rfl, ⟨Or.inr rfl, ⟨Or.inl rfl, trivial⟩⟩⟩⟩⟩⟩ ?_
          exact hkc8 (v33, a_32)
        · refine z_iconst (v := 1) dX11_agesGo_105 rfl ?_
          refine z_goto 110 dX11_agesGo_106 (by decide) ?_
          refine z_iadd dX11_agesGo_110 ?_
          refine z_putI (j := 51) dX11_agesGo_111 kl_11 tyX11_ok nmX11 hs40 (by decide) rfl rfl rfl rfl rfl rfl kf_X11_452 (fun D34 => ?_)
          refine z_aload_n (i := 0) (x := 40) dX11_agesGo_114 rfl rfl ?_
          refine z_cWV (As := [.ref 40]) (rest := []) (em_X11_passes hl hW N D34) (fun o7 h => z_runV 373 0 h rfl kk_X11_373 hs40 kl_11.1 kq_X11_passes rfl (Nat.le_of_ble_eq_true rfl) ⟨Nat.le_of_ble_eq_true rfl, Nat.le_of_ble_eq_true rfl, Nat.le_of_ble_eq_true rfl, Nat.le_of_ble_eq_true rfl⟩ dX11_agesGo_115) z_gWV (fun a_36 hz35 => ?_)
          refine z_iinc (i := 4) (x := v13) (y := 1) dX11_agesGo_118 rfl (by decide) (by decide) rfl (fun v37 => ?_)
          refine z_goto 22 dX11_agesGo_121 (by decide) ?_
          refine z_weak (lv' := [some (.ref 40), none, some (.int a1), some (.int a2), some (.int v37), none]) ⟨Or.inr rfl, ⟨Or.inl rfl, ⟨Or.inr rfl, ⟨Or.inr rfl, ⟨Or.inr rfl, ⟨Or.inl rfl, trivial⟩⟩⟩⟩⟩⟩ ?_
          exact hkc8 (v37, a_36)
  have hJ_F_X11_agesGo_J55 : ∀ (v41 : Int32) (v42 : Int32) (D43 : z_Dat) , z_F l M_X11_agesGo (50, 700, 0, 0) 0 0 55 [some (.ref 40), none, some (.int a1), some (.int a2), some (.int v41), none] [.int 0, .int v42, .ref 40] S D43 (z_ko (z_kV S)) (F_X11_agesGo_J55 N kc8 v41 v42 D43) := by
    intro v41 v42 D43
    unfold F_X11_agesGo_J55
    refine z_iadd dX11_agesGo_55 ?_
    refine z_putI (j := 52) dX11_agesGo_56 kl_11 tyX11_ok nmX11 hs40 (by decide) rfl rfl rfl rfl rfl rfl kf_X11_455 (fun D44 => ?_)
    exact hJ_F_X11_agesGo_J59 v41 D44
  have hJ_F_X11_agesGo_J55x : ∀ (v45 : Int32) (v46 : Int32) (D47 : z_Dat) , z_F l M_X11_agesGo (50, 700, 0, 0) 0 0 55 [some (.ref 40), none, some (.int a1), some (.int a2), some (.int v45), none] [.int 1, .int v46, .ref 40] S D47 (z_ko (z_kV S)) (F_X11_agesGo_J55x N kc8 v45 v46 D47) := by
    intro v45 v46 D47
    unfold F_X11_agesGo_J55x
    refine z_iadd dX11_agesGo_55 ?_
    refine z_putI (j := 52) dX11_agesGo_56 kl_11 tyX11_ok nmX11 hs40 (by decide) rfl rfl rfl rfl rfl rfl kf_X11_455 (fun D48 => ?_)
    exact hJ_F_X11_agesGo_J59 v45 D48
  refine z_iload (i := 4) (x := v6) dX11_agesGo_22 rfl ?_
  refine z_iload_n (i := 3) (x := a2) dX11_agesGo_24 rfl rfl ?_
  refine z_icmp_ge 124 dX11_agesGo_25 (by decide) (fun c9 => ?_) (fun c9 => ?_)
  · exact z_vreturn dX11_agesGo_124 z_rWV trivial (by decide) (by decide)
  · refine z_aload_n (i := 0) (x := 40) dX11_agesGo_28 rfl rfl ?_
    refine z_bipush (v := 16) dX11_agesGo_29 (by decide) ?_
    refine z_cWI (As := [.ref 40, .int 16]) (rest := []) (em_X11_draws hl hW 16 D7) (fun o7 h => z_runV 458 1 h rfl kk_X11_458 hs40 kl_11.1 kq_X11_draws rfl (Nat.le_of_ble_eq_true rfl) ⟨Nat.le_of_ble_eq_true rfl, Nat.le_of_ble_eq_true rfl, Nat.le_of_ble_eq_true rfl, Nat.le_of_ble_eq_true rfl⟩ dX11_agesGo_31) z_gWV (fun a_11 hz10 => ?_)
    refine z_iload_n (i := 2) (x := a1) dX11_agesGo_34 rfl rfl ?_
    refine z_icmp_ge 59 dX11_agesGo_35 (by decide) (fun c12 => ?_) (fun c12 => ?_)
    · exact hJ_F_X11_agesGo_J59 v6 a_11.2
    · refine z_aload_n (i := 0) (x := 40) dX11_agesGo_38 rfl rfl ?_
      refine z_dup dX11_agesGo_39 rfl ?_
      refine z_getI (j := 52) dX11_agesGo_40 kl_11 hs40 (by decide) rfl rfl kf_X11_455 ?_
      refine z_aload_n (i := 0) (x := 40) dX11_agesGo_43 rfl rfl ?_
      refine z_cWI (As := [.ref 40]) (rest := [.int (a_11.2 40 52), .ref 40]) (em_X11_rains hl hW N a_11.2) (fun o7 h => z_runV 367 0 h rfl kk_X11_367 hs40 kl_11.1 kq_X11_rains rfl (Nat.le_of_ble_eq_true rfl) ⟨Nat.le_of_ble_eq_true rfl, Nat.le_of_ble_eq_true rfl, Nat.le_of_ble_eq_true rfl, Nat.le_of_ble_eq_true rfl⟩ dX11_agesGo_44) z_gWV (fun a_39 hz38 => ?_)
      refine z_if_eq 54 dX11_agesGo_47 (by decide) (fun c40 => ?_) (fun c40 => ?_)
      · refine z_iconst (v := 0) dX11_agesGo_54 rfl ?_
        exact hJ_F_X11_agesGo_J55 v6 (a_11.2 40 52) a_39.2
      · refine z_iconst (v := 1) dX11_agesGo_50 rfl ?_
        refine z_goto 55 dX11_agesGo_51 (by decide) ?_
        exact hJ_F_X11_agesGo_J55x v6 (a_11.2 40 52) a_39.2

def F_X11_areAges (a0 : Int32) (a1 : Int32) : Int32 :=
  if a0 < 0 then (0)
  else (if 16 < a0 then (0)
  else (if a1 < 1 then (0)
  else (if 96 < a1 then (0)
  else (1))))
set_option maxRecDepth 100000 in
set_option maxHeartbeats 4000000 in
theorem em_X11_areAges {l : Launch} {S : List z_Shp} (hl : l.stackTraces = false) (a0 : Int32) (a1 : Int32) (D : z_Dat) : ∀ out, z_kt (z_kR S D) (F_X11_areAges a0 a1) out → z_EM l M_X11_areAges (20, 520, 0, 0) [.int a0, .int a1] S D out := by
  refine z_meth hl rfl kp_X11 (Nat.le_of_ble_eq_true rfl) (lv := [some (.int a0), some (.int a1)]) rfl ?_
  unfold F_X11_areAges
  refine z_iload_n (i := 0) (x := a0) dX11_areAges_0 rfl rfl ?_
  refine z_if_lt 25 dX11_areAges_1 (by decide) (fun c1 => ?_) (fun c1 => ?_)
  · refine z_iconst (v := 0) dX11_areAges_25 rfl ?_
    exact z_ireturn dX11_areAges_26 z_rP rfl (by decide) (by decide)
  · refine z_iload_n (i := 0) (x := a0) dX11_areAges_4 rfl rfl ?_
    refine z_bipush (v := 16) dX11_areAges_5 (by decide) ?_
    refine z_icmp_gt 25 dX11_areAges_7 (by decide) (fun c2 => ?_) (fun c2 => ?_)
    · refine z_iconst (v := 0) dX11_areAges_25 rfl ?_
      exact z_ireturn dX11_areAges_26 z_rP rfl (by decide) (by decide)
    · refine z_iload_n (i := 1) (x := a1) dX11_areAges_10 rfl rfl ?_
      refine z_iconst (v := 1) dX11_areAges_11 rfl ?_
      refine z_icmp_lt 25 dX11_areAges_12 (by decide) (fun c3 => ?_) (fun c3 => ?_)
      · refine z_iconst (v := 0) dX11_areAges_25 rfl ?_
        exact z_ireturn dX11_areAges_26 z_rP rfl (by decide) (by decide)
      · refine z_iload_n (i := 1) (x := a1) dX11_areAges_15 rfl rfl ?_
        refine z_bipush (v := 96) dX11_areAges_16 (by decide) ?_
        refine z_icmp_gt 25 dX11_areAges_18 (by decide) (fun c4 => ?_) (fun c4 => ?_)
        · refine z_iconst (v := 0) dX11_areAges_25 rfl ?_
          exact z_ireturn dX11_areAges_26 z_rP rfl (by decide) (by decide)
        · refine z_iconst (v := 1) dX11_areAges_21 rfl ?_
          refine z_goto 26 dX11_areAges_22 (by decide) ?_
          exact z_ireturn dX11_areAges_26 z_rP rfl (by decide) (by decide)

def F_X11_ages_J29 (N : Nat) (a0 : Int32) (a1 : Int32) (a2 : Int32) (a3 : Int32) (D5 : z_Dat) : Option (Int32 × z_Dat) :=
  z_bd (F_X11_may 0 1 1 D5) (fun a_7 => if a_7.1 = 0 then (some (0, a_7.2))
  else (z_bd (F_X11_agesGo N a0 a1 a2 a_7.2) (fun a_10 => if a3 = 0 then (z_bd (F_X11_sitting N a_10) (fun a_13 => some (a_13.1, a_13.2)))
  else (if a3 = 1 then (some (a_10 40 51, a_10))
  else (if a3 = 2 then (some (a_10 40 52, a_10))
  else (z_bd (F_X11_unlikeShades N a_10) (fun a_17 => some (a_17, a_10))))))))
def F_X11_ages_J28 (N : Nat) (a0 : Int32) (a1 : Int32) (a2 : Int32) (a3 : Int32) (D4 : z_Dat) : Option (Int32 × z_Dat) :=
  F_X11_ages_J29 N a0 a1 a2 a3 D4
def F_X11_ages_J29x (N : Nat) (a0 : Int32) (a1 : Int32) (a2 : Int32) (a3 : Int32) (D20 : z_Dat) : Option (Int32 × z_Dat) :=
  z_bd (F_X11_may 1 1 1 D20) (fun a_22 => if a_22.1 = 0 then (some (0, a_22.2))
  else (z_bd (F_X11_agesGo N a0 a1 a2 a_22.2) (fun a_25 => if a3 = 0 then (z_bd (F_X11_sitting N a_25) (fun a_28 => some (a_28.1, a_28.2)))
  else (if a3 = 1 then (some (a_25 40 51, a_25))
  else (if a3 = 2 then (some (a_25 40 52, a_25))
  else (z_bd (F_X11_unlikeShades N a_25) (fun a_32 => some (a_32, a_25))))))))
def F_X11_ages (N : Nat) (a0 : Int32) (a1 : Int32) (a2 : Int32) (a3 : Int32) (D : z_Dat) : Option (Int32 × z_Dat) :=
  z_let (z_up D 40 0 0) (fun D1 => if (F_X11_areAges a1 a2) = 0 then (F_X11_ages_J28 N a0 a1 a2 a3 D1)
  else (if (F_X11_within a3 0 3) = 0 then (F_X11_ages_J28 N a0 a1 a2 a3 D1)
  else (F_X11_ages_J29x N a0 a1 a2 a3 D1)))
set_option maxRecDepth 100000 in
set_option maxHeartbeats 4000000 in
theorem em_X11_ages {l : Launch} {S : List z_Shp} {oW : Nat} (hl : l.stackTraces = false) (hW : z_W S oW) (N : Nat) (a0 : Int32) (a1 : Int32) (a2 : Int32) (a3 : Int32) (D : z_Dat) : ∀ out, z_ko (z_kI S) (F_X11_ages N a0 a1 a2 a3 D) out → z_EM l M_X11_ages (80, 880, 0, 0) [.ref 40, .int a0, .int a1, .int a2, .int a3] S D out := by
  have hs40 : S[40]? = some (13, 55, [none, some (some 41), none, none, none, none, none, none, none, some (some 42), some (some 43), some (some 44), some (some 45), some (some 46), some (some 47), some (some 48), none, none, none, none, none, none, some (some 49), some (some 50), some (some 51), some (some 52), some (some 53), none, none, some (some 54), some (some 55), some (some 56), none, none, none, none, none, none, some (some 57), some (some 58), some (some 59), some (some 60), some (some 61), none, some (some 62), some (some 63), none, none, some (some 64), some (some 65), none, none, none, some (some 66), none]) := hW.1 40 _ rfl
  refine z_meth hl rfl kp_X11 (Nat.le_of_ble_eq_true rfl) (lv := [some (.ref 40), some (.int a0), some (.int a1), some (.int a2), some (.int a3)]) rfl ?_
  unfold F_X11_ages
  have hJ_F_X11_ages_J29 : ∀ (D5 : z_Dat) , z_F l M_X11_ages (80, 880, 0, 0) 0 0 29 [some (.ref 40), some (.int a0), some (.int a1), some (.int a2), some (.int a3)] [.int 0, .ref 40] S D5 (z_ko (z_kI S)) (F_X11_ages_J29 N a0 a1 a2 a3 D5) := by
    intro D5
    unfold F_X11_ages_J29
    refine z_iconst (v := 1) dX11_ages_29 rfl ?_
    refine z_iconst (v := 1) dX11_ages_30 rfl ?_
    refine z_cWI (As := [.ref 40, .int 0, .int 1, .int 1]) (rest := []) (em_X11_may hl hW 0 1 1 D5) (fun o7 h => z_runV 198 3 h rfl kk_X11_198 hs40 kl_11.1 kq_X11_may rfl (Nat.le_of_ble_eq_true rfl) ⟨Nat.le_of_ble_eq_true rfl, Nat.le_of_ble_eq_true rfl, Nat.le_of_ble_eq_true rfl, Nat.le_of_ble_eq_true rfl⟩ dX11_ages_31) z_gWI (fun a_7 hz6 => ?_)
    refine z_if_ne 39 dX11_ages_34 (by decide) (fun c8 => ?_) (fun c8 => ?_)
    · refine z_iconst (v := 0) dX11_ages_37 rfl ?_
      exact z_ireturn dX11_ages_38 z_rWI rfl (by decide) (by decide)
    · refine z_aload_n (i := 0) (x := 40) dX11_ages_39 rfl rfl ?_
      refine z_iload_n (i := 1) (x := a0) dX11_ages_40 rfl rfl ?_
      refine z_iload_n (i := 2) (x := a1) dX11_ages_41 rfl rfl ?_
      refine z_iload_n (i := 3) (x := a2) dX11_ages_42 rfl rfl ?_
      refine z_cWV (As := [.ref 40, .int a0, .int a1, .int a2]) (rest := []) (em_X11_agesGo hl hW N a0 a1 a2 a_7.2) (fun o7 h => z_runV 464 3 h rfl kk_X11_464 hs40 kl_11.1 kq_X11_agesGo rfl (Nat.le_of_ble_eq_true rfl) ⟨Nat.le_of_ble_eq_true rfl, Nat.le_of_ble_eq_true rfl, Nat.le_of_ble_eq_true rfl, Nat.le_of_ble_eq_true rfl⟩ dX11_ages_43) z_gWI (fun a_10 hz9 => ?_)
      refine z_iload (i := 4) (x := a3) dX11_ages_46 rfl ?_
      refine z_if_ne 58 dX11_ages_48 (by decide) (fun c11 => ?_) (fun c11 => ?_)
      · refine z_aload_n (i := 0) (x := 40) dX11_ages_51 rfl rfl ?_
        refine z_cWI (As := [.ref 40]) (rest := []) (em_X11_sitting hl hW N a_10) (fun o7 h => z_runV 379 0 h rfl kk_X11_379 hs40 kl_11.1 kq_X11_sitting rfl (Nat.le_of_ble_eq_true rfl) ⟨Nat.le_of_ble_eq_true rfl, Nat.le_of_ble_eq_true rfl, Nat.le_of_ble_eq_true rfl, Nat.le_of_ble_eq_true rfl⟩ dX11_ages_52) z_gWI (fun a_13 hz12 => ?_)
        refine z_goto 88 dX11_ages_55 (by decide) ?_
        exact z_ireturn dX11_ages_88 z_rWI rfl (by decide) (by decide)
      · refine z_iload (i := 4) (x := a3) dX11_ages_58 rfl ?_
        refine z_iconst (v := 1) dX11_ages_60 rfl ?_
        refine z_icmp_ne 71 dX11_ages_61 (by decide) (fun c14 => ?_) (fun c14 => ?_)
        · refine z_aload_n (i := 0) (x := 40) dX11_ages_64 rfl rfl ?_
          refine z_getI (j := 51) dX11_ages_65 kl_11 hs40 (by decide) rfl rfl kf_X11_452 ?_
          refine z_goto 88 dX11_ages_68 (by decide) ?_
          exact z_ireturn dX11_ages_88 z_rWI rfl (by decide) (by decide)
        · refine z_iload (i := 4) (x := a3) dX11_ages_71 rfl ?_
          refine z_iconst (v := 2) dX11_ages_73 rfl ?_
          refine z_icmp_ne 84 dX11_ages_74 (by decide) (fun c15 => ?_) (fun c15 => ?_)
          · refine z_aload_n (i := 0) (x := 40) dX11_ages_77 rfl rfl ?_
            refine z_getI (j := 52) dX11_ages_78 kl_11 hs40 (by decide) rfl rfl kf_X11_455 ?_
            refine z_goto 88 dX11_ages_81 (by decide) ?_
            exact z_ireturn dX11_ages_88 z_rWI rfl (by decide) (by decide)
          · refine z_aload_n (i := 0) (x := 40) dX11_ages_84 rfl rfl ?_
            refine z_cR (As := [.ref 40]) (rest := []) (em_X11_unlikeShades hl hW N a_10) (fun o7 h => z_runV 385 0 h rfl kk_X11_385 hs40 kl_11.1 kq_X11_unlikeShades rfl (Nat.le_of_ble_eq_true rfl) ⟨Nat.le_of_ble_eq_true rfl, Nat.le_of_ble_eq_true rfl, Nat.le_of_ble_eq_true rfl, Nat.le_of_ble_eq_true rfl⟩ dX11_ages_85) z_gWI (fun a_17 hz16 => ?_)
            exact z_ireturn dX11_ages_88 z_rWI rfl (by decide) (by decide)
  have hJ_F_X11_ages_J28 : ∀ (D4 : z_Dat) , z_F l M_X11_ages (80, 880, 0, 0) 0 0 28 [some (.ref 40), some (.int a0), some (.int a1), some (.int a2), some (.int a3)] [.ref 40] S D4 (z_ko (z_kI S)) (F_X11_ages_J28 N a0 a1 a2 a3 D4) := by
    intro D4
    unfold F_X11_ages_J28
    refine z_iconst (v := 0) dX11_ages_28 rfl ?_
    exact hJ_F_X11_ages_J29 D4
  have hJ_F_X11_ages_J29x : ∀ (D20 : z_Dat) , z_F l M_X11_ages (80, 880, 0, 0) 0 0 29 [some (.ref 40), some (.int a0), some (.int a1), some (.int a2), some (.int a3)] [.int 1, .ref 40] S D20 (z_ko (z_kI S)) (F_X11_ages_J29x N a0 a1 a2 a3 D20) := by
    intro D20
    unfold F_X11_ages_J29x
    refine z_iconst (v := 1) dX11_ages_29 rfl ?_
    refine z_iconst (v := 1) dX11_ages_30 rfl ?_
    refine z_cWI (As := [.ref 40, .int 1, .int 1, .int 1]) (rest := []) (em_X11_may hl hW 1 1 1 D20) (fun o7 h => z_runV 198 3 h rfl kk_X11_198 hs40 kl_11.1 kq_X11_may rfl (Nat.le_of_ble_eq_true rfl) ⟨Nat.le_of_ble_eq_true rfl, Nat.le_of_ble_eq_true rfl, Nat.le_of_ble_eq_true rfl, Nat.le_of_ble_eq_true rfl⟩ dX11_ages_31) z_gWI (fun a_22 hz21 => ?_)
    refine z_if_ne 39 dX11_ages_34 (by decide) (fun c23 => ?_) (fun c23 => ?_)
    · refine z_iconst (v := 0) dX11_ages_37 rfl ?_
      exact z_ireturn dX11_ages_38 z_rWI rfl (by decide) (by decide)
    · refine z_aload_n (i := 0) (x := 40) dX11_ages_39 rfl rfl ?_
      refine z_iload_n (i := 1) (x := a0) dX11_ages_40 rfl rfl ?_
      refine z_iload_n (i := 2) (x := a1) dX11_ages_41 rfl rfl ?_
      refine z_iload_n (i := 3) (x := a2) dX11_ages_42 rfl rfl ?_
      refine z_cWV (As := [.ref 40, .int a0, .int a1, .int a2]) (rest := []) (em_X11_agesGo hl hW N a0 a1 a2 a_22.2) (fun o7 h => z_runV 464 3 h rfl kk_X11_464 hs40 kl_11.1 kq_X11_agesGo rfl (Nat.le_of_ble_eq_true rfl) ⟨Nat.le_of_ble_eq_true rfl, Nat.le_of_ble_eq_true rfl, Nat.le_of_ble_eq_true rfl, Nat.le_of_ble_eq_true rfl⟩ dX11_ages_43) z_gWI (fun a_25 hz24 => ?_)
      refine z_iload (i := 4) (x := a3) dX11_ages_46 rfl ?_
      refine z_if_ne 58 dX11_ages_48 (by decide) (fun c26 => ?_) (fun c26 => ?_)
      · refine z_aload_n (i := 0) (x := 40) dX11_ages_51 rfl rfl ?_
        refine z_cWI (As := [.ref 40]) (rest := []) (em_X11_sitting hl hW N a_25) (fun o7 h => z_runV 379 0 h rfl kk_X11_379 hs40 kl_11.1 kq_X11_sitting rfl (Nat.le_of_ble_eq_true rfl) ⟨Nat.le_of_ble_eq_true rfl, Nat.le_of_ble_eq_true rfl, Nat.le_of_ble_eq_true rfl, Nat.le_of_ble_eq_true rfl⟩ dX11_ages_52) z_gWI (fun a_28 hz27 => ?_)
        refine z_goto 88 dX11_ages_55 (by decide) ?_
        exact z_ireturn dX11_ages_88 z_rWI rfl (by decide) (by decide)
      · refine z_iload (i := 4) (x := a3) dX11_ages_58 rfl ?_
        refine z_iconst (v := 1) dX11_ages_60 rfl ?_
        refine z_icmp_ne 71 dX11_ages_61 (by decide) (fun c29 => ?_) (fun c29 => ?_)
        · refine z_aload_n (i := 0) (x := 40) dX11_ages_64 rfl rfl ?_
          refine z_getI (j := 51) dX11_ages_65 kl_11 hs40 (by decide) rfl rfl kf_X11_452 ?_
          refine z_goto 88 dX11_ages_68 (by decide) ?_
          exact z_ireturn dX11_ages_88 z_rWI rfl (by decide) (by decide)
        · refine z_iload (i := 4) (x := a3) dX11_ages_71 rfl ?_
          refine z_iconst (v := 2) dX11_ages_73 rfl ?_
          refine z_icmp_ne 84 dX11_ages_74 (by decide) (fun c30 => ?_) (fun c30 => ?_)
          · refine z_aload_n (i := 0) (x := 40) dX11_ages_77 rfl rfl ?_
            refine z_getI (j := 52) dX11_ages_78 kl_11 hs40 (by decide) rfl rfl kf_X11_455 ?_
            refine z_goto 88 dX11_ages_81 (by decide) ?_
            exact z_ireturn dX11_ages_88 z_rWI rfl (by decide) (by decide)
          · refine z_aload_n (i := 0) (x := 40) dX11_ages_84 rfl rfl ?_
            refine z_cR (As := [.ref 40]) (rest := []) (em_X11_unlikeShades hl hW N a_25) (fun o7 h => z_runV 385 0 h rfl kk_X11_385 hs40 kl_11.1 kq_X11_unlikeShades rfl (Nat.le_of_ble_eq_true rfl) ⟨Nat.le_of_ble_eq_true rfl, Nat.le_of_ble_eq_true rfl, Nat.le_of_ble_eq_true rfl, Nat.le_of_ble_eq_true rfl⟩ dX11_ages_85) z_gWI (fun a_32 hz31 => ?_)
            exact z_ireturn dX11_ages_88 z_rWI rfl (by decide) (by decide)
  refine z_aload_n (i := 0) (x := 40) dX11_ages_0 rfl rfl ?_
  refine z_iconst (v := 0) dX11_ages_1 rfl ?_
  refine z_putI (j := 0) dX11_ages_2 kl_11 tyX11_ok nmX11 hs40 (by decide) rfl rfl rfl rfl rfl rfl kf_X11_3 (fun D1 => ?_)
  refine z_aload_n (i := 0) (x := 40) dX11_ages_5 rfl rfl ?_
  refine z_iload_n (i := 2) (x := a1) dX11_ages_6 rfl rfl ?_
  refine z_iload_n (i := 3) (x := a2) dX11_ages_7 rfl rfl ?_
  refine z_cP (As := [.int a1, .int a2]) (rest := [.ref 40]) (em_X11_areAges hl a1 a2 D1) (fun o7 h => z_runS 461 2 h rfl kk_X11_461 kq_X11_areAges rfl (Nat.le_of_ble_eq_true rfl) ⟨Nat.le_of_ble_eq_true rfl, Nat.le_of_ble_eq_true rfl, Nat.le_of_ble_eq_true rfl, Nat.le_of_ble_eq_true rfl⟩ dX11_ages_8) z_gWI (fun hz2 => ?_)
  refine z_if_eq 28 dX11_ages_11 (by decide) (fun c3 => ?_) (fun c3 => ?_)
  · exact hJ_F_X11_ages_J28 D1
  · refine z_iload (i := 4) (x := a3) dX11_ages_14 rfl ?_
    refine z_iconst (v := 0) dX11_ages_16 rfl ?_
    refine z_iconst (v := 3) dX11_ages_17 rfl ?_
    refine z_cP (As := [.int a3, .int 0, .int 3]) (rest := [.ref 40]) (em_X11_within hl a3 0 3 D1) (fun o7 h => z_runS 376 3 h rfl kk_X11_376 kq_X11_within rfl (Nat.le_of_ble_eq_true rfl) ⟨Nat.le_of_ble_eq_true rfl, Nat.le_of_ble_eq_true rfl, Nat.le_of_ble_eq_true rfl, Nat.le_of_ble_eq_true rfl⟩ dX11_ages_18) z_gWI (fun hz18 => ?_)
    refine z_if_eq 28 dX11_ages_21 (by decide) (fun c19 => ?_) (fun c19 => ?_)
    · exact hJ_F_X11_ages_J28 D1
    · refine z_iconst (v := 1) dX11_ages_24 rfl ?_
      refine z_goto 29 dX11_ages_25 (by decide) ?_
      exact hJ_F_X11_ages_J29x D1

def F_X11_span_J121 (N : Nat) (kc14 : ((Int32 × Int32 × Int32 × Int32 × z_Dat) → Option (Int32 × z_Dat))) (v35 : Int32) (v36 : Int32) (v37 : Int32) (v38 : Int32) (D39 : z_Dat) : Option (Int32 × z_Dat) :=
  z_bd (F_X11_sitting N D39) (fun a_41 => if a_41.1 = 0 then (z_let (v36 + 1) (fun v43 => z_let (v37 + 1) (fun v44 => kc14 (v35, v38, v43, v44, a_41.2))))
  else (z_let (v36 + 0) (fun v45 => z_let (v37 + 1) (fun v46 => kc14 (v35, v38, v45, v46, a_41.2)))))
def F_X11_span_J105 (N : Nat) (kc14 : ((Int32 × Int32 × Int32 × Int32 × z_Dat) → Option (Int32 × z_Dat))) (v28 : Int32) (v29 : Int32) (v30 : Int32) (v31 : Int32) (v32 : Int32) (D33 : z_Dat) : Option (Int32 × z_Dat) :=
  if v31 ≤ v28 then (F_X11_span_J121 N kc14 v32 v29 v30 v28 D33)
  else (F_X11_span_J121 N kc14 v32 v29 v30 v31 D33)
def F_X11_span_J98 (N : Nat) (kc14 : ((Int32 × Int32 × Int32 × Int32 × z_Dat) → Option (Int32 × z_Dat))) (v23 : Int32) (v24 : Int32) (v25 : Int32) (v26 : Int32) (D27 : z_Dat) : Option (Int32 × z_Dat) :=
  F_X11_span_J105 N kc14 v23 v24 v25 v26 v26 D27
def F_X11_span_L62 (N : Nat) (a0 : Int32) (a1 : Int32) (a2 : Int32) (a3 : Int32) (a4 : Int32) (kc14 : ((Int32 × Int32 × Int32 × Int32 × z_Dat) → Option (Int32 × z_Dat))) (v9 : Int32) (v10 : Int32) (v11 : Int32) (v12 : Int32) (D13 : z_Dat) : Option (Int32 × z_Dat) :=
  if a1 ≤ v12 then (if a4 = 0 then (some (v9, D13))
  else (if a4 = 1 then (some (v10, D13))
  else (some (v11, D13))))
  else (z_bd (F_X11_agesGo N (a0 + v12) a2 a3 D13) (fun a_19 => z_bd (F_X11_unlikeShades N a_19) (fun a_21 => if v9 = (-1) then (F_X11_span_J98 N kc14 v10 v11 v12 a_21 a_19)
  else (if v9 ≤ a_21 then (F_X11_span_J105 N kc14 v10 v11 v12 a_21 v9 a_19)
  else (F_X11_span_J98 N kc14 v10 v11 v12 a_21 a_19)))))
def F_X11_span_J40 (N : Nat) (a0 : Int32) (a1 : Int32) (a2 : Int32) (a3 : Int32) (a4 : Int32) (D5 : z_Dat) : Option (Int32 × z_Dat) :=
  z_bd (F_X11_may 0 1 1 D5) (fun a_7 => if a_7.1 = 0 then (some (0, a_7.2))
  else (z_loop (fun kc14 s => F_X11_span_L62 N a0 a1 a2 a3 a4 kc14 s.1 s.2.1 s.2.2.1 s.2.2.2.1 s.2.2.2.2) N ((-1), 0, 0, 0, a_7.2)))
def F_X11_span_J39 (N : Nat) (a0 : Int32) (a1 : Int32) (a2 : Int32) (a3 : Int32) (a4 : Int32) (D4 : z_Dat) : Option (Int32 × z_Dat) :=
  F_X11_span_J40 N a0 a1 a2 a3 a4 D4
def F_X11_span_J121x (N : Nat) (kc62 : ((Int32 × Int32 × Int32 × Int32 × z_Dat) → Option (Int32 × z_Dat))) (v83 : Int32) (v84 : Int32) (v85 : Int32) (v86 : Int32) (D87 : z_Dat) : Option (Int32 × z_Dat) :=
  z_bd (F_X11_sitting N D87) (fun a_89 => if a_89.1 = 0 then (z_let (v84 + 1) (fun v91 => z_let (v85 + 1) (fun v92 => kc62 (v83, v86, v91, v92, a_89.2))))
  else (z_let (v84 + 0) (fun v93 => z_let (v85 + 1) (fun v94 => kc62 (v83, v86, v93, v94, a_89.2)))))
def F_X11_span_J105x (N : Nat) (kc62 : ((Int32 × Int32 × Int32 × Int32 × z_Dat) → Option (Int32 × z_Dat))) (v76 : Int32) (v77 : Int32) (v78 : Int32) (v79 : Int32) (v80 : Int32) (D81 : z_Dat) : Option (Int32 × z_Dat) :=
  if v79 ≤ v76 then (F_X11_span_J121x N kc62 v80 v77 v78 v76 D81)
  else (F_X11_span_J121x N kc62 v80 v77 v78 v79 D81)
def F_X11_span_J98x (N : Nat) (kc62 : ((Int32 × Int32 × Int32 × Int32 × z_Dat) → Option (Int32 × z_Dat))) (v71 : Int32) (v72 : Int32) (v73 : Int32) (v74 : Int32) (D75 : z_Dat) : Option (Int32 × z_Dat) :=
  F_X11_span_J105x N kc62 v71 v72 v73 v74 v74 D75
def F_X11_span_L62x (N : Nat) (a0 : Int32) (a1 : Int32) (a2 : Int32) (a3 : Int32) (a4 : Int32) (kc62 : ((Int32 × Int32 × Int32 × Int32 × z_Dat) → Option (Int32 × z_Dat))) (v57 : Int32) (v58 : Int32) (v59 : Int32) (v60 : Int32) (D61 : z_Dat) : Option (Int32 × z_Dat) :=
  if a1 ≤ v60 then (if a4 = 0 then (some (v57, D61))
  else (if a4 = 1 then (some (v58, D61))
  else (some (v59, D61))))
  else (z_bd (F_X11_agesGo N (a0 + v60) a2 a3 D61) (fun a_67 => z_bd (F_X11_unlikeShades N a_67) (fun a_69 => if v57 = (-1) then (F_X11_span_J98x N kc62 v58 v59 v60 a_69 a_67)
  else (if v57 ≤ a_69 then (F_X11_span_J105x N kc62 v58 v59 v60 a_69 v57 a_67)
  else (F_X11_span_J98x N kc62 v58 v59 v60 a_69 a_67)))))
def F_X11_span_J40x (N : Nat) (a0 : Int32) (a1 : Int32) (a2 : Int32) (a3 : Int32) (a4 : Int32) (D53 : z_Dat) : Option (Int32 × z_Dat) :=
  z_bd (F_X11_may 1 1 1 D53) (fun a_55 => if a_55.1 = 0 then (some (0, a_55.2))
  else (z_loop (fun kc62 s => F_X11_span_L62x N a0 a1 a2 a3 a4 kc62 s.1 s.2.1 s.2.2.1 s.2.2.2.1 s.2.2.2.2) N ((-1), 0, 0, 0, a_55.2)))
def F_X11_span (N : Nat) (a0 : Int32) (a1 : Int32) (a2 : Int32) (a3 : Int32) (a4 : Int32) (D : z_Dat) : Option (Int32 × z_Dat) :=
  z_let (z_up D 40 0 0) (fun D1 => if (F_X11_within a1 1 20) = 0 then (F_X11_span_J39 N a0 a1 a2 a3 a4 D1)
  else (if (F_X11_areAges a2 a3) = 0 then (F_X11_span_J39 N a0 a1 a2 a3 a4 D1)
  else (if (F_X11_within a4 0 2) = 0 then (F_X11_span_J39 N a0 a1 a2 a3 a4 D1)
  else (F_X11_span_J40x N a0 a1 a2 a3 a4 D1))))
set_option maxRecDepth 100000 in
set_option maxHeartbeats 4000000 in
theorem em_X11_span {l : Launch} {S : List z_Shp} {oW : Nat} (hl : l.stackTraces = false) (hW : z_W S oW) (N : Nat) (a0 : Int32) (a1 : Int32) (a2 : Int32) (a3 : Int32) (a4 : Int32) (D : z_Dat) : ∀ out, z_ko (z_kI S) (F_X11_span N a0 a1 a2 a3 a4 D) out → z_EM l M_X11_span (80, 880, 0, 0) [.ref 40, .int a0, .int a1, .int a2, .int a3, .int a4] S D out := by
  have hs40 : S[40]? = some (13, 55, [none, some (some 41), none, none, none, none, none, none, none, some (some 42), some (some 43), some (some 44), some (some 45), some (some 46), some (some 47), some (some 48), none, none, none, none, none, none, some (some 49), some (some 50), some (some 51), some (some 52), some (some 53), none, none, some (some 54), some (some 55), some (some 56), none, none, none, none, none, none, some (some 57), some (some 58), some (some 59), some (some 60), some (some 61), none, some (some 62), some (some 63), none, none, some (some 64), some (some 65), none, none, none, some (some 66), none]) := hW.1 40 _ rfl
  refine z_meth hl rfl kp_X11 (Nat.le_of_ble_eq_true rfl) (lv := [some (.ref 40), some (.int a0), some (.int a1), some (.int a2), some (.int a3), some (.int a4), none, none, none, none, none]) rfl ?_
  unfold F_X11_span
  have hJ_F_X11_span_J40 : ∀ (D5 : z_Dat) , z_F l M_X11_span (80, 880, 0, 0) 0 0 40 [some (.ref 40), some (.int a0), some (.int a1), some (.int a2), some (.int a3), some (.int a4), none, none, none, none, none] [.int 0, .ref 40] S D5 (z_ko (z_kI S)) (F_X11_span_J40 N a0 a1 a2 a3 a4 D5) := by
    intro D5
    unfold F_X11_span_J40
    refine z_iconst (v := 1) dX11_span_40 rfl ?_
    refine z_iconst (v := 1) dX11_span_41 rfl ?_
    refine z_cWI (As := [.ref 40, .int 0, .int 1, .int 1]) (rest := []) (em_X11_may hl hW 0 1 1 D5) (fun o7 h => z_runV 198 3 h rfl kk_X11_198 hs40 kl_11.1 kq_X11_may rfl (Nat.le_of_ble_eq_true rfl) ⟨Nat.le_of_ble_eq_true rfl, Nat.le_of_ble_eq_true rfl, Nat.le_of_ble_eq_true rfl, Nat.le_of_ble_eq_true rfl⟩ dX11_span_42) z_gWI (fun a_7 hz6 => ?_)
    refine z_if_ne 50 dX11_span_45 (by decide) (fun c8 => ?_) (fun c8 => ?_)
    · refine z_iconst (v := 0) dX11_span_48 rfl ?_
      exact z_ireturn dX11_span_49 z_rWI rfl (by decide) (by decide)
    · refine z_iconst (v := (-1)) dX11_span_50 rfl ?_
      refine z_istore (i := 6) (x := (-1)) (lv' := [some (.ref 40), some (.int a0), some (.int a1), some (.int a2), some (.int a3), some (.int a4), some (.int (-1)), none, none, none, none]) dX11_span_51 (by decide) rfl rfl ?_
      refine z_iconst (v := 0) dX11_span_53 rfl ?_
      refine z_istore (i := 7) (x := 0) (lv' := [some (.ref 40), some (.int a0), some (.int a1), some (.int a2), some (.int a3), some (.int a4), some (.int (-1)), some (.int 0), none, none, none]) dX11_span_54 (by decide) rfl rfl ?_
      refine z_iconst (v := 0) dX11_span_56 rfl ?_
      refine z_istore (i := 8) (x := 0) (lv' := [some (.ref 40), some (.int a0), some (.int a1), some (.int a2), some (.int a3), some (.int a4), some (.int (-1)), some (.int 0), some (.int 0), none, none]) dX11_span_57 (by decide) rfl rfl ?_
      refine z_iconst (v := 0) dX11_span_59 rfl ?_
      refine z_istore (i := 9) (x := 0) (lv' := [some (.ref 40), some (.int a0), some (.int a1), some (.int a2), some (.int a3), some (.int a4), some (.int (-1)), some (.int 0), some (.int 0), some (.int 0), none]) dX11_span_60 (by decide) rfl rfl ?_
      refine z_loops (lvOf := fun s : Int32 × Int32 × Int32 × Int32 × z_Dat => [some (.ref 40), some (.int a0), some (.int a1), some (.int a2), some (.int a3), some (.int a4), some (.int s.1), some (.int s.2.1), some (.int s.2.2.1), some (.int s.2.2.2.1), none]) (dOf := fun s : Int32 × Int32 × Int32 × Int32 × z_Dat => s.2.2.2.2) (fun kc14 hkc14 s => ?_) N ((-1), 0, 0, 0, a_7.2)
      obtain ⟨v9, v10, v11, v12, D13⟩ := s
      show z_F _ _ _ _ _ 62 [some (.ref 40), some (.int a0), some (.int a1), some (.int a2), some (.int a3), some (.int a4), some (.int v9), some (.int v10), some (.int v11), some (.int v12), none] [] S D13 _ (F_X11_span_L62 N a0 a1 a2 a3 a4 kc14 v9 v10 v11 v12 D13)
      unfold F_X11_span_L62
      have hJ_F_X11_span_J121 : ∀ (v35 : Int32) (v36 : Int32) (v37 : Int32) (v38 : Int32) (D39 : z_Dat) , z_F l M_X11_span (80, 880, 0, 0) 0 0 121 [some (.ref 40), some (.int a0), some (.int a1), some (.int a2), some (.int a3), some (.int a4), some (.int v35), none, some (.int v36), some (.int v37), none] [.int v38] S D39 (z_ko (z_kI S)) (F_X11_span_J121 N kc14 v35 v36 v37 v38 D39) := by
        intro v35 v36 v37 v38 D39
        unfold F_X11_span_J121
        refine z_istore (i := 7) (x := v38) (lv' := [some (.ref 40), some (.int a0), some (.int a1), some (.int a2), some (.int a3), some (.int a4), some (.int v35), some (.int v38), some (.int v36), some (.int v37), none]) dX11_span_121 (by decide) rfl rfl ?_
        refine z_iload (i := 8) (x := v36) dX11_span_123 rfl ?_
        refine z_aload_n (i := 0) (x := 40) dX11_span_125 rfl rfl ?_
        refine z_cWI (As := [.ref 40]) (rest := [.int v36]) (em_X11_sitting hl hW N D39) (fun o7 h => z_runV 379 0 h rfl kk_X11_379 hs40 kl_11.1 kq_X11_sitting rfl (Nat.le_of_ble_eq_true rfl) ⟨Nat.le_of_ble_eq_true rfl, Nat.le_of_ble_eq_true rfl, Nat.le_of_ble_eq_true rfl, Nat.le_of_ble_eq_true rfl⟩ dX11_span_126) z_gWI (fun a_41 hz40 => ?_)
        refine z_if_ne 136 dX11_span_129 (by decide) (fun c42 => ?_) (fun c42 => ?_)
        · refine z_iconst (v := 1) dX11_span_132 rfl ?_
          refine z_goto 137 dX11_span_133 (by decide) ?_
          refine z_iadd dX11_span_137 ?_
          refine z_topi (fun v43 => ?_)
          refine z_istore (i := 8) (x := v43) (lv' := [some (.ref 40), some (.int a0), some (.int a1), some (.int a2), some (.int a3), some (.int a4), some (.int v35), some (.int v38), some (.int v43), some (.int v37), none]) dX11_span_138 (by decide) rfl rfl ?_
          refine z_iinc (i := 9) (x := v37) (y := 1) dX11_span_140 rfl (by decide) (by decide) rfl (fun v44 => ?_)
          refine z_goto 62 dX11_span_143 (by decide) ?_
          exact hkc14 (v35, v38, v43, v44, a_41.2)
        · refine z_iconst (v := 0) dX11_span_136 rfl ?_
          refine z_iadd dX11_span_137 ?_
          refine z_topi (fun v45 => ?_)
          refine z_istore (i := 8) (x := v45) (lv' := [some (.ref 40), some (.int a0), some (.int a1), some (.int a2), some (.int a3), some (.int a4), some (.int v35), some (.int v38), some (.int v45), some (.int v37), none]) dX11_span_138 (by decide) rfl rfl ?_
          refine z_iinc (i := 9) (x := v37) (y := 1) dX11_span_140 rfl (by decide) (by decide) rfl (fun v46 => ?_)
          refine z_goto 62 dX11_span_143 (by decide) ?_
          exact hkc14 (v35, v38, v45, v46, a_41.2)
      have hJ_F_X11_span_J105 : ∀ (v28 : Int32) (v29 : Int32) (v30 : Int32) (v31 : Int32) (v32 : Int32) (D33 : z_Dat) , z_F l M_X11_span (80, 880, 0, 0) 0 0 105 [some (.ref 40), some (.int a0), some (.int a1), some (.int a2), some (.int a3), some (.int a4), none, some (.int v28), some (.int v29), some (.int v30), some (.int v31)] [.int v32] S D33 (z_ko (z_kI S)) (F_X11_span_J105 N kc14 v28 v29 v30 v31 v32 D33) := by
        intro v28 v29 v30 v31 v32 D33
        unfold F_X11_span_J105
        refine z_istore (i := 6) (x := v32) (lv' := [some (.ref 40), some (.int a0), some (.int a1), some (.int a2), some (.int a3), some (.int a4), some (.int v32), some (.int v28), some (.int v29), some (.int v30), some (.int v31)]) dX11_span_105 (by decide) rfl rfl ?_
        refine z_iload (i := 10) (x := v31) dX11_span_107 rfl ?_
        refine z_iload (i := 7) (x := v28) dX11_span_109 rfl ?_
        refine z_icmp_le 119 dX11_span_111 (by decide) (fun c34 => ?_) (fun c34 => ?_)
        · refine z_iload (i := 7) (x := v28) dX11_span_119 rfl ?_
          refine z_weak (lv' := [some (.ref 40), some (.int a0), some (.int a1), some (.int a2), some (.int a3), some (.int a4), some (.int v32), none, some (.int v29), some (.int v30), none]) ⟨Or.inr rfl, ⟨Or.inr rfl, ⟨Or.inr rfl, ⟨Or.inr rfl, ⟨Or.inr rfl, ⟨Or.inr rfl, ⟨Or.inr rfl, ⟨Or.inl rfl, ⟨Or.inr rfl, ⟨Or.inr rfl, ⟨Or.inl rfl, trivial⟩⟩⟩⟩⟩⟩⟩⟩⟩⟩⟩ ?_
          exact hJ_F_X11_span_J121 v32 v29 v30 v28 D33
        · refine z_iload (i := 10) (x := v31) dX11_span_114 rfl ?_
          refine z_goto 121 dX11_span_116 (by decide) ?_
          refine z_weak (lv' := [some (.ref 40), some (.int a0), some (.int a1), some (.int a2), some (.int a3), some (.int a4), some (.int v32), none, some (.int v29), some (.int v30), none]) ⟨Or.inr rfl, ⟨Or.inr rfl, ⟨Or.inr rfl, ⟨Or.inr rfl, ⟨Or.inr rfl, ⟨Or.inr rfl, ⟨Or.inr rfl, ⟨Or.inl rfl, ⟨Or.inr rfl, ⟨Or.inr rfl, ⟨Or.inl rfl, trivial⟩⟩⟩⟩⟩⟩⟩⟩⟩⟩⟩ ?_
          exact hJ_F_X11_span_J121 v32 v29 v30 v31 D33
      have hJ_F_X11_span_J98 : ∀ (v23 : Int32) (v24 : Int32) (v25 : Int32) (v26 : Int32) (D27 : z_Dat) , z_F l M_X11_span (80, 880, 0, 0) 0 0 98 [some (.ref 40), some (.int a0), some (.int a1), some (.int a2), some (.int a3), some (.int a4), none, some (.int v23), some (.int v24), some (.int v25), some (.int v26)] [] S D27 (z_ko (z_kI S)) (F_X11_span_J98 N kc14 v23 v24 v25 v26 D27) := by
        intro v23 v24 v25 v26 D27
        unfold F_X11_span_J98
        refine z_iload (i := 10) (x := v26) dX11_span_98 rfl ?_
        refine z_goto 105 dX11_span_100 (by decide) ?_
        exact hJ_F_X11_span_J105 v23 v24 v25 v26 v26 D27
      refine z_iload (i := 9) (x := v12) dX11_span_62 rfl ?_
      refine z_iload_n (i := 2) (x := a1) dX11_span_64 rfl rfl ?_
      refine z_icmp_ge 146 dX11_span_65 (by decide) (fun c15 => ?_) (fun c15 => ?_)
      · refine z_iload (i := 5) (x := a4) dX11_span_146 rfl ?_
        refine z_if_ne 156 dX11_span_148 (by decide) (fun c16 => ?_) (fun c16 => ?_)
        · refine z_iload (i := 6) (x := v9) dX11_span_151 rfl ?_
          refine z_goto 169 dX11_span_153 (by decide) ?_
          exact z_ireturn dX11_span_169 z_rWI rfl (by decide) (by decide)
        · refine z_iload (i := 5) (x := a4) dX11_span_156 rfl ?_
          refine z_iconst (v := 1) dX11_span_158 rfl ?_
          refine z_icmp_ne 167 dX11_span_159 (by decide) (fun c17 => ?_) (fun c17 => ?_)
          · refine z_iload (i := 7) (x := v10) dX11_span_162 rfl ?_
            refine z_goto 169 dX11_span_164 (by decide) ?_
            exact z_ireturn dX11_span_169 z_rWI rfl (by decide) (by decide)
          · refine z_iload (i := 8) (x := v11) dX11_span_167 rfl ?_
            exact z_ireturn dX11_span_169 z_rWI rfl (by decide) (by decide)
      · refine z_aload_n (i := 0) (x := 40) dX11_span_68 rfl rfl ?_
        refine z_iload_n (i := 1) (x := a0) dX11_span_69 rfl rfl ?_
        refine z_iload (i := 9) (x := v12) dX11_span_70 rfl ?_
        refine z_iadd dX11_span_72 ?_
        refine z_iload_n (i := 3) (x := a2) dX11_span_73 rfl rfl ?_
        refine z_iload (i := 4) (x := a3) dX11_span_74 rfl ?_
        refine z_cWV (As := [.ref 40, .int (a0 + v12), .int a2, .int a3]) (rest := []) (em_X11_agesGo hl hW N (a0 + v12) a2 a3 D13) (fun o7 h => z_runV 464 3 h rfl kk_X11_464 hs40 kl_11.1 kq_X11_agesGo rfl (Nat.le_of_ble_eq_true rfl) ⟨Nat.le_of_ble_eq_true rfl, Nat.le_of_ble_eq_true rfl, Nat.le_of_ble_eq_true rfl, Nat.le_of_ble_eq_true rfl⟩ dX11_span_76) z_gWI (fun a_19 hz18 => ?_)
        refine z_aload_n (i := 0) (x := 40) dX11_span_79 rfl rfl ?_
        refine z_cR (As := [.ref 40]) (rest := []) (em_X11_unlikeShades hl hW N a_19) (fun o7 h => z_runV 385 0 h rfl kk_X11_385 hs40 kl_11.1 kq_X11_unlikeShades rfl (Nat.le_of_ble_eq_true rfl) ⟨Nat.le_of_ble_eq_true rfl, Nat.le_of_ble_eq_true rfl, Nat.le_of_ble_eq_true rfl, Nat.le_of_ble_eq_true rfl⟩ dX11_span_80) z_gWI (fun a_21 hz20 => ?_)
        refine z_istore (i := 10) (x := a_21) (lv' := [some (.ref 40), some (.int a0), some (.int a1), some (.int a2), some (.int a3), some (.int a4), some (.int v9), some (.int v10), some (.int v11), some (.int v12), some (.int a_21)]) dX11_span_83 (by decide) rfl rfl ?_
        refine z_iload (i := 6) (x := v9) dX11_span_85 rfl ?_
        refine z_iconst (v := (-1)) dX11_span_87 rfl ?_
        refine z_icmp_eq 98 dX11_span_88 (by decide) (fun c22 => ?_) (fun c22 => ?_)
        · refine z_weak (lv' := [some (.ref 40), some (.int a0), some (.int a1), some (.int a2), some (.int a3), some (.int a4), none, some (.int v10), some (.int v11), some (.int v12), some (.int a_21)]) ⟨Or.inr rfl, ⟨Or.inr rfl, ⟨Or.inr rfl, ⟨Or.inr rfl, ⟨Or.inr rfl, ⟨Or.inr rfl, ⟨Or.inl rfl, ⟨Or.inr rfl, ⟨Or.inr rfl, ⟨Or.inr rfl, ⟨Or.inr rfl, trivial⟩⟩⟩⟩⟩⟩⟩⟩⟩⟩⟩ ?_
          exact hJ_F_X11_span_J98 v10 v11 v12 a_21 a_19
        · refine z_iload (i := 10) (x := a_21) dX11_span_91 rfl ?_
          refine z_iload (i := 6) (x := v9) dX11_span_93 rfl ?_
          refine z_icmp_ge 103 dX11_span_95 (by decide) (fun c47 => ?_) (fun c47 => ?_)
          · refine z_iload (i := 6) (x := v9) dX11_span_103 rfl ?_
            refine z_weak (lv' := [some (.ref 40), some (.int a0), some (.int a1), some (.int a2), some (.int a3), some (.int a4), none, some (.int v10), some (.int v11), some (.int v12), some (.int a_21)]) ⟨Or.inr rfl, ⟨Or.inr rfl, ⟨Or.inr rfl, ⟨Or.inr rfl, ⟨Or.inr rfl, ⟨Or.inr rfl, ⟨Or.inl rfl, ⟨Or.inr rfl, ⟨Or.inr rfl, ⟨Or.inr rfl, ⟨Or.inr rfl, trivial⟩⟩⟩⟩⟩⟩⟩⟩⟩⟩⟩ ?_
            exact hJ_F_X11_span_J105 v10 v11 v12 a_21 v9 a_19
          · refine z_weak (lv' := [some (.ref 40), some (.int a0), some (.int a1), some (.int a2), some (.int a3), some (.int a4), none, some (.int v10), some (.int v11), some (.int v12), some (.int a_21)]) ⟨Or.inr rfl, ⟨Or.inr rfl, ⟨Or.inr rfl, ⟨Or.inr rfl, ⟨Or.inr rfl, ⟨Or.inr rfl, ⟨Or.inl rfl, ⟨Or.inr rfl, ⟨Or.inr rfl, ⟨Or.inr rfl, ⟨Or.inr rfl, trivial⟩⟩⟩⟩⟩⟩⟩⟩⟩⟩⟩ ?_
            exact hJ_F_X11_span_J98 v10 v11 v12 a_21 a_19
  have hJ_F_X11_span_J39 : ∀ (D4 : z_Dat) , z_F l M_X11_span (80, 880, 0, 0) 0 0 39 [some (.ref 40), some (.int a0), some (.int a1), some (.int a2), some (.int a3), some (.int a4), none, none, none, none, none] [.ref 40] S D4 (z_ko (z_kI S)) (F_X11_span_J39 N a0 a1 a2 a3 a4 D4) := by
    intro D4
    unfold F_X11_span_J39
    refine z_iconst (v := 0) dX11_span_39 rfl ?_
    exact hJ_F_X11_span_J40 D4
  have hJ_F_X11_span_J40x : ∀ (D53 : z_Dat) , z_F l M_X11_span (80, 880, 0, 0) 0 0 40 [some (.ref 40), some (.int a0), some (.int a1), some (.int a2), some (.int a3), some (.int a4), none, none, none, none, none] [.int 1, .ref 40] S D53 (z_ko (z_kI S)) (F_X11_span_J40x N a0 a1 a2 a3 a4 D53) := by
    intro D53
    unfold F_X11_span_J40x
    refine z_iconst (v := 1) dX11_span_40 rfl ?_
    refine z_iconst (v := 1) dX11_span_41 rfl ?_
    refine z_cWI (As := [.ref 40, .int 1, .int 1, .int 1]) (rest := []) (em_X11_may hl hW 1 1 1 D53) (fun o7 h => z_runV 198 3 h rfl kk_X11_198 hs40 kl_11.1 kq_X11_may rfl (Nat.le_of_ble_eq_true rfl) ⟨Nat.le_of_ble_eq_true rfl, Nat.le_of_ble_eq_true rfl, Nat.le_of_ble_eq_true rfl, Nat.le_of_ble_eq_true rfl⟩ dX11_span_42) z_gWI (fun a_55 hz54 => ?_)
    refine z_if_ne 50 dX11_span_45 (by decide) (fun c56 => ?_) (fun c56 => ?_)
    · refine z_iconst (v := 0) dX11_span_48 rfl ?_
      exact z_ireturn dX11_span_49 z_rWI rfl (by decide) (by decide)
    · refine z_iconst (v := (-1)) dX11_span_50 rfl ?_
      refine z_istore (i := 6) (x := (-1)) (lv' := [some (.ref 40), some (.int a0), some (.int a1), some (.int a2), some (.int a3), some (.int a4), some (.int (-1)), none, none, none, none]) dX11_span_51 (by decide) rfl rfl ?_
      refine z_iconst (v := 0) dX11_span_53 rfl ?_
      refine z_istore (i := 7) (x := 0) (lv' := [some (.ref 40), some (.int a0), some (.int a1), some (.int a2), some (.int a3), some (.int a4), some (.int (-1)), some (.int 0), none, none, none]) dX11_span_54 (by decide) rfl rfl ?_
      refine z_iconst (v := 0) dX11_span_56 rfl ?_
      refine z_istore (i := 8) (x := 0) (lv' := [some (.ref 40), some (.int a0), some (.int a1), some (.int a2), some (.int a3), some (.int a4), some (.int (-1)), some (.int 0), some (.int 0), none, none]) dX11_span_57 (by decide) rfl rfl ?_
      refine z_iconst (v := 0) dX11_span_59 rfl ?_
      refine z_istore (i := 9) (x := 0) (lv' := [some (.ref 40), some (.int a0), some (.int a1), some (.int a2), some (.int a3), some (.int a4), some (.int (-1)), some (.int 0), some (.int 0), some (.int 0), none]) dX11_span_60 (by decide) rfl rfl ?_
      refine z_loops (lvOf := fun s : Int32 × Int32 × Int32 × Int32 × z_Dat => [some (.ref 40), some (.int a0), some (.int a1), some (.int a2), some (.int a3), some (.int a4), some (.int s.1), some (.int s.2.1), some (.int s.2.2.1), some (.int s.2.2.2.1), none]) (dOf := fun s : Int32 × Int32 × Int32 × Int32 × z_Dat => s.2.2.2.2) (fun kc62 hkc62 s => ?_) N ((-1), 0, 0, 0, a_55.2)
      obtain ⟨v57, v58, v59, v60, D61⟩ := s
      show z_F _ _ _ _ _ 62 [some (.ref 40), some (.int a0), some (.int a1), some (.int a2), some (.int a3), some (.int a4), some (.int v57), some (.int v58), some (.int v59), some (.int v60), none] [] S D61 _ (F_X11_span_L62x N a0 a1 a2 a3 a4 kc62 v57 v58 v59 v60 D61)
      unfold F_X11_span_L62x
      have hJ_F_X11_span_J121x : ∀ (v83 : Int32) (v84 : Int32) (v85 : Int32) (v86 : Int32) (D87 : z_Dat) , z_F l M_X11_span (80, 880, 0, 0) 0 0 121 [some (.ref 40), some (.int a0), some (.int a1), some (.int a2), some (.int a3), some (.int a4), some (.int v83), none, some (.int v84), some (.int v85), none] [.int v86] S D87 (z_ko (z_kI S)) (F_X11_span_J121x N kc62 v83 v84 v85 v86 D87) := by
        intro v83 v84 v85 v86 D87
        unfold F_X11_span_J121x
        refine z_istore (i := 7) (x := v86) (lv' := [some (.ref 40), some (.int a0), some (.int a1), some (.int a2), some (.int a3), some (.int a4), some (.int v83), some (.int v86), some (.int v84), some (.int v85), none]) dX11_span_121 (by decide) rfl rfl ?_
        refine z_iload (i := 8) (x := v84) dX11_span_123 rfl ?_
        refine z_aload_n (i := 0) (x := 40) dX11_span_125 rfl rfl ?_
        refine z_cWI (As := [.ref 40]) (rest := [.int v84]) (em_X11_sitting hl hW N D87) (fun o7 h => z_runV 379 0 h rfl kk_X11_379 hs40 kl_11.1 kq_X11_sitting rfl (Nat.le_of_ble_eq_true rfl) ⟨Nat.le_of_ble_eq_true rfl, Nat.le_of_ble_eq_true rfl, Nat.le_of_ble_eq_true rfl, Nat.le_of_ble_eq_true rfl⟩ dX11_span_126) z_gWI (fun a_89 hz88 => ?_)
        refine z_if_ne 136 dX11_span_129 (by decide) (fun c90 => ?_) (fun c90 => ?_)
        · refine z_iconst (v := 1) dX11_span_132 rfl ?_
          refine z_goto 137 dX11_span_133 (by decide) ?_
          refine z_iadd dX11_span_137 ?_
          refine z_topi (fun v91 => ?_)
          refine z_istore (i := 8) (x := v91) (lv' := [some (.ref 40), some (.int a0), some (.int a1), some (.int a2), some (.int a3), some (.int a4), some (.int v83), some (.int v86), some (.int v91), some (.int v85), none]) dX11_span_138 (by decide) rfl rfl ?_
          refine z_iinc (i := 9) (x := v85) (y := 1) dX11_span_140 rfl (by decide) (by decide) rfl (fun v92 => ?_)
          refine z_goto 62 dX11_span_143 (by decide) ?_
          exact hkc62 (v83, v86, v91, v92, a_89.2)
        · refine z_iconst (v := 0) dX11_span_136 rfl ?_
          refine z_iadd dX11_span_137 ?_
          refine z_topi (fun v93 => ?_)
          refine z_istore (i := 8) (x := v93) (lv' := [some (.ref 40), some (.int a0), some (.int a1), some (.int a2), some (.int a3), some (.int a4), some (.int v83), some (.int v86), some (.int v93), some (.int v85), none]) dX11_span_138 (by decide) rfl rfl ?_
          refine z_iinc (i := 9) (x := v85) (y := 1) dX11_span_140 rfl (by decide) (by decide) rfl (fun v94 => ?_)
          refine z_goto 62 dX11_span_143 (by decide) ?_
          exact hkc62 (v83, v86, v93, v94, a_89.2)
      have hJ_F_X11_span_J105x : ∀ (v76 : Int32) (v77 : Int32) (v78 : Int32) (v79 : Int32) (v80 : Int32) (D81 : z_Dat) , z_F l M_X11_span (80, 880, 0, 0) 0 0 105 [some (.ref 40), some (.int a0), some (.int a1), some (.int a2), some (.int a3), some (.int a4), none, some (.int v76), some (.int v77), some (.int v78), some (.int v79)] [.int v80] S D81 (z_ko (z_kI S)) (F_X11_span_J105x N kc62 v76 v77 v78 v79 v80 D81) := by
        intro v76 v77 v78 v79 v80 D81
        unfold F_X11_span_J105x
        refine z_istore (i := 6) (x := v80) (lv' := [some (.ref 40), some (.int a0), some (.int a1), some (.int a2), some (.int a3), some (.int a4), some (.int v80), some (.int v76), some (.int v77), some (.int v78), some (.int v79)]) dX11_span_105 (by decide) rfl rfl ?_
        refine z_iload (i := 10) (x := v79) dX11_span_107 rfl ?_
        refine z_iload (i := 7) (x := v76) dX11_span_109 rfl ?_
        refine z_icmp_le 119 dX11_span_111 (by decide) (fun c82 => ?_) (fun c82 => ?_)
        · refine z_iload (i := 7) (x := v76) dX11_span_119 rfl ?_
          refine z_weak (lv' := [some (.ref 40), some (.int a0), some (.int a1), some (.int a2), some (.int a3), some (.int a4), some (.int v80), none, some (.int v77), some (.int v78), none]) ⟨Or.inr rfl, ⟨Or.inr rfl, ⟨Or.inr rfl, ⟨Or.inr rfl, ⟨Or.inr rfl, ⟨Or.inr rfl, ⟨Or.inr rfl, ⟨Or.inl rfl, ⟨Or.inr rfl, ⟨Or.inr rfl, ⟨Or.inl rfl, trivial⟩⟩⟩⟩⟩⟩⟩⟩⟩⟩⟩ ?_
          exact hJ_F_X11_span_J121x v80 v77 v78 v76 D81
        · refine z_iload (i := 10) (x := v79) dX11_span_114 rfl ?_
          refine z_goto 121 dX11_span_116 (by decide) ?_
          refine z_weak (lv' := [some (.ref 40), some (.int a0), some (.int a1), some (.int a2), some (.int a3), some (.int a4), some (.int v80), none, some (.int v77), some (.int v78), none]) ⟨Or.inr rfl, ⟨Or.inr rfl, ⟨Or.inr rfl, ⟨Or.inr rfl, ⟨Or.inr rfl, ⟨Or.inr rfl, ⟨Or.inr rfl, ⟨Or.inl rfl, ⟨Or.inr rfl, ⟨Or.inr rfl, ⟨Or.inl rfl, trivial⟩⟩⟩⟩⟩⟩⟩⟩⟩⟩⟩ ?_
          exact hJ_F_X11_span_J121x v80 v77 v78 v79 D81
      have hJ_F_X11_span_J98x : ∀ (v71 : Int32) (v72 : Int32) (v73 : Int32) (v74 : Int32) (D75 : z_Dat) , z_F l M_X11_span (80, 880, 0, 0) 0 0 98 [some (.ref 40), some (.int a0), some (.int a1), some (.int a2), some (.int a3), some (.int a4), none, some (.int v71), some (.int v72), some (.int v73), some (.int v74)] [] S D75 (z_ko (z_kI S)) (F_X11_span_J98x N kc62 v71 v72 v73 v74 D75) := by
        intro v71 v72 v73 v74 D75
        unfold F_X11_span_J98x
        refine z_iload (i := 10) (x := v74) dX11_span_98 rfl ?_
        refine z_goto 105 dX11_span_100 (by decide) ?_
        exact hJ_F_X11_span_J105x v71 v72 v73 v74 v74 D75
      refine z_iload (i := 9) (x := v60) dX11_span_62 rfl ?_
      refine z_iload_n (i := 2) (x := a1) dX11_span_64 rfl rfl ?_
      refine z_icmp_ge 146 dX11_span_65 (by decide) (fun c63 => ?_) (fun c63 => ?_)
      · refine z_iload (i := 5) (x := a4) dX11_span_146 rfl ?_
        refine z_if_ne 156 dX11_span_148 (by decide) (fun c64 => ?_) (fun c64 => ?_)
        · refine z_iload (i := 6) (x := v57) dX11_span_151 rfl ?_
          refine z_goto 169 dX11_span_153 (by decide) ?_
          exact z_ireturn dX11_span_169 z_rWI rfl (by decide) (by decide)
        · refine z_iload (i := 5) (x := a4) dX11_span_156 rfl ?_
          refine z_iconst (v := 1) dX11_span_158 rfl ?_
          refine z_icmp_ne 167 dX11_span_159 (by decide) (fun c65 => ?_) (fun c65 => ?_)
          · refine z_iload (i := 7) (x := v58) dX11_span_162 rfl ?_
            refine z_goto 169 dX11_span_164 (by decide) ?_
            exact z_ireturn dX11_span_169 z_rWI rfl (by decide) (by decide)
          · refine z_iload (i := 8) (x := v59) dX11_span_167 rfl ?_
            exact z_ireturn dX11_span_169 z_rWI rfl (by decide) (by decide)
      · refine z_aload_n (i := 0) (x := 40) dX11_span_68 rfl rfl ?_
        refine z_iload_n (i := 1) (x := a0) dX11_span_69 rfl rfl ?_
        refine z_iload (i := 9) (x := v60) dX11_span_70 rfl ?_
        refine z_iadd dX11_span_72 ?_
        refine z_iload_n (i := 3) (x := a2) dX11_span_73 rfl rfl ?_
        refine z_iload (i := 4) (x := a3) dX11_span_74 rfl ?_
        refine z_cWV (As := [.ref 40, .int (a0 + v60), .int a2, .int a3]) (rest := []) (em_X11_agesGo hl hW N (a0 + v60) a2 a3 D61) (fun o7 h => z_runV 464 3 h rfl kk_X11_464 hs40 kl_11.1 kq_X11_agesGo rfl (Nat.le_of_ble_eq_true rfl) ⟨Nat.le_of_ble_eq_true rfl, Nat.le_of_ble_eq_true rfl, Nat.le_of_ble_eq_true rfl, Nat.le_of_ble_eq_true rfl⟩ dX11_span_76) z_gWI (fun a_67 hz66 => ?_)
        refine z_aload_n (i := 0) (x := 40) dX11_span_79 rfl rfl ?_
        refine z_cR (As := [.ref 40]) (rest := []) (em_X11_unlikeShades hl hW N a_67) (fun o7 h => z_runV 385 0 h rfl kk_X11_385 hs40 kl_11.1 kq_X11_unlikeShades rfl (Nat.le_of_ble_eq_true rfl) ⟨Nat.le_of_ble_eq_true rfl, Nat.le_of_ble_eq_true rfl, Nat.le_of_ble_eq_true rfl, Nat.le_of_ble_eq_true rfl⟩ dX11_span_80) z_gWI (fun a_69 hz68 => ?_)
        refine z_istore (i := 10) (x := a_69) (lv' := [some (.ref 40), some (.int a0), some (.int a1), some (.int a2), some (.int a3), some (.int a4), some (.int v57), some (.int v58), some (.int v59), some (.int v60), some (.int a_69)]) dX11_span_83 (by decide) rfl rfl ?_
        refine z_iload (i := 6) (x := v57) dX11_span_85 rfl ?_
        refine z_iconst (v := (-1)) dX11_span_87 rfl ?_
        refine z_icmp_eq 98 dX11_span_88 (by decide) (fun c70 => ?_) (fun c70 => ?_)
        · refine z_weak (lv' := [some (.ref 40), some (.int a0), some (.int a1), some (.int a2), some (.int a3), some (.int a4), none, some (.int v58), some (.int v59), some (.int v60), some (.int a_69)]) ⟨Or.inr rfl, ⟨Or.inr rfl, ⟨Or.inr rfl, ⟨Or.inr rfl, ⟨Or.inr rfl, ⟨Or.inr rfl, ⟨Or.inl rfl, ⟨Or.inr rfl, ⟨Or.inr rfl, ⟨Or.inr rfl, ⟨Or.inr rfl, trivial⟩⟩⟩⟩⟩⟩⟩⟩⟩⟩⟩ ?_
          exact hJ_F_X11_span_J98x v58 v59 v60 a_69 a_67
        · refine z_iload (i := 10) (x := a_69) dX11_span_91 rfl ?_
          refine z_iload (i := 6) (x := v57) dX11_span_93 rfl ?_
          refine z_icmp_ge 103 dX11_span_95 (by decide) (fun c95 => ?_) (fun c95 => ?_)
          · refine z_iload (i := 6) (x := v57) dX11_span_103 rfl ?_
            refine z_weak (lv' := [some (.ref 40), some (.int a0), some (.int a1), some (.int a2), some (.int a3), some (.int a4), none, some (.int v58), some (.int v59), some (.int v60), some (.int a_69)]) ⟨Or.inr rfl, ⟨Or.inr rfl, ⟨Or.inr rfl, ⟨Or.inr rfl, ⟨Or.inr rfl, ⟨Or.inr rfl, ⟨Or.inl rfl, ⟨Or.inr rfl, ⟨Or.inr rfl, ⟨Or.inr rfl, ⟨Or.inr rfl, trivial⟩⟩⟩⟩⟩⟩⟩⟩⟩⟩⟩ ?_
            exact hJ_F_X11_span_J105x v58 v59 v60 a_69 v57 a_67
          · refine z_weak (lv' := [some (.ref 40), some (.int a0), some (.int a1), some (.int a2), some (.int a3), some (.int a4), none, some (.int v58), some (.int v59), some (.int v60), some (.int a_69)]) ⟨Or.inr rfl, ⟨Or.inr rfl, ⟨Or.inr rfl, ⟨Or.inr rfl, ⟨Or.inr rfl, ⟨Or.inr rfl, ⟨Or.inl rfl, ⟨Or.inr rfl, ⟨Or.inr rfl, ⟨Or.inr rfl, ⟨Or.inr rfl, trivial⟩⟩⟩⟩⟩⟩⟩⟩⟩⟩⟩ ?_
            exact hJ_F_X11_span_J98x v58 v59 v60 a_69 a_67
  refine z_aload_n (i := 0) (x := 40) dX11_span_0 rfl rfl ?_
  refine z_iconst (v := 0) dX11_span_1 rfl ?_
  refine z_putI (j := 0) dX11_span_2 kl_11 tyX11_ok nmX11 hs40 (by decide) rfl rfl rfl rfl rfl rfl kf_X11_3 (fun D1 => ?_)
  refine z_aload_n (i := 0) (x := 40) dX11_span_5 rfl rfl ?_
  refine z_iload_n (i := 2) (x := a1) dX11_span_6 rfl rfl ?_
  refine z_iconst (v := 1) dX11_span_7 rfl ?_
  refine z_bipush (v := 20) dX11_span_8 (by decide) ?_
  refine z_cP (As := [.int a1, .int 1, .int 20]) (rest := [.ref 40]) (em_X11_within hl a1 1 20 D1) (fun o7 h => z_runS 376 3 h rfl kk_X11_376 kq_X11_within rfl (Nat.le_of_ble_eq_true rfl) ⟨Nat.le_of_ble_eq_true rfl, Nat.le_of_ble_eq_true rfl, Nat.le_of_ble_eq_true rfl, Nat.le_of_ble_eq_true rfl⟩ dX11_span_10) z_gWI (fun hz2 => ?_)
  refine z_if_eq 39 dX11_span_13 (by decide) (fun c3 => ?_) (fun c3 => ?_)
  · exact hJ_F_X11_span_J39 D1
  · refine z_iload_n (i := 3) (x := a2) dX11_span_16 rfl rfl ?_
    refine z_iload (i := 4) (x := a3) dX11_span_17 rfl ?_
    refine z_cP (As := [.int a2, .int a3]) (rest := [.ref 40]) (em_X11_areAges hl a2 a3 D1) (fun o7 h => z_runS 461 2 h rfl kk_X11_461 kq_X11_areAges rfl (Nat.le_of_ble_eq_true rfl) ⟨Nat.le_of_ble_eq_true rfl, Nat.le_of_ble_eq_true rfl, Nat.le_of_ble_eq_true rfl, Nat.le_of_ble_eq_true rfl⟩ dX11_span_19) z_gWI (fun hz49 => ?_)
    refine z_if_eq 39 dX11_span_22 (by decide) (fun c50 => ?_) (fun c50 => ?_)
    · exact hJ_F_X11_span_J39 D1
    · refine z_iload (i := 5) (x := a4) dX11_span_25 rfl ?_
      refine z_iconst (v := 0) dX11_span_27 rfl ?_
      refine z_iconst (v := 2) dX11_span_28 rfl ?_
      refine z_cP (As := [.int a4, .int 0, .int 2]) (rest := [.ref 40]) (em_X11_within hl a4 0 2 D1) (fun o7 h => z_runS 376 3 h rfl kk_X11_376 kq_X11_within rfl (Nat.le_of_ble_eq_true rfl) ⟨Nat.le_of_ble_eq_true rfl, Nat.le_of_ble_eq_true rfl, Nat.le_of_ble_eq_true rfl, Nat.le_of_ble_eq_true rfl⟩ dX11_span_29) z_gWI (fun hz51 => ?_)
      refine z_if_eq 39 dX11_span_32 (by decide) (fun c52 => ?_) (fun c52 => ?_)
      · exact hJ_F_X11_span_J39 D1
      · refine z_iconst (v := 1) dX11_span_35 rfl ?_
        refine z_goto 40 dX11_span_36 (by decide) ?_
        exact hJ_F_X11_span_J40x D1

def F_X11_keepsRow_L3 (r0 : Nat) (n0 : Nat) (a0 : Int32) (a1 : Int32) (a2 : Int32) (kc3 : ((Int32 × z_Dat) → Option (Int32 × z_Dat))) (v1 : Int32) (D2 : z_Dat) : Option (Int32 × z_Dat) :=
  if a1 ≤ v1 then (some (a0 + a1, D2))
  else (if a2 = 0 then (if z_inb (a0 + v1) 3063 then (if z_inb v1 n0 then z_let (z_up D2 r0 (z_ix v1) (D2 66 (z_ix (a0 + v1)))) (fun D6 => z_let (v1 + 1) (fun v7 => kc3 (v7, D6))) else none) else none)
  else (if z_inb v1 n0 then (if z_inb (a0 + v1) 3063 then z_let (z_up D2 66 (z_ix (a0 + v1)) (D2 r0 (z_ix v1))) (fun D8 => z_let (v1 + 1) (fun v9 => kc3 (v9, D8))) else none) else none))
def F_X11_keepsRow (N : Nat) (r0 : Nat) (n0 : Nat) (a0 : Int32) (a1 : Int32) (a2 : Int32) (D : z_Dat) : Option (Int32 × z_Dat) :=
  z_loop (fun kc3 s => F_X11_keepsRow_L3 r0 n0 a0 a1 a2 kc3 s.1 s.2) N (0, D)
set_option maxRecDepth 100000 in
set_option maxHeartbeats 4000000 in
theorem em_X11_keepsRow {l : Launch} {S : List z_Shp} {oW : Nat} {r0 : Nat} {n0 : Nat} (hl : l.stackTraces = false) (hW : z_W S oW) (hr0 : S[r0]? = some (0, n0, [])) (hn0 : n0 < 2147483648) (N : Nat) (a0 : Int32) (a1 : Int32) (a2 : Int32) (D : z_Dat) : ∀ out, z_ko (z_kI S) (F_X11_keepsRow N r0 n0 a0 a1 a2 D) out → z_EM l M_X11_keepsRow (20, 520, 0, 0) [.ref 40, .int a0, .ref r0, .int a1, .int a2] S D out := by
  have hs40 : S[40]? = some (13, 55, [none, some (some 41), none, none, none, none, none, none, none, some (some 42), some (some 43), some (some 44), some (some 45), some (some 46), some (some 47), some (some 48), none, none, none, none, none, none, some (some 49), some (some 50), some (some 51), some (some 52), some (some 53), none, none, some (some 54), some (some 55), some (some 56), none, none, none, none, none, none, some (some 57), some (some 58), some (some 59), some (some 60), some (some 61), none, some (some 62), some (some 63), none, none, some (some 64), some (some 65), none, none, none, some (some 66), none]) := hW.1 40 _ rfl
  have hs66 : S[66]? = some (0, 3063, []) := hW.1 66 _ rfl
  refine z_meth hl rfl kp_X11 (Nat.le_of_ble_eq_true rfl) (lv := [some (.ref 40), some (.int a0), some (.ref r0), some (.int a1), some (.int a2), none]) rfl ?_
  unfold F_X11_keepsRow
  refine z_iconst (v := 0) dX11_keepsRow_0 rfl ?_
  refine z_istore (i := 5) (x := 0) (lv' := [some (.ref 40), some (.int a0), some (.ref r0), some (.int a1), some (.int a2), some (.int 0)]) dX11_keepsRow_1 (by decide) rfl rfl ?_
  refine z_loops (lvOf := fun s : Int32 × z_Dat => [some (.ref 40), some (.int a0), some (.ref r0), some (.int a1), some (.int a2), some (.int s.1)]) (dOf := fun s : Int32 × z_Dat => s.2) (fun kc3 hkc3 s => ?_) N (0, D)
  obtain ⟨v1, D2⟩ := s
  show z_F _ _ _ _ _ 3 [some (.ref 40), some (.int a0), some (.ref r0), some (.int a1), some (.int a2), some (.int v1)] [] S D2 _ (F_X11_keepsRow_L3 r0 n0 a0 a1 a2 kc3 v1 D2)
  unfold F_X11_keepsRow_L3
  refine z_iload (i := 5) (x := v1) dX11_keepsRow_3 rfl ?_
  refine z_iload_n (i := 3) (x := a1) dX11_keepsRow_5 rfl rfl ?_
  refine z_icmp_ge 49 dX11_keepsRow_6 (by decide) (fun c4 => ?_) (fun c4 => ?_)
  · refine z_iload_n (i := 1) (x := a0) dX11_keepsRow_49 rfl rfl ?_
    refine z_iload_n (i := 3) (x := a1) dX11_keepsRow_50 rfl rfl ?_
    refine z_iadd dX11_keepsRow_51 ?_
    exact z_ireturn dX11_keepsRow_52 z_rWI rfl (by decide) (by decide)
  · refine z_iload (i := 4) (x := a2) dX11_keepsRow_9 rfl ?_
    refine z_if_eq 30 dX11_keepsRow_11 (by decide) (fun c5 => ?_) (fun c5 => ?_)
    · refine z_aload_n (i := 2) (x := r0) dX11_keepsRow_30 rfl rfl ?_
      refine z_iload (i := 5) (x := v1) dX11_keepsRow_31 rfl ?_
      refine z_aload_n (i := 0) (x := 40) dX11_keepsRow_33 rfl rfl ?_
      refine z_getR (j := 53) dX11_keepsRow_34 kl_11 hs40 (by decide) rfl rfl kf_X11_92 ?_
      refine z_iload_n (i := 1) (x := a0) dX11_keepsRow_37 rfl rfl ?_
      refine z_iload (i := 5) (x := v1) dX11_keepsRow_38 rfl ?_
      refine z_iadd dX11_keepsRow_40 ?_
      refine z_iald dX11_keepsRow_41 hs66 ?_
      refine z_iast dX11_keepsRow_42 hr0 (fun D6 => ?_)
      refine z_iinc (i := 5) (x := v1) (y := 1) dX11_keepsRow_43 rfl (by decide) (by decide) rfl (fun v7 => ?_)
      refine z_goto 3 dX11_keepsRow_46 (by decide) ?_
      exact hkc3 (v7, D6)
    · refine z_aload_n (i := 0) (x := 40) dX11_keepsRow_14 rfl rfl ?_
      refine z_getR (j := 53) dX11_keepsRow_15 kl_11 hs40 (by decide) rfl rfl kf_X11_92 ?_
      refine z_iload_n (i := 1) (x := a0) dX11_keepsRow_18 rfl rfl ?_
      refine z_iload (i := 5) (x := v1) dX11_keepsRow_19 rfl ?_
      refine z_iadd dX11_keepsRow_21 ?_
      refine z_aload_n (i := 2) (x := r0) dX11_keepsRow_22 rfl rfl ?_
      refine z_iload (i := 5) (x := v1) dX11_keepsRow_23 rfl ?_
      refine z_iald dX11_keepsRow_25 hr0 ?_
      refine z_iast dX11_keepsRow_26 hs66 (fun D8 => ?_)
      refine z_goto 43 dX11_keepsRow_27 (by decide) ?_
      refine z_iinc (i := 5) (x := v1) (y := 1) dX11_keepsRow_43 rfl (by decide) (by decide) rfl (fun v9 => ?_)
      refine z_goto 3 dX11_keepsRow_46 (by decide) ?_
      exact hkc3 (v9, D8)

def F_X11_keepsAll (N : Nat) (a0 : Int32) (a1 : Int32) (D : z_Dat) : Option z_Dat :=
  z_bd (F_X11_keepsRow N 57 60 (1021 * a0) 60 a1 D) (fun a_2 => z_bd (F_X11_keepsRow N 59 960 a_2.1 960 a1 a_2.2) (fun a_4 => if a1 = 0 then (if z_inb a_4.1 3063 then (z_let (z_up a_4.2 40 33 (a_4.2 66 (z_ix a_4.1))) (fun D6 => some D6)) else none)
  else (if z_inb a_4.1 3063 then z_let (z_up a_4.2 66 (z_ix a_4.1) (a_4.2 40 33)) (fun D7 => some D7) else none)))
set_option maxRecDepth 100000 in
set_option maxHeartbeats 4000000 in
theorem em_X11_keepsAll {l : Launch} {S : List z_Shp} {oW : Nat} (hl : l.stackTraces = false) (hW : z_W S oW) (N : Nat) (a0 : Int32) (a1 : Int32) (D : z_Dat) : ∀ out, z_ko (z_kV S) (F_X11_keepsAll N a0 a1 D) out → z_EM l M_X11_keepsAll (30, 580, 0, 0) [.ref 40, .int a0, .int a1] S D out := by
  have hs40 : S[40]? = some (13, 55, [none, some (some 41), none, none, none, none, none, none, none, some (some 42), some (some 43), some (some 44), some (some 45), some (some 46), some (some 47), some (some 48), none, none, none, none, none, none, some (some 49), some (some 50), some (some 51), some (some 52), some (some 53), none, none, some (some 54), some (some 55), some (some 56), none, none, none, none, none, none, some (some 57), some (some 58), some (some 59), some (some 60), some (some 61), none, some (some 62), some (some 63), none, none, some (some 64), some (some 65), none, none, none, some (some 66), none]) := hW.1 40 _ rfl
  have hs57 : S[57]? = some (0, 60, []) := hW.1 57 _ rfl
  have hs59 : S[59]? = some (0, 960, []) := hW.1 59 _ rfl
  have hs66 : S[66]? = some (0, 3063, []) := hW.1 66 _ rfl
  refine z_meth hl rfl kp_X11 (Nat.le_of_ble_eq_true rfl) (lv := [some (.ref 40), some (.int a0), some (.int a1), none]) rfl ?_
  unfold F_X11_keepsAll
  refine z_aload_n (i := 0) (x := 40) dX11_keepsAll_0 rfl rfl ?_
  refine z_sipush (v := 1021) dX11_keepsAll_1 (by decide) ?_
  refine z_iload_n (i := 1) (x := a0) dX11_keepsAll_4 rfl rfl ?_
  refine z_imul dX11_keepsAll_5 ?_
  refine z_aload_n (i := 0) (x := 40) dX11_keepsAll_6 rfl rfl ?_
  refine z_getR (j := 38) dX11_keepsAll_7 kl_11 hs40 (by decide) rfl rfl kf_X11_65 ?_
  refine z_bipush (v := 60) dX11_keepsAll_10 (by decide) ?_
  refine z_iload_n (i := 2) (x := a1) dX11_keepsAll_12 rfl rfl ?_
  refine z_cWI (As := [.ref 40, .int (1021 * a0), .ref 57, .int 60, .int a1]) (rest := []) (em_X11_keepsRow (n0 := 60) hl hW hs57 (by decide) N (1021 * a0) 60 a1 D) (fun o7 h => z_runV 467 4 h rfl kk_X11_467 hs40 kl_11.1 kq_X11_keepsRow rfl (Nat.le_of_ble_eq_true rfl) ⟨Nat.le_of_ble_eq_true rfl, Nat.le_of_ble_eq_true rfl, Nat.le_of_ble_eq_true rfl, Nat.le_of_ble_eq_true rfl⟩ dX11_keepsAll_13) z_gWV (fun a_2 hz1 => ?_)
  refine z_istore_n (i := 3) (x := a_2.1) (lv' := [some (.ref 40), some (.int a0), some (.int a1), some (.int a_2.1)]) dX11_keepsAll_16 rfl (by decide) rfl rfl ?_
  refine z_aload_n (i := 0) (x := 40) dX11_keepsAll_17 rfl rfl ?_
  refine z_iload_n (i := 3) (x := a_2.1) dX11_keepsAll_18 rfl rfl ?_
  refine z_aload_n (i := 0) (x := 40) dX11_keepsAll_19 rfl rfl ?_
  refine z_getR (j := 40) dX11_keepsAll_20 kl_11 hs40 (by decide) rfl rfl kf_X11_71 ?_
  refine z_sipush (v := 960) dX11_keepsAll_23 (by decide) ?_
  refine z_iload_n (i := 2) (x := a1) dX11_keepsAll_26 rfl rfl ?_
  refine z_cWI (As := [.ref 40, .int a_2.1, .ref 59, .int 960, .int a1]) (rest := []) (em_X11_keepsRow (n0 := 960) hl hW hs59 (by decide) N a_2.1 960 a1 a_2.2) (fun o7 h => z_runV 467 4 h rfl kk_X11_467 hs40 kl_11.1 kq_X11_keepsRow rfl (Nat.le_of_ble_eq_true rfl) ⟨Nat.le_of_ble_eq_true rfl, Nat.le_of_ble_eq_true rfl, Nat.le_of_ble_eq_true rfl, Nat.le_of_ble_eq_true rfl⟩ dX11_keepsAll_27) z_gWV (fun a_4 hz3 => ?_)
  refine z_istore_n (i := 3) (x := a_4.1) (lv' := [some (.ref 40), some (.int a0), some (.int a1), some (.int a_4.1)]) dX11_keepsAll_30 rfl (by decide) rfl rfl ?_
  refine z_iload_n (i := 2) (x := a1) dX11_keepsAll_31 rfl rfl ?_
  refine z_if_eq 48 dX11_keepsAll_32 (by decide) (fun c5 => ?_) (fun c5 => ?_)
  · refine z_aload_n (i := 0) (x := 40) dX11_keepsAll_48 rfl rfl ?_
    refine z_aload_n (i := 0) (x := 40) dX11_keepsAll_49 rfl rfl ?_
    refine z_getR (j := 53) dX11_keepsAll_50 kl_11 hs40 (by decide) rfl rfl kf_X11_92 ?_
    refine z_iload_n (i := 3) (x := a_4.1) dX11_keepsAll_53 rfl rfl ?_
    refine z_iald dX11_keepsAll_54 hs66 ?_
    refine z_putI (j := 33) dX11_keepsAll_55 kl_11 tyX11_ok nmX11 hs40 (by decide) rfl rfl rfl rfl rfl rfl kf_X11_175 (fun D6 => ?_)
    exact z_vreturn dX11_keepsAll_58 z_rWV trivial (by decide) (by decide)
  · refine z_aload_n (i := 0) (x := 40) dX11_keepsAll_35 rfl rfl ?_
    refine z_getR (j := 53) dX11_keepsAll_36 kl_11 hs40 (by decide) rfl rfl kf_X11_92 ?_
    refine z_iload_n (i := 3) (x := a_4.1) dX11_keepsAll_39 rfl rfl ?_
    refine z_aload_n (i := 0) (x := 40) dX11_keepsAll_40 rfl rfl ?_
    refine z_getI (j := 33) dX11_keepsAll_41 kl_11 hs40 (by decide) rfl rfl kf_X11_175 ?_
    refine z_iast dX11_keepsAll_44 hs66 (fun D7 => ?_)
    refine z_goto 58 dX11_keepsAll_45 (by decide) ?_
    exact z_vreturn dX11_keepsAll_58 z_rWV trivial (by decide) (by decide)

def F_X11_image (N : Nat) (D : z_Dat) : Option (Int32 × z_Dat) :=
  z_let (z_up D 40 0 0) (fun D1 => if (D1 40 54) = 3 then (some ((-1), D1))
  else (z_bd (F_X11_keepsAll N (D1 40 54) 1 D1) (fun a_4 => z_let (z_up a_4 40 54 ((a_4 40 54) + 1)) (fun D5 => some (D5 40 54, D5)))))
set_option maxRecDepth 100000 in
set_option maxHeartbeats 4000000 in
theorem em_X11_image {l : Launch} {S : List z_Shp} {oW : Nat} (hl : l.stackTraces = false) (hW : z_W S oW) (N : Nat) (D : z_Dat) : ∀ out, z_ko (z_kI S) (F_X11_image N D) out → z_EM l M_X11_image (40, 640, 0, 0) [.ref 40] S D out := by
  have hs40 : S[40]? = some (13, 55, [none, some (some 41), none, none, none, none, none, none, none, some (some 42), some (some 43), some (some 44), some (some 45), some (some 46), some (some 47), some (some 48), none, none, none, none, none, none, some (some 49), some (some 50), some (some 51), some (some 52), some (some 53), none, none, some (some 54), some (some 55), some (some 56), none, none, none, none, none, none, some (some 57), some (some 58), some (some 59), some (some 60), some (some 61), none, some (some 62), some (some 63), none, none, some (some 64), some (some 65), none, none, none, some (some 66), none]) := hW.1 40 _ rfl
  refine z_meth hl rfl kp_X11 (Nat.le_of_ble_eq_true rfl) (lv := [some (.ref 40)]) rfl ?_
  unfold F_X11_image
  refine z_aload_n (i := 0) (x := 40) dX11_image_0 rfl rfl ?_
  refine z_iconst (v := 0) dX11_image_1 rfl ?_
  refine z_putI (j := 0) dX11_image_2 kl_11 tyX11_ok nmX11 hs40 (by decide) rfl rfl rfl rfl rfl rfl kf_X11_3 (fun D1 => ?_)
  refine z_aload_n (i := 0) (x := 40) dX11_image_5 rfl rfl ?_
  refine z_getI (j := 54) dX11_image_6 kl_11 hs40 (by decide) rfl rfl kf_X11_178 ?_
  refine z_iconst (v := 3) dX11_image_9 rfl ?_
  refine z_icmp_ne 15 dX11_image_10 (by decide) (fun c2 => ?_) (fun c2 => ?_)
  · refine z_iconst (v := (-1)) dX11_image_13 rfl ?_
    exact z_ireturn dX11_image_14 z_rWI rfl (by decide) (by decide)
  · refine z_aload_n (i := 0) (x := 40) dX11_image_15 rfl rfl ?_
    refine z_aload_n (i := 0) (x := 40) dX11_image_16 rfl rfl ?_
    refine z_getI (j := 54) dX11_image_17 kl_11 hs40 (by decide) rfl rfl kf_X11_178 ?_
    refine z_iconst (v := 1) dX11_image_20 rfl ?_
    refine z_cWV (As := [.ref 40, .int (D1 40 54), .int 1]) (rest := []) (em_X11_keepsAll hl hW N (D1 40 54) 1 D1) (fun o7 h => z_runV 471 2 h rfl kk_X11_471 hs40 kl_11.1 kq_X11_keepsAll rfl (Nat.le_of_ble_eq_true rfl) ⟨Nat.le_of_ble_eq_true rfl, Nat.le_of_ble_eq_true rfl, Nat.le_of_ble_eq_true rfl, Nat.le_of_ble_eq_true rfl⟩ dX11_image_21) z_gWI (fun a_4 hz3 => ?_)
    refine z_aload_n (i := 0) (x := 40) dX11_image_24 rfl rfl ?_
    refine z_dup dX11_image_25 rfl ?_
    refine z_getI (j := 54) dX11_image_26 kl_11 hs40 (by decide) rfl rfl kf_X11_178 ?_
    refine z_iconst (v := 1) dX11_image_29 rfl ?_
    refine z_iadd dX11_image_30 ?_
    refine z_putI (j := 54) dX11_image_31 kl_11 tyX11_ok nmX11 hs40 (by decide) rfl rfl rfl rfl rfl rfl kf_X11_178 (fun D5 => ?_)
    refine z_aload_n (i := 0) (x := 40) dX11_image_34 rfl rfl ?_
    refine z_getI (j := 54) dX11_image_35 kl_11 hs40 (by decide) rfl rfl kf_X11_178 ?_
    exact z_ireturn dX11_image_38 z_rWI rfl (by decide) (by decide)

def F_X11_restore (N : Nat) (D : z_Dat) : Option (Int32 × z_Dat) :=
  z_let (z_up D 40 0 0) (fun D1 => if (D1 40 54) = 0 then (some ((-1), D1))
  else (z_let (z_up D1 40 54 ((D1 40 54) - 1)) (fun D3 => z_bd (F_X11_keepsAll N (D3 40 54) 0 D3) (fun a_5 => z_let (z_up a_5 40 34 0) (fun D6 => some (D6 40 54, D6))))))
set_option maxRecDepth 100000 in
set_option maxHeartbeats 4000000 in
theorem em_X11_restore {l : Launch} {S : List z_Shp} {oW : Nat} (hl : l.stackTraces = false) (hW : z_W S oW) (N : Nat) (D : z_Dat) : ∀ out, z_ko (z_kI S) (F_X11_restore N D) out → z_EM l M_X11_restore (40, 640, 0, 0) [.ref 40] S D out := by
  have hs40 : S[40]? = some (13, 55, [none, some (some 41), none, none, none, none, none, none, none, some (some 42), some (some 43), some (some 44), some (some 45), some (some 46), some (some 47), some (some 48), none, none, none, none, none, none, some (some 49), some (some 50), some (some 51), some (some 52), some (some 53), none, none, some (some 54), some (some 55), some (some 56), none, none, none, none, none, none, some (some 57), some (some 58), some (some 59), some (some 60), some (some 61), none, some (some 62), some (some 63), none, none, some (some 64), some (some 65), none, none, none, some (some 66), none]) := hW.1 40 _ rfl
  refine z_meth hl rfl kp_X11 (Nat.le_of_ble_eq_true rfl) (lv := [some (.ref 40)]) rfl ?_
  unfold F_X11_restore
  refine z_aload_n (i := 0) (x := 40) dX11_restore_0 rfl rfl ?_
  refine z_iconst (v := 0) dX11_restore_1 rfl ?_
  refine z_putI (j := 0) dX11_restore_2 kl_11 tyX11_ok nmX11 hs40 (by decide) rfl rfl rfl rfl rfl rfl kf_X11_3 (fun D1 => ?_)
  refine z_aload_n (i := 0) (x := 40) dX11_restore_5 rfl rfl ?_
  refine z_getI (j := 54) dX11_restore_6 kl_11 hs40 (by decide) rfl rfl kf_X11_178 ?_
  refine z_if_ne 14 dX11_restore_9 (by decide) (fun c2 => ?_) (fun c2 => ?_)
  · refine z_iconst (v := (-1)) dX11_restore_12 rfl ?_
    exact z_ireturn dX11_restore_13 z_rWI rfl (by decide) (by decide)
  · refine z_aload_n (i := 0) (x := 40) dX11_restore_14 rfl rfl ?_
    refine z_dup dX11_restore_15 rfl ?_
    refine z_getI (j := 54) dX11_restore_16 kl_11 hs40 (by decide) rfl rfl kf_X11_178 ?_
    refine z_iconst (v := 1) dX11_restore_19 rfl ?_
    refine z_isub dX11_restore_20 ?_
    refine z_putI (j := 54) dX11_restore_21 kl_11 tyX11_ok nmX11 hs40 (by decide) rfl rfl rfl rfl rfl rfl kf_X11_178 (fun D3 => ?_)
    refine z_aload_n (i := 0) (x := 40) dX11_restore_24 rfl rfl ?_
    refine z_aload_n (i := 0) (x := 40) dX11_restore_25 rfl rfl ?_
    refine z_getI (j := 54) dX11_restore_26 kl_11 hs40 (by decide) rfl rfl kf_X11_178 ?_
    refine z_iconst (v := 0) dX11_restore_29 rfl ?_
    refine z_cWV (As := [.ref 40, .int (D3 40 54), .int 0]) (rest := []) (em_X11_keepsAll hl hW N (D3 40 54) 0 D3) (fun o7 h => z_runV 471 2 h rfl kk_X11_471 hs40 kl_11.1 kq_X11_keepsAll rfl (Nat.le_of_ble_eq_true rfl) ⟨Nat.le_of_ble_eq_true rfl, Nat.le_of_ble_eq_true rfl, Nat.le_of_ble_eq_true rfl, Nat.le_of_ble_eq_true rfl⟩ dX11_restore_30) z_gWI (fun a_5 hz4 => ?_)
    refine z_aload_n (i := 0) (x := 40) dX11_restore_33 rfl rfl ?_
    refine z_iconst (v := 0) dX11_restore_34 rfl ?_
    refine z_putI (j := 34) dX11_restore_35 kl_11 tyX11_ok nmX11 hs40 (by decide) rfl rfl rfl rfl rfl rfl kf_X11_181 (fun D6 => ?_)
    refine z_aload_n (i := 0) (x := 40) dX11_restore_38 rfl rfl ?_
    refine z_getI (j := 54) dX11_restore_39 kl_11 hs40 (by decide) rfl rfl kf_X11_178 ?_
    exact z_ireturn dX11_restore_42 z_rWI rfl (by decide) (by decide)

def F_X11_status (a0 : Int32) (D : z_Dat) : Option (Int32 × z_Dat) :=
  z_let (z_up D 40 0 0) (fun D1 => if (F_X11_within a0 0 1) = 0 then (some ((-1), D1))
  else (if z_inb a0 2 then (some (D1 41 (z_ix a0), D1)) else none))
set_option maxRecDepth 100000 in
set_option maxHeartbeats 4000000 in
theorem em_X11_status {l : Launch} {S : List z_Shp} {oW : Nat} (hl : l.stackTraces = false) (hW : z_W S oW) (a0 : Int32) (D : z_Dat) : ∀ out, z_ko (z_kI S) (F_X11_status a0 D) out → z_EM l M_X11_status (30, 580, 0, 0) [.ref 40, .int a0] S D out := by
  have hs40 : S[40]? = some (13, 55, [none, some (some 41), none, none, none, none, none, none, none, some (some 42), some (some 43), some (some 44), some (some 45), some (some 46), some (some 47), some (some 48), none, none, none, none, none, none, some (some 49), some (some 50), some (some 51), some (some 52), some (some 53), none, none, some (some 54), some (some 55), some (some 56), none, none, none, none, none, none, some (some 57), some (some 58), some (some 59), some (some 60), some (some 61), none, some (some 62), some (some 63), none, none, some (some 64), some (some 65), none, none, none, some (some 66), none]) := hW.1 40 _ rfl
  have hs41 : S[41]? = some (0, 2, []) := hW.1 41 _ rfl
  refine z_meth hl rfl kp_X11 (Nat.le_of_ble_eq_true rfl) (lv := [some (.ref 40), some (.int a0)]) rfl ?_
  unfold F_X11_status
  refine z_aload_n (i := 0) (x := 40) dX11_status_0 rfl rfl ?_
  refine z_iconst (v := 0) dX11_status_1 rfl ?_
  refine z_putI (j := 0) dX11_status_2 kl_11 tyX11_ok nmX11 hs40 (by decide) rfl rfl rfl rfl rfl rfl kf_X11_3 (fun D1 => ?_)
  refine z_iload_n (i := 1) (x := a0) dX11_status_5 rfl rfl ?_
  refine z_iconst (v := 0) dX11_status_6 rfl ?_
  refine z_iconst (v := 1) dX11_status_7 rfl ?_
  refine z_cP (As := [.int a0, .int 0, .int 1]) (rest := []) (em_X11_within hl a0 0 1 D1) (fun o7 h => z_runS 376 3 h rfl kk_X11_376 kq_X11_within rfl (Nat.le_of_ble_eq_true rfl) ⟨Nat.le_of_ble_eq_true rfl, Nat.le_of_ble_eq_true rfl, Nat.le_of_ble_eq_true rfl, Nat.le_of_ble_eq_true rfl⟩ dX11_status_8) z_gWI (fun hz2 => ?_)
  refine z_if_eq 23 dX11_status_11 (by decide) (fun c3 => ?_) (fun c3 => ?_)
  · refine z_iconst (v := (-1)) dX11_status_23 rfl ?_
    exact z_ireturn dX11_status_24 z_rWI rfl (by decide) (by decide)
  · refine z_aload_n (i := 0) (x := 40) dX11_status_14 rfl rfl ?_
    refine z_getR (j := 1) dX11_status_15 kl_11 hs40 (by decide) rfl rfl kf_X11_7 ?_
    refine z_iload_n (i := 1) (x := a0) dX11_status_18 rfl rfl ?_
    refine z_iald dX11_status_19 hs41 ?_
    refine z_goto 24 dX11_status_20 (by decide) ?_
    exact z_ireturn dX11_status_24 z_rWI rfl (by decide) (by decide)

def F_X11_count (a0 : Int32) (D : z_Dat) : Int32 × z_Dat :=
  z_let (z_up D 40 0 0) (fun D1 => if a0 = 0 then ((D1 40 54, D1))
  else (if a0 = 1 then ((D1 40 2, D1))
  else (if a0 = 2 then ((D1 40 33, D1))
  else (((-1), D1)))))
set_option maxRecDepth 100000 in
set_option maxHeartbeats 4000000 in
theorem em_X11_count {l : Launch} {S : List z_Shp} {oW : Nat} (hl : l.stackTraces = false) (hW : z_W S oW) (a0 : Int32) (D : z_Dat) : ∀ out, z_kt (z_kI S) (F_X11_count a0 D) out → z_EM l M_X11_count (20, 520, 0, 0) [.ref 40, .int a0] S D out := by
  have hs40 : S[40]? = some (13, 55, [none, some (some 41), none, none, none, none, none, none, none, some (some 42), some (some 43), some (some 44), some (some 45), some (some 46), some (some 47), some (some 48), none, none, none, none, none, none, some (some 49), some (some 50), some (some 51), some (some 52), some (some 53), none, none, some (some 54), some (some 55), some (some 56), none, none, none, none, none, none, some (some 57), some (some 58), some (some 59), some (some 60), some (some 61), none, some (some 62), some (some 63), none, none, some (some 64), some (some 65), none, none, none, some (some 66), none]) := hW.1 40 _ rfl
  refine z_meth hl rfl kp_X11 (Nat.le_of_ble_eq_true rfl) (lv := [some (.ref 40), some (.int a0)]) rfl ?_
  unfold F_X11_count
  refine z_aload_n (i := 0) (x := 40) dX11_count_0 rfl rfl ?_
  refine z_iconst (v := 0) dX11_count_1 rfl ?_
  refine z_putI (j := 0) dX11_count_2 kl_11 tyX11_ok nmX11 hs40 (by decide) rfl rfl rfl rfl rfl rfl kf_X11_3 (fun D1 => ?_)
  refine z_iload_n (i := 1) (x := a0) dX11_count_5 rfl rfl ?_
  refine z_if_ne 16 dX11_count_6 (by decide) (fun c2 => ?_) (fun c2 => ?_)
  · refine z_aload_n (i := 0) (x := 40) dX11_count_9 rfl rfl ?_
    refine z_getI (j := 54) dX11_count_10 kl_11 hs40 (by decide) rfl rfl kf_X11_178 ?_
    refine z_goto 41 dX11_count_13 (by decide) ?_
    exact z_ireturn dX11_count_41 z_rTI rfl (by decide) (by decide)
  · refine z_iload_n (i := 1) (x := a0) dX11_count_16 rfl rfl ?_
    refine z_iconst (v := 1) dX11_count_17 rfl ?_
    refine z_icmp_ne 28 dX11_count_18 (by decide) (fun c3 => ?_) (fun c3 => ?_)
    · refine z_aload_n (i := 0) (x := 40) dX11_count_21 rfl rfl ?_
      refine z_getI (j := 2) dX11_count_22 kl_11 hs40 (by decide) rfl rfl kf_X11_101 ?_
      refine z_goto 41 dX11_count_25 (by decide) ?_
      exact z_ireturn dX11_count_41 z_rTI rfl (by decide) (by decide)
    · refine z_iload_n (i := 1) (x := a0) dX11_count_28 rfl rfl ?_
      refine z_iconst (v := 2) dX11_count_29 rfl ?_
      refine z_icmp_ne 40 dX11_count_30 (by decide) (fun c4 => ?_) (fun c4 => ?_)
      · refine z_aload_n (i := 0) (x := 40) dX11_count_33 rfl rfl ?_
        refine z_getI (j := 33) dX11_count_34 kl_11 hs40 (by decide) rfl rfl kf_X11_175 ?_
        refine z_goto 41 dX11_count_37 (by decide) ?_
        exact z_ireturn dX11_count_41 z_rTI rfl (by decide) (by decide)
      · refine z_iconst (v := (-1)) dX11_count_40 rfl ?_
        exact z_ireturn dX11_count_41 z_rTI rfl (by decide) (by decide)
