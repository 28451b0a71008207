/-! ===== feed ===== -/
def bv (x : Int32) (k : Nat) : Nat := x.toBitVec.toNat / 2 ^ k % 256
theorem bv_lt (x : Int32) (k : Nat) : bv x k < 256 := Nat.mod_lt _ (by decide)
theorem ub24 (x : Int32) : z_ushr x (nn 24) &&& nn 255 = nn (bv x 24) := by
  have h16 : ((nn 24).toUInt32 &&& Int32.toUInt32 31) = 24 := by decide
  unfold z_ushr
  rw [h16]
  apply Int32.toBitVec.inj
  apply BitVec.eq_of_toNat_eq
  have e1 : ((x.toUInt32 >>> 24).toInt32 &&& nn 255).toBitVec = (x.toBitVec >>> 24) &&& 255#32 := rfl
  have e2 : (nn (bv x 24)).toBitVec = BitVec.ofNat 32 (bv x 24) := rfl
  rw [e1, e2, BitVec.toNat_and, BitVec.toNat_ushiftRight, BitVec.toNat_ofNat, BitVec.toNat_ofNat]
  have h := bv_lt x 24
  rw [Nat.mod_eq_of_lt (show bv x 24 < 2 ^ 32 by omega), Nat.shiftRight_eq_div_pow]
  show x.toBitVec.toNat / 2 ^ 24 &&& (2 ^ 8 - 1) = _
  rw [Nat.and_two_pow_sub_one_eq_mod]
  rfl
theorem sb24 (x : Int32) : z_shr x (nn 24) &&& nn 255 = nn (bv x 24) := by
  rw [← ub24]
  have h16 : ((nn 24).toUInt32 &&& Int32.toUInt32 31) = 24 := by decide
  have k16 : (nn 24 &&& 31) = 24 := by decide
  unfold z_ushr z_shr
  rw [h16, k16]
  apply Int32.toBitVec.inj
  have e1 : ((x.toUInt32 >>> 24).toInt32 &&& nn 255).toBitVec = (x.toBitVec >>> 24) &&& 255#32 := rfl
  have e2 : ((x >>> 24) &&& nn 255).toBitVec = (x.toBitVec.sshiftRight 24) &&& 255#32 := rfl
  rw [e1, e2]
  apply BitVec.eq_of_getLsbD_eq
  intro i hi
  rw [BitVec.getLsbD_and, BitVec.getLsbD_and]
  by_cases h15 : i < 8
  · rw [BitVec.getLsbD_sshiftRight, BitVec.getLsbD_ushiftRight]
    have h1 : (decide (32 ≤ i)) = false := by simp; omega
    rw [h1, if_pos (by omega)]
    simp
  · have hz : (255#32).getLsbD i = false := by
      have h7 : ∀ i : Fin 32, ¬ i.val < 8 → (255#32).getLsbD i.val = false := by decide
      exact h7 ⟨i, hi⟩ h15
    rw [hz]
    simp
theorem ub16 (x : Int32) : z_ushr x (nn 16) &&& nn 255 = nn (bv x 16) := by
  have h16 : ((nn 16).toUInt32 &&& Int32.toUInt32 31) = 16 := by decide
  unfold z_ushr
  rw [h16]
  apply Int32.toBitVec.inj
  apply BitVec.eq_of_toNat_eq
  have e1 : ((x.toUInt32 >>> 16).toInt32 &&& nn 255).toBitVec = (x.toBitVec >>> 16) &&& 255#32 := rfl
  have e2 : (nn (bv x 16)).toBitVec = BitVec.ofNat 32 (bv x 16) := rfl
  rw [e1, e2, BitVec.toNat_and, BitVec.toNat_ushiftRight, BitVec.toNat_ofNat, BitVec.toNat_ofNat]
  have h := bv_lt x 16
  rw [Nat.mod_eq_of_lt (show bv x 16 < 2 ^ 32 by omega), Nat.shiftRight_eq_div_pow]
  show x.toBitVec.toNat / 2 ^ 16 &&& (2 ^ 8 - 1) = _
  rw [Nat.and_two_pow_sub_one_eq_mod]
  rfl
theorem sb16 (x : Int32) : z_shr x (nn 16) &&& nn 255 = nn (bv x 16) := by
  rw [← ub16]
  have h16 : ((nn 16).toUInt32 &&& Int32.toUInt32 31) = 16 := by decide
  have k16 : (nn 16 &&& 31) = 16 := by decide
  unfold z_ushr z_shr
  rw [h16, k16]
  apply Int32.toBitVec.inj
  have e1 : ((x.toUInt32 >>> 16).toInt32 &&& nn 255).toBitVec = (x.toBitVec >>> 16) &&& 255#32 := rfl
  have e2 : ((x >>> 16) &&& nn 255).toBitVec = (x.toBitVec.sshiftRight 16) &&& 255#32 := rfl
  rw [e1, e2]
  apply BitVec.eq_of_getLsbD_eq
  intro i hi
  rw [BitVec.getLsbD_and, BitVec.getLsbD_and]
  by_cases h15 : i < 8
  · rw [BitVec.getLsbD_sshiftRight, BitVec.getLsbD_ushiftRight]
    have h1 : (decide (32 ≤ i)) = false := by simp; omega
    rw [h1, if_pos (by omega)]
    simp
  · have hz : (255#32).getLsbD i = false := by
      have h7 : ∀ i : Fin 32, ¬ i.val < 8 → (255#32).getLsbD i.val = false := by decide
      exact h7 ⟨i, hi⟩ h15
    rw [hz]
    simp
theorem ub8 (x : Int32) : z_ushr x (nn 8) &&& nn 255 = nn (bv x 8) := by
  have h16 : ((nn 8).toUInt32 &&& Int32.toUInt32 31) = 8 := by decide
  unfold z_ushr
  rw [h16]
  apply Int32.toBitVec.inj
  apply BitVec.eq_of_toNat_eq
  have e1 : ((x.toUInt32 >>> 8).toInt32 &&& nn 255).toBitVec = (x.toBitVec >>> 8) &&& 255#32 := rfl
  have e2 : (nn (bv x 8)).toBitVec = BitVec.ofNat 32 (bv x 8) := rfl
  rw [e1, e2, BitVec.toNat_and, BitVec.toNat_ushiftRight, BitVec.toNat_ofNat, BitVec.toNat_ofNat]
  have h := bv_lt x 8
  rw [Nat.mod_eq_of_lt (show bv x 8 < 2 ^ 32 by omega), Nat.shiftRight_eq_div_pow]
  show x.toBitVec.toNat / 2 ^ 8 &&& (2 ^ 8 - 1) = _
  rw [Nat.and_two_pow_sub_one_eq_mod]
  rfl
theorem sb8 (x : Int32) : z_shr x (nn 8) &&& nn 255 = nn (bv x 8) := by
  rw [← ub8]
  have h16 : ((nn 8).toUInt32 &&& Int32.toUInt32 31) = 8 := by decide
  have k16 : (nn 8 &&& 31) = 8 := by decide
  unfold z_ushr z_shr
  rw [h16, k16]
  apply Int32.toBitVec.inj
  have e1 : ((x.toUInt32 >>> 8).toInt32 &&& nn 255).toBitVec = (x.toBitVec >>> 8) &&& 255#32 := rfl
  have e2 : ((x >>> 8) &&& nn 255).toBitVec = (x.toBitVec.sshiftRight 8) &&& 255#32 := rfl
  rw [e1, e2]
  apply BitVec.eq_of_getLsbD_eq
  intro i hi
  rw [BitVec.getLsbD_and, BitVec.getLsbD_and]
  by_cases h15 : i < 8
  · rw [BitVec.getLsbD_sshiftRight, BitVec.getLsbD_ushiftRight]
    have h1 : (decide (32 ≤ i)) = false := by simp; omega
    rw [h1, if_pos (by omega)]
    simp
  · have hz : (255#32).getLsbD i = false := by
      have h7 : ∀ i : Fin 32, ¬ i.val < 8 → (255#32).getLsbD i.val = false := by decide
      exact h7 ⟨i, hi⟩ h15
    rw [hz]
    simp
theorem ub0 (x : Int32) : z_ushr x (nn 0) &&& nn 255 = nn (bv x 0) := by
  have h16 : ((nn 0).toUInt32 &&& Int32.toUInt32 31) = 0 := by decide
  unfold z_ushr
  rw [h16]
  apply Int32.toBitVec.inj
  apply BitVec.eq_of_toNat_eq
  have e1 : ((x.toUInt32 >>> 0).toInt32 &&& nn 255).toBitVec = (x.toBitVec >>> 0) &&& 255#32 := rfl
  have e2 : (nn (bv x 0)).toBitVec = BitVec.ofNat 32 (bv x 0) := rfl
  rw [e1, e2, BitVec.toNat_and, BitVec.toNat_ushiftRight, BitVec.toNat_ofNat, BitVec.toNat_ofNat]
  have h := bv_lt x 0
  rw [Nat.mod_eq_of_lt (show bv x 0 < 2 ^ 32 by omega), Nat.shiftRight_eq_div_pow]
  show x.toBitVec.toNat / 2 ^ 0 &&& (2 ^ 8 - 1) = _
  rw [Nat.and_two_pow_sub_one_eq_mod]
  rfl
theorem sb0 (x : Int32) : z_shr x (nn 0) &&& nn 255 = nn (bv x 0) := by
  rw [← ub0]
  have h16 : ((nn 0).toUInt32 &&& Int32.toUInt32 31) = 0 := by decide
  have k16 : (nn 0 &&& 31) = 0 := by decide
  unfold z_ushr z_shr
  rw [h16, k16]
  apply Int32.toBitVec.inj
  have e1 : ((x.toUInt32 >>> 0).toInt32 &&& nn 255).toBitVec = (x.toBitVec >>> 0) &&& 255#32 := rfl
  have e2 : ((x >>> 0) &&& nn 255).toBitVec = (x.toBitVec.sshiftRight 0) &&& 255#32 := rfl
  rw [e1, e2]
  apply BitVec.eq_of_getLsbD_eq
  intro i hi
  rw [BitVec.getLsbD_and, BitVec.getLsbD_and]
  by_cases h15 : i < 8
  · rw [BitVec.getLsbD_sshiftRight, BitVec.getLsbD_ushiftRight]
    have h1 : (decide (32 ≤ i)) = false := by simp; omega
    rw [h1, if_pos (by omega)]
    simp
  · have hz : (255#32).getLsbD i = false := by
      have h7 : ∀ i : Fin 32, ¬ i.val < 8 → (255#32).getLsbD i.val = false := by decide
      exact h7 ⟨i, hi⟩ h15
    rw [hz]
    simp
def cst (v : Int32) (k f : Nat) (E : z_Dat) : z_Dat := z_up (z_up E 2 f (nn (bv v k))) 1 1 (nn (f + 1))
def mst (v : Int32) (k f : Nat) (E : z_Dat) : z_Dat := z_up (z_up E 42 f (nn (bv v k))) 40 2 (nn (f + 1))
def FT (f : Nat) (E E' : z_Dat) : Prop := E 1 1 = nn f ∧ E' 40 2 = nn f ∧ ∀ j, j < 600 → ∃ b, b < 256 ∧ E 2 j = nn b ∧ E' 42 j = nn b
theorem FT.st {v : Int32} {k f : Nat} {E E' : z_Dat} (h : FT f E E') : FT (f + 1) (cst v k f E) (mst v k f E') := by
  refine ⟨z_up_at rfl rfl, z_up_at rfl rfl, fun j hj => ?_⟩
  obtain ⟨b, hb, h1, h2⟩ := h.2.2 j hj
  unfold cst mst
  by_cases hjf : j = f
  · subst hjf
    exact ⟨bv v k, bv_lt v k, by simp (disch := omega) only [z_up_r, z_up_at], by simp (disch := omega) only [z_up_r, z_up_at]⟩
  · exact ⟨b, hb, by simp (disch := omega) only [z_up_r, z_up_i, h1], by simp (disch := omega) only [z_up_r, z_up_i, h2]⟩
def FC (D E : z_Dat) : Prop := (∀ r, r ≠ 1 → r ≠ 2 → E r = D r) ∧ ∀ j, j ≠ 1 → E 1 j = D 1 j
def FM (D E : z_Dat) : Prop := (∀ r, r ≠ 40 → r ≠ 42 → E r = D r) ∧ ∀ j, j ≠ 2 → E 40 j = D 40 j
theorem FC.rf {D : z_Dat} : FC D D := ⟨fun _ _ _ => rfl, fun _ _ => rfl⟩
theorem FM.rf {D : z_Dat} : FM D D := ⟨fun _ _ _ => rfl, fun _ _ => rfl⟩
theorem FC.st {v : Int32} {k f : Nat} {D E : z_Dat} (h : FC D E) : FC D (cst v k f E) := ⟨fun r h1 h2 => by
  unfold cst
  rw [z_up_ne h1, z_up_ne h2]
  exact h.1 r h1 h2, fun j hj => by
  unfold cst
  rw [z_up_i hj, z_up_r (by decide)]
  exact h.2 j hj⟩
theorem FM.st {v : Int32} {k f : Nat} {D E : z_Dat} (h : FM D E) : FM D (mst v k f E) := ⟨fun r h1 h2 => by
  unfold mst
  rw [z_up_ne h1, z_up_ne h2]
  exact h.1 r h1 h2, fun j hj => by
  unfold mst
  rw [z_up_i hj, z_up_r (by decide)]
  exact h.2 j hj⟩
theorem add_e {v : Int32} {f : Nat} {E : z_Dat} (h : E 1 1 = nn f) (hf : f + 4 ≤ 600) : F_X8_add v E = cst v 0 (f + 1 + 1 + 1) (cst v 8 (f + 1 + 1) (cst v 16 (f + 1) (cst v 24 f E))) := by
  simp (disch := omega) only [F_X8_add, F_X8_add_J3, F_X8_add_J3x, F_X8_add_J3xx, F_X8_add_J3xxx, F_X8_add_J3xxxx, h, z_up_at, z_up_i, z_up_r, ub24, ub16, ub8, ub0, ↓reduceIte, ↓z_letE, ↓z_bdE, nn_l2, nn_add, nn_mul, nn_sub, nn_addM, nn_div, nn_rem, nn_min, nn_max, nn_abs, nn_ltT, nn_ltF, nn_leT, nn_leF, nn_eqT, nn_eqF, nn_eqM, nn_Meq, nn_ltM, nn_Mlt, nn_leM, nn_Mle, z_ix_nn, z_inb_nn, F_at_nn, F_put_nn, Nat.zero_add, Nat.add_zero, z_P_some, z_R_some, z_P_bd]
  rfl
theorem cst1 {v : Int32} {k f : Nat} {E : z_Dat} : cst v k f E 1 1 = nn (f + 1) := z_up_at rfl rfl
theorem mst1 {v : Int32} {k f : Nat} {E : z_Dat} : mst v k f E 40 2 = nn (f + 1) := z_up_at rfl rfl
theorem mst_e {v : Int32} {k f : Nat} {E : z_Dat} : z_up (z_up E 42 f (nn (bv v k))) 40 2 (nn (f + 1)) = mst v k f E := Eq.trans (Eq.refl _) (Eq.refl _)
theorem fe0 : nn (24 - 8 * (0 % 4)) = nn 24 := rfl
theorem fe1 : nn (24 - 8 * (1 % 4)) = nn 16 := rfl
theorem fe2 : nn (24 - 8 * (2 % 4)) = nn 8 := rfl
theorem fe3 : nn (24 - 8 * (3 % 4)) = nn 0 := rfl
theorem fe4 : nn (24 - 8 * (4 % 4)) = nn 24 := rfl
theorem fe5 : nn (24 - 8 * (5 % 4)) = nn 16 := rfl
theorem fe6 : nn (24 - 8 * (6 % 4)) = nn 8 := rfl
theorem fe7 : nn (24 - 8 * (7 % 4)) = nn 0 := rfl
theorem fe8 : nn (24 - 8 * (8 % 4)) = nn 24 := rfl
theorem fe9 : nn (24 - 8 * (9 % 4)) = nn 16 := rfl
theorem fe10 : nn (24 - 8 * (10 % 4)) = nn 8 := rfl
theorem fe11 : nn (24 - 8 * (11 % 4)) = nn 0 := rfl
theorem fe12 : nn (24 - 8 * (12 % 4)) = nn 24 := rfl
theorem fe13 : nn (24 - 8 * (13 % 4)) = nn 16 := rfl
theorem fe14 : nn (24 - 8 * (14 % 4)) = nn 8 := rfl
theorem fe15 : nn (24 - 8 * (15 % 4)) = nn 0 := rfl
theorem fe16 : nn (24 - 8 * (16 % 4)) = nn 24 := rfl
theorem fe17 : nn (24 - 8 * (17 % 4)) = nn 16 := rfl
theorem fe18 : nn (24 - 8 * (18 % 4)) = nn 8 := rfl
theorem fe19 : nn (24 - 8 * (19 % 4)) = nn 0 := rfl
set_option maxHeartbeats 4000000 in
theorem feed11_e {a0 a1 a2 a3 a4 : Int32} {f : Nat} {E : z_Dat} (h : E 40 2 = nn f) (hf : f + 20 ≤ 600) : F_X11_feed_J23xxxxxxxxxxxxxxxxxxxx a0 a1 a2 a3 a4 E = some (nn (f + 1 + 1 + 1 + 1 + 1 + 1 + 1 + 1 + 1 + 1 + 1 + 1 + 1 + 1 + 1 + 1 + 1 + 1 + 1 + 1), (mst a4 0 (f + 1 + 1 + 1 + 1 + 1 + 1 + 1 + 1 + 1 + 1 + 1 + 1 + 1 + 1 + 1 + 1 + 1 + 1 + 1) (mst a4 8 (f + 1 + 1 + 1 + 1 + 1 + 1 + 1 + 1 + 1 + 1 + 1 + 1 + 1 + 1 + 1 + 1 + 1 + 1) (mst a4 16 (f + 1 + 1 + 1 + 1 + 1 + 1 + 1 + 1 + 1 + 1 + 1 + 1 + 1 + 1 + 1 + 1 + 1) (mst a4 24 (f + 1 + 1 + 1 + 1 + 1 + 1 + 1 + 1 + 1 + 1 + 1 + 1 + 1 + 1 + 1 + 1) (mst a3 0 (f + 1 + 1 + 1 + 1 + 1 + 1 + 1 + 1 + 1 + 1 + 1 + 1 + 1 + 1 + 1) (mst a3 8 (f + 1 + 1 + 1 + 1 + 1 + 1 + 1 + 1 + 1 + 1 + 1 + 1 + 1 + 1) (mst a3 16 (f + 1 + 1 + 1 + 1 + 1 + 1 + 1 + 1 + 1 + 1 + 1 + 1 + 1) (mst a3 24 (f + 1 + 1 + 1 + 1 + 1 + 1 + 1 + 1 + 1 + 1 + 1 + 1) (mst a2 0 (f + 1 + 1 + 1 + 1 + 1 + 1 + 1 + 1 + 1 + 1 + 1) (mst a2 8 (f + 1 + 1 + 1 + 1 + 1 + 1 + 1 + 1 + 1 + 1) (mst a2 16 (f + 1 + 1 + 1 + 1 + 1 + 1 + 1 + 1 + 1) (mst a2 24 (f + 1 + 1 + 1 + 1 + 1 + 1 + 1 + 1) (mst a1 0 (f + 1 + 1 + 1 + 1 + 1 + 1 + 1) (mst a1 8 (f + 1 + 1 + 1 + 1 + 1 + 1) (mst a1 16 (f + 1 + 1 + 1 + 1 + 1) (mst a1 24 (f + 1 + 1 + 1 + 1) (mst a0 0 (f + 1 + 1 + 1) (mst a0 8 (f + 1 + 1) (mst a0 16 (f + 1) (mst a0 24 (f) E))))))))))))))))))))) := by
  simp (disch := omega) only [F_X11_feed_J23, F_X11_feed_J23x, F_X11_feed_J23xx, F_X11_feed_J23xxx, F_X11_feed_J23xxxx, F_X11_feed_J23xxxxx, F_X11_feed_J23xxxxxx, F_X11_feed_J23xxxxxxx, F_X11_feed_J23xxxxxxxx, F_X11_feed_J23xxxxxxxxx, F_X11_feed_J23xxxxxxxxxx, F_X11_feed_J23xxxxxxxxxxx, F_X11_feed_J23xxxxxxxxxxxx, F_X11_feed_J23xxxxxxxxxxxxx, F_X11_feed_J23xxxxxxxxxxxxxx, F_X11_feed_J23xxxxxxxxxxxxxxx, F_X11_feed_J23xxxxxxxxxxxxxxxx, F_X11_feed_J23xxxxxxxxxxxxxxxxx, F_X11_feed_J23xxxxxxxxxxxxxxxxxx, F_X11_feed_J23xxxxxxxxxxxxxxxxxxx, F_X11_feed_J23xxxxxxxxxxxxxxxxxxxx, F_X11_feed_J76, F_X11_feed_J76x, F_X11_feed_J76xx, F_X11_feed_J76xxx, F_X11_feed_J76xxxx, F_X11_feed_J76xxxxx, F_X11_feed_J76xxxxxx, F_X11_feed_J76xxxxxxx, F_X11_feed_J76xxxxxxxx, F_X11_feed_J76xxxxxxxxx, F_X11_feed_J76xxxxxxxxxx, F_X11_feed_J76xxxxxxxxxxx, F_X11_feed_J76xxxxxxxxxxxx, F_X11_feed_J76xxxxxxxxxxxxx, F_X11_feed_J76xxxxxxxxxxxxxx, F_X11_feed_J76xxxxxxxxxxxxxxx, F_X11_feed_J76xxxxxxxxxxxxxxxx, F_X11_feed_J76xxxxxxxxxxxxxxxxx, F_X11_feed_J76xxxxxxxxxxxxxxxxxx, F_X11_feed_J76xxxxxxxxxxxxxxxxxxx, h, mst1, z_up_r, mst_e, fe0, fe1, fe2, fe3, fe4, fe5, fe6, fe7, fe8, fe9, fe10, fe11, fe12, fe13, fe14, fe15, fe16, fe17, fe18, fe19, sb24, sb16, sb8, sb0, ↓reduceIte, ↓z_letE, ↓z_bdE, nn_l2, nn_add, nn_mul, nn_sub, nn_addM, nn_div, nn_rem, nn_min, nn_max, nn_abs, nn_ltT, nn_ltF, nn_leT, nn_leF, nn_eqT, nn_eqF, nn_eqM, nn_Meq, nn_ltM, nn_Mlt, nn_leM, nn_Mle, z_ix_nn, z_inb_nn, F_at_nn, F_put_nn, Nat.zero_add, Nat.add_zero, z_P_some, z_R_some, z_P_bd]
set_option maxHeartbeats 4000000 in
theorem T_feed {o n : Nat} {a0 a1 a2 a3 a4 : Int32} {D : z_Dat} (hJ : J o n D) : ∃ r1 : Int32, ∃ r2 : Int32, ∃ D1 : z_Dat, ∃ D2 : z_Dat, (F_X10_feed a0 a1 a2 a3 a4 D = (r1, D1)) ∧ (F_X11_feed a0 a1 a2 a3 a4 D1 = some (r2, D2)) ∧ (r1 = r2) ∧ J o n D2 := by
  obtain ⟨ho, ns, pe, rv, hB⟩ := id hJ
  obtain ⟨hC, hT, hL, hBk, hP, hI, ⟨⟨f, hf, f1, f2⟩, hX2, hX3⟩, hMI⟩ := id hB
  have hoo := hJ.ho
  by_cases hr : 600 < f + 20
  · exact ⟨-nn 1, -nn 1, D, z_up D 40 0 (nn 0), by simp (disch := omega) only [F_X10_feed, F_X8_hasRoom, f1, dem_ok, dem_no, demT_ok, demT_no, z_bt_l, z_bt_r, z_try_l, z_try_r, nl_I, nl_N, nl_IN, nl_NI, may_okU, may_noU, z_up_at, z_up_i, z_up_r, ↓reduceIte, ↓z_letE, ↓z_bdE, nn_l2, nn_add, nn_mul, nn_sub, nn_addM, nn_div, nn_rem, nn_min, nn_max, nn_abs, nn_ltT, nn_ltF, nn_leT, nn_leF, nn_eqT, nn_eqF, nn_eqM, nn_Meq, nn_ltM, nn_Mlt, nn_leM, nn_Mle, z_ix_nn, z_inb_nn, F_at_nn, F_put_nn, Nat.zero_add, Nat.add_zero, z_P_some, z_R_some, z_P_bd], by simp (disch := omega) only [F_X11_feed, f2, dem_ok, dem_no, demT_ok, demT_no, z_bt_l, z_bt_r, z_try_l, z_try_r, nl_I, nl_N, nl_IN, nl_NI, may_okU, may_noU, z_up_at, z_up_i, z_up_r, ↓reduceIte, ↓z_letE, ↓z_bdE, nn_l2, nn_add, nn_mul, nn_sub, nn_addM, nn_div, nn_rem, nn_min, nn_max, nn_abs, nn_ltT, nn_ltF, nn_leT, nn_leF, nn_eqT, nn_eqF, nn_eqM, nn_Meq, nn_ltM, nn_Mlt, nn_leM, nn_Mle, z_ix_nn, z_inb_nn, F_at_nn, F_put_nn, Nat.zero_add, Nat.add_zero, z_P_some, z_R_some, z_P_bd], rfl, hJ.keep upK⟩
  · obtain ⟨E, hE⟩ : ∃ E, E = (cst a4 0 (f + 1 + 1 + 1 + 1 + 1 + 1 + 1 + 1 + 1 + 1 + 1 + 1 + 1 + 1 + 1 + 1 + 1 + 1 + 1) (cst a4 8 (f + 1 + 1 + 1 + 1 + 1 + 1 + 1 + 1 + 1 + 1 + 1 + 1 + 1 + 1 + 1 + 1 + 1 + 1) (cst a4 16 (f + 1 + 1 + 1 + 1 + 1 + 1 + 1 + 1 + 1 + 1 + 1 + 1 + 1 + 1 + 1 + 1 + 1) (cst a4 24 (f + 1 + 1 + 1 + 1 + 1 + 1 + 1 + 1 + 1 + 1 + 1 + 1 + 1 + 1 + 1 + 1) (cst a3 0 (f + 1 + 1 + 1 + 1 + 1 + 1 + 1 + 1 + 1 + 1 + 1 + 1 + 1 + 1 + 1) (cst a3 8 (f + 1 + 1 + 1 + 1 + 1 + 1 + 1 + 1 + 1 + 1 + 1 + 1 + 1 + 1) (cst a3 16 (f + 1 + 1 + 1 + 1 + 1 + 1 + 1 + 1 + 1 + 1 + 1 + 1 + 1) (cst a3 24 (f + 1 + 1 + 1 + 1 + 1 + 1 + 1 + 1 + 1 + 1 + 1 + 1) (cst a2 0 (f + 1 + 1 + 1 + 1 + 1 + 1 + 1 + 1 + 1 + 1 + 1) (cst a2 8 (f + 1 + 1 + 1 + 1 + 1 + 1 + 1 + 1 + 1 + 1) (cst a2 16 (f + 1 + 1 + 1 + 1 + 1 + 1 + 1 + 1 + 1) (cst a2 24 (f + 1 + 1 + 1 + 1 + 1 + 1 + 1 + 1) (cst a1 0 (f + 1 + 1 + 1 + 1 + 1 + 1 + 1) (cst a1 8 (f + 1 + 1 + 1 + 1 + 1 + 1) (cst a1 16 (f + 1 + 1 + 1 + 1 + 1) (cst a1 24 (f + 1 + 1 + 1 + 1) (cst a0 0 (f + 1 + 1 + 1) (cst a0 8 (f + 1 + 1) (cst a0 16 (f + 1) (cst a0 24 (f) D)))))))))))))))))))) := ⟨_, rfl⟩
    have c1 : F_X10_feed a0 a1 a2 a3 a4 D = (nn (f + 1 + 1 + 1 + 1 + 1 + 1 + 1 + 1 + 1 + 1 + 1 + 1 + 1 + 1 + 1 + 1 + 1 + 1 + 1 + 1), E) := by
      rw [hE]
      have hr0 : F_X8_hasRoom D = nn 1 := by simp (disch := omega) only [F_X8_hasRoom, f1, ↓reduceIte, ↓z_letE, ↓z_bdE, nn_l2, nn_add, nn_mul, nn_sub, nn_addM, nn_div, nn_rem, nn_min, nn_max, nn_abs, nn_ltT, nn_ltF, nn_leT, nn_leF, nn_eqT, nn_eqF, nn_eqM, nn_Meq, nn_ltM, nn_Mlt, nn_leM, nn_Mle, z_ix_nn, z_inb_nn, F_at_nn, F_put_nn, Nat.zero_add, Nat.add_zero, z_P_some, z_R_some, z_P_bd]
      unfold F_X10_feed
      rw [hr0, if_neg (show ¬ nn 1 = 0 from by rw [nn_l2, nn_eqF (by omega) (by omega) (by omega)]; exact id)]
      simp only [z_letE]
      rw [add_e f1 (by omega), add_e cst1 (by omega), add_e cst1 (by omega), add_e cst1 (by omega), add_e cst1 (by omega), cst1]
    have hFC : FC D E := by
      rw [hE]
      exact FC.rf.st.st.st.st.st.st.st.st.st.st.st.st.st.st.st.st.st.st.st.st
    have e2 : E 40 2 = nn f := by rw [hFC.1 40 (by decide) (by decide)]; exact f2
    have u2 : (z_up E 40 0 (nn 0)) 40 2 = nn f := by rw [z_up_i (by decide)]; exact e2
    have m1 := feed11_e (a0 := a0) (a1 := a1) (a2 := a2) (a3 := a3) (a4 := a4) u2 (by omega)
    obtain ⟨D2, hD2⟩ : ∃ D2, D2 = (mst a4 0 (f + 1 + 1 + 1 + 1 + 1 + 1 + 1 + 1 + 1 + 1 + 1 + 1 + 1 + 1 + 1 + 1 + 1 + 1 + 1) (mst a4 8 (f + 1 + 1 + 1 + 1 + 1 + 1 + 1 + 1 + 1 + 1 + 1 + 1 + 1 + 1 + 1 + 1 + 1 + 1) (mst a4 16 (f + 1 + 1 + 1 + 1 + 1 + 1 + 1 + 1 + 1 + 1 + 1 + 1 + 1 + 1 + 1 + 1 + 1) (mst a4 24 (f + 1 + 1 + 1 + 1 + 1 + 1 + 1 + 1 + 1 + 1 + 1 + 1 + 1 + 1 + 1 + 1) (mst a3 0 (f + 1 + 1 + 1 + 1 + 1 + 1 + 1 + 1 + 1 + 1 + 1 + 1 + 1 + 1 + 1) (mst a3 8 (f + 1 + 1 + 1 + 1 + 1 + 1 + 1 + 1 + 1 + 1 + 1 + 1 + 1 + 1) (mst a3 16 (f + 1 + 1 + 1 + 1 + 1 + 1 + 1 + 1 + 1 + 1 + 1 + 1 + 1) (mst a3 24 (f + 1 + 1 + 1 + 1 + 1 + 1 + 1 + 1 + 1 + 1 + 1 + 1) (mst a2 0 (f + 1 + 1 + 1 + 1 + 1 + 1 + 1 + 1 + 1 + 1 + 1) (mst a2 8 (f + 1 + 1 + 1 + 1 + 1 + 1 + 1 + 1 + 1 + 1) (mst a2 16 (f + 1 + 1 + 1 + 1 + 1 + 1 + 1 + 1 + 1) (mst a2 24 (f + 1 + 1 + 1 + 1 + 1 + 1 + 1 + 1) (mst a1 0 (f + 1 + 1 + 1 + 1 + 1 + 1 + 1) (mst a1 8 (f + 1 + 1 + 1 + 1 + 1 + 1) (mst a1 16 (f + 1 + 1 + 1 + 1 + 1) (mst a1 24 (f + 1 + 1 + 1 + 1) (mst a0 0 (f + 1 + 1 + 1) (mst a0 8 (f + 1 + 1) (mst a0 16 (f + 1) (mst a0 24 (f) (z_up E 40 0 (nn 0)))))))))))))))))))))) := ⟨_, rfl⟩
    rw [← hD2] at m1
    have hFM : FM (z_up E 40 0 (nn 0)) D2 := by
      rw [hD2]
      exact FM.rf.st.st.st.st.st.st.st.st.st.st.st.st.st.st.st.st.st.st.st.st
    have hft0 : FT f D (z_up E 40 0 (nn 0)) := ⟨f1, u2, fun j hj => by
      rw [z_up_r (by decide), hFC.1 42 (by decide) (by decide)]
      exact hX2 j hj⟩
    have hft : FT (f + 1 + 1 + 1 + 1 + 1 + 1 + 1 + 1 + 1 + 1 + 1 + 1 + 1 + 1 + 1 + 1 + 1 + 1 + 1 + 1) E D2 := by
      rw [hE, hD2] at *
      exact hft0.st.st.st.st.st.st.st.st.st.st.st.st.st.st.st.st.st.st.st.st
    have hm : F_X11_feed a0 a1 a2 a3 a4 E = some (nn (f + 1 + 1 + 1 + 1 + 1 + 1 + 1 + 1 + 1 + 1 + 1 + 1 + 1 + 1 + 1 + 1 + 1 + 1 + 1 + 1), D2) := by
      simp (disch := omega) only [F_X11_feed, z_up_i, e2, ↓reduceIte, ↓z_letE, ↓z_bdE, nn_l2, nn_add, nn_mul, nn_sub, nn_addM, nn_div, nn_rem, nn_min, nn_max, nn_abs, nn_ltT, nn_ltF, nn_leT, nn_leF, nn_eqT, nn_eqF, nn_eqM, nn_Meq, nn_ltM, nn_Mlt, nn_leM, nn_Mle, z_ix_nn, z_inb_nn, F_at_nn, F_put_nn, Nat.zero_add, Nat.add_zero, z_P_some, z_R_some, z_P_bd]
      exact m1
    refine ⟨_, _, E, D2, c1, hm, rfl, ho, ns, pe, rv, ?_⟩
    have fr : ∀ r, r ≠ 1 → r ≠ 2 → r ≠ 40 → r ≠ 42 → D2 r = D r := fun r h1 h2 h3 h4 => by
      rw [hFM.1 r h3 h4, z_up_ne h3, hFC.1 r h1 h2]
    have sl : ∀ j, j ≠ 0 → j ≠ 2 → D2 40 j = D 40 j := fun j h1 h2 => by
      rw [hFM.2 j h2, z_up_i h1, hFC.1 40 (by decide) (by decide)]
    have r1 : D2 1 = E 1 := by rw [hFM.1 1 (by decide) (by decide), z_up_ne (by decide)]
    have r2 : D2 2 = E 2 := by rw [hFM.1 2 (by decide) (by decide), z_up_ne (by decide)]
    refine ⟨hC.keep (fr o (by omega) (by omega) (by omega) (by omega)) (fr _ (by omega) (by omega) (by omega) (by omega)) (fr _ (by omega) (by omega) (by omega) (by omega)) (fr _ (by omega) (by omega) (by omega) (by omega)) (sl 19 (by decide) (by decide)) (sl 20 (by decide) (by decide)) (sl 21 (by decide) (by decide)) (fr 47 (by decide) (by decide) (by decide) (by decide)) (fr 48 (by decide) (by decide) (by decide) (by decide)), ?_, hL.keep (fr 7 (by decide) (by decide) (by decide) (by decide)) (fr 8 (by decide) (by decide) (by decide) (by decide)) (sl 28 (by decide) (by decide)) (fr 51 (by decide) (by decide) (by decide) (by decide)) (fr 52 (by decide) (by decide) (by decide) (by decide)), ?_, ?_, ?_, ?_, ?_⟩
    · rw [fr 4 (by decide) (by decide) (by decide) (by decide), fr 57 (by decide) (by decide) (by decide) (by decide)]
      exact hT
    · unfold BR
      rw [fr 13 (by decide) (by decide) (by decide) (by decide), fr 61 (by decide) (by decide) (by decide) (by decide), fr 12 (by decide) (by decide) (by decide) (by decide), fr 29 (by decide) (by decide) (by decide) (by decide), sl 43 (by decide) (by decide)]
      exact hBk
    · unfold PA
      rw [fr 21 (by decide) (by decide) (by decide) (by decide), fr 22 (by decide) (by decide) (by decide) (by decide), fr 59 (by decide) (by decide) (by decide) (by decide), sl 33 (by decide) (by decide)]
      exact hP
    · unfold IM
      rw [fr 21 (by decide) (by decide) (by decide) (by decide), fr 23 (by decide) (by decide) (by decide) (by decide), fr 24 (by decide) (by decide) (by decide) (by decide), fr 66 (by decide) (by decide) (by decide) (by decide), sl 54 (by decide) (by decide)]
      exact hI
    · refine ⟨⟨_, ?_, by rw [r1]; exact hft.1, hft.2.1⟩, fun j hj => by rw [r2]; exact hft.2.2 j hj, ?_⟩
      · omega
      · rw [r1, hFC.2 6 (by decide), sl 8 (by decide) (by decide)]
        exact hX3
    · unfold MI
      rw [fr 0 (by decide) (by decide) (by decide) (by decide), fr 41 (by decide) (by decide) (by decide) (by decide), sl 34 (by decide) (by decide)]
      exact hMI
