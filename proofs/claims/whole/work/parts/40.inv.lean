/-! ===== what holds between the calls ===== -/
def BR (D : z_Dat) : Prop := (∀ d, d < 3 → D 13 d = D 61 d) ∧ D 12 2 = D 40 43 ∧ D 29 0 = nn 0
def PA (pe : Nat) (D : z_Dat) : Prop := ∃ w, w ≤ 16 ∧ D 21 3 = nn w ∧ D 40 33 = nn w ∧ ∀ k, k < w → TR pe 300 (fun j => D 22 (44 * k + j)) (fun j => D 59 (60 * k + j))
def IM (pe : Nat) (D : z_Dat) : Prop := ∃ m, m ≤ 3 ∧ D 21 4 = nn m ∧ D 40 54 = nn m ∧ ∀ i, i < m → TR pe 300 (fun j => D 23 (748 * i + j)) (fun j => D 66 (1021 * i + j)) ∧ ∃ w, w ≤ 16 ∧ D 24 i = nn w ∧ D 66 (1021 * i + 1020) = nn w ∧ ∀ k, k < w → TR pe 300 (fun j => D 23 (748 * i + 44 + (44 * k + j))) (fun j => D 66 (1021 * i + 60 + (60 * k + j)))
def TX (D : z_Dat) : Prop := (∃ fd, fd ≤ 600 ∧ D 1 1 = nn fd ∧ D 40 2 = nn fd) ∧ (∀ j, j < 600 → ∃ b, b < 256 ∧ D 2 j = nn b ∧ D 42 j = nn b) ∧ D 1 6 = D 40 8
def MI (D : z_Dat) : Prop := D 0 12 = D 40 34 ∧ D 0 13 = D 41 0 ∧ D 0 14 = D 41 1
def JB (o ns pe rv : Nat) (D : z_Dat) : Prop := CR o ns pe rv D D ∧ TR pe 300 (D 4) (D 57) ∧ LR D D ∧ BR D ∧ PA pe D ∧ IM pe D ∧ TX D ∧ MI D
def J (o n : Nat) (D : z_Dat) : Prop := ((o = 34 ∧ 68 ≤ n) ∨ (68 ≤ o ∧ o + 6 ≤ n)) ∧ ∃ ns pe rv, JB o ns pe rv D
/-- rows that nothing stands in between the calls -/
def SC (r : Nat) : Prop := r = 3 ∨ r = 5 ∨ r = 6 ∨ (9 ≤ r ∧ r ≤ 11) ∨ (14 ≤ r ∧ r ≤ 20) ∨ (25 ≤ r ∧ r ≤ 28) ∨ (30 ≤ r ∧ r ≤ 33) ∨ (43 ≤ r ∧ r ≤ 46) ∨ r = 49 ∨ r = 50 ∨ (53 ≤ r ∧ r ≤ 56) ∨ r = 58 ∨ r = 60 ∨ (62 ≤ r ∧ r ≤ 65) ∨ r = 67
def KK (j : Nat) : Prop := j = 2 ∨ j = 8 ∨ j = 19 ∨ j = 20 ∨ j = 21 ∨ j = 28 ∨ j = 33 ∨ j = 34 ∨ j = 43 ∨ j = 54
/-- all that counts is as it was -/
def KA (D G : z_Dat) : Prop := (∀ r, ¬ SC r → r ≠ 40 ∧ r ≠ 29 → G r = D r) ∧ (∀ j, KK j → G 40 j = D 40 j) ∧ G 29 0 = D 29 0
theorem KA.rf {D : z_Dat} : KA D D := ⟨fun _ _ _ => rfl, fun _ _ => rfl, rfl⟩
theorem KA.tr {D E G : z_Dat} (h : KA D E) (h2 : KA E G) : KA D G := ⟨fun r a b => (h2.1 r a b).trans (h.1 r a b), fun j a => (h2.2.1 j a).trans (h.2.1 j a), h2.2.2.trans h.2.2⟩
theorem KA.up {D E : z_Dat} {a i : Nat} {x : Int32} (h : KA D E) (ha : SC a ∨ (a = 40 ∧ ¬ KK i)) : KA D (z_up E a i x) := ⟨fun r h1 h2 => by
  have hne : r ≠ a := fun q => by
    subst q
    rcases ha with h3 | h3
    · exact h1 h3
    · exact h2.1 h3.1
  rw [z_up_ne hne]
  exact h.1 r h1 h2, fun j hj => by
  rcases ha with h3 | h3
  · have hne : (40 : Nat) ≠ a := fun q => by
      subst q
      unfold SC at h3
      omega
    rw [z_up_ne hne]
    exact h.2.1 j hj
  · obtain ⟨rfl, h4⟩ := h3
    rw [z_up_i (show j ≠ i from fun q => h4 (by rw [← q]; exact hj))]
    exact h.2.1 j hj, by
  have hne : (29 : Nat) ≠ a := fun q => by
    subst q
    rcases ha with h3 | h3
    · unfold SC at h3
      omega
    · omega
  rw [z_up_ne hne]
  exact h.2.2⟩
theorem KA.upJ {D E : z_Dat} {x : Int64} (h : KA D E) : KA D (z_upJ E 67 0 x) := (h.up (Or.inl (by unfold SC; omega))).up (Or.inl (by unfold SC; omega))
theorem KA.fs {D E : z_Dat} (h : FS D E) : KA D E := ⟨fun r h1 h2 => h r (fun q => h1 (by unfold SC; omega)) (fun q => h1 (by unfold SC; omega)), fun j _ => by rw [h 40 (by decide) (by decide)], by rw [h 29 (by decide) (by decide)]⟩
theorem KA.fs' {D E : z_Dat} (h : FS' D E) : KA D E := ⟨fun r h1 h2 => h r (fun q => h1 (by unfold SC; omega)) (fun q => h1 (by unfold SC; omega)), fun j _ => by rw [h 40 (by decide) (by decide)], by rw [h 29 (by decide) (by decide)]⟩
theorem KA.fr {a : Nat} {D E : z_Dat} (h : Fr a D E) (ha : SC a) : KA D E := ⟨fun r h1 h2 => h r (fun q => h1 (q ▸ ha)), fun j _ => by
  rw [h 40 (fun q => by subst q; unfold SC at ha; omega)], by rw [h 29 (fun q => by subst q; unfold SC at ha; omega)]⟩
theorem KA.row {D G : z_Dat} (h : KA D G) (r : Nat) (h1 : ¬ SC r) (h2 : r ≠ 40 ∧ r ≠ 29) : G r = D r := h.1 r h1 h2
theorem CRK {o ns pe rv : Nat} {D D' G : z_Dat} (hC : CR o ns pe rv D D') (h : KA D' G) : CR o ns pe rv D G :=
  hC.keep rfl rfl rfl rfl (h.2.1 19 (by unfold KK; omega)) (h.2.1 20 (by unfold KK; omega)) (h.2.1 21 (by unfold KK; omega)) (h.1 47 (by unfold SC; omega) (by decide)) (h.1 48 (by unfold SC; omega) (by decide))
theorem CRL {o ns pe rv : Nat} {D D' G : z_Dat} (ho : o = 34 ∨ 68 ≤ o) (hC : CR o ns pe rv D D') (h : KA D G) : CR o ns pe rv G D' :=
  hC.keep (h.1 _ (by unfold SC; omega) (by omega)) (h.1 _ (by unfold SC; omega) (by omega)) (h.1 _ (by unfold SC; omega) (by omega)) (h.1 _ (by unfold SC; omega) (by omega)) rfl rfl rfl rfl rfl
theorem LRK {D D' G : z_Dat} (hL : LR D D') (h : KA D' G) : LR D G := hL.keep rfl rfl (h.2.1 28 (by unfold KK; omega)) (h.1 51 (by unfold SC; omega) (by decide)) (h.1 52 (by unfold SC; omega) (by decide))
theorem LRL {D D' G : z_Dat} (hL : LR D D') (h : KA D G) : LR G D' := hL.keep (h.1 7 (by unfold SC; omega) (by decide)) (h.1 8 (by unfold SC; omega) (by decide)) rfl rfl rfl
def KB (D G : z_Dat) : Prop := (∀ r, ¬ SC r → r ≠ 40 ∧ r ≠ 29 → r ≠ 0 → r ≠ 41 → G r = D r) ∧ (∀ j, KK j → G 40 j = D 40 j) ∧ G 29 0 = D 29 0
theorem JB.keepM {o ns pe rv : Nat} {D G : z_Dat} (ho : o = 34 ∨ 68 ≤ o) (hJ : JB o ns pe rv D) (h : KB D G) (hM : MI G) : JB o ns pe rv G := by
  obtain ⟨hC, hT, hL, hB, hP, hI, hX, -⟩ := hJ
  have r1 := h.1 1 (by unfold SC; omega) (by decide) (by decide) (by decide)
  have r2 := h.1 2 (by unfold SC; omega) (by decide) (by decide) (by decide)
  have r4 := h.1 4 (by unfold SC; omega) (by decide) (by decide) (by decide)
  have r12 := h.1 12 (by unfold SC; omega) (by decide) (by decide) (by decide)
  have r13 := h.1 13 (by unfold SC; omega) (by decide) (by decide) (by decide)
  have r21 := h.1 21 (by unfold SC; omega) (by decide) (by decide) (by decide)
  have r22 := h.1 22 (by unfold SC; omega) (by decide) (by decide) (by decide)
  have r23 := h.1 23 (by unfold SC; omega) (by decide) (by decide) (by decide)
  have r24 := h.1 24 (by unfold SC; omega) (by decide) (by decide) (by decide)
  have r42 := h.1 42 (by unfold SC; omega) (by decide) (by decide) (by decide)
  have r57 := h.1 57 (by unfold SC; omega) (by decide) (by decide) (by decide)
  have r59 := h.1 59 (by unfold SC; omega) (by decide) (by decide) (by decide)
  have r61 := h.1 61 (by unfold SC; omega) (by decide) (by decide) (by decide)
  have r66 := h.1 66 (by unfold SC; omega) (by decide) (by decide) (by decide)
  have k2 := h.2.1 2 (by unfold KK; omega)
  have k8 := h.2.1 8 (by unfold KK; omega)
  have k33 := h.2.1 33 (by unfold KK; omega)
  have k43 := h.2.1 43 (by unfold KK; omega)
  have k54 := h.2.1 54 (by unfold KK; omega)
  have r7 := h.1 7 (by unfold SC; omega) (by decide) (by decide) (by decide)
  have r8 := h.1 8 (by unfold SC; omega) (by decide) (by decide) (by decide)
  have r47 := h.1 47 (by unfold SC; omega) (by decide) (by decide) (by decide)
  have r48 := h.1 48 (by unfold SC; omega) (by decide) (by decide) (by decide)
  have r51 := h.1 51 (by unfold SC; omega) (by decide) (by decide) (by decide)
  have r52 := h.1 52 (by unfold SC; omega) (by decide) (by decide) (by decide)
  refine ⟨hC.keep (h.1 _ (by unfold SC; omega) (by omega) (by omega) (by omega)) (h.1 _ (by unfold SC; omega) (by omega) (by omega) (by omega)) (h.1 _ (by unfold SC; omega) (by omega) (by omega) (by omega)) (h.1 _ (by unfold SC; omega) (by omega) (by omega) (by omega)) (h.2.1 19 (by unfold KK; omega)) (h.2.1 20 (by unfold KK; omega)) (h.2.1 21 (by unfold KK; omega)) r47 r48, by rw [r4, r57]; exact hT, hL.keep r7 r8 (h.2.1 28 (by unfold KK; omega)) r51 r52, ?_, ?_, ?_, ?_, hM⟩
  · unfold BR; rw [r13, r61, r12, k43, h.2.2]; exact hB
  · unfold PA; rw [r21, r22, r59, k33]; exact hP
  · unfold IM; rw [r21, r23, r24, r66, k54]; exact hI
  · unfold TX; rw [r1, r2, r42, k2, k8]; exact hX
theorem JB.keep {o ns pe rv : Nat} {D G : z_Dat} (ho : o = 34 ∨ 68 ≤ o) (hJ : JB o ns pe rv D) (h : KA D G) : JB o ns pe rv G :=
  hJ.keepM ho ⟨fun r a b _ _ => h.1 r a b, h.2⟩ (by
    obtain ⟨-, -, -, -, -, -, -, hM⟩ := hJ
    unfold MI
    rw [h.1 0 (by unfold SC; omega) (by decide), h.1 41 (by unfold SC; omega) (by decide), h.2.1 34 (by unfold KK; omega)]
    exact hM)
theorem J.ho {o n : Nat} {D : z_Dat} (h : J o n D) : o = 34 ∨ 68 ≤ o := by
  rcases h.1 with h | h <;> omega
theorem J.keep {o n : Nat} {D G : z_Dat} (hJ : J o n D) (h : KA D G) : J o n G := by
  obtain ⟨h1, ns, pe, rv, hB⟩ := id hJ
  exact ⟨h1, ns, pe, rv, hB.keep hJ.ho h⟩
/-- the answer of one call, as the law compares it -/
def TOP (FL : Option (Int32 × z_Dat)) (FM : z_Dat → Option (Int32 × z_Dat)) (Jn : z_Dat → Prop) : Prop := ∃ r1 : Int32, ∃ r2 : Int32, ∃ D1 : z_Dat, ∃ D2 : z_Dat, FL = some (r1, D1) ∧ FM D1 = some (r2, D2) ∧ F_X11_thrown D2 = r1 ∧ (r1 = 0 → lg_cmp (z_ldJ D2 67 0) (r2.toInt64) = 0) ∧ Jn D2
theorem lg_self (x : Int64) : lg_cmp x x = 0 := by
  unfold lg_cmp
  have h : ¬ x < x := Int64.lt_irrefl
  simp [h]
theorem ld_row {D E : z_Dat} (h : D 67 = E 67) : z_ldJ D 67 0 = z_ldJ E 67 0 := by
  unfold z_ldJ
  rw [h]
theorem z_upJ_same {D : z_Dat} {a i : Nat} {x : Int64} : z_ldJ (z_upJ D a i x) a i = x := by
  have h := congrFun (z_upJ_row (D := D) (a := a) (i := i) (x := x)) i
  unfold z_ldJ
  refine h.trans ?_
  unfold vp_updL
  simp
/-- a call that answers on both sides -/
theorem TOP_q {o n : Nat} {D : z_Dat} {X FL : Option (Int32 × z_Dat)} {FM : z_Dat → Option (Int32 × z_Dat)} (hJ : J o n D) (hFL : ∀ r E, X = some (r, E) → FL = some (0, z_upJ E 67 0 r.toInt64)) (hX : z_P X (fun a => KA D a.2))
    (hM : ∀ r E G, X = some (r, E) → KA D G → z_P (FM G) (fun c => c.1 = r ∧ c.2 40 0 = 0 ∧ c.2 67 = G 67 ∧ KA G c.2)) : TOP FL FM (J o n) := by
  obtain ⟨⟨r, E⟩, h1, h2⟩ := hX
  have hK : KA D (z_upJ E 67 0 r.toInt64) := KA.upJ h2
  obtain ⟨⟨r2, D2⟩, m1, m2, m3, m4, m5⟩ := hM r E _ h1 hK
  have m2 : r2 = r := m2
  subst m2
  exact ⟨0, r2, _, D2, hFL _ _ h1, m1, m3, fun _ => by
    rw [ld_row m4, z_upJ_same]
    exact lg_self _, hJ.keep (hK.tr m5)⟩
/-- a call that both sides refuse -/
theorem TOP_t {o n c k : Nat} {D : z_Dat} {FL : Option (Int32 × z_Dat)} {FM : z_Dat → Option (Int32 × z_Dat)} (hJ : J o n D) (hc : 1 ≤ c) (hc2 : c ≤ 2) (hk : k < 2) (hFL : FL = some (nn c, z_up D 0 (13 + k) (D 0 (13 + k) + nn 1)))
    (hFM : ∀ G : z_Dat, (∀ r, r ≠ 0 → G r = D r) → z_P (FM G) (fun x => x.2 = z_up (z_up (z_up G 40 0 (nn 0)) 40 0 (nn c)) 41 k (G 41 k + nn 1))) : TOP FL FM (J o n) := by
  obtain ⟨⟨x, E⟩, m1, m2⟩ := hFM (z_up D 0 (13 + k) (D 0 (13 + k) + nn 1)) (fun r hr => z_up_ne hr)
  have m2 : E = _ := m2
  subst m2
  refine ⟨nn c, x, _, _, hFL, m1, ?_, fun h => ?_, ?_⟩
  · unfold F_X11_thrown
    simp (disch := omega) only [z_up_r, z_up_at]
  · exact absurd (nn_inj (a := c) (b := 0) (by omega) (by omega) h) (by omega)
  · obtain ⟨h1, ns, pe, rv, hB⟩ := id hJ
    refine ⟨h1, ns, pe, rv, hB.keepM hJ.ho ⟨fun r a b c d => ?_, fun j hj => ?_, by rw [z_up_r (by decide), z_up_r (by decide), z_up_r (by decide), z_up_r (by decide)]⟩ ?_⟩
    · rw [z_up_ne d, z_up_ne b.1, z_up_ne b.1, z_up_ne c]
    · rw [z_up_r (by decide), z_up_i (by unfold KK at hj; omega), z_up_i (by unfold KK at hj; omega), z_up_r (by decide)]
    · obtain ⟨-, -, -, -, -, -, -, x1, x2, x3⟩ := hB
      have hk2 : k = 0 ∨ k = 1 := by omega
      rcases hk2 with rfl | rfl
      · refine ⟨?_, ?_, ?_⟩ <;> simp (disch := omega) only [z_up_r, z_up_at, z_up_i, x1, x2, x3, Nat.add_zero]
      · refine ⟨?_, ?_, ?_⟩ <;> simp (disch := omega) only [z_up_r, z_up_at, z_up_i, x1, x2, x3]
