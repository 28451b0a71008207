/-! ===== way, step ===== -/
def cd (t : Nat) : Int32 := match t with
  | 0 => -nn 1
  | k + 1 => nn k
theorem cd_dec : ∀ u, u < 1000000 → nn u + -nn 1 = cd u
  | 0, _ => by decide
  | u + 1, h => by
    show nn (u + 1) + -nn 1 = nn u
    simp (disch := omega) only [nn_addM]
    congr 1
def bst (T vt : Nat → Nat) (v : Nat) : Nat → Nat
  | 0 => 0
  | b + 1 => if dp v (vt b) ≤ v ∨ T (dp v (vt b)) = 0 then bst T vt v b else if bst T vt v b = 0 ∨ T (dp v (vt b)) + 1 < bst T vt v b then T (dp v (vt b)) + 1 else bst T vt v b
theorem bst_congr {T T' vt : Nat → Nat} {v : Nat} (h : ∀ d, v < d → T d = T' d) : ∀ b, bst T vt v b = bst T' vt v b
  | 0 => rfl
  | b + 1 => by
    have ih := bst_congr (vt := vt) h b
    unfold bst
    rw [ih]
    by_cases hd : dp v (vt b) ≤ v
    · rw [if_pos (Or.inl hd), if_pos (Or.inl hd)]
    · rw [h _ (by omega)]
def TW (ns a1 : Nat) (vt T : Nat → Nat) : Prop := T a1 = 1 ∧ (∀ v, a1 < v → T v = 0) ∧ ∀ v, v < a1 → T v = bst T vt v ns
theorem TW_ex (ns a1 : Nat) (vt : Nat → Nat) : ∃ T, TW ns a1 vt T := by
  have h : ∀ k, k ≤ a1 → ∃ T : Nat → Nat, T a1 = 1 ∧ (∀ v, a1 < v → T v = 0) ∧ ∀ v, v < a1 → a1 ≤ v + k → T v = bst T vt v ns := fun k => by
    induction k with
    | zero => exact fun _ => ⟨fun v => if v = a1 then 1 else 0, if_pos rfl, fun v hv => if_neg (by omega), fun v h1 h2 => by omega⟩
    | succ k ih =>
      intro hk
      obtain ⟨T, h1, h2, h3⟩ := ih (by omega)
      refine ⟨fun v => if v = a1 - 1 - k then bst T vt v ns else T v, ?_, fun v hv => ?_, fun v hv1 hv2 => ?_⟩
      · exact (if_neg (by omega)).trans h1
      · exact (if_neg (by omega)).trans (h2 v hv)
      · have e : bst (fun v => if v = a1 - 1 - k then bst T vt v ns else T v) vt v ns = bst T vt v ns := bst_congr (fun d hd => if_neg (by omega)) ns
        rw [e]
        by_cases hv : v = a1 - 1 - k
        · exact if_pos hv
        · exact (if_neg hv).trans (h3 v hv1 (by omega))
  obtain ⟨T, h1, h2, h3⟩ := h a1 (Nat.le_refl _)
  exact ⟨T, h1, h2, fun v hv => h3 v hv (by omega)⟩
theorem bst_le {T vt : Nat → Nat} {v : Nat} (hT : ∀ d, v < d → T d = 0 ∨ T d + d ≤ 1001) : ∀ b, bst T vt v b = 0 ∨ bst T vt v b + v ≤ 1001
  | 0 => Or.inl rfl
  | b + 1 => by
    have ih := bst_le (vt := vt) hT b
    unfold bst
    split
    · exact ih
    · rename_i h
      have h1 : v < dp v (vt b) ∧ T (dp v (vt b)) ≠ 0 := by omega
      have h2 := hT _ h1.1
      split
      · omega
      · exact ih
theorem TW_le {ns a1 : Nat} {vt T : Nat → Nat} (ha : a1 < 1000) (h : TW ns a1 vt T) : ∀ v, T v = 0 ∨ T v + v ≤ 1001 := by
  have key : ∀ k v, a1 ≤ v + k → T v = 0 ∨ T v + v ≤ 1001 := fun k => by
    induction k with
    | zero =>
      intro v hv
      by_cases e : v = a1
      · subst e; rw [h.1]; omega
      · exact Or.inl (h.2.1 v (by omega))
    | succ k ih =>
      intro v hv
      by_cases hk : a1 ≤ v + k
      · exact ih v hk
      · rw [h.2.2 v (by omega)]
        exact bst_le (fun d hd => ih d (by omega)) ns
  exact fun v => key a1 v (by omega)
theorem dp_ge {a b : Nat} (ha : a < 1000) : a ≤ dp a b := by
  unfold dp
  omega
theorem bst_min {T vt : Nat → Nat} {v b : Nat} (hd : v < dp v (vt b)) (h0 : T (dp v (vt b)) ≠ 0) : ∀ n, b < n → bst T vt v n ≠ 0 ∧ bst T vt v n ≤ T (dp v (vt b)) + 1
  | 0, h => by omega
  | n + 1, h => by
    by_cases e : b = n
    · subst e
      unfold bst
      rw [if_neg (by omega)]
      split <;> omega
    · have ih := bst_min hd h0 n (by omega)
      unfold bst
      split
      · exact ih
      · split <;> omega
theorem bst_by {T vt : Nat → Nat} {v : Nat} : ∀ n, bst T vt v n ≠ 0 → ∃ b, b < n ∧ v < dp v (vt b) ∧ T (dp v (vt b)) ≠ 0 ∧ bst T vt v n = T (dp v (vt b)) + 1
  | 0, h => absurd rfl h
  | n + 1, h => by
    have ih := bst_by (T := T) (vt := vt) (v := v) n
    have go : bst T vt v n ≠ 0 → ∃ b, b < n + 1 ∧ v < dp v (vt b) ∧ T (dp v (vt b)) ≠ 0 ∧ bst T vt v n = T (dp v (vt b)) + 1 := fun h => by
      obtain ⟨b, h1, h2⟩ := ih h
      exact ⟨b, by omega, h2⟩
    unfold bst at h ⊢
    by_cases c1 : dp v (vt n) ≤ v ∨ T (dp v (vt n)) = 0
    · rw [if_pos c1] at h ⊢
      exact go h
    · rw [if_neg c1] at h ⊢
      by_cases c2 : bst T vt v n = 0 ∨ T (dp v (vt n)) + 1 < bst T vt v n
      · rw [if_pos c2]
        exact ⟨n, by omega, by omega, by omega, rfl⟩
      · rw [if_neg c2] at h ⊢
        exact go h
/-- nothing to better -/
theorem TW_fx {ns a1 b u : Nat} {vt T : Nat → Nat} (h : TW ns a1 vt T) (hu : u < 1000) (hb : b < ns) (h0 : T (dp u (vt b)) ≠ 0) : T u ≠ 0 ∧ T u ≤ T (dp u (vt b)) + 1 := by
  have hge := dp_ge (b := vt b) hu
  by_cases e : dp u (vt b) = u
  · rw [e] at h0 ⊢
    omega
  · by_cases hu1 : u < a1
    · rw [h.2.2 u hu1]
      exact bst_min (by omega) h0 ns hb
    · exact absurd (h.2.1 _ (by omega)) h0
set_option maxHeartbeats 4000000 in
theorem dipsVia_e {N o ns u a1 : Nat} {vt T : Nat → Nat} {E : z_Dat} (hN : 200 < N) (hns : ns ≤ 6) (ha1 : a1 < 1000) (hu : u < a1) (hT : TW ns a1 vt T) (c5 : E o 5 = nn ns) (hv : ∀ b, b < ns → vt b < 1000 ∧ E (o + 1) b = nn (vt b)) (hE : ∀ v, u < v → v ≤ a1 → E 26 v = cd (T v)) :
    F_X6_dipsVia N o (nn u) (nn a1) E = some (cd (bst T vt u ns)) := by
  have h : z_P (F_X6_dipsVia N o (nn u) (nn a1) E) (fun a => a = cd (bst T vt u ns)) := by
    unfold F_X6_dipsVia
    refine z_P_loop (fun k s => ∃ b, b + k = ns ∧ s.1 = cd (bst T vt u b) ∧ s.2 = nn b) ?_ ns N _ (by omega) ⟨0, by omega, rfl, rfl⟩
    rintro k ⟨v1, v2⟩ kc ⟨b, hk, rfl, rfl⟩ ih
    dsimp only
    by_cases hb : b < ns
    · obtain ⟨h1, h2⟩ := hv b hb
      have ed : F_X10_deeper (nn u) (nn (vt b)) = nn (dp u (vt b)) := deeper_10 (by omega) h1
      have hd := dp_lt (a := u) (b := vt b)
      have hq := bst_le (vt := vt) (v := u) (fun d _ => TW_le ha1 hT d) b
      have hqd := TW_le ha1 hT (dp u (vt b))
      have nx : ∀ x : Int32, x = cd (bst T vt u (b + 1)) → z_P (kc (x, nn (b + 1))) (fun a => a = cd (bst T vt u ns)) := fun x hx => ih (k - 1) _ (by omega) ⟨b + 1, by omega, hx, rfl⟩
      have eb : bst T vt u (b + 1) = if dp u (vt b) ≤ u ∨ T (dp u (vt b)) = 0 then bst T vt u b else if bst T vt u b = 0 ∨ T (dp u (vt b)) + 1 < bst T vt u b then T (dp u (vt b)) + 1 else bst T vt u b := rfl
      by_cases l1 : dp u (vt b) ≤ u
      · simp (disch := omega) only [F_X6_dipsVia_L6, F_X1_vatOf, c5, h2, ed, ↓reduceIte, ↓z_letE, ↓z_bdE, nn_l2, nn_add, nn_mul, nn_sub, nn_addM, nn_div, nn_rem, nn_min, nn_max, nn_abs, nn_ltT, nn_ltF, nn_leT, nn_leF, nn_eqT, nn_eqF, nn_eqM, nn_Meq, nn_ltM, nn_Mlt, nn_leM, nn_Mle, z_ix_nn, z_inb_nn, F_at_nn, F_put_nn, Nat.zero_add, Nat.add_zero, z_P_some, z_R_some, z_P_bd]
        exact nx _ (by rw [eb, if_pos (Or.inl l1)])
      · by_cases l2 : a1 < dp u (vt b)
        · simp (disch := omega) only [F_X6_dipsVia_L6, F_X1_vatOf, c5, h2, ed, ↓reduceIte, ↓z_letE, ↓z_bdE, nn_l2, nn_add, nn_mul, nn_sub, nn_addM, nn_div, nn_rem, nn_min, nn_max, nn_abs, nn_ltT, nn_ltF, nn_leT, nn_leF, nn_eqT, nn_eqF, nn_eqM, nn_Meq, nn_ltM, nn_Mlt, nn_leM, nn_Mle, z_ix_nn, z_inb_nn, F_at_nn, F_put_nn, Nat.zero_add, Nat.add_zero, z_P_some, z_R_some, z_P_bd]
          exact nx _ (by rw [eb, if_pos (Or.inr (hT.2.1 _ l2))])
        · have e26 := hE _ (Nat.lt_of_not_le l1) (Nat.le_of_not_lt l2)
          cases ht : T (dp u (vt b)) with
          | zero =>
            rw [ht] at e26
            have e26 : E 26 (dp u (vt b)) = -nn 1 := e26
            simp (disch := omega) only [F_X6_dipsVia_L6, F_X1_vatOf, c5, h2, ed, e26, ↓reduceIte, ↓z_letE, ↓z_bdE, nn_l2, nn_add, nn_mul, nn_sub, nn_addM, nn_div, nn_rem, nn_min, nn_max, nn_abs, nn_ltT, nn_ltF, nn_leT, nn_leF, nn_eqT, nn_eqF, nn_eqM, nn_Meq, nn_ltM, nn_Mlt, nn_leM, nn_Mle, z_ix_nn, z_inb_nn, F_at_nn, F_put_nn, Nat.zero_add, Nat.add_zero, z_P_some, z_R_some, z_P_bd]
            exact nx _ (by rw [eb, if_pos (Or.inr ht)])
          | succ t =>
            rw [ht] at e26 hqd eb
            have e26 : E 26 (dp u (vt b)) = nn t := e26
            rw [if_neg (show ¬ (dp u (vt b) ≤ u ∨ t + 1 = 0) from by omega)] at eb
            cases hw : bst T vt u b with
            | zero =>
              rw [hw] at eb
              have ec : cd 0 = -nn 1 := rfl
              simp (disch := omega) only [F_X6_dipsVia_L6, F_X1_vatOf, c5, h2, ed, e26, ec, ↓reduceIte, ↓z_letE, ↓z_bdE, nn_l2, nn_add, nn_mul, nn_sub, nn_addM, nn_div, nn_rem, nn_min, nn_max, nn_abs, nn_ltT, nn_ltF, nn_leT, nn_leF, nn_eqT, nn_eqF, nn_eqM, nn_Meq, nn_ltM, nn_Mlt, nn_leM, nn_Mle, z_ix_nn, z_inb_nn, F_at_nn, F_put_nn, Nat.zero_add, Nat.add_zero, z_P_some, z_R_some, z_P_bd]
              exact nx _ (by rw [eb, if_pos (Or.inl rfl)]; rfl)
            | succ w =>
              rw [hw] at eb hq
              have ec : cd (w + 1) = nn w := rfl
              by_cases l3 : w ≤ t + 1
              · simp (disch := omega) only [F_X6_dipsVia_L6, F_X1_vatOf, c5, h2, ed, e26, ec, ↓reduceIte, ↓z_letE, ↓z_bdE, nn_l2, nn_add, nn_mul, nn_sub, nn_addM, nn_div, nn_rem, nn_min, nn_max, nn_abs, nn_ltT, nn_ltF, nn_leT, nn_leF, nn_eqT, nn_eqF, nn_eqM, nn_Meq, nn_ltM, nn_Mlt, nn_leM, nn_Mle, z_ix_nn, z_inb_nn, F_at_nn, F_put_nn, Nat.zero_add, Nat.add_zero, z_P_some, z_R_some, z_P_bd]
                exact nx _ (by rw [eb, if_neg (by omega)]; rfl)
              · simp (disch := omega) only [F_X6_dipsVia_L6, F_X1_vatOf, c5, h2, ed, e26, ec, ↓reduceIte, ↓z_letE, ↓z_bdE, nn_l2, nn_add, nn_mul, nn_sub, nn_addM, nn_div, nn_rem, nn_min, nn_max, nn_abs, nn_ltT, nn_ltF, nn_leT, nn_leF, nn_eqT, nn_eqF, nn_eqM, nn_Meq, nn_ltM, nn_Mlt, nn_leM, nn_Mle, z_ix_nn, z_inb_nn, F_at_nn, F_put_nn, Nat.zero_add, Nat.add_zero, z_P_some, z_R_some, z_P_bd]
                exact nx _ (by rw [eb, if_pos (by omega)]; rfl)
    · have e : b = ns := by omega
      subst e
      simp (disch := omega) only [F_X6_dipsVia_L6, c5, ↓reduceIte, ↓z_letE, ↓z_bdE, nn_l2, nn_add, nn_mul, nn_sub, nn_addM, nn_div, nn_rem, nn_min, nn_max, nn_abs, nn_ltT, nn_ltF, nn_leT, nn_leF, nn_eqT, nn_eqF, nn_eqM, nn_Meq, nn_ltM, nn_Mlt, nn_leM, nn_Mle, z_ix_nn, z_inb_nn, F_at_nn, F_put_nn, Nat.zero_add, Nat.add_zero, z_P_some, z_R_some, z_P_bd]
  obtain ⟨a, h1, rfl⟩ := h
  exact h1
set_option maxHeartbeats 4000000 in
theorem fewest_P {N o ns a0 a1 : Nat} {vt T : Nat → Nat} {D : z_Dat} (hN : 2000 < N) (ho : o = 34 ∨ 68 ≤ o) (hns : ns ≤ 6) (ha0 : a0 < 1000) (ha1 : a1 < 1000) (hT : TW ns a1 vt T) (c5 : D o 5 = nn ns) (hv : ∀ b, b < ns → vt b < 1000 ∧ D (o + 1) b = nn (vt b)) :
    z_P (F_X6_fewestDips N o (nn a0) (nn a1) D) (fun a => Fr 26 D a.2 ∧ a.1 = cd (T a0) ∧ ∀ v, a0 ≤ v → v ≤ a1 → a.2 26 v = cd (T v)) := by
  unfold F_X6_fewestDips
  refine z_P_loop (fun k s => k ≤ a1 + 1 ∧ s.1 = cd k ∧ Fr 26 D s.2 ∧ (∀ v, a0 ≤ v → k ≤ v → v ≤ a1 → s.2 26 v = cd (T v))) ?_ (a1 + 1) N _ (by omega) ⟨Nat.le_refl _, rfl, Fr.rf, fun v _ h1 h2 => by omega⟩
  rintro k ⟨v1, E⟩ kc ⟨hk, rfl, hF, hE⟩ ih
  dsimp only at hF hE ⊢
  have e5 : E o 5 = nn ns := by rw [hF o (by omega)]; exact c5
  have ev : ∀ b, b < ns → vt b < 1000 ∧ E (o + 1) b = nn (vt b) := fun b hb => by rw [hF _ (by omega)]; exact hv b hb
  have ex : k ≤ a0 → z_P (if nn a0 ≤ nn a1 then (some (F_X10_at 26 1000 (nn a0) E, E)) else (some (-nn 1, E))) (fun a => Fr 26 D a.2 ∧ a.1 = cd (T a0) ∧ ∀ v, a0 ≤ v → v ≤ a1 → a.2 26 v = cd (T v)) := fun hka => by
    by_cases hle : a0 ≤ a1
    · simp (disch := omega) only [↓reduceIte, ↓z_letE, ↓z_bdE, nn_l2, nn_add, nn_mul, nn_sub, nn_addM, nn_div, nn_rem, nn_min, nn_max, nn_abs, nn_ltT, nn_ltF, nn_leT, nn_leF, nn_eqT, nn_eqF, nn_eqM, nn_Meq, nn_ltM, nn_Mlt, nn_leM, nn_Mle, z_ix_nn, z_inb_nn, F_at_nn, F_put_nn, Nat.zero_add, Nat.add_zero, z_P_some, z_R_some, z_P_bd]
      exact ⟨hF, hE a0 (Nat.le_refl _) hka hle, fun v h1 h2 => hE v h1 (by omega) h2⟩
    · simp (disch := omega) only [↓reduceIte, ↓z_letE, ↓z_bdE, nn_l2, nn_add, nn_mul, nn_sub, nn_addM, nn_div, nn_rem, nn_min, nn_max, nn_abs, nn_ltT, nn_ltF, nn_leT, nn_leF, nn_eqT, nn_eqF, nn_eqM, nn_Meq, nn_ltM, nn_Mlt, nn_leM, nn_Mle, z_ix_nn, z_inb_nn, F_at_nn, F_put_nn, Nat.zero_add, Nat.add_zero, z_P_some, z_R_some, z_P_bd]
      exact ⟨hF, by rw [hT.2.1 a0 (by omega)]; rfl, fun v h1 h2 => by omega⟩
  cases k with
  | zero =>
    have ec : cd 0 = -nn 1 := rfl
    have h0 : (-nn 1 : Int32) < nn a0 := by simp (disch := omega) only [↓reduceIte, ↓z_letE, ↓z_bdE, nn_l2, nn_add, nn_mul, nn_sub, nn_addM, nn_div, nn_rem, nn_min, nn_max, nn_abs, nn_ltT, nn_ltF, nn_leT, nn_leF, nn_eqT, nn_eqF, nn_eqM, nn_Meq, nn_ltM, nn_Mlt, nn_leM, nn_Mle, z_ix_nn, z_inb_nn, F_at_nn, F_put_nn, Nat.zero_add, Nat.add_zero, z_P_some, z_R_some, z_P_bd]
    unfold F_X6_fewestDips_L3
    rw [ec, if_pos h0]
    exact ex (by omega)
  | succ u =>
    have ec : cd (u + 1) = nn u := rfl
    have dc := cd_dec u (by omega)
    by_cases hu : u < a0
    · unfold F_X6_fewestDips_L3
      rw [ec, if_pos (by simp (disch := omega) only [↓reduceIte, ↓z_letE, ↓z_bdE, nn_l2, nn_add, nn_mul, nn_sub, nn_addM, nn_div, nn_rem, nn_min, nn_max, nn_abs, nn_ltT, nn_ltF, nn_leT, nn_leF, nn_eqT, nn_eqF, nn_eqM, nn_Meq, nn_ltM, nn_Mlt, nn_leM, nn_Mle, z_ix_nn, z_inb_nn, F_at_nn, F_put_nn, Nat.zero_add, Nat.add_zero, z_P_some, z_R_some, z_P_bd])]
      exact ex (by omega)
    · by_cases hua : u = a1
      · subst hua
        simp (disch := omega) only [F_X6_fewestDips_L3, ec, dc, ↓reduceIte, ↓z_letE, ↓z_bdE, nn_l2, nn_add, nn_mul, nn_sub, nn_addM, nn_div, nn_rem, nn_min, nn_max, nn_abs, nn_ltT, nn_ltF, nn_leT, nn_leF, nn_eqT, nn_eqF, nn_eqM, nn_Meq, nn_ltM, nn_Mlt, nn_leM, nn_Mle, z_ix_nn, z_inb_nn, F_at_nn, F_put_nn, Nat.zero_add, Nat.add_zero, z_P_some, z_R_some, z_P_bd]
        refine ih u _ (by omega) ⟨by omega, rfl, Fr.up hF, fun v h1 h2 h3 => ?_⟩
        have e : v = u := by omega
        subst e
        rw [hT.1]
        exact z_up_at rfl rfl
      · have e := dipsVia_e (N := N) (E := E) (u := u) (by omega) hns ha1 (by omega) hT e5 ev (fun v h1 h2 => hE v (by omega) (by omega) h2)
        rw [← hT.2.2 u (by omega)] at e
        simp (disch := omega) only [F_X6_fewestDips_L3, ec, dc, e, ↓reduceIte, ↓z_letE, ↓z_bdE, nn_l2, nn_add, nn_mul, nn_sub, nn_addM, nn_div, nn_rem, nn_min, nn_max, nn_abs, nn_ltT, nn_ltF, nn_leT, nn_leF, nn_eqT, nn_eqF, nn_eqM, nn_Meq, nn_ltM, nn_Mlt, nn_leM, nn_Mle, z_ix_nn, z_inb_nn, F_at_nn, F_put_nn, Nat.zero_add, Nat.add_zero, z_P_some, z_R_some, z_P_bd]
        refine ih u (_, _) (by omega) ⟨by omega, rfl, Fr.up hF, fun v h1 h2 h3 => ?_⟩
        dsimp only
        by_cases e : v = u
        · subst e
          exact z_up_at rfl rfl
        · rw [z_up_i e]
          exact hE v h1 (by omega) h3
