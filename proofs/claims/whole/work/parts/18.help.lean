/-! ===== the law's helpers that catch (by program) ===== -/
theorem kx_IAE : Cond.castable "java/lang/IllegalArgumentException" "java/lang/IllegalArgumentException" ∈ z_nw := List.mem_filter.mpr ⟨z_sub_t2 201 rfl, rfl⟩
theorem kx_NSE : Cond.castable "java/util/NoSuchElementException" "java/util/NoSuchElementException" ∈ z_nw := List.mem_filter.mpr ⟨z_sub_t4 196 rfl, rfl⟩
theorem kx_L13 : Cond.classLink RL 13 "java/lang/IllegalArgumentException" ∈ z_gw := List.mem_filter.mpr ⟨z_sub_t2 186 rfl, rfl⟩
theorem kx_L31 : Cond.classLink RL 31 "java/util/NoSuchElementException" ∈ z_gw := List.mem_filter.mpr ⟨z_sub_t4 181 rfl, rfl⟩
def z_try {α β : Type} (F' : Option (α ⊕ (String × z_Dat))) (g : α → Option β) (h : String × z_Dat → Option β) : Option β := match F' with
  | none => none
  | some (.inl a) => g a
  | some (.inr a) => h a
section ZH
variable {l : Launch} {M M' : z_M} {B B' : z_B} {cu su pc : Nat} {lv : List (Option Value)} {st As rest : List Value} {S : List z_Shp} {D : z_Dat} {γ β : Type} {κ : γ → z_Out → Prop} {f : γ}
theorem z_methH {f : Option (Int32 × z_Dat)} {h1 : Nat × Nat × Nat × Nat} {h2 : List (Nat × Nat × Nat × Nat)} (hl : l.stackTraces = false) (hh : M.2.2.2.2 = h1 :: h2) (hp : plainName M.1.cls = true) (hlen : (z_fl As).length ≤ M.2.2.1) (hlv : z_args M.2.2.1 As = lv) (hF : z_F l M B 0 0 0 lv [] S D (z_ko (z_kI S)) f) : ∀ out, z_ko (z_kI S) f out → z_EM l M B As S D out :=
  fun out ho => z_enterH hl hh hp (hF out ho).1 hlen hlv (by obtain ⟨a, -, rfl⟩ := ho; exact ⟨_, rfl⟩) (hF out ho).2
theorem z_lastF {k n : Nat} {rs : List (Option (Option Nat))} {i : Int32} {x : Int64} (hdg : decode M.2.1 pc = .ok (.lastore, 1)) (hk : S[k]? = some (1, n, rs)) (hi : vp_in i n) (kk : z_F l M B cu su (pc + 1) lv st S (z_upJ D k i.toNatClampNeg x) κ f) : z_F l M B cu su pc lv (.long x :: .int i :: .ref k :: st) S D κ f := fun out ho => ⟨(kk out ho).1, z_lastE hdg hk hi (kk out ho).2⟩
theorem z_laldF {k n : Nat} {rs : List (Option (Option Nat))} {i : Int32} (hdg : decode M.2.1 pc = .ok (.laload, 1)) (hk : S[k]? = some (1, n, rs)) (hi : vp_in i n) (kk : z_F l M B cu su (pc + 1) lv (.long (z_ldJ D k i.toNatClampNeg) :: st) S D κ f) : z_F l M B cu su pc lv (.int i :: .ref k :: st) S D κ f := fun out ho => ⟨(kk out ho).1, z_laldE hdg hk hi (kk out ho).2⟩
theorem z_none {κ : β → z_Out} : z_F l M B cu su pc lv st S D (z_ko κ) none := fun out ho => by
  obtain ⟨a, h, -⟩ := ho
  cases h
theorem z_catch {κ : β → z_Out} {f : Option β} {S2 : List z_Shp} {D2 : z_Dat} {E e : String} (he : e = E) {a b h ct i n : Nat} (pre suf : List (Nat × Nat × Nat × Nat))
    (hr : z_Runs l M B M' B' cu su pc As rest S D (.inr e, S2, D2)) (hh : M.2.2.2.2 = pre ++ (a, b, h, ct) :: suf) (hpre : ∀ z ∈ pre, z.2.2.2 ≠ 0 ∧ E = "java/lang/IllegalArgumentException" ∧ Cond.classLink M.1.cls z.2.2.2 "java/util/NoSuchElementException" ∈ z_gw)
    (hcov : covers ⟨a, b, h, ct⟩ pc = true) (h0 : ct ≠ 0) (hlink : Cond.classLink M.1.cls ct E ∈ z_gw) (hcast : Cond.castable E E ∈ z_nw)
    (hst : (∃ j : Fin 4, decode M.2.1 h = .ok (.astore_n j, 1) ∧ (j : Nat) = i ∧ n = 1) ∨ (decode M.2.1 h = .ok (.astore i, 2) ∧ n = 2)) (hi : i < M.2.2.1) (h1 : S.length ≤ S2.length) (h2 : z_gr S2 (z_ko κ))
    (kk : z_F l M B (cu + B'.2.2.1) (su + B'.2.2.2) (h + n) (List.replicate M.2.2.1 none) [] S2 D2 (z_ko κ) f) : z_F l M B cu su pc lv (As.reverse ++ rest) S D (z_ko κ) f := fun out ho => ⟨(kk out ho).1, by
  subst he
  exact z_callC (o' := (.inr e, S2, D2)) hh hpre hcov h0 hlink hcast hst hi hr rfl h1 (h2 _ _ ho) (kk out ho).2⟩
theorem z_cCI {κ : β → z_Out} {F' : Option ((Int32 × z_Dat) ⊕ (String × z_Dat))} {g : Int32 × z_Dat → Option β} {h : String × z_Dat → Option β} (hM : ∀ out, z_ko (z_kTI S) F' out → z_EM l M' B' As S D out) (hr : ∀ o', z_EM l M' B' As S D o' → z_Runs l M B M' B' cu su pc As rest S D o') (hg : z_gr S (z_ko κ))
    (kk : ∀ a : Int32 × z_Dat, z_F l M B (cu + B'.2.2.1) (su + B'.2.2.2) (pc + 3) lv (.int a.1 :: rest) S a.2 (z_ko κ) (g a)) (kx : ∀ a : String × z_Dat, z_Runs l M B M' B' cu su pc As rest S D (.inr a.1, S, a.2) → z_F l M B cu su pc lv (As.reverse ++ rest) S D (z_ko κ) (h a)) : z_F l M B cu su pc lv (As.reverse ++ rest) S D (z_ko κ) (z_try F' g h) := by
  intro out ho
  cases hF : F' with
  | none =>
    rw [hF] at ho
    obtain ⟨a, h1, -⟩ := ho
    cases h1
  | some a =>
    have hm := hM _ ⟨a, hF, rfl⟩
    rw [hF] at ho
    cases a with
    | inl a =>
      have k := kk a out ho
      exact ⟨k.1, z_call0 (hr _ hm) rfl (fun _ => rfl) rfl (hg _ _ ho) k.2⟩
    | inr a => exact kx a (hr _ hm) out ho
theorem z_cCJ {κ : β → z_Out} {F' : Option ((Int64 × z_Dat) ⊕ (String × z_Dat))} {g : Int64 × z_Dat → Option β} {h : String × z_Dat → Option β} (hM : ∀ out, z_ko (z_kTJ S) F' out → z_EM l M' B' As S D out) (hr : ∀ o', z_EM l M' B' As S D o' → z_Runs l M B M' B' cu su pc As rest S D o') (hg : z_gr S (z_ko κ))
    (kk : ∀ a : Int64 × z_Dat, z_F l M B (cu + B'.2.2.1) (su + B'.2.2.2) (pc + 3) lv (.long a.1 :: rest) S a.2 (z_ko κ) (g a)) (kx : ∀ a : String × z_Dat, z_Runs l M B M' B' cu su pc As rest S D (.inr a.1, S, a.2) → z_F l M B cu su pc lv (As.reverse ++ rest) S D (z_ko κ) (h a)) : z_F l M B cu su pc lv (As.reverse ++ rest) S D (z_ko κ) (z_try F' g h) := by
  intro out ho
  cases hF : F' with
  | none =>
    rw [hF] at ho
    obtain ⟨a, h1, -⟩ := ho
    cases h1
  | some a =>
    have hm := hM _ ⟨a, hF, rfl⟩
    rw [hF] at ho
    cases a with
    | inl a =>
      have k := kk a out ho
      exact ⟨k.1, z_call0 (hr _ hm) rfl (fun _ => rfl) rfl (hg _ _ ho) k.2⟩
    | inr a => exact kx a (hr _ hm) out ho
end ZH

def F_L_law (N : Nat) (a0 : Int32) (D : z_Dat) : Option (Int32 × z_Dat) :=
  z_try (F_X10_law N a0 D) (fun a => some (0, z_upJ a.2 67 0 a.1.toInt64)) (fun e => if e.1 = "java/lang/IllegalArgumentException" then (some (1, e.2)) else (none))
set_option maxRecDepth 100000 in
set_option maxHeartbeats 4000000 in
theorem em_L_law {l : Launch} {S : List z_Shp} {o : Nat} (hl : l.stackTraces = false) (hW : z_W S o) (hO : S[67]? = some (1, 1, [])) (N : Nat) (a0 : Int32) (D : z_Dat) : ∀ out, z_ko (z_kI S) (F_L_law N a0 D) out → z_EM l M_L_law (1380, 20080, 1, 6) [.ref 0, .int a0, .ref 67] S D out := by
  have hs0 : S[0]? = some (12, 15, [some (some 1), some (some 3), some (some 5), some (some 7), some (some 12), some (some 15), some (some 21), some (some 25), some (some 28), some (some 32), some (some 33), some (some o), none, none, none]) := hW.1 0 _ rfl
  refine z_methH hl rfl kp_L (Nat.le_of_ble_eq_true rfl) (lv := [some (.ref 0), some (.int a0), some (.ref 67), none]) rfl ?_
  unfold F_L_law
  refine z_aload_n (i := 2) (x := 67) dL_law_0 rfl rfl ?_
  refine z_iconst (v := 0) dL_law_1 rfl ?_
  refine z_aload_n (i := 0) (x := 0) dL_law_2 rfl rfl ?_
  refine z_iload_n (i := 1) (x := a0) dL_law_3 rfl rfl ?_
  refine z_cCI (As := [.ref 0, .int a0]) (rest := [.int 0, .ref 67]) (em_X10_law hl hW N a0 D) (fun o7 h => z_runV 15 1 h rfl kk_L_15 hs0 kl_10.1 kq_X10_law rfl (Nat.le_of_ble_eq_true rfl) ⟨Nat.le_of_ble_eq_true rfl, Nat.le_of_ble_eq_true rfl, Nat.le_of_ble_eq_true rfl, Nat.le_of_ble_eq_true rfl⟩ dL_law_4) z_gWI (fun a => ?_) (fun e hr => ?_)
  · refine z_i2l dL_law_7 ?_
    refine z_lastF (k := 67) dL_law_8 hO (vp_in_iff.mpr (by decide)) ?_
    refine z_goto 15 dL_law_9 (by decide) ?_
    refine z_iconst (v := 0) dL_law_15 rfl ?_
    exact z_ireturn dL_law_16 z_rWI rfl (by simp) (by simp)
  · refine z_ite (fun c => ?_) (fun c => ?_)
    · refine z_catch (i := 3) (n := 1) c [] [] hr rfl (fun z hz => absurd hz List.not_mem_nil) (by decide) (by decide) kx_L13 kx_IAE (Or.inl ⟨_, dL_law_12, rfl, rfl⟩) (by decide) (Nat.le_refl _) z_gWI ?_
      refine z_iconst (v := 1) dL_law_13 rfl ?_
      exact z_ireturn dL_law_14 z_rWI rfl (by simp) (by simp)
    · exact z_none

def F_L_work (N : Nat) (o : Nat) (a0 : Int32) (D : z_Dat) : Option (Int32 × z_Dat) :=
  z_try (F_X10_work N o a0 D) (fun a => some (0, z_upJ a.2 67 0 a.1.toInt64)) (fun e => if e.1 = "java/lang/IllegalArgumentException" then (some (1, e.2)) else (none))
set_option maxRecDepth 100000 in
set_option maxHeartbeats 4000000 in
theorem em_L_work {l : Launch} {S : List z_Shp} {o : Nat} (hl : l.stackTraces = false) (hW : z_W S o) (hO : S[67]? = some (1, 1, [])) (N : Nat) (a0 : Int32) (D : z_Dat) : ∀ out, z_ko (z_kI S) (F_L_work N o a0 D) out → z_EM l M_L_work (100, 1000, 1, 6) [.ref 0, .int a0, .ref 67] S D out := by
  have hs0 : S[0]? = some (12, 15, [some (some 1), some (some 3), some (some 5), some (some 7), some (some 12), some (some 15), some (some 21), some (some 25), some (some 28), some (some 32), some (some 33), some (some o), none, none, none]) := hW.1 0 _ rfl
  refine z_methH hl rfl kp_L (Nat.le_of_ble_eq_true rfl) (lv := [some (.ref 0), some (.int a0), some (.ref 67), none]) rfl ?_
  unfold F_L_work
  refine z_aload_n (i := 2) (x := 67) dL_work_0 rfl rfl ?_
  refine z_iconst (v := 0) dL_work_1 rfl ?_
  refine z_aload_n (i := 0) (x := 0) dL_work_2 rfl rfl ?_
  refine z_iload_n (i := 1) (x := a0) dL_work_3 rfl rfl ?_
  refine z_cCI (As := [.ref 0, .int a0]) (rest := [.int 0, .ref 67]) (em_X10_work hl hW N a0 D) (fun o7 h => z_runV 18 1 h rfl kk_L_18 hs0 kl_10.1 kq_X10_work rfl (Nat.le_of_ble_eq_true rfl) ⟨Nat.le_of_ble_eq_true rfl, Nat.le_of_ble_eq_true rfl, Nat.le_of_ble_eq_true rfl, Nat.le_of_ble_eq_true rfl⟩ dL_work_4) z_gWI (fun a => ?_) (fun e hr => ?_)
  · refine z_i2l dL_work_7 ?_
    refine z_lastF (k := 67) dL_work_8 hO (vp_in_iff.mpr (by decide)) ?_
    refine z_goto 15 dL_work_9 (by decide) ?_
    refine z_iconst (v := 0) dL_work_15 rfl ?_
    exact z_ireturn dL_work_16 z_rWI rfl (by simp) (by simp)
  · refine z_ite (fun c => ?_) (fun c => ?_)
    · refine z_catch (i := 3) (n := 1) c [] [] hr rfl (fun z hz => absurd hz List.not_mem_nil) (by decide) (by decide) kx_L13 kx_IAE (Or.inl ⟨_, dL_work_12, rfl, rfl⟩) (by decide) (Nat.le_refl _) z_gWI ?_
      refine z_iconst (v := 1) dL_work_13 rfl ?_
      exact z_ireturn dL_work_14 z_rWI rfl (by simp) (by simp)
    · exact z_none

def F_L_book (N : Nat) (a0 : Int32) (D : z_Dat) : Option (Int32 × z_Dat) :=
  z_try (F_X10_book N a0 D) (fun a => some (0, z_upJ a.2 67 0 a.1.toInt64)) (fun e => if e.1 = "java/lang/IllegalArgumentException" then (some (1, e.2)) else (none))
set_option maxRecDepth 100000 in
set_option maxHeartbeats 4000000 in
theorem em_L_book {l : Launch} {S : List z_Shp} {o : Nat} (hl : l.stackTraces = false) (hW : z_W S o) (hO : S[67]? = some (1, 1, [])) (N : Nat) (a0 : Int32) (D : z_Dat) : ∀ out, z_ko (z_kI S) (F_L_book N a0 D) out → z_EM l M_L_book (70, 760, 1, 6) [.ref 0, .int a0, .ref 67] S D out := by
  have hs0 : S[0]? = some (12, 15, [some (some 1), some (some 3), some (some 5), some (some 7), some (some 12), some (some 15), some (some 21), some (some 25), some (some 28), some (some 32), some (some 33), some (some o), none, none, none]) := hW.1 0 _ rfl
  refine z_methH hl rfl kp_L (Nat.le_of_ble_eq_true rfl) (lv := [some (.ref 0), some (.int a0), some (.ref 67), none]) rfl ?_
  unfold F_L_book
  refine z_aload_n (i := 2) (x := 67) dL_book_0 rfl rfl ?_
  refine z_iconst (v := 0) dL_book_1 rfl ?_
  refine z_aload_n (i := 0) (x := 0) dL_book_2 rfl rfl ?_
  refine z_iload_n (i := 1) (x := a0) dL_book_3 rfl rfl ?_
  refine z_cCI (As := [.ref 0, .int a0]) (rest := [.int 0, .ref 67]) (em_X10_book hl hW N a0 D) (fun o7 h => z_runV 21 1 h rfl kk_L_21 hs0 kl_10.1 kq_X10_book rfl (Nat.le_of_ble_eq_true rfl) ⟨Nat.le_of_ble_eq_true rfl, Nat.le_of_ble_eq_true rfl, Nat.le_of_ble_eq_true rfl, Nat.le_of_ble_eq_true rfl⟩ dL_book_4) z_gWI (fun a => ?_) (fun e hr => ?_)
  · refine z_i2l dL_book_7 ?_
    refine z_lastF (k := 67) dL_book_8 hO (vp_in_iff.mpr (by decide)) ?_
    refine z_goto 15 dL_book_9 (by decide) ?_
    refine z_iconst (v := 0) dL_book_15 rfl ?_
    exact z_ireturn dL_book_16 z_rWI rfl (by simp) (by simp)
  · refine z_ite (fun c => ?_) (fun c => ?_)
    · refine z_catch (i := 3) (n := 1) c [] [] hr rfl (fun z hz => absurd hz List.not_mem_nil) (by decide) (by decide) kx_L13 kx_IAE (Or.inl ⟨_, dL_book_12, rfl, rfl⟩) (by decide) (Nat.le_refl _) z_gWI ?_
      refine z_iconst (v := 1) dL_book_13 rfl ?_
      exact z_ireturn dL_book_14 z_rWI rfl (by simp) (by simp)
    · exact z_none

def F_L_told (N : Nat) (o : Nat) (a0 : Int32) (D : z_Dat) : Option (Int32 × z_Dat) :=
  z_try (F_X10_told N o a0 D) (fun a => some (0, z_upJ a.2 67 0 a.1.toInt64)) (fun e => if e.1 = "java/lang/IllegalArgumentException" then (some (1, e.2)) else (none))
set_option maxRecDepth 100000 in
set_option maxHeartbeats 4000000 in
theorem em_L_told {l : Launch} {S : List z_Shp} {o : Nat} (hl : l.stackTraces = false) (hW : z_W S o) (hO : S[67]? = some (1, 1, [])) (N : Nat) (a0 : Int32) (D : z_Dat) : ∀ out, z_ko (z_kI S) (F_L_told N o a0 D) out → z_EM l M_L_told (80, 880, 1, 6) [.ref 0, .int a0, .ref 67] S D out := by
  have hs0 : S[0]? = some (12, 15, [some (some 1), some (some 3), some (some 5), some (some 7), some (some 12), some (some 15), some (some 21), some (some 25), some (some 28), some (some 32), some (some 33), some (some o), none, none, none]) := hW.1 0 _ rfl
  refine z_methH hl rfl kp_L (Nat.le_of_ble_eq_true rfl) (lv := [some (.ref 0), some (.int a0), some (.ref 67), none]) rfl ?_
  unfold F_L_told
  refine z_aload_n (i := 2) (x := 67) dL_told_0 rfl rfl ?_
  refine z_iconst (v := 0) dL_told_1 rfl ?_
  refine z_aload_n (i := 0) (x := 0) dL_told_2 rfl rfl ?_
  refine z_iload_n (i := 1) (x := a0) dL_told_3 rfl rfl ?_
  refine z_cCI (As := [.ref 0, .int a0]) (rest := [.int 0, .ref 67]) (em_X10_told hl hW N a0 D) (fun o7 h => z_runV 24 1 h rfl kk_L_24 hs0 kl_10.1 kq_X10_told rfl (Nat.le_of_ble_eq_true rfl) ⟨Nat.le_of_ble_eq_true rfl, Nat.le_of_ble_eq_true rfl, Nat.le_of_ble_eq_true rfl, Nat.le_of_ble_eq_true rfl⟩ dL_told_4) z_gWI (fun a => ?_) (fun e hr => ?_)
  · refine z_i2l dL_told_7 ?_
    refine z_lastF (k := 67) dL_told_8 hO (vp_in_iff.mpr (by decide)) ?_
    refine z_goto 15 dL_told_9 (by decide) ?_
    refine z_iconst (v := 0) dL_told_15 rfl ?_
    exact z_ireturn dL_told_16 z_rWI rfl (by simp) (by simp)
  · refine z_ite (fun c => ?_) (fun c => ?_)
    · refine z_catch (i := 3) (n := 1) c [] [] hr rfl (fun z hz => absurd hz List.not_mem_nil) (by decide) (by decide) kx_L13 kx_IAE (Or.inl ⟨_, dL_told_12, rfl, rfl⟩) (by decide) (Nat.le_refl _) z_gWI ?_
      refine z_iconst (v := 1) dL_told_13 rfl ?_
      exact z_ireturn dL_told_14 z_rWI rfl (by simp) (by simp)
    · exact z_none

def F_L_street (N : Nat) (o : Nat) (a0 : Int32) (a1 : Int32) (D : z_Dat) : Option (Int32 × z_Dat) :=
  z_try (F_X10_street N o a0 a1 D) (fun a => some (0, z_upJ a.2 67 0 a.1.toInt64)) (fun e => if e.1 = "java/util/NoSuchElementException" then (some (1, e.2)) else (if e.1 = "java/lang/IllegalArgumentException" then (some (2, e.2)) else (none)))
set_option maxRecDepth 100000 in
set_option maxHeartbeats 4000000 in
theorem em_L_street {l : Launch} {S : List z_Shp} {o : Nat} (hl : l.stackTraces = false) (hW : z_W S o) (hO : S[67]? = some (1, 1, [])) (N : Nat) (a0 : Int32) (a1 : Int32) (D : z_Dat) : ∀ out, z_ko (z_kI S) (F_L_street N o a0 a1 D) out → z_EM l M_L_street (70, 820, 2, 12) [.ref 0, .int a0, .int a1, .ref 67] S D out := by
  have hs0 : S[0]? = some (12, 15, [some (some 1), some (some 3), some (some 5), some (some 7), some (some 12), some (some 15), some (some 21), some (some 25), some (some 28), some (some 32), some (some 33), some (some o), none, none, none]) := hW.1 0 _ rfl
  refine z_methH hl rfl kp_L (Nat.le_of_ble_eq_true rfl) (lv := [some (.ref 0), some (.int a0), some (.int a1), some (.ref 67), none]) rfl ?_
  unfold F_L_street
  refine z_aload_n (i := 3) (x := 67) dL_street_0 rfl rfl ?_
  refine z_iconst (v := 0) dL_street_1 rfl ?_
  refine z_aload_n (i := 0) (x := 0) dL_street_2 rfl rfl ?_
  refine z_iload_n (i := 1) (x := a0) dL_street_3 rfl rfl ?_
  refine z_iload_n (i := 2) (x := a1) dL_street_4 rfl rfl ?_
  refine z_cCI (As := [.ref 0, .int a0, .int a1]) (rest := [.int 0, .ref 67]) (em_X10_street hl hW N a0 a1 D) (fun o7 h => z_runV 27 2 h rfl kk_L_27 hs0 kl_10.1 kq_X10_street rfl (Nat.le_of_ble_eq_true rfl) ⟨Nat.le_of_ble_eq_true rfl, Nat.le_of_ble_eq_true rfl, Nat.le_of_ble_eq_true rfl, Nat.le_of_ble_eq_true rfl⟩ dL_street_5) z_gWI (fun a => ?_) (fun e hr => ?_)
  · refine z_i2l dL_street_8 ?_
    refine z_lastF (k := 67) dL_street_9 hO (vp_in_iff.mpr (by decide)) ?_
    refine z_goto 21 dL_street_10 (by decide) ?_
    refine z_iconst (v := 0) dL_street_21 rfl ?_
    exact z_ireturn dL_street_22 z_rWI rfl (by simp) (by simp)
  · refine z_ite (fun c => ?_) (fun c => ?_)
    · refine z_catch (i := 4) (n := 2) c [] [(0, 10, 17, 13)] hr rfl (fun z hz => absurd hz List.not_mem_nil) (by decide) (by decide) kx_L31 kx_NSE (Or.inr ⟨dL_street_13, rfl⟩) (by decide) (Nat.le_refl _) z_gWI ?_
      refine z_iconst (v := 1) dL_street_15 rfl ?_
      exact z_ireturn dL_street_16 z_rWI rfl (by simp) (by simp)
    · refine z_ite (fun c => ?_) (fun c => ?_)
      · refine z_catch (i := 4) (n := 2) c [(0, 10, 13, 31)] [] hr rfl (fun z hz => by rw [List.mem_singleton.mp hz]; exact ⟨by decide, rfl, kx_L31⟩) (by decide) (by decide) kx_L13 kx_IAE (Or.inr ⟨dL_street_17, rfl⟩) (by decide) (Nat.le_refl _) z_gWI ?_
        refine z_iconst (v := 2) dL_street_19 rfl ?_
        exact z_ireturn dL_street_20 z_rWI rfl (by simp) (by simp)
      · exact z_none

def F_L_person (N : Nat) (o : Nat) (a0 : Int32) (a1 : Int32) (D : z_Dat) : Option (Int32 × z_Dat) :=
  z_try (F_X10_person N o a0 a1 D) (fun a => some (0, z_upJ a.2 67 0 a.1.toInt64)) (fun e => if e.1 = "java/util/NoSuchElementException" then (some (1, e.2)) else (if e.1 = "java/lang/IllegalArgumentException" then (some (2, e.2)) else (none)))
set_option maxRecDepth 100000 in
set_option maxHeartbeats 4000000 in
theorem em_L_person {l : Launch} {S : List z_Shp} {o : Nat} (hl : l.stackTraces = false) (hW : z_W S o) (hO : S[67]? = some (1, 1, [])) (N : Nat) (a0 : Int32) (a1 : Int32) (D : z_Dat) : ∀ out, z_ko (z_kI S) (F_L_person N o a0 a1 D) out → z_EM l M_L_person (70, 820, 2, 12) [.ref 0, .int a0, .int a1, .ref 67] S D out := by
  have hs0 : S[0]? = some (12, 15, [some (some 1), some (some 3), some (some 5), some (some 7), some (some 12), some (some 15), some (some 21), some (some 25), some (some 28), some (some 32), some (some 33), some (some o), none, none, none]) := hW.1 0 _ rfl
  refine z_methH hl rfl kp_L (Nat.le_of_ble_eq_true rfl) (lv := [some (.ref 0), some (.int a0), some (.int a1), some (.ref 67), none]) rfl ?_
  unfold F_L_person
  refine z_aload_n (i := 3) (x := 67) dL_person_0 rfl rfl ?_
  refine z_iconst (v := 0) dL_person_1 rfl ?_
  refine z_aload_n (i := 0) (x := 0) dL_person_2 rfl rfl ?_
  refine z_iload_n (i := 1) (x := a0) dL_person_3 rfl rfl ?_
  refine z_iload_n (i := 2) (x := a1) dL_person_4 rfl rfl ?_
  refine z_cCI (As := [.ref 0, .int a0, .int a1]) (rest := [.int 0, .ref 67]) (em_X10_person hl hW N a0 a1 D) (fun o7 h => z_runV 33 2 h rfl kk_L_33 hs0 kl_10.1 kq_X10_person rfl (Nat.le_of_ble_eq_true rfl) ⟨Nat.le_of_ble_eq_true rfl, Nat.le_of_ble_eq_true rfl, Nat.le_of_ble_eq_true rfl, Nat.le_of_ble_eq_true rfl⟩ dL_person_5) z_gWI (fun a => ?_) (fun e hr => ?_)
  · refine z_i2l dL_person_8 ?_
    refine z_lastF (k := 67) dL_person_9 hO (vp_in_iff.mpr (by decide)) ?_
    refine z_goto 21 dL_person_10 (by decide) ?_
    refine z_iconst (v := 0) dL_person_21 rfl ?_
    exact z_ireturn dL_person_22 z_rWI rfl (by simp) (by simp)
  · refine z_ite (fun c => ?_) (fun c => ?_)
    · refine z_catch (i := 4) (n := 2) c [] [(0, 10, 17, 13)] hr rfl (fun z hz => absurd hz List.not_mem_nil) (by decide) (by decide) kx_L31 kx_NSE (Or.inr ⟨dL_person_13, rfl⟩) (by decide) (Nat.le_refl _) z_gWI ?_
      refine z_iconst (v := 1) dL_person_15 rfl ?_
      exact z_ireturn dL_person_16 z_rWI rfl (by simp) (by simp)
    · refine z_ite (fun c => ?_) (fun c => ?_)
      · refine z_catch (i := 4) (n := 2) c [(0, 10, 13, 31)] [] hr rfl (fun z hz => by rw [List.mem_singleton.mp hz]; exact ⟨by decide, rfl, kx_L31⟩) (by decide) (by decide) kx_L13 kx_IAE (Or.inr ⟨dL_person_17, rfl⟩) (by decide) (Nat.le_refl _) z_gWI ?_
        refine z_iconst (v := 2) dL_person_19 rfl ?_
        exact z_ireturn dL_person_20 z_rWI rfl (by simp) (by simp)
      · exact z_none

def F_L_stock (a0 : Int32) (D : z_Dat) : Option (Int32 × z_Dat) :=
  z_try (F_X10_stock a0 D) (fun a => some (0, z_upJ a.2 67 0 a.1.toInt64)) (fun e => if e.1 = "java/util/NoSuchElementException" then (some (1, e.2)) else (none))
set_option maxRecDepth 100000 in
set_option maxHeartbeats 4000000 in
theorem em_L_stock {l : Launch} {S : List z_Shp} {o : Nat} (hl : l.stackTraces = false) (hW : z_W S o) (hO : S[67]? = some (1, 1, [])) (a0 : Int32) (D : z_Dat) : ∀ out, z_ko (z_kI S) (F_L_stock a0 D) out → z_EM l M_L_stock (70, 700, 1, 6) [.ref 0, .int a0, .ref 67] S D out := by
  have hs0 : S[0]? = some (12, 15, [some (some 1), some (some 3), some (some 5), some (some 7), some (some 12), some (some 15), some (some 21), some (some 25), some (some 28), some (some 32), some (some 33), some (some o), none, none, none]) := hW.1 0 _ rfl
  refine z_methH hl rfl kp_L (Nat.le_of_ble_eq_true rfl) (lv := [some (.ref 0), some (.int a0), some (.ref 67), none]) rfl ?_
  unfold F_L_stock
  refine z_aload_n (i := 2) (x := 67) dL_stock_0 rfl rfl ?_
  refine z_iconst (v := 0) dL_stock_1 rfl ?_
  refine z_aload_n (i := 0) (x := 0) dL_stock_2 rfl rfl ?_
  refine z_iload_n (i := 1) (x := a0) dL_stock_3 rfl rfl ?_
  refine z_cCI (As := [.ref 0, .int a0]) (rest := [.int 0, .ref 67]) (em_X10_stock hl hW a0 D) (fun o7 h => z_runV 36 1 h rfl kk_L_36 hs0 kl_10.1 kq_X10_stock rfl (Nat.le_of_ble_eq_true rfl) ⟨Nat.le_of_ble_eq_true rfl, Nat.le_of_ble_eq_true rfl, Nat.le_of_ble_eq_true rfl, Nat.le_of_ble_eq_true rfl⟩ dL_stock_4) z_gWI (fun a => ?_) (fun e hr => ?_)
  · refine z_i2l dL_stock_7 ?_
    refine z_lastF (k := 67) dL_stock_8 hO (vp_in_iff.mpr (by decide)) ?_
    refine z_goto 15 dL_stock_9 (by decide) ?_
    refine z_iconst (v := 0) dL_stock_15 rfl ?_
    exact z_ireturn dL_stock_16 z_rWI rfl (by simp) (by simp)
  · refine z_ite (fun c => ?_) (fun c => ?_)
    · refine z_catch (i := 3) (n := 1) c [] [] hr rfl (fun z hz => absurd hz List.not_mem_nil) (by decide) (by decide) kx_L31 kx_NSE (Or.inl ⟨_, dL_stock_12, rfl, rfl⟩) (by decide) (Nat.le_refl _) z_gWI ?_
      refine z_iconst (v := 1) dL_stock_13 rfl ?_
      exact z_ireturn dL_stock_14 z_rWI rfl (by simp) (by simp)
    · exact z_none

def F_L_would (N : Nat) (a0 : Int32) (a1 : Int32) (a2 : Int32) (a3 : Int32) (a4 : Int32) (a5 : Int32) (D : z_Dat) : Option (Int32 × z_Dat) :=
  z_try (F_X10_would N a0 a1 a2 a3 a4 a5 D) (fun a => if a.1 = 0 then (some (0, z_upJ a.2 67 0 0)) else (some (0, z_upJ a.2 67 0 1))) (fun e => if e.1 = "java/lang/IllegalArgumentException" then (some (1, e.2)) else (none))
set_option maxRecDepth 100000 in
set_option maxHeartbeats 4000000 in
theorem em_L_would {l : Launch} {S : List z_Shp} {o : Nat} (hl : l.stackTraces = false) (hW : z_W S o) (hO : S[67]? = some (1, 1, [])) (N : Nat) (a0 : Int32) (a1 : Int32) (a2 : Int32) (a3 : Int32) (a4 : Int32) (a5 : Int32) (D : z_Dat) : ∀ out, z_ko (z_kI S) (F_L_would N a0 a1 a2 a3 a4 a5 D) out → z_EM l M_L_would (70, 760, 2, 12) [.ref 0, .int a0, .int a1, .int a2, .int a3, .int a4, .int a5, .ref 67] S D out := by
  have hs0 : S[0]? = some (12, 15, [some (some 1), some (some 3), some (some 5), some (some 7), some (some 12), some (some 15), some (some 21), some (some 25), some (some 28), some (some 32), some (some 33), some (some o), none, none, none]) := hW.1 0 _ rfl
  refine z_methH hl rfl kp_L (Nat.le_of_ble_eq_true rfl) (lv := [some (.ref 0), some (.int a0), some (.int a1), some (.int a2), some (.int a3), some (.int a4), some (.int a5), some (.ref 67), none]) rfl ?_
  unfold F_L_would
  refine z_aload (i := 7) (x := 67) dL_would_0 rfl ?_
  refine z_iconst (v := 0) dL_would_2 rfl ?_
  refine z_aload_n (i := 0) (x := 0) dL_would_3 rfl rfl ?_
  refine z_iload_n (i := 1) (x := a0) dL_would_4 rfl rfl ?_
  refine z_iload_n (i := 2) (x := a1) dL_would_5 rfl rfl ?_
  refine z_iload_n (i := 3) (x := a2) dL_would_6 rfl rfl ?_
  refine z_iload (i := 4) (x := a3) dL_would_7 rfl ?_
  refine z_iload (i := 5) (x := a4) dL_would_9 rfl ?_
  refine z_iload (i := 6) (x := a5) dL_would_11 rfl ?_
  refine z_cCI (As := [.ref 0, .int a0, .int a1, .int a2, .int a3, .int a4, .int a5]) (rest := [.int 0, .ref 67]) (em_X10_would hl hW N a0 a1 a2 a3 a4 a5 D) (fun o7 h => z_runV 39 6 h rfl kk_L_39 hs0 kl_10.1 kq_X10_would rfl (Nat.le_of_ble_eq_true rfl) ⟨Nat.le_of_ble_eq_true rfl, Nat.le_of_ble_eq_true rfl, Nat.le_of_ble_eq_true rfl, Nat.le_of_ble_eq_true rfl⟩ dL_would_13) z_gWI (fun a => ?_) (fun e hr => ?_)
  · refine z_if_eq 23 dL_would_16 (by decide) (fun c0 => ?_) (fun c0 => ?_)
    · refine z_lconst (v := 0) dL_would_23 rfl ?_
      refine z_lastF (k := 67) dL_would_24 hO (vp_in_iff.mpr (by decide)) ?_
      refine z_goto 32 dL_would_25 (by decide) ?_
      refine z_iconst (v := 0) dL_would_32 rfl ?_
      exact z_ireturn dL_would_33 z_rWI rfl (by simp) (by simp)
    · refine z_lconst (v := 1) dL_would_19 rfl ?_
      refine z_goto 24 dL_would_20 (by decide) ?_
      refine z_lastF (k := 67) dL_would_24 hO (vp_in_iff.mpr (by decide)) ?_
      refine z_goto 32 dL_would_25 (by decide) ?_
      refine z_iconst (v := 0) dL_would_32 rfl ?_
      exact z_ireturn dL_would_33 z_rWI rfl (by simp) (by simp)
  · refine z_ite (fun c => ?_) (fun c => ?_)
    · refine z_catch (i := 8) (n := 2) c [] [] hr rfl (fun z hz => absurd hz List.not_mem_nil) (by decide) (by decide) kx_L13 kx_IAE (Or.inr ⟨dL_would_28, rfl⟩) (by decide) (Nat.le_refl _) z_gWI ?_
      refine z_iconst (v := 1) dL_would_30 rfl ?_
      exact z_ireturn dL_would_31 z_rWI rfl (by simp) (by simp)
    · exact z_none

def F_L_distance (a0 : Int32) (a1 : Int32) (D : z_Dat) : Option (Int32 × z_Dat) :=
  z_try (F_X10_distance a0 a1 D) (fun a => some (0, z_upJ a.2 67 0 a.1.toInt64)) (fun e => if e.1 = "java/lang/IllegalArgumentException" then (some (1, e.2)) else (none))
set_option maxRecDepth 100000 in
set_option maxHeartbeats 4000000 in
theorem em_L_distance {l : Launch} {S : List z_Shp} {o : Nat} (hl : l.stackTraces = false) (hW : z_W S o) (hO : S[67]? = some (1, 1, [])) (a0 : Int32) (a1 : Int32) (D : z_Dat) : ∀ out, z_ko (z_kI S) (F_L_distance a0 a1 D) out → z_EM l M_L_distance (70, 700, 1, 6) [.ref 0, .int a0, .int a1, .ref 67] S D out := by
  have hs0 : S[0]? = some (12, 15, [some (some 1), some (some 3), some (some 5), some (some 7), some (some 12), some (some 15), some (some 21), some (some 25), some (some 28), some (some 32), some (some 33), some (some o), none, none, none]) := hW.1 0 _ rfl
  refine z_methH hl rfl kp_L (Nat.le_of_ble_eq_true rfl) (lv := [some (.ref 0), some (.int a0), some (.int a1), some (.ref 67), none]) rfl ?_
  unfold F_L_distance
  refine z_aload_n (i := 3) (x := 67) dL_distance_0 rfl rfl ?_
  refine z_iconst (v := 0) dL_distance_1 rfl ?_
  refine z_aload_n (i := 0) (x := 0) dL_distance_2 rfl rfl ?_
  refine z_iload_n (i := 1) (x := a0) dL_distance_3 rfl rfl ?_
  refine z_iload_n (i := 2) (x := a1) dL_distance_4 rfl rfl ?_
  refine z_cCI (As := [.ref 0, .int a0, .int a1]) (rest := [.int 0, .ref 67]) (em_X10_distance hl hW a0 a1 D) (fun o7 h => z_runV 43 2 h rfl kk_L_43 hs0 kl_10.1 kq_X10_distance rfl (Nat.le_of_ble_eq_true rfl) ⟨Nat.le_of_ble_eq_true rfl, Nat.le_of_ble_eq_true rfl, Nat.le_of_ble_eq_true rfl, Nat.le_of_ble_eq_true rfl⟩ dL_distance_5) z_gWI (fun a => ?_) (fun e hr => ?_)
  · refine z_i2l dL_distance_8 ?_
    refine z_lastF (k := 67) dL_distance_9 hO (vp_in_iff.mpr (by decide)) ?_
    refine z_goto 17 dL_distance_10 (by decide) ?_
    refine z_iconst (v := 0) dL_distance_17 rfl ?_
    exact z_ireturn dL_distance_18 z_rWI rfl (by simp) (by simp)
  · refine z_ite (fun c => ?_) (fun c => ?_)
    · refine z_catch (i := 4) (n := 2) c [] [] hr rfl (fun z hz => absurd hz List.not_mem_nil) (by decide) (by decide) kx_L13 kx_IAE (Or.inr ⟨dL_distance_13, rfl⟩) (by decide) (Nat.le_refl _) z_gWI ?_
      refine z_iconst (v := 1) dL_distance_15 rfl ?_
      exact z_ireturn dL_distance_16 z_rWI rfl (by simp) (by simp)
    · exact z_none

def F_L_seems (N : Nat) (o : Nat) (a0 : Int32) (D : z_Dat) : Option (Int32 × z_Dat) :=
  z_try (F_X10_seems N o a0 D) (fun a => some (0, z_upJ a.2 67 0 a.1.toInt64)) (fun e => if e.1 = "java/lang/IllegalArgumentException" then (some (1, e.2)) else (none))
set_option maxRecDepth 100000 in
set_option maxHeartbeats 4000000 in
theorem em_L_seems {l : Launch} {S : List z_Shp} {o : Nat} (hl : l.stackTraces = false) (hW : z_W S o) (hO : S[67]? = some (1, 1, [])) (N : Nat) (a0 : Int32) (D : z_Dat) : ∀ out, z_ko (z_kI S) (F_L_seems N o a0 D) out → z_EM l M_L_seems (70, 760, 1, 6) [.ref 0, .int a0, .ref 67] S D out := by
  have hs0 : S[0]? = some (12, 15, [some (some 1), some (some 3), some (some 5), some (some 7), some (some 12), some (some 15), some (some 21), some (some 25), some (some 28), some (some 32), some (some 33), some (some o), none, none, none]) := hW.1 0 _ rfl
  refine z_methH hl rfl kp_L (Nat.le_of_ble_eq_true rfl) (lv := [some (.ref 0), some (.int a0), some (.ref 67), none]) rfl ?_
  unfold F_L_seems
  refine z_aload_n (i := 2) (x := 67) dL_seems_0 rfl rfl ?_
  refine z_iconst (v := 0) dL_seems_1 rfl ?_
  refine z_aload_n (i := 0) (x := 0) dL_seems_2 rfl rfl ?_
  refine z_iload_n (i := 1) (x := a0) dL_seems_3 rfl rfl ?_
  refine z_cCI (As := [.ref 0, .int a0]) (rest := [.int 0, .ref 67]) (em_X10_seems hl hW N a0 D) (fun o7 h => z_runV 46 1 h rfl kk_L_46 hs0 kl_10.1 kq_X10_seems rfl (Nat.le_of_ble_eq_true rfl) ⟨Nat.le_of_ble_eq_true rfl, Nat.le_of_ble_eq_true rfl, Nat.le_of_ble_eq_true rfl, Nat.le_of_ble_eq_true rfl⟩ dL_seems_4) z_gWI (fun a => ?_) (fun e hr => ?_)
  · refine z_i2l dL_seems_7 ?_
    refine z_lastF (k := 67) dL_seems_8 hO (vp_in_iff.mpr (by decide)) ?_
    refine z_goto 15 dL_seems_9 (by decide) ?_
    refine z_iconst (v := 0) dL_seems_15 rfl ?_
    exact z_ireturn dL_seems_16 z_rWI rfl (by simp) (by simp)
  · refine z_ite (fun c => ?_) (fun c => ?_)
    · refine z_catch (i := 3) (n := 1) c [] [] hr rfl (fun z hz => absurd hz List.not_mem_nil) (by decide) (by decide) kx_L13 kx_IAE (Or.inl ⟨_, dL_seems_12, rfl, rfl⟩) (by decide) (Nat.le_refl _) z_gWI ?_
      refine z_iconst (v := 1) dL_seems_13 rfl ?_
      exact z_ireturn dL_seems_14 z_rWI rfl (by simp) (by simp)
    · exact z_none

def F_L_dipped (o : Nat) (a0 : Int32) (a1 : Int32) (D : z_Dat) : Option (Int32 × z_Dat) :=
  z_try (F_X10_dipped o a0 a1 D) (fun a => some (0, z_upJ a.2 67 0 a.1.toInt64)) (fun e => if e.1 = "java/util/NoSuchElementException" then (some (1, e.2)) else (if e.1 = "java/lang/IllegalArgumentException" then (some (2, e.2)) else (none)))
set_option maxRecDepth 100000 in
set_option maxHeartbeats 4000000 in
theorem em_L_dipped {l : Launch} {S : List z_Shp} {o : Nat} (hl : l.stackTraces = false) (hW : z_W S o) (hO : S[67]? = some (1, 1, [])) (a0 : Int32) (a1 : Int32) (D : z_Dat) : ∀ out, z_ko (z_kI S) (F_L_dipped o a0 a1 D) out → z_EM l M_L_dipped (70, 700, 2, 12) [.ref 0, .int a0, .int a1, .ref 67] S D out := by
  have hs0 : S[0]? = some (12, 15, [some (some 1), some (some 3), some (some 5), some (some 7), some (some 12), some (some 15), some (some 21), some (some 25), some (some 28), some (some 32), some (some 33), some (some o), none, none, none]) := hW.1 0 _ rfl
  refine z_methH hl rfl kp_L (Nat.le_of_ble_eq_true rfl) (lv := [some (.ref 0), some (.int a0), some (.int a1), some (.ref 67), none]) rfl ?_
  unfold F_L_dipped
  refine z_aload_n (i := 3) (x := 67) dL_dipped_0 rfl rfl ?_
  refine z_iconst (v := 0) dL_dipped_1 rfl ?_
  refine z_aload_n (i := 0) (x := 0) dL_dipped_2 rfl rfl ?_
  refine z_iload_n (i := 1) (x := a0) dL_dipped_3 rfl rfl ?_
  refine z_iload_n (i := 2) (x := a1) dL_dipped_4 rfl rfl ?_
  refine z_cCI (As := [.ref 0, .int a0, .int a1]) (rest := [.int 0, .ref 67]) (em_X10_dipped hl hW a0 a1 D) (fun o7 h => z_runV 49 2 h rfl kk_L_49 hs0 kl_10.1 kq_X10_dipped rfl (Nat.le_of_ble_eq_true rfl) ⟨Nat.le_of_ble_eq_true rfl, Nat.le_of_ble_eq_true rfl, Nat.le_of_ble_eq_true rfl, Nat.le_of_ble_eq_true rfl⟩ dL_dipped_5) z_gWI (fun a => ?_) (fun e hr => ?_)
  · refine z_i2l dL_dipped_8 ?_
    refine z_lastF (k := 67) dL_dipped_9 hO (vp_in_iff.mpr (by decide)) ?_
    refine z_goto 21 dL_dipped_10 (by decide) ?_
    refine z_iconst (v := 0) dL_dipped_21 rfl ?_
    exact z_ireturn dL_dipped_22 z_rWI rfl (by simp) (by simp)
  · refine z_ite (fun c => ?_) (fun c => ?_)
    · refine z_catch (i := 4) (n := 2) c [] [(0, 10, 17, 13)] hr rfl (fun z hz => absurd hz List.not_mem_nil) (by decide) (by decide) kx_L31 kx_NSE (Or.inr ⟨dL_dipped_13, rfl⟩) (by decide) (Nat.le_refl _) z_gWI ?_
      refine z_iconst (v := 1) dL_dipped_15 rfl ?_
      exact z_ireturn dL_dipped_16 z_rWI rfl (by simp) (by simp)
    · refine z_ite (fun c => ?_) (fun c => ?_)
      · refine z_catch (i := 4) (n := 2) c [(0, 10, 13, 31)] [] hr rfl (fun z hz => by rw [List.mem_singleton.mp hz]; exact ⟨by decide, rfl, kx_L31⟩) (by decide) (by decide) kx_L13 kx_IAE (Or.inr ⟨dL_dipped_17, rfl⟩) (by decide) (Nat.le_refl _) z_gWI ?_
        refine z_iconst (v := 2) dL_dipped_19 rfl ?_
        exact z_ireturn dL_dipped_20 z_rWI rfl (by simp) (by simp)
      · exact z_none

def F_L_when (N : Nat) (o : Nat) (a0 : Int32) (a1 : Int32) (D : z_Dat) : Option (Int32 × z_Dat) :=
  z_try (F_X10_when N o a0 a1 D) (fun a => some (0, z_upJ a.2 67 0 a.1.toInt64)) (fun e => if e.1 = "java/util/NoSuchElementException" then (some (1, e.2)) else (if e.1 = "java/lang/IllegalArgumentException" then (some (2, e.2)) else (none)))
set_option maxRecDepth 100000 in
set_option maxHeartbeats 4000000 in
theorem em_L_when {l : Launch} {S : List z_Shp} {o : Nat} (hl : l.stackTraces = false) (hW : z_W S o) (hO : S[67]? = some (1, 1, [])) (N : Nat) (a0 : Int32) (a1 : Int32) (D : z_Dat) : ∀ out, z_ko (z_kI S) (F_L_when N o a0 a1 D) out → z_EM l M_L_when (70, 820, 2, 12) [.ref 0, .int a0, .int a1, .ref 67] S D out := by
  have hs0 : S[0]? = some (12, 15, [some (some 1), some (some 3), some (some 5), some (some 7), some (some 12), some (some 15), some (some 21), some (some 25), some (some 28), some (some 32), some (some 33), some (some o), none, none, none]) := hW.1 0 _ rfl
  refine z_methH hl rfl kp_L (Nat.le_of_ble_eq_true rfl) (lv := [some (.ref 0), some (.int a0), some (.int a1), some (.ref 67), none]) rfl ?_
  unfold F_L_when
  refine z_aload_n (i := 3) (x := 67) dL_when_0 rfl rfl ?_
  refine z_iconst (v := 0) dL_when_1 rfl ?_
  refine z_aload_n (i := 0) (x := 0) dL_when_2 rfl rfl ?_
  refine z_iload_n (i := 1) (x := a0) dL_when_3 rfl rfl ?_
  refine z_iload_n (i := 2) (x := a1) dL_when_4 rfl rfl ?_
  refine z_cCI (As := [.ref 0, .int a0, .int a1]) (rest := [.int 0, .ref 67]) (em_X10_when hl hW N a0 a1 D) (fun o7 h => z_runV 52 2 h rfl kk_L_52 hs0 kl_10.1 kq_X10_when rfl (Nat.le_of_ble_eq_true rfl) ⟨Nat.le_of_ble_eq_true rfl, Nat.le_of_ble_eq_true rfl, Nat.le_of_ble_eq_true rfl, Nat.le_of_ble_eq_true rfl⟩ dL_when_5) z_gWI (fun a => ?_) (fun e hr => ?_)
  · refine z_i2l dL_when_8 ?_
    refine z_lastF (k := 67) dL_when_9 hO (vp_in_iff.mpr (by decide)) ?_
    refine z_goto 21 dL_when_10 (by decide) ?_
    refine z_iconst (v := 0) dL_when_21 rfl ?_
    exact z_ireturn dL_when_22 z_rWI rfl (by simp) (by simp)
  · refine z_ite (fun c => ?_) (fun c => ?_)
    · refine z_catch (i := 4) (n := 2) c [] [(0, 10, 17, 13)] hr rfl (fun z hz => absurd hz List.not_mem_nil) (by decide) (by decide) kx_L31 kx_NSE (Or.inr ⟨dL_when_13, rfl⟩) (by decide) (Nat.le_refl _) z_gWI ?_
      refine z_iconst (v := 1) dL_when_15 rfl ?_
      exact z_ireturn dL_when_16 z_rWI rfl (by simp) (by simp)
    · refine z_ite (fun c => ?_) (fun c => ?_)
      · refine z_catch (i := 4) (n := 2) c [(0, 10, 13, 31)] [] hr rfl (fun z hz => by rw [List.mem_singleton.mp hz]; exact ⟨by decide, rfl, kx_L31⟩) (by decide) (by decide) kx_L13 kx_IAE (Or.inr ⟨dL_when_17, rfl⟩) (by decide) (Nat.le_refl _) z_gWI ?_
        refine z_iconst (v := 2) dL_when_19 rfl ?_
        exact z_ireturn dL_when_20 z_rWI rfl (by simp) (by simp)
      · exact z_none

def F_L_sits (N : Nat) (o : Nat) (a0 : Int32) (a1 : Int32) (D : z_Dat) : Option (Int32 × z_Dat) :=
  z_try (F_X10_sits N o a0 a1 D) (fun a => some (0, z_upJ a.2 67 0 a.1.toInt64)) (fun e => if e.1 = "java/util/NoSuchElementException" then (some (1, e.2)) else (if e.1 = "java/lang/IllegalArgumentException" then (some (2, e.2)) else (none)))
set_option maxRecDepth 100000 in
set_option maxHeartbeats 4000000 in
theorem em_L_sits {l : Launch} {S : List z_Shp} {o : Nat} (hl : l.stackTraces = false) (hW : z_W S o) (hO : S[67]? = some (1, 1, [])) (N : Nat) (a0 : Int32) (a1 : Int32) (D : z_Dat) : ∀ out, z_ko (z_kI S) (F_L_sits N o a0 a1 D) out → z_EM l M_L_sits (70, 820, 2, 12) [.ref 0, .int a0, .int a1, .ref 67] S D out := by
  have hs0 : S[0]? = some (12, 15, [some (some 1), some (some 3), some (some 5), some (some 7), some (some 12), some (some 15), some (some 21), some (some 25), some (some 28), some (some 32), some (some 33), some (some o), none, none, none]) := hW.1 0 _ rfl
  refine z_methH hl rfl kp_L (Nat.le_of_ble_eq_true rfl) (lv := [some (.ref 0), some (.int a0), some (.int a1), some (.ref 67), none]) rfl ?_
  unfold F_L_sits
  refine z_aload_n (i := 3) (x := 67) dL_sits_0 rfl rfl ?_
  refine z_iconst (v := 0) dL_sits_1 rfl ?_
  refine z_aload_n (i := 0) (x := 0) dL_sits_2 rfl rfl ?_
  refine z_iload_n (i := 1) (x := a0) dL_sits_3 rfl rfl ?_
  refine z_iload_n (i := 2) (x := a1) dL_sits_4 rfl rfl ?_
  refine z_cCI (As := [.ref 0, .int a0, .int a1]) (rest := [.int 0, .ref 67]) (em_X10_sits hl hW N a0 a1 D) (fun o7 h => z_runV 55 2 h rfl kk_L_55 hs0 kl_10.1 kq_X10_sits rfl (Nat.le_of_ble_eq_true rfl) ⟨Nat.le_of_ble_eq_true rfl, Nat.le_of_ble_eq_true rfl, Nat.le_of_ble_eq_true rfl, Nat.le_of_ble_eq_true rfl⟩ dL_sits_5) z_gWI (fun a => ?_) (fun e hr => ?_)
  · refine z_i2l dL_sits_8 ?_
    refine z_lastF (k := 67) dL_sits_9 hO (vp_in_iff.mpr (by decide)) ?_
    refine z_goto 21 dL_sits_10 (by decide) ?_
    refine z_iconst (v := 0) dL_sits_21 rfl ?_
    exact z_ireturn dL_sits_22 z_rWI rfl (by simp) (by simp)
  · refine z_ite (fun c => ?_) (fun c => ?_)
    · refine z_catch (i := 4) (n := 2) c [] [(0, 10, 17, 13)] hr rfl (fun z hz => absurd hz List.not_mem_nil) (by decide) (by decide) kx_L31 kx_NSE (Or.inr ⟨dL_sits_13, rfl⟩) (by decide) (Nat.le_refl _) z_gWI ?_
      refine z_iconst (v := 1) dL_sits_15 rfl ?_
      exact z_ireturn dL_sits_16 z_rWI rfl (by simp) (by simp)
    · refine z_ite (fun c => ?_) (fun c => ?_)
      · refine z_catch (i := 4) (n := 2) c [(0, 10, 13, 31)] [] hr rfl (fun z hz => by rw [List.mem_singleton.mp hz]; exact ⟨by decide, rfl, kx_L31⟩) (by decide) (by decide) kx_L13 kx_IAE (Or.inr ⟨dL_sits_17, rfl⟩) (by decide) (Nat.le_refl _) z_gWI ?_
        refine z_iconst (v := 2) dL_sits_19 rfl ?_
        exact z_ireturn dL_sits_20 z_rWI rfl (by simp) (by simp)
      · exact z_none

def F_L_way (N : Nat) (o : Nat) (a0 : Int32) (a1 : Int32) (D : z_Dat) : Option (Int32 × z_Dat) :=
  z_try (F_X10_way N o a0 a1 D) (fun a => some (0, z_upJ a.2 67 0 a.1.toInt64)) (fun e => if e.1 = "java/lang/IllegalArgumentException" then (some (1, e.2)) else (none))
set_option maxRecDepth 100000 in
set_option maxHeartbeats 4000000 in
theorem em_L_way {l : Launch} {S : List z_Shp} {o : Nat} (hl : l.stackTraces = false) (hW : z_W S o) (hO : S[67]? = some (1, 1, [])) (N : Nat) (a0 : Int32) (a1 : Int32) (D : z_Dat) : ∀ out, z_ko (z_kI S) (F_L_way N o a0 a1 D) out → z_EM l M_L_way (70, 820, 1, 6) [.ref 0, .int a0, .int a1, .ref 67] S D out := by
  have hs0 : S[0]? = some (12, 15, [some (some 1), some (some 3), some (some 5), some (some 7), some (some 12), some (some 15), some (some 21), some (some 25), some (some 28), some (some 32), some (some 33), some (some o), none, none, none]) := hW.1 0 _ rfl
  refine z_methH hl rfl kp_L (Nat.le_of_ble_eq_true rfl) (lv := [some (.ref 0), some (.int a0), some (.int a1), some (.ref 67), none]) rfl ?_
  unfold F_L_way
  refine z_aload_n (i := 3) (x := 67) dL_way_0 rfl rfl ?_
  refine z_iconst (v := 0) dL_way_1 rfl ?_
  refine z_aload_n (i := 0) (x := 0) dL_way_2 rfl rfl ?_
  refine z_iload_n (i := 1) (x := a0) dL_way_3 rfl rfl ?_
  refine z_iload_n (i := 2) (x := a1) dL_way_4 rfl rfl ?_
  refine z_cCI (As := [.ref 0, .int a0, .int a1]) (rest := [.int 0, .ref 67]) (em_X10_way hl hW N a0 a1 D) (fun o7 h => z_runV 58 2 h rfl kk_L_58 hs0 kl_10.1 kq_X10_way rfl (Nat.le_of_ble_eq_true rfl) ⟨Nat.le_of_ble_eq_true rfl, Nat.le_of_ble_eq_true rfl, Nat.le_of_ble_eq_true rfl, Nat.le_of_ble_eq_true rfl⟩ dL_way_5) z_gWI (fun a => ?_) (fun e hr => ?_)
  · refine z_i2l dL_way_8 ?_
    refine z_lastF (k := 67) dL_way_9 hO (vp_in_iff.mpr (by decide)) ?_
    refine z_goto 17 dL_way_10 (by decide) ?_
    refine z_iconst (v := 0) dL_way_17 rfl ?_
    exact z_ireturn dL_way_18 z_rWI rfl (by simp) (by simp)
  · refine z_ite (fun c => ?_) (fun c => ?_)
    · refine z_catch (i := 4) (n := 2) c [] [] hr rfl (fun z hz => absurd hz List.not_mem_nil) (by decide) (by decide) kx_L13 kx_IAE (Or.inr ⟨dL_way_13, rfl⟩) (by decide) (Nat.le_refl _) z_gWI ?_
      refine z_iconst (v := 1) dL_way_15 rfl ?_
      exact z_ireturn dL_way_16 z_rWI rfl (by simp) (by simp)
    · exact z_none

def F_L_step (N : Nat) (o : Nat) (a0 : Int32) (a1 : Int32) (a2 : Int32) (D : z_Dat) : Option (Int32 × z_Dat) :=
  z_try (F_X10_step N o a0 a1 a2 D) (fun a => some (0, z_upJ a.2 67 0 a.1.toInt64)) (fun e => if e.1 = "java/lang/IllegalArgumentException" then (some (1, e.2)) else (none))
set_option maxRecDepth 100000 in
set_option maxHeartbeats 4000000 in
theorem em_L_step {l : Launch} {S : List z_Shp} {o : Nat} (hl : l.stackTraces = false) (hW : z_W S o) (hO : S[67]? = some (1, 1, [])) (N : Nat) (a0 : Int32) (a1 : Int32) (a2 : Int32) (D : z_Dat) : ∀ out, z_ko (z_kI S) (F_L_step N o a0 a1 a2 D) out → z_EM l M_L_step (80, 880, 1, 6) [.ref 0, .int a0, .int a1, .int a2, .ref 67] S D out := by
  have hs0 : S[0]? = some (12, 15, [some (some 1), some (some 3), some (some 5), some (some 7), some (some 12), some (some 15), some (some 21), some (some 25), some (some 28), some (some 32), some (some 33), some (some o), none, none, none]) := hW.1 0 _ rfl
  refine z_methH hl rfl kp_L (Nat.le_of_ble_eq_true rfl) (lv := [some (.ref 0), some (.int a0), some (.int a1), some (.int a2), some (.ref 67), none]) rfl ?_
  unfold F_L_step
  refine z_aload (i := 4) (x := 67) dL_step_0 rfl ?_
  refine z_iconst (v := 0) dL_step_2 rfl ?_
  refine z_aload_n (i := 0) (x := 0) dL_step_3 rfl rfl ?_
  refine z_iload_n (i := 1) (x := a0) dL_step_4 rfl rfl ?_
  refine z_iload_n (i := 2) (x := a1) dL_step_5 rfl rfl ?_
  refine z_iload_n (i := 3) (x := a2) dL_step_6 rfl rfl ?_
  refine z_cCI (As := [.ref 0, .int a0, .int a1, .int a2]) (rest := [.int 0, .ref 67]) (em_X10_step hl hW N a0 a1 a2 D) (fun o7 h => z_runV 61 3 h rfl kk_L_61 hs0 kl_10.1 kq_X10_step rfl (Nat.le_of_ble_eq_true rfl) ⟨Nat.le_of_ble_eq_true rfl, Nat.le_of_ble_eq_true rfl, Nat.le_of_ble_eq_true rfl, Nat.le_of_ble_eq_true rfl⟩ dL_step_7) z_gWI (fun a => ?_) (fun e hr => ?_)
  · refine z_i2l dL_step_10 ?_
    refine z_lastF (k := 67) dL_step_11 hO (vp_in_iff.mpr (by decide)) ?_
    refine z_goto 19 dL_step_12 (by decide) ?_
    refine z_iconst (v := 0) dL_step_19 rfl ?_
    exact z_ireturn dL_step_20 z_rWI rfl (by simp) (by simp)
  · refine z_ite (fun c => ?_) (fun c => ?_)
    · refine z_catch (i := 5) (n := 2) c [] [] hr rfl (fun z hz => absurd hz List.not_mem_nil) (by decide) (by decide) kx_L13 kx_IAE (Or.inr ⟨dL_step_15, rfl⟩) (by decide) (Nat.le_refl _) z_gWI ?_
      refine z_iconst (v := 1) dL_step_17 rfl ?_
      exact z_ireturn dL_step_18 z_rWI rfl (by simp) (by simp)
    · exact z_none

def F_L_sums (N : Nat) (o : Nat) (a0 : Int32) (a1 : Int32) (D : z_Dat) : Option (Int32 × z_Dat) :=
  z_try (F_X10_sums N o a0 a1 D) (fun a => some (0, z_upJ a.2 67 0 a.1.toInt64)) (fun e => if e.1 = "java/lang/IllegalArgumentException" then (some (1, e.2)) else (none))
set_option maxRecDepth 100000 in
set_option maxHeartbeats 4000000 in
theorem em_L_sums {l : Launch} {S : List z_Shp} {o : Nat} (hl : l.stackTraces = false) (hW : z_W S o) (hO : S[67]? = some (1, 1, [])) (N : Nat) (a0 : Int32) (a1 : Int32) (D : z_Dat) : ∀ out, z_ko (z_kI S) (F_L_sums N o a0 a1 D) out → z_EM l M_L_sums (70, 760, 1, 6) [.ref 0, .int a0, .int a1, .ref 67] S D out := by
  have hs0 : S[0]? = some (12, 15, [some (some 1), some (some 3), some (some 5), some (some 7), some (some 12), some (some 15), some (some 21), some (some 25), some (some 28), some (some 32), some (some 33), some (some o), none, none, none]) := hW.1 0 _ rfl
  refine z_methH hl rfl kp_L (Nat.le_of_ble_eq_true rfl) (lv := [some (.ref 0), some (.int a0), some (.int a1), some (.ref 67), none]) rfl ?_
  unfold F_L_sums
  refine z_aload_n (i := 3) (x := 67) dL_sums_0 rfl rfl ?_
  refine z_iconst (v := 0) dL_sums_1 rfl ?_
  refine z_aload_n (i := 0) (x := 0) dL_sums_2 rfl rfl ?_
  refine z_iload_n (i := 1) (x := a0) dL_sums_3 rfl rfl ?_
  refine z_iload_n (i := 2) (x := a1) dL_sums_4 rfl rfl ?_
  refine z_cCI (As := [.ref 0, .int a0, .int a1]) (rest := [.int 0, .ref 67]) (em_X10_sums hl hW N a0 a1 D) (fun o7 h => z_runV 65 2 h rfl kk_L_65 hs0 kl_10.1 kq_X10_sums rfl (Nat.le_of_ble_eq_true rfl) ⟨Nat.le_of_ble_eq_true rfl, Nat.le_of_ble_eq_true rfl, Nat.le_of_ble_eq_true rfl, Nat.le_of_ble_eq_true rfl⟩ dL_sums_5) z_gWI (fun a => ?_) (fun e hr => ?_)
  · refine z_i2l dL_sums_8 ?_
    refine z_lastF (k := 67) dL_sums_9 hO (vp_in_iff.mpr (by decide)) ?_
    refine z_goto 17 dL_sums_10 (by decide) ?_
    refine z_iconst (v := 0) dL_sums_17 rfl ?_
    exact z_ireturn dL_sums_18 z_rWI rfl (by simp) (by simp)
  · refine z_ite (fun c => ?_) (fun c => ?_)
    · refine z_catch (i := 4) (n := 2) c [] [] hr rfl (fun z hz => absurd hz List.not_mem_nil) (by decide) (by decide) kx_L13 kx_IAE (Or.inr ⟨dL_sums_13, rfl⟩) (by decide) (Nat.le_refl _) z_gWI ?_
      refine z_iconst (v := 1) dL_sums_15 rfl ?_
      exact z_ireturn dL_sums_16 z_rWI rfl (by simp) (by simp)
    · exact z_none

def F_L_tones (N : Nat) (o : Nat) (a0 : Int32) (D : z_Dat) : Option (Int32 × z_Dat) :=
  z_try (F_X10_tones N o a0 D) (fun a => some (0, z_upJ a.2 67 0 a.1.toInt64)) (fun e => if e.1 = "java/lang/IllegalArgumentException" then (some (1, e.2)) else (none))
set_option maxRecDepth 100000 in
set_option maxHeartbeats 4000000 in
theorem em_L_tones {l : Launch} {S : List z_Shp} {o : Nat} (hl : l.stackTraces = false) (hW : z_W S o) (hO : S[67]? = some (1, 1, [])) (N : Nat) (a0 : Int32) (D : z_Dat) : ∀ out, z_ko (z_kI S) (F_L_tones N o a0 D) out → z_EM l M_L_tones (70, 760, 1, 6) [.ref 0, .int a0, .ref 67] S D out := by
  have hs0 : S[0]? = some (12, 15, [some (some 1), some (some 3), some (some 5), some (some 7), some (some 12), some (some 15), some (some 21), some (some 25), some (some 28), some (some 32), some (some 33), some (some o), none, none, none]) := hW.1 0 _ rfl
  refine z_methH hl rfl kp_L (Nat.le_of_ble_eq_true rfl) (lv := [some (.ref 0), some (.int a0), some (.ref 67), none]) rfl ?_
  unfold F_L_tones
  refine z_aload_n (i := 2) (x := 67) dL_tones_0 rfl rfl ?_
  refine z_iconst (v := 0) dL_tones_1 rfl ?_
  refine z_aload_n (i := 0) (x := 0) dL_tones_2 rfl rfl ?_
  refine z_iload_n (i := 1) (x := a0) dL_tones_3 rfl rfl ?_
  refine z_cCI (As := [.ref 0, .int a0]) (rest := [.int 0, .ref 67]) (em_X10_tones hl hW N a0 D) (fun o7 h => z_runV 68 1 h rfl kk_L_68 hs0 kl_10.1 kq_X10_tones rfl (Nat.le_of_ble_eq_true rfl) ⟨Nat.le_of_ble_eq_true rfl, Nat.le_of_ble_eq_true rfl, Nat.le_of_ble_eq_true rfl, Nat.le_of_ble_eq_true rfl⟩ dL_tones_4) z_gWI (fun a => ?_) (fun e hr => ?_)
  · refine z_i2l dL_tones_7 ?_
    refine z_lastF (k := 67) dL_tones_8 hO (vp_in_iff.mpr (by decide)) ?_
    refine z_goto 15 dL_tones_9 (by decide) ?_
    refine z_iconst (v := 0) dL_tones_15 rfl ?_
    exact z_ireturn dL_tones_16 z_rWI rfl (by simp) (by simp)
  · refine z_ite (fun c => ?_) (fun c => ?_)
    · refine z_catch (i := 3) (n := 1) c [] [] hr rfl (fun z hz => absurd hz List.not_mem_nil) (by decide) (by decide) kx_L13 kx_IAE (Or.inl ⟨_, dL_tones_12, rfl, rfl⟩) (by decide) (Nat.le_refl _) z_gWI ?_
      refine z_iconst (v := 1) dL_tones_13 rfl ?_
      exact z_ireturn dL_tones_14 z_rWI rfl (by simp) (by simp)
    · exact z_none

def F_L_fits (N : Nat) (o : Nat) (a0 : Int32) (D : z_Dat) : Option (Int32 × z_Dat) :=
  z_try (F_X10_fits N o a0 D) (fun a => some (0, z_upJ a.2 67 0 a.1.toInt64)) (fun e => if e.1 = "java/lang/IllegalArgumentException" then (some (1, e.2)) else (none))
set_option maxRecDepth 100000 in
set_option maxHeartbeats 4000000 in
theorem em_L_fits {l : Launch} {S : List z_Shp} {o : Nat} (hl : l.stackTraces = false) (hW : z_W S o) (hO : S[67]? = some (1, 1, [])) (N : Nat) (a0 : Int32) (D : z_Dat) : ∀ out, z_ko (z_kI S) (F_L_fits N o a0 D) out → z_EM l M_L_fits (70, 760, 1, 6) [.ref 0, .int a0, .ref 67] S D out := by
  have hs0 : S[0]? = some (12, 15, [some (some 1), some (some 3), some (some 5), some (some 7), some (some 12), some (some 15), some (some 21), some (some 25), some (some 28), some (some 32), some (some 33), some (some o), none, none, none]) := hW.1 0 _ rfl
  refine z_methH hl rfl kp_L (Nat.le_of_ble_eq_true rfl) (lv := [some (.ref 0), some (.int a0), some (.ref 67), none]) rfl ?_
  unfold F_L_fits
  refine z_aload_n (i := 2) (x := 67) dL_fits_0 rfl rfl ?_
  refine z_iconst (v := 0) dL_fits_1 rfl ?_
  refine z_aload_n (i := 0) (x := 0) dL_fits_2 rfl rfl ?_
  refine z_iload_n (i := 1) (x := a0) dL_fits_3 rfl rfl ?_
  refine z_cCI (As := [.ref 0, .int a0]) (rest := [.int 0, .ref 67]) (em_X10_fits hl hW N a0 D) (fun o7 h => z_runV 71 1 h rfl kk_L_71 hs0 kl_10.1 kq_X10_fits rfl (Nat.le_of_ble_eq_true rfl) ⟨Nat.le_of_ble_eq_true rfl, Nat.le_of_ble_eq_true rfl, Nat.le_of_ble_eq_true rfl, Nat.le_of_ble_eq_true rfl⟩ dL_fits_4) z_gWI (fun a => ?_) (fun e hr => ?_)
  · refine z_i2l dL_fits_7 ?_
    refine z_lastF (k := 67) dL_fits_8 hO (vp_in_iff.mpr (by decide)) ?_
    refine z_goto 15 dL_fits_9 (by decide) ?_
    refine z_iconst (v := 0) dL_fits_15 rfl ?_
    exact z_ireturn dL_fits_16 z_rWI rfl (by simp) (by simp)
  · refine z_ite (fun c => ?_) (fun c => ?_)
    · refine z_catch (i := 3) (n := 1) c [] [] hr rfl (fun z hz => absurd hz List.not_mem_nil) (by decide) (by decide) kx_L13 kx_IAE (Or.inl ⟨_, dL_fits_12, rfl, rfl⟩) (by decide) (Nat.le_refl _) z_gWI ?_
      refine z_iconst (v := 1) dL_fits_13 rfl ?_
      exact z_ireturn dL_fits_14 z_rWI rfl (by simp) (by simp)
    · exact z_none

def F_L_look (N : Nat) (o : Nat) (a0 : Int32) (D : z_Dat) : Option (Int32 × z_Dat) :=
  z_try (F_X10_look N o a0 D) (fun a => some (0, z_upJ a.2 67 0 a.1.toInt64)) (fun e => if e.1 = "java/lang/IllegalArgumentException" then (some (1, e.2)) else (none))
set_option maxRecDepth 100000 in
set_option maxHeartbeats 4000000 in
theorem em_L_look {l : Launch} {S : List z_Shp} {o : Nat} (hl : l.stackTraces = false) (hW : z_W S o) (hO : S[67]? = some (1, 1, [])) (N : Nat) (a0 : Int32) (D : z_Dat) : ∀ out, z_ko (z_kI S) (F_L_look N o a0 D) out → z_EM l M_L_look (70, 820, 1, 6) [.ref 0, .int a0, .ref 67] S D out := by
  have hs0 : S[0]? = some (12, 15, [some (some 1), some (some 3), some (some 5), some (some 7), some (some 12), some (some 15), some (some 21), some (some 25), some (some 28), some (some 32), some (some 33), some (some o), none, none, none]) := hW.1 0 _ rfl
  refine z_methH hl rfl kp_L (Nat.le_of_ble_eq_true rfl) (lv := [some (.ref 0), some (.int a0), some (.ref 67), none]) rfl ?_
  unfold F_L_look
  refine z_aload_n (i := 2) (x := 67) dL_look_0 rfl rfl ?_
  refine z_iconst (v := 0) dL_look_1 rfl ?_
  refine z_aload_n (i := 0) (x := 0) dL_look_2 rfl rfl ?_
  refine z_iload_n (i := 1) (x := a0) dL_look_3 rfl rfl ?_
  refine z_cCI (As := [.ref 0, .int a0]) (rest := [.int 0, .ref 67]) (em_X10_look hl hW N a0 D) (fun o7 h => z_runV 74 1 h rfl kk_L_74 hs0 kl_10.1 kq_X10_look rfl (Nat.le_of_ble_eq_true rfl) ⟨Nat.le_of_ble_eq_true rfl, Nat.le_of_ble_eq_true rfl, Nat.le_of_ble_eq_true rfl, Nat.le_of_ble_eq_true rfl⟩ dL_look_4) z_gWI (fun a => ?_) (fun e hr => ?_)
  · refine z_i2l dL_look_7 ?_
    refine z_lastF (k := 67) dL_look_8 hO (vp_in_iff.mpr (by decide)) ?_
    refine z_goto 15 dL_look_9 (by decide) ?_
    refine z_iconst (v := 0) dL_look_15 rfl ?_
    exact z_ireturn dL_look_16 z_rWI rfl (by simp) (by simp)
  · refine z_ite (fun c => ?_) (fun c => ?_)
    · refine z_catch (i := 3) (n := 1) c [] [] hr rfl (fun z hz => absurd hz List.not_mem_nil) (by decide) (by decide) kx_L13 kx_IAE (Or.inl ⟨_, dL_look_12, rfl, rfl⟩) (by decide) (Nat.le_refl _) z_gWI ?_
      refine z_iconst (v := 1) dL_look_13 rfl ?_
      exact z_ireturn dL_look_14 z_rWI rfl (by simp) (by simp)
    · exact z_none

def F_L_match (N : Nat) (o : Nat) (a0 : Int32) (D : z_Dat) : Option (Int32 × z_Dat) :=
  z_try (F_X10_match N o a0 D) (fun a => some (0, z_upJ a.2 67 0 a.1.toInt64)) (fun e => if e.1 = "java/lang/IllegalArgumentException" then (some (1, e.2)) else (none))
set_option maxRecDepth 100000 in
set_option maxHeartbeats 4000000 in
theorem em_L_match {l : Launch} {S : List z_Shp} {o : Nat} (hl : l.stackTraces = false) (hW : z_W S o) (hO : S[67]? = some (1, 1, [])) (N : Nat) (a0 : Int32) (D : z_Dat) : ∀ out, z_ko (z_kI S) (F_L_match N o a0 D) out → z_EM l M_L_match (80, 880, 1, 6) [.ref 0, .int a0, .ref 67] S D out := by
  have hs0 : S[0]? = some (12, 15, [some (some 1), some (some 3), some (some 5), some (some 7), some (some 12), some (some 15), some (some 21), some (some 25), some (some 28), some (some 32), some (some 33), some (some o), none, none, none]) := hW.1 0 _ rfl
  refine z_methH hl rfl kp_L (Nat.le_of_ble_eq_true rfl) (lv := [some (.ref 0), some (.int a0), some (.ref 67), none]) rfl ?_
  unfold F_L_match
  refine z_aload_n (i := 2) (x := 67) dL_match_0 rfl rfl ?_
  refine z_iconst (v := 0) dL_match_1 rfl ?_
  refine z_aload_n (i := 0) (x := 0) dL_match_2 rfl rfl ?_
  refine z_iload_n (i := 1) (x := a0) dL_match_3 rfl rfl ?_
  refine z_cCI (As := [.ref 0, .int a0]) (rest := [.int 0, .ref 67]) (em_X10_match hl hW N a0 D) (fun o7 h => z_runV 77 1 h rfl kk_L_77 hs0 kl_10.1 kq_X10_match rfl (Nat.le_of_ble_eq_true rfl) ⟨Nat.le_of_ble_eq_true rfl, Nat.le_of_ble_eq_true rfl, Nat.le_of_ble_eq_true rfl, Nat.le_of_ble_eq_true rfl⟩ dL_match_4) z_gWI (fun a => ?_) (fun e hr => ?_)
  · refine z_i2l dL_match_7 ?_
    refine z_lastF (k := 67) dL_match_8 hO (vp_in_iff.mpr (by decide)) ?_
    refine z_goto 15 dL_match_9 (by decide) ?_
    refine z_iconst (v := 0) dL_match_15 rfl ?_
    exact z_ireturn dL_match_16 z_rWI rfl (by simp) (by simp)
  · refine z_ite (fun c => ?_) (fun c => ?_)
    · refine z_catch (i := 3) (n := 1) c [] [] hr rfl (fun z hz => absurd hz List.not_mem_nil) (by decide) (by decide) kx_L13 kx_IAE (Or.inl ⟨_, dL_match_12, rfl, rfl⟩) (by decide) (Nat.le_refl _) z_gWI ?_
      refine z_iconst (v := 1) dL_match_13 rfl ?_
      exact z_ireturn dL_match_14 z_rWI rfl (by simp) (by simp)
    · exact z_none

def F_L_bride (N : Nat) (o : Nat) (a0 : Int32) (D : z_Dat) : Option (Int32 × z_Dat) :=
  z_try (F_X10_bride N o a0 D) (fun a => some (0, z_upJ a.2 67 0 a.1.toInt64)) (fun e => if e.1 = "java/util/NoSuchElementException" then (some (1, e.2)) else (none))
set_option maxRecDepth 100000 in
set_option maxHeartbeats 4000000 in
theorem em_L_bride {l : Launch} {S : List z_Shp} {o : Nat} (hl : l.stackTraces = false) (hW : z_W S o) (hO : S[67]? = some (1, 1, [])) (N : Nat) (a0 : Int32) (D : z_Dat) : ∀ out, z_ko (z_kI S) (F_L_bride N o a0 D) out → z_EM l M_L_bride (80, 880, 1, 6) [.ref 0, .int a0, .ref 67] S D out := by
  have hs0 : S[0]? = some (12, 15, [some (some 1), some (some 3), some (some 5), some (some 7), some (some 12), some (some 15), some (some 21), some (some 25), some (some 28), some (some 32), some (some 33), some (some o), none, none, none]) := hW.1 0 _ rfl
  refine z_methH hl rfl kp_L (Nat.le_of_ble_eq_true rfl) (lv := [some (.ref 0), some (.int a0), some (.ref 67), none]) rfl ?_
  unfold F_L_bride
  refine z_aload_n (i := 2) (x := 67) dL_bride_0 rfl rfl ?_
  refine z_iconst (v := 0) dL_bride_1 rfl ?_
  refine z_aload_n (i := 0) (x := 0) dL_bride_2 rfl rfl ?_
  refine z_iload_n (i := 1) (x := a0) dL_bride_3 rfl rfl ?_
  refine z_cCI (As := [.ref 0, .int a0]) (rest := [.int 0, .ref 67]) (em_X10_bride hl hW N a0 D) (fun o7 h => z_runV 80 1 h rfl kk_L_80 hs0 kl_10.1 kq_X10_bride rfl (Nat.le_of_ble_eq_true rfl) ⟨Nat.le_of_ble_eq_true rfl, Nat.le_of_ble_eq_true rfl, Nat.le_of_ble_eq_true rfl, Nat.le_of_ble_eq_true rfl⟩ dL_bride_4) z_gWI (fun a => ?_) (fun e hr => ?_)
  · refine z_i2l dL_bride_7 ?_
    refine z_lastF (k := 67) dL_bride_8 hO (vp_in_iff.mpr (by decide)) ?_
    refine z_goto 15 dL_bride_9 (by decide) ?_
    refine z_iconst (v := 0) dL_bride_15 rfl ?_
    exact z_ireturn dL_bride_16 z_rWI rfl (by simp) (by simp)
  · refine z_ite (fun c => ?_) (fun c => ?_)
    · refine z_catch (i := 3) (n := 1) c [] [] hr rfl (fun z hz => absurd hz List.not_mem_nil) (by decide) (by decide) kx_L31 kx_NSE (Or.inl ⟨_, dL_bride_12, rfl, rfl⟩) (by decide) (Nat.le_refl _) z_gWI ?_
      refine z_iconst (v := 1) dL_bride_13 rfl ?_
      exact z_ireturn dL_bride_14 z_rWI rfl (by simp) (by simp)
    · exact z_none

def F_L_enough (N : Nat) (o : Nat) (a0 : Int32) (D : z_Dat) : Option (Int32 × z_Dat) :=
  z_try (F_X10_enough N o a0 D) (fun a => some (0, z_upJ a.2 67 0 a.1.toInt64)) (fun e => if e.1 = "java/lang/IllegalArgumentException" then (some (1, e.2)) else (none))
set_option maxRecDepth 100000 in
set_option maxHeartbeats 4000000 in
theorem em_L_enough {l : Launch} {S : List z_Shp} {o : Nat} (hl : l.stackTraces = false) (hW : z_W S o) (hO : S[67]? = some (1, 1, [])) (N : Nat) (a0 : Int32) (D : z_Dat) : ∀ out, z_ko (z_kI S) (F_L_enough N o a0 D) out → z_EM l M_L_enough (70, 760, 1, 6) [.ref 0, .int a0, .ref 67] S D out := by
  have hs0 : S[0]? = some (12, 15, [some (some 1), some (some 3), some (some 5), some (some 7), some (some 12), some (some 15), some (some 21), some (some 25), some (some 28), some (some 32), some (some 33), some (some o), none, none, none]) := hW.1 0 _ rfl
  refine z_methH hl rfl kp_L (Nat.le_of_ble_eq_true rfl) (lv := [some (.ref 0), some (.int a0), some (.ref 67), none]) rfl ?_
  unfold F_L_enough
  refine z_aload_n (i := 2) (x := 67) dL_enough_0 rfl rfl ?_
  refine z_iconst (v := 0) dL_enough_1 rfl ?_
  refine z_aload_n (i := 0) (x := 0) dL_enough_2 rfl rfl ?_
  refine z_iload_n (i := 1) (x := a0) dL_enough_3 rfl rfl ?_
  refine z_cCI (As := [.ref 0, .int a0]) (rest := [.int 0, .ref 67]) (em_X10_enough hl hW N a0 D) (fun o7 h => z_runV 83 1 h rfl kk_L_83 hs0 kl_10.1 kq_X10_enough rfl (Nat.le_of_ble_eq_true rfl) ⟨Nat.le_of_ble_eq_true rfl, Nat.le_of_ble_eq_true rfl, Nat.le_of_ble_eq_true rfl, Nat.le_of_ble_eq_true rfl⟩ dL_enough_4) z_gWI (fun a => ?_) (fun e hr => ?_)
  · refine z_i2l dL_enough_7 ?_
    refine z_lastF (k := 67) dL_enough_8 hO (vp_in_iff.mpr (by decide)) ?_
    refine z_goto 15 dL_enough_9 (by decide) ?_
    refine z_iconst (v := 0) dL_enough_15 rfl ?_
    exact z_ireturn dL_enough_16 z_rWI rfl (by simp) (by simp)
  · refine z_ite (fun c => ?_) (fun c => ?_)
    · refine z_catch (i := 3) (n := 1) c [] [] hr rfl (fun z hz => absurd hz List.not_mem_nil) (by decide) (by decide) kx_L13 kx_IAE (Or.inl ⟨_, dL_enough_12, rfl, rfl⟩) (by decide) (Nat.le_refl _) z_gWI ?_
      refine z_iconst (v := 1) dL_enough_13 rfl ?_
      exact z_ireturn dL_enough_14 z_rWI rfl (by simp) (by simp)
    · exact z_none

def F_L_level (N : Nat) (a0 : Int32) (a1 : Int32) (D : z_Dat) : Option (Int32 × z_Dat) :=
  z_try (F_X10_level N a0 a1 D) (fun a => some (0, z_upJ a.2 67 0 a.1.toInt64)) (fun e => if e.1 = "java/util/NoSuchElementException" then (some (1, e.2)) else (if e.1 = "java/lang/IllegalArgumentException" then (some (2, e.2)) else (none)))
set_option maxRecDepth 100000 in
set_option maxHeartbeats 4000000 in
theorem em_L_level {l : Launch} {S : List z_Shp} {o : Nat} (hl : l.stackTraces = false) (hW : z_W S o) (hO : S[67]? = some (1, 1, [])) (N : Nat) (a0 : Int32) (a1 : Int32) (D : z_Dat) : ∀ out, z_ko (z_kI S) (F_L_level N a0 a1 D) out → z_EM l M_L_level (70, 700, 2, 12) [.ref 0, .int a0, .int a1, .ref 67] S D out := by
  have hs0 : S[0]? = some (12, 15, [some (some 1), some (some 3), some (some 5), some (some 7), some (some 12), some (some 15), some (some 21), some (some 25), some (some 28), some (some 32), some (some 33), some (some o), none, none, none]) := hW.1 0 _ rfl
  refine z_methH hl rfl kp_L (Nat.le_of_ble_eq_true rfl) (lv := [some (.ref 0), some (.int a0), some (.int a1), some (.ref 67), none]) rfl ?_
  unfold F_L_level
  refine z_aload_n (i := 3) (x := 67) dL_level_0 rfl rfl ?_
  refine z_iconst (v := 0) dL_level_1 rfl ?_
  refine z_aload_n (i := 0) (x := 0) dL_level_2 rfl rfl ?_
  refine z_iload_n (i := 1) (x := a0) dL_level_3 rfl rfl ?_
  refine z_iload_n (i := 2) (x := a1) dL_level_4 rfl rfl ?_
  refine z_cCI (As := [.ref 0, .int a0, .int a1]) (rest := [.int 0, .ref 67]) (em_X10_level hl hW N a0 a1 D) (fun o7 h => z_runV 86 2 h rfl kk_L_86 hs0 kl_10.1 kq_X10_level rfl (Nat.le_of_ble_eq_true rfl) ⟨Nat.le_of_ble_eq_true rfl, Nat.le_of_ble_eq_true rfl, Nat.le_of_ble_eq_true rfl, Nat.le_of_ble_eq_true rfl⟩ dL_level_5) z_gWI (fun a => ?_) (fun e hr => ?_)
  · refine z_i2l dL_level_8 ?_
    refine z_lastF (k := 67) dL_level_9 hO (vp_in_iff.mpr (by decide)) ?_
    refine z_goto 21 dL_level_10 (by decide) ?_
    refine z_iconst (v := 0) dL_level_21 rfl ?_
    exact z_ireturn dL_level_22 z_rWI rfl (by simp) (by simp)
  · refine z_ite (fun c => ?_) (fun c => ?_)
    · refine z_catch (i := 4) (n := 2) c [] [(0, 10, 17, 13)] hr rfl (fun z hz => absurd hz List.not_mem_nil) (by decide) (by decide) kx_L31 kx_NSE (Or.inr ⟨dL_level_13, rfl⟩) (by decide) (Nat.le_refl _) z_gWI ?_
      refine z_iconst (v := 1) dL_level_15 rfl ?_
      exact z_ireturn dL_level_16 z_rWI rfl (by simp) (by simp)
    · refine z_ite (fun c => ?_) (fun c => ?_)
      · refine z_catch (i := 4) (n := 2) c [(0, 10, 13, 31)] [] hr rfl (fun z hz => by rw [List.mem_singleton.mp hz]; exact ⟨by decide, rfl, kx_L31⟩) (by decide) (by decide) kx_L13 kx_IAE (Or.inr ⟨dL_level_17, rfl⟩) (by decide) (Nat.le_refl _) z_gWI ?_
        refine z_iconst (v := 2) dL_level_19 rfl ?_
        exact z_ireturn dL_level_20 z_rWI rfl (by simp) (by simp)
      · exact z_none

def F_L_night (N : Nat) (a0 : Int32) (a1 : Int32) (a2 : Int32) (D : z_Dat) : Option (Int32 × z_Dat) :=
  z_try (F_X10_night N a0 a1 a2 D) (fun a => some (0, z_upJ a.2 67 0 a.1)) (fun e => if e.1 = "java/lang/IllegalArgumentException" then (some (1, e.2)) else (none))
set_option maxRecDepth 100000 in
set_option maxHeartbeats 4000000 in
theorem em_L_night {l : Launch} {S : List z_Shp} {o : Nat} (hl : l.stackTraces = false) (hW : z_W S o) (hO : S[67]? = some (1, 1, [])) (N : Nat) (a0 : Int32) (a1 : Int32) (a2 : Int32) (D : z_Dat) : ∀ out, z_ko (z_kI S) (F_L_night N a0 a1 a2 D) out → z_EM l M_L_night (70, 700, 2, 12) [.ref 0, .int a0, .int a1, .int a2, .ref 67] S D out := by
  have hs0 : S[0]? = some (12, 15, [some (some 1), some (some 3), some (some 5), some (some 7), some (some 12), some (some 15), some (some 21), some (some 25), some (some 28), some (some 32), some (some 33), some (some o), none, none, none]) := hW.1 0 _ rfl
  refine z_methH hl rfl kp_L (Nat.le_of_ble_eq_true rfl) (lv := [some (.ref 0), some (.int a0), some (.int a1), some (.int a2), some (.ref 67), none]) rfl ?_
  unfold F_L_night
  refine z_aload (i := 4) (x := 67) dL_night_0 rfl ?_
  refine z_iconst (v := 0) dL_night_2 rfl ?_
  refine z_aload_n (i := 0) (x := 0) dL_night_3 rfl rfl ?_
  refine z_iload_n (i := 1) (x := a0) dL_night_4 rfl rfl ?_
  refine z_iload_n (i := 2) (x := a1) dL_night_5 rfl rfl ?_
  refine z_iload_n (i := 3) (x := a2) dL_night_6 rfl rfl ?_
  refine z_cCJ (As := [.ref 0, .int a0, .int a1, .int a2]) (rest := [.int 0, .ref 67]) (em_X10_night hl hW N a0 a1 a2 D) (fun o7 h => z_runV 89 3 h rfl kk_L_89 hs0 kl_10.1 kq_X10_night rfl (Nat.le_of_ble_eq_true rfl) ⟨Nat.le_of_ble_eq_true rfl, Nat.le_of_ble_eq_true rfl, Nat.le_of_ble_eq_true rfl, Nat.le_of_ble_eq_true rfl⟩ dL_night_7) z_gWI (fun a => ?_) (fun e hr => ?_)
  · refine z_lastF (k := 67) dL_night_10 hO (vp_in_iff.mpr (by decide)) ?_
    refine z_goto 18 dL_night_11 (by decide) ?_
    refine z_iconst (v := 0) dL_night_18 rfl ?_
    exact z_ireturn dL_night_19 z_rWI rfl (by simp) (by simp)
  · refine z_ite (fun c => ?_) (fun c => ?_)
    · refine z_catch (i := 5) (n := 2) c [] [] hr rfl (fun z hz => absurd hz List.not_mem_nil) (by decide) (by decide) kx_L13 kx_IAE (Or.inr ⟨dL_night_14, rfl⟩) (by decide) (Nat.le_refl _) z_gWI ?_
      refine z_iconst (v := 1) dL_night_16 rfl ?_
      exact z_ireturn dL_night_17 z_rWI rfl (by simp) (by simp)
    · exact z_none

def F_L_guilds (N : Nat) (o : Nat) (a0 : Int32) (D : z_Dat) : Option (Int32 × z_Dat) :=
  z_try (F_X10_guilds N o a0 D) (fun a => some (0, z_upJ a.2 67 0 a.1.toInt64)) (fun e => if e.1 = "java/lang/IllegalArgumentException" then (some (1, e.2)) else (none))
set_option maxRecDepth 100000 in
set_option maxHeartbeats 4000000 in
theorem em_L_guilds {l : Launch} {S : List z_Shp} {o : Nat} (hl : l.stackTraces = false) (hW : z_W S o) (hO : S[67]? = some (1, 1, [])) (N : Nat) (a0 : Int32) (D : z_Dat) : ∀ out, z_ko (z_kI S) (F_L_guilds N o a0 D) out → z_EM l M_L_guilds (70, 820, 1, 6) [.ref 0, .int a0, .ref 67] S D out := by
  have hs0 : S[0]? = some (12, 15, [some (some 1), some (some 3), some (some 5), some (some 7), some (some 12), some (some 15), some (some 21), some (some 25), some (some 28), some (some 32), some (some 33), some (some o), none, none, none]) := hW.1 0 _ rfl
  refine z_methH hl rfl kp_L (Nat.le_of_ble_eq_true rfl) (lv := [some (.ref 0), some (.int a0), some (.ref 67), none]) rfl ?_
  unfold F_L_guilds
  refine z_aload_n (i := 2) (x := 67) dL_guilds_0 rfl rfl ?_
  refine z_iconst (v := 0) dL_guilds_1 rfl ?_
  refine z_aload_n (i := 0) (x := 0) dL_guilds_2 rfl rfl ?_
  refine z_iload_n (i := 1) (x := a0) dL_guilds_3 rfl rfl ?_
  refine z_cCI (As := [.ref 0, .int a0]) (rest := [.int 0, .ref 67]) (em_X10_guilds hl hW N a0 D) (fun o7 h => z_runV 93 1 h rfl kk_L_93 hs0 kl_10.1 kq_X10_guilds rfl (Nat.le_of_ble_eq_true rfl) ⟨Nat.le_of_ble_eq_true rfl, Nat.le_of_ble_eq_true rfl, Nat.le_of_ble_eq_true rfl, Nat.le_of_ble_eq_true rfl⟩ dL_guilds_4) z_gWI (fun a => ?_) (fun e hr => ?_)
  · refine z_i2l dL_guilds_7 ?_
    refine z_lastF (k := 67) dL_guilds_8 hO (vp_in_iff.mpr (by decide)) ?_
    refine z_goto 15 dL_guilds_9 (by decide) ?_
    refine z_iconst (v := 0) dL_guilds_15 rfl ?_
    exact z_ireturn dL_guilds_16 z_rWI rfl (by simp) (by simp)
  · refine z_ite (fun c => ?_) (fun c => ?_)
    · refine z_catch (i := 3) (n := 1) c [] [] hr rfl (fun z hz => absurd hz List.not_mem_nil) (by decide) (by decide) kx_L13 kx_IAE (Or.inl ⟨_, dL_guilds_12, rfl, rfl⟩) (by decide) (Nat.le_refl _) z_gWI ?_
      refine z_iconst (v := 1) dL_guilds_13 rfl ?_
      exact z_ireturn dL_guilds_14 z_rWI rfl (by simp) (by simp)
    · exact z_none

def F_L_follows (N : Nat) (o : Nat) (a0 : Int32) (a1 : Int32) (D : z_Dat) : Option (Int32 × z_Dat) :=
  z_try (F_X10_follows N o a0 a1 D) (fun a => some (0, z_upJ a.2 67 0 a.1.toInt64)) (fun e => if e.1 = "java/util/NoSuchElementException" then (some (1, e.2)) else (none))
set_option maxRecDepth 100000 in
set_option maxHeartbeats 4000000 in
theorem em_L_follows {l : Launch} {S : List z_Shp} {o : Nat} (hl : l.stackTraces = false) (hW : z_W S o) (hO : S[67]? = some (1, 1, [])) (N : Nat) (a0 : Int32) (a1 : Int32) (D : z_Dat) : ∀ out, z_ko (z_kI S) (F_L_follows N o a0 a1 D) out → z_EM l M_L_follows (70, 760, 1, 6) [.ref 0, .int a0, .int a1, .ref 67] S D out := by
  have hs0 : S[0]? = some (12, 15, [some (some 1), some (some 3), some (some 5), some (some 7), some (some 12), some (some 15), some (some 21), some (some 25), some (some 28), some (some 32), some (some 33), some (some o), none, none, none]) := hW.1 0 _ rfl
  refine z_methH hl rfl kp_L (Nat.le_of_ble_eq_true rfl) (lv := [some (.ref 0), some (.int a0), some (.int a1), some (.ref 67), none]) rfl ?_
  unfold F_L_follows
  refine z_aload_n (i := 3) (x := 67) dL_follows_0 rfl rfl ?_
  refine z_iconst (v := 0) dL_follows_1 rfl ?_
  refine z_aload_n (i := 0) (x := 0) dL_follows_2 rfl rfl ?_
  refine z_iload_n (i := 1) (x := a0) dL_follows_3 rfl rfl ?_
  refine z_iload_n (i := 2) (x := a1) dL_follows_4 rfl rfl ?_
  refine z_cCI (As := [.ref 0, .int a0, .int a1]) (rest := [.int 0, .ref 67]) (em_X10_follows hl hW N a0 a1 D) (fun o7 h => z_runV 96 2 h rfl kk_L_96 hs0 kl_10.1 kq_X10_follows rfl (Nat.le_of_ble_eq_true rfl) ⟨Nat.le_of_ble_eq_true rfl, Nat.le_of_ble_eq_true rfl, Nat.le_of_ble_eq_true rfl, Nat.le_of_ble_eq_true rfl⟩ dL_follows_5) z_gWI (fun a => ?_) (fun e hr => ?_)
  · refine z_i2l dL_follows_8 ?_
    refine z_lastF (k := 67) dL_follows_9 hO (vp_in_iff.mpr (by decide)) ?_
    refine z_goto 17 dL_follows_10 (by decide) ?_
    refine z_iconst (v := 0) dL_follows_17 rfl ?_
    exact z_ireturn dL_follows_18 z_rWI rfl (by simp) (by simp)
  · refine z_ite (fun c => ?_) (fun c => ?_)
    · refine z_catch (i := 4) (n := 2) c [] [] hr rfl (fun z hz => absurd hz List.not_mem_nil) (by decide) (by decide) kx_L31 kx_NSE (Or.inr ⟨dL_follows_13, rfl⟩) (by decide) (Nat.le_refl _) z_gWI ?_
      refine z_iconst (v := 1) dL_follows_15 rfl ?_
      exact z_ireturn dL_follows_16 z_rWI rfl (by simp) (by simp)
    · exact z_none

def F_L_ahead (N : Nat) (o : Nat) (a0 : Int32) (a1 : Int32) (D : z_Dat) : Option (Int32 × z_Dat) :=
  z_try (F_X10_ahead N o a0 a1 D) (fun a => some (0, z_upJ a.2 67 0 a.1.toInt64)) (fun e => if e.1 = "java/lang/IllegalArgumentException" then (some (1, e.2)) else (none))
set_option maxRecDepth 100000 in
set_option maxHeartbeats 4000000 in
theorem em_L_ahead {l : Launch} {S : List z_Shp} {o : Nat} (hl : l.stackTraces = false) (hW : z_W S o) (hO : S[67]? = some (1, 1, [])) (N : Nat) (a0 : Int32) (a1 : Int32) (D : z_Dat) : ∀ out, z_ko (z_kI S) (F_L_ahead N o a0 a1 D) out → z_EM l M_L_ahead (80, 880, 1, 6) [.ref 0, .int a0, .int a1, .ref 67] S D out := by
  have hs0 : S[0]? = some (12, 15, [some (some 1), some (some 3), some (some 5), some (some 7), some (some 12), some (some 15), some (some 21), some (some 25), some (some 28), some (some 32), some (some 33), some (some o), none, none, none]) := hW.1 0 _ rfl
  refine z_methH hl rfl kp_L (Nat.le_of_ble_eq_true rfl) (lv := [some (.ref 0), some (.int a0), some (.int a1), some (.ref 67), none]) rfl ?_
  unfold F_L_ahead
  refine z_aload_n (i := 3) (x := 67) dL_ahead_0 rfl rfl ?_
  refine z_iconst (v := 0) dL_ahead_1 rfl ?_
  refine z_aload_n (i := 0) (x := 0) dL_ahead_2 rfl rfl ?_
  refine z_iload_n (i := 1) (x := a0) dL_ahead_3 rfl rfl ?_
  refine z_iload_n (i := 2) (x := a1) dL_ahead_4 rfl rfl ?_
  refine z_cCI (As := [.ref 0, .int a0, .int a1]) (rest := [.int 0, .ref 67]) (em_X10_ahead hl hW N a0 a1 D) (fun o7 h => z_runV 99 2 h rfl kk_L_99 hs0 kl_10.1 kq_X10_ahead rfl (Nat.le_of_ble_eq_true rfl) ⟨Nat.le_of_ble_eq_true rfl, Nat.le_of_ble_eq_true rfl, Nat.le_of_ble_eq_true rfl, Nat.le_of_ble_eq_true rfl⟩ dL_ahead_5) z_gWI (fun a => ?_) (fun e hr => ?_)
  · refine z_i2l dL_ahead_8 ?_
    refine z_lastF (k := 67) dL_ahead_9 hO (vp_in_iff.mpr (by decide)) ?_
    refine z_goto 17 dL_ahead_10 (by decide) ?_
    refine z_iconst (v := 0) dL_ahead_17 rfl ?_
    exact z_ireturn dL_ahead_18 z_rWI rfl (by simp) (by simp)
  · refine z_ite (fun c => ?_) (fun c => ?_)
    · refine z_catch (i := 4) (n := 2) c [] [] hr rfl (fun z hz => absurd hz List.not_mem_nil) (by decide) (by decide) kx_L13 kx_IAE (Or.inr ⟨dL_ahead_13, rfl⟩) (by decide) (Nat.le_refl _) z_gWI ?_
      refine z_iconst (v := 1) dL_ahead_15 rfl ?_
      exact z_ireturn dL_ahead_16 z_rWI rfl (by simp) (by simp)
    · exact z_none

def F_L_ages (N : Nat) (o : Nat) (a0 : Int32) (a1 : Int32) (a2 : Int32) (a3 : Int32) (D : z_Dat) : Option (Int32 × z_Dat) :=
  z_try (F_X10_ages N o a0 a1 a2 a3 D) (fun a => some (0, z_upJ a.2 67 0 a.1.toInt64)) (fun e => if e.1 = "java/lang/IllegalArgumentException" then (some (1, e.2)) else (none))
set_option maxRecDepth 100000 in
set_option maxHeartbeats 4000000 in
theorem em_L_ages {l : Launch} {S : List z_Shp} {o : Nat} (hl : l.stackTraces = false) (hW : z_W S o) (hO : S[67]? = some (1, 1, [])) (N : Nat) (a0 : Int32) (a1 : Int32) (a2 : Int32) (a3 : Int32) (D : z_Dat) : ∀ out, z_ko (z_kI S) (F_L_ages N o a0 a1 a2 a3 D) out → z_EM l M_L_ages (90, 940, 1, 6) [.ref 0, .int a0, .int a1, .int a2, .int a3, .ref 67] S D out := by
  have hs0 : S[0]? = some (12, 15, [some (some 1), some (some 3), some (some 5), some (some 7), some (some 12), some (some 15), some (some 21), some (some 25), some (some 28), some (some 32), some (some 33), some (some o), none, none, none]) := hW.1 0 _ rfl
  refine z_methH hl rfl kp_L (Nat.le_of_ble_eq_true rfl) (lv := [some (.ref 0), some (.int a0), some (.int a1), some (.int a2), some (.int a3), some (.ref 67), none]) rfl ?_
  unfold F_L_ages
  refine z_aload (i := 5) (x := 67) dL_ages_0 rfl ?_
  refine z_iconst (v := 0) dL_ages_2 rfl ?_
  refine z_aload_n (i := 0) (x := 0) dL_ages_3 rfl rfl ?_
  refine z_iload_n (i := 1) (x := a0) dL_ages_4 rfl rfl ?_
  refine z_iload_n (i := 2) (x := a1) dL_ages_5 rfl rfl ?_
  refine z_iload_n (i := 3) (x := a2) dL_ages_6 rfl rfl ?_
  refine z_iload (i := 4) (x := a3) dL_ages_7 rfl ?_
  refine z_cCI (As := [.ref 0, .int a0, .int a1, .int a2, .int a3]) (rest := [.int 0, .ref 67]) (em_X10_ages hl hW N a0 a1 a2 a3 D) (fun o7 h => z_runV 102 4 h rfl kk_L_102 hs0 kl_10.1 kq_X10_ages rfl (Nat.le_of_ble_eq_true rfl) ⟨Nat.le_of_ble_eq_true rfl, Nat.le_of_ble_eq_true rfl, Nat.le_of_ble_eq_true rfl, Nat.le_of_ble_eq_true rfl⟩ dL_ages_9) z_gWI (fun a => ?_) (fun e hr => ?_)
  · refine z_i2l dL_ages_12 ?_
    refine z_lastF (k := 67) dL_ages_13 hO (vp_in_iff.mpr (by decide)) ?_
    refine z_goto 21 dL_ages_14 (by decide) ?_
    refine z_iconst (v := 0) dL_ages_21 rfl ?_
    exact z_ireturn dL_ages_22 z_rWI rfl (by simp) (by simp)
  · refine z_ite (fun c => ?_) (fun c => ?_)
    · refine z_catch (i := 6) (n := 2) c [] [] hr rfl (fun z hz => absurd hz List.not_mem_nil) (by decide) (by decide) kx_L13 kx_IAE (Or.inr ⟨dL_ages_17, rfl⟩) (by decide) (Nat.le_refl _) z_gWI ?_
      refine z_iconst (v := 1) dL_ages_19 rfl ?_
      exact z_ireturn dL_ages_20 z_rWI rfl (by simp) (by simp)
    · exact z_none

def F_L_span (N : Nat) (o : Nat) (a0 : Int32) (a1 : Int32) (a2 : Int32) (a3 : Int32) (a4 : Int32) (D : z_Dat) : Option (Int32 × z_Dat) :=
  z_try (F_X10_span N o a0 a1 a2 a3 a4 D) (fun a => some (0, z_upJ a.2 67 0 a.1.toInt64)) (fun e => if e.1 = "java/lang/IllegalArgumentException" then (some (1, e.2)) else (none))
set_option maxRecDepth 100000 in
set_option maxHeartbeats 4000000 in
theorem em_L_span {l : Launch} {S : List z_Shp} {o : Nat} (hl : l.stackTraces = false) (hW : z_W S o) (hO : S[67]? = some (1, 1, [])) (N : Nat) (a0 : Int32) (a1 : Int32) (a2 : Int32) (a3 : Int32) (a4 : Int32) (D : z_Dat) : ∀ out, z_ko (z_kI S) (F_L_span N o a0 a1 a2 a3 a4 D) out → z_EM l M_L_span (90, 940, 2, 12) [.ref 0, .int a0, .int a1, .int a2, .int a3, .int a4, .ref 67] S D out := by
  have hs0 : S[0]? = some (12, 15, [some (some 1), some (some 3), some (some 5), some (some 7), some (some 12), some (some 15), some (some 21), some (some 25), some (some 28), some (some 32), some (some 33), some (some o), none, none, none]) := hW.1 0 _ rfl
  refine z_methH hl rfl kp_L (Nat.le_of_ble_eq_true rfl) (lv := [some (.ref 0), some (.int a0), some (.int a1), some (.int a2), some (.int a3), some (.int a4), some (.ref 67), none]) rfl ?_
  unfold F_L_span
  refine z_aload (i := 6) (x := 67) dL_span_0 rfl ?_
  refine z_iconst (v := 0) dL_span_2 rfl ?_
  refine z_aload_n (i := 0) (x := 0) dL_span_3 rfl rfl ?_
  refine z_iload_n (i := 1) (x := a0) dL_span_4 rfl rfl ?_
  refine z_iload_n (i := 2) (x := a1) dL_span_5 rfl rfl ?_
  refine z_iload_n (i := 3) (x := a2) dL_span_6 rfl rfl ?_
  refine z_iload (i := 4) (x := a3) dL_span_7 rfl ?_
  refine z_iload (i := 5) (x := a4) dL_span_9 rfl ?_
  refine z_cCI (As := [.ref 0, .int a0, .int a1, .int a2, .int a3, .int a4]) (rest := [.int 0, .ref 67]) (em_X10_span hl hW N a0 a1 a2 a3 a4 D) (fun o7 h => z_runV 106 5 h rfl kk_L_106 hs0 kl_10.1 kq_X10_span rfl (Nat.le_of_ble_eq_true rfl) ⟨Nat.le_of_ble_eq_true rfl, Nat.le_of_ble_eq_true rfl, Nat.le_of_ble_eq_true rfl, Nat.le_of_ble_eq_true rfl⟩ dL_span_11) z_gWI (fun a => ?_) (fun e hr => ?_)
  · refine z_i2l dL_span_14 ?_
    refine z_lastF (k := 67) dL_span_15 hO (vp_in_iff.mpr (by decide)) ?_
    refine z_goto 23 dL_span_16 (by decide) ?_
    refine z_iconst (v := 0) dL_span_23 rfl ?_
    exact z_ireturn dL_span_24 z_rWI rfl (by simp) (by simp)
  · refine z_ite (fun c => ?_) (fun c => ?_)
    · refine z_catch (i := 7) (n := 2) c [] [] hr rfl (fun z hz => absurd hz List.not_mem_nil) (by decide) (by decide) kx_L13 kx_IAE (Or.inr ⟨dL_span_19, rfl⟩) (by decide) (Nat.le_refl _) z_gWI ?_
      refine z_iconst (v := 1) dL_span_21 rfl ?_
      exact z_ireturn dL_span_22 z_rWI rfl (by simp) (by simp)
    · exact z_none
