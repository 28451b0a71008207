/-! ===== calls over z_F: by how the callee's answer is told ===== -/
def z_kI (S : List z_Shp) : Int32 × z_Dat → z_Out := fun a => (.inl (some (.int a.1)), S, a.2)
def z_kJ (S : List z_Shp) : Int64 × z_Dat → z_Out := fun a => (.inl (some (.long a.1)), S, a.2)
def z_kV (S : List z_Shp) : z_Dat → z_Out := fun a => (.inl none, S, a)
def z_kR (S : List z_Shp) (D : z_Dat) : Int32 → z_Out := fun a => (.inl (some (.int a)), S, D)
def z_kRJ (S : List z_Shp) (D : z_Dat) : Int64 → z_Out := fun a => (.inl (some (.long a)), S, D)
def z_kTI (S : List z_Shp) : (Int32 × z_Dat) ⊕ (String × z_Dat) → z_Out := fun a => match a with
  | .inl a => (.inl (some (.int a.1)), S, a.2)
  | .inr a => (.inr a.1, S, a.2)
def z_kTJ (S : List z_Shp) : (Int64 × z_Dat) ⊕ (String × z_Dat) → z_Out := fun a => match a with
  | .inl a => (.inl (some (.long a.1)), S, a.2)
  | .inr a => (.inr a.1, S, a.2)
def z_kTV (S : List z_Shp) : z_Dat ⊕ (String × z_Dat) → z_Out := fun a => match a with
  | .inl a => (.inl none, S, a)
  | .inr a => (.inr a.1, S, a.2)
/-- a call that may throw, in a method that lets it through -/
def z_bt {α β : Type} (x : Option (α ⊕ (String × z_Dat))) (k : α → Option (β ⊕ (String × z_Dat))) : Option (β ⊕ (String × z_Dat)) := match x with
  | none => none
  | some (.inl a) => k a
  | some (.inr a) => some (.inr a)
def z_min (x y : Int32) : Int32 := if y < x then y else x
def z_max (x y : Int32) : Int32 := if x < y then y else x
def z_abs (x : Int32) : Int32 := if 0 ≤ x then x else 0 - x
/-- at(row, k), put(row, k, v) -/
def z_at (r : Nat → Int32) (n : Nat) (k : Int32) : Int32 := if 0 ≤ k.toInt ∧ k.toInt < n then r (z_ix k) else 0
def z_put (D : z_Dat) (a n : Nat) (k v : Int32) : z_Dat := if 0 ≤ k.toInt ∧ k.toInt < n then z_up D a (z_ix k) v else D
section ZC
variable {l : Launch} {M M' : z_M} {B B' : z_B} {cu su pc : Nat} {lv : List (Option Value)} {As rest : List Value} {S : List z_Shp} {D : z_Dat}
theorem z_call0 {o' : z_Out} {v : Option Value} {out : z_Out} (hr : z_Runs l M B M' B' cu su pc As rest S D o') (ho : o'.1 = .inl v) (hv : ∀ (ρ : z_Rho), v.map (z_cv ρ) = v) (hs : o'.2.1 = S) (h2 : S.length ≤ out.2.1.length) (kk : z_E l M B (cu + B'.2.2.1) (su + B'.2.2.2) (pc + 3) lv (v.toList ++ rest) S o'.2.2 out) : z_E l M B cu su pc lv (As.reverse ++ rest) S D out := by
  refine z_call hr ho hv (z_same_eq (by rw [hs])) (by rw [hs]; exact Nat.le_refl _) (by rw [hs]; exact h2) (by rw [hs]; exact kk)

/-- the method's end has no fewer cells than now -/
def z_gr {γ : Type} (S : List z_Shp) (κ : γ → z_Out → Prop) : Prop := ∀ f out, κ f out → S.length ≤ out.2.1.length
theorem z_cP {γ : Type} {κ : γ → z_Out → Prop} {f : γ} {F' : Int32} (hM : ∀ out, z_kt (z_kR S D) F' out → z_EM l M' B' As S D out) (hr : ∀ o', z_EM l M' B' As S D o' → z_Runs l M B M' B' cu su pc As rest S D o') (hg : z_gr S κ) (kk : z_okv M'.2.2.2.1 (.inl (some (.int F'))) → z_F l M B (cu + B'.2.2.1) (su + B'.2.2.2) (pc + 3) lv (.int F' :: rest) S D κ f) : z_F l M B cu su pc lv (As.reverse ++ rest) S D κ f := by
  intro out ho
  have hm := hM _ rfl
  have k := kk hm.1 out ho
  exact ⟨k.1, z_call0 (hr _ hm) rfl (fun _ => rfl) rfl (hg _ _ ho) k.2⟩
theorem z_cPJ {γ : Type} {κ : γ → z_Out → Prop} {f : γ} {F' : Int64} (hM : ∀ out, z_kt (z_kRJ S D) F' out → z_EM l M' B' As S D out) (hr : ∀ o', z_EM l M' B' As S D o' → z_Runs l M B M' B' cu su pc As rest S D o') (hg : z_gr S κ) (kk : z_okv M'.2.2.2.1 (.inl (some (.long F'))) → z_F l M B (cu + B'.2.2.1) (su + B'.2.2.2) (pc + 3) lv (.long F' :: rest) S D κ f) : z_F l M B cu su pc lv (As.reverse ++ rest) S D κ f := by
  intro out ho
  have hm := hM _ rfl
  have k := kk hm.1 out ho
  exact ⟨k.1, z_call0 (hr _ hm) rfl (fun _ => rfl) rfl (hg _ _ ho) k.2⟩
theorem z_cR {β : Type} {κ : β → z_Out} {F' : Option (Int32)} {f : Int32 → Option β} (hM : ∀ out, z_ko (z_kR S D) F' out → z_EM l M' B' As S D out) (hr : ∀ o', z_EM l M' B' As S D o' → z_Runs l M B M' B' cu su pc As rest S D o') (hg : z_gr S (z_ko κ)) (kk : ∀ a : Int32, z_okv M'.2.2.2.1 (.inl (some (.int a))) → z_F l M B (cu + B'.2.2.1) (su + B'.2.2.2) (pc + 3) lv (.int a :: rest) S (D) (z_ko κ) (f a)) : z_F l M B cu su pc lv (As.reverse ++ rest) S D (z_ko κ) (z_bd F' f) := by
  intro out ho
  cases hF : F' with
  | none =>
    rw [hF] at ho
    obtain ⟨a, h1, -⟩ := ho
    cases h1
  | some a =>
    have hm := hM _ ⟨a, hF, rfl⟩
    rw [hF] at ho
    have k := kk a hm.1 out ho
    exact ⟨k.1, z_call0 (hr _ hm) rfl (fun _ => rfl) rfl (hg _ _ ho) k.2⟩
theorem z_cRJ {β : Type} {κ : β → z_Out} {F' : Option (Int64)} {f : Int64 → Option β} (hM : ∀ out, z_ko (z_kRJ S D) F' out → z_EM l M' B' As S D out) (hr : ∀ o', z_EM l M' B' As S D o' → z_Runs l M B M' B' cu su pc As rest S D o') (hg : z_gr S (z_ko κ)) (kk : ∀ a : Int64, z_okv M'.2.2.2.1 (.inl (some (.long a))) → z_F l M B (cu + B'.2.2.1) (su + B'.2.2.2) (pc + 3) lv (.long a :: rest) S (D) (z_ko κ) (f a)) : z_F l M B cu su pc lv (As.reverse ++ rest) S D (z_ko κ) (z_bd F' f) := by
  intro out ho
  cases hF : F' with
  | none =>
    rw [hF] at ho
    obtain ⟨a, h1, -⟩ := ho
    cases h1
  | some a =>
    have hm := hM _ ⟨a, hF, rfl⟩
    rw [hF] at ho
    have k := kk a hm.1 out ho
    exact ⟨k.1, z_call0 (hr _ hm) rfl (fun _ => rfl) rfl (hg _ _ ho) k.2⟩
theorem z_cWI {β : Type} {κ : β → z_Out} {F' : Option (Int32 × z_Dat)} {f : (Int32 × z_Dat) → Option β} (hM : ∀ out, z_ko (z_kI S) F' out → z_EM l M' B' As S D out) (hr : ∀ o', z_EM l M' B' As S D o' → z_Runs l M B M' B' cu su pc As rest S D o') (hg : z_gr S (z_ko κ)) (kk : ∀ a : Int32 × z_Dat, z_okv M'.2.2.2.1 (.inl (some (.int a.1))) → z_F l M B (cu + B'.2.2.1) (su + B'.2.2.2) (pc + 3) lv (.int a.1 :: rest) S (a.2) (z_ko κ) (f a)) : z_F l M B cu su pc lv (As.reverse ++ rest) S D (z_ko κ) (z_bd F' f) := by
  intro out ho
  cases hF : F' with
  | none =>
    rw [hF] at ho
    obtain ⟨a, h1, -⟩ := ho
    cases h1
  | some a =>
    have hm := hM _ ⟨a, hF, rfl⟩
    rw [hF] at ho
    have k := kk a hm.1 out ho
    exact ⟨k.1, z_call0 (hr _ hm) rfl (fun _ => rfl) rfl (hg _ _ ho) k.2⟩
theorem z_cTI {γ : Type} {κ : γ → z_Out → Prop} {F' : Int32 × z_Dat} {f : (Int32 × z_Dat) → γ} (hM : ∀ out, z_kt (z_kI S) F' out → z_EM l M' B' As S D out) (hr : ∀ o', z_EM l M' B' As S D o' → z_Runs l M B M' B' cu su pc As rest S D o') (hg : z_gr S κ) (kk : ∀ a : Int32 × z_Dat, z_okv M'.2.2.2.1 (.inl (some (.int a.1))) → z_F l M B (cu + B'.2.2.1) (su + B'.2.2.2) (pc + 3) lv (.int a.1 :: rest) S (a.2) κ (f a)) : z_F l M B cu su pc lv (As.reverse ++ rest) S D κ (z_let F' f) := by
  intro out ho
  have hm := hM _ rfl
  have k := kk F' hm.1 out ho
  exact ⟨k.1, z_call0 (hr _ hm) rfl (fun _ => rfl) rfl (hg _ _ ho) k.2⟩
theorem z_cWJ {β : Type} {κ : β → z_Out} {F' : Option (Int64 × z_Dat)} {f : (Int64 × z_Dat) → Option β} (hM : ∀ out, z_ko (z_kJ S) F' out → z_EM l M' B' As S D out) (hr : ∀ o', z_EM l M' B' As S D o' → z_Runs l M B M' B' cu su pc As rest S D o') (hg : z_gr S (z_ko κ)) (kk : ∀ a : Int64 × z_Dat, z_okv M'.2.2.2.1 (.inl (some (.long a.1))) → z_F l M B (cu + B'.2.2.1) (su + B'.2.2.2) (pc + 3) lv (.long a.1 :: rest) S (a.2) (z_ko κ) (f a)) : z_F l M B cu su pc lv (As.reverse ++ rest) S D (z_ko κ) (z_bd F' f) := by
  intro out ho
  cases hF : F' with
  | none =>
    rw [hF] at ho
    obtain ⟨a, h1, -⟩ := ho
    cases h1
  | some a =>
    have hm := hM _ ⟨a, hF, rfl⟩
    rw [hF] at ho
    have k := kk a hm.1 out ho
    exact ⟨k.1, z_call0 (hr _ hm) rfl (fun _ => rfl) rfl (hg _ _ ho) k.2⟩
theorem z_cTJ {γ : Type} {κ : γ → z_Out → Prop} {F' : Int64 × z_Dat} {f : (Int64 × z_Dat) → γ} (hM : ∀ out, z_kt (z_kJ S) F' out → z_EM l M' B' As S D out) (hr : ∀ o', z_EM l M' B' As S D o' → z_Runs l M B M' B' cu su pc As rest S D o') (hg : z_gr S κ) (kk : ∀ a : Int64 × z_Dat, z_okv M'.2.2.2.1 (.inl (some (.long a.1))) → z_F l M B (cu + B'.2.2.1) (su + B'.2.2.2) (pc + 3) lv (.long a.1 :: rest) S (a.2) κ (f a)) : z_F l M B cu su pc lv (As.reverse ++ rest) S D κ (z_let F' f) := by
  intro out ho
  have hm := hM _ rfl
  have k := kk F' hm.1 out ho
  exact ⟨k.1, z_call0 (hr _ hm) rfl (fun _ => rfl) rfl (hg _ _ ho) k.2⟩
theorem z_cWV {β : Type} {κ : β → z_Out} {F' : Option (z_Dat)} {f : z_Dat → Option β} (hM : ∀ out, z_ko (z_kV S) F' out → z_EM l M' B' As S D out) (hr : ∀ o', z_EM l M' B' As S D o' → z_Runs l M B M' B' cu su pc As rest S D o') (hg : z_gr S (z_ko κ)) (kk : ∀ a : z_Dat, z_okv M'.2.2.2.1 (.inl none) → z_F l M B (cu + B'.2.2.1) (su + B'.2.2.2) (pc + 3) lv (rest) S (a) (z_ko κ) (f a)) : z_F l M B cu su pc lv (As.reverse ++ rest) S D (z_ko κ) (z_bd F' f) := by
  intro out ho
  cases hF : F' with
  | none =>
    rw [hF] at ho
    obtain ⟨a, h1, -⟩ := ho
    cases h1
  | some a =>
    have hm := hM _ ⟨a, hF, rfl⟩
    rw [hF] at ho
    have k := kk a hm.1 out ho
    exact ⟨k.1, z_call0 (hr _ hm) rfl (fun _ => rfl) rfl (hg _ _ ho) k.2⟩
theorem z_cTV {γ : Type} {κ : γ → z_Out → Prop} {F' : z_Dat} {f : z_Dat → γ} (hM : ∀ out, z_kt (z_kV S) F' out → z_EM l M' B' As S D out) (hr : ∀ o', z_EM l M' B' As S D o' → z_Runs l M B M' B' cu su pc As rest S D o') (hg : z_gr S κ) (kk : ∀ a : z_Dat, z_okv M'.2.2.2.1 (.inl none) → z_F l M B (cu + B'.2.2.1) (su + B'.2.2.2) (pc + 3) lv (rest) S (a) κ (f a)) : z_F l M B cu su pc lv (As.reverse ++ rest) S D κ (z_let F' f) := by
  intro out ho
  have hm := hM _ rfl
  have k := kk F' hm.1 out ho
  exact ⟨k.1, z_call0 (hr _ hm) rfl (fun _ => rfl) rfl (hg _ _ ho) k.2⟩
theorem z_cVP {γ : Type} {κ : γ → z_Out → Prop} {f : γ} (hM : ∀ out, z_kt (z_kV S) D out → z_EM l M' B' As S D out) (hr : ∀ o', z_EM l M' B' As S D o' → z_Runs l M B M' B' cu su pc As rest S D o') (hg : z_gr S κ) (kk : z_F l M B (cu + B'.2.2.1) (su + B'.2.2.2) (pc + 3) lv rest S D κ f) : z_F l M B cu su pc lv (As.reverse ++ rest) S D κ f := by
  intro out ho
  have hm := hM _ rfl
  have k := kk out ho
  exact ⟨k.1, z_call0 (hr _ hm) rfl (fun _ => rfl) rfl (hg _ _ ho) k.2⟩
theorem z_cXII {F' : Option ((Int32 × z_Dat) ⊕ (String × z_Dat))} {f : (Int32 × z_Dat) → Option ((Int32 × z_Dat) ⊕ (String × z_Dat))} (hh : M.2.2.2.2 = []) (hM : ∀ out, z_ko (z_kTI S) F' out → z_EM l M' B' As S D out) (hr : ∀ o', z_EM l M' B' As S D o' → z_Runs l M B M' B' cu su pc As rest S D o') (h3 : cu + B'.2.2.1 ≤ B.2.2.1) (h4 : su + B'.2.2.2 ≤ B.2.2.2) (kk : ∀ a : Int32 × z_Dat, z_okv M'.2.2.2.1 (.inl (some (.int a.1))) → z_F l M B (cu + B'.2.2.1) (su + B'.2.2.2) (pc + 3) lv (.int a.1 :: rest) S (a.2) (z_ko (z_kTI S)) (f a)) : z_F l M B cu su pc lv (As.reverse ++ rest) S D (z_ko (z_kTI S)) (z_bt F' f) := by
  intro out ho
  cases hF : F' with
  | none =>
    rw [hF] at ho
    obtain ⟨a, h1, -⟩ := ho
    cases h1
  | some a =>
    have hm := hM _ ⟨a, hF, rfl⟩
    rw [hF] at ho
    cases a with
    | inl a =>
      have k := kk a hm.1 out ho
      obtain ⟨b, -, hb⟩ := ho
      refine ⟨k.1, z_call0 (hr _ hm) rfl (fun _ => rfl) rfl ?_ k.2⟩
      rw [hb]
      cases b <;> exact Nat.le_refl _
    | inr a =>
      obtain ⟨b, hb1, hb⟩ := ho
      have hb1 : some (Sum.inr a) = some b := hb1
      cases hb1
      subst hb
      exact ⟨trivial, z_callT hh (hr _ hm) rfl h3 h4⟩
theorem z_cXIJ {F' : Option ((Int32 × z_Dat) ⊕ (String × z_Dat))} {f : (Int32 × z_Dat) → Option ((Int64 × z_Dat) ⊕ (String × z_Dat))} (hh : M.2.2.2.2 = []) (hM : ∀ out, z_ko (z_kTI S) F' out → z_EM l M' B' As S D out) (hr : ∀ o', z_EM l M' B' As S D o' → z_Runs l M B M' B' cu su pc As rest S D o') (h3 : cu + B'.2.2.1 ≤ B.2.2.1) (h4 : su + B'.2.2.2 ≤ B.2.2.2) (kk : ∀ a : Int32 × z_Dat, z_okv M'.2.2.2.1 (.inl (some (.int a.1))) → z_F l M B (cu + B'.2.2.1) (su + B'.2.2.2) (pc + 3) lv (.int a.1 :: rest) S (a.2) (z_ko (z_kTJ S)) (f a)) : z_F l M B cu su pc lv (As.reverse ++ rest) S D (z_ko (z_kTJ S)) (z_bt F' f) := by
  intro out ho
  cases hF : F' with
  | none =>
    rw [hF] at ho
    obtain ⟨a, h1, -⟩ := ho
    cases h1
  | some a =>
    have hm := hM _ ⟨a, hF, rfl⟩
    rw [hF] at ho
    cases a with
    | inl a =>
      have k := kk a hm.1 out ho
      obtain ⟨b, -, hb⟩ := ho
      refine ⟨k.1, z_call0 (hr _ hm) rfl (fun _ => rfl) rfl ?_ k.2⟩
      rw [hb]
      cases b <;> exact Nat.le_refl _
    | inr a =>
      obtain ⟨b, hb1, hb⟩ := ho
      have hb1 : some (Sum.inr a) = some b := hb1
      cases hb1
      subst hb
      exact ⟨trivial, z_callT hh (hr _ hm) rfl h3 h4⟩
theorem z_cXIV {F' : Option ((Int32 × z_Dat) ⊕ (String × z_Dat))} {f : (Int32 × z_Dat) → Option ((z_Dat) ⊕ (String × z_Dat))} (hh : M.2.2.2.2 = []) (hM : ∀ out, z_ko (z_kTI S) F' out → z_EM l M' B' As S D out) (hr : ∀ o', z_EM l M' B' As S D o' → z_Runs l M B M' B' cu su pc As rest S D o') (h3 : cu + B'.2.2.1 ≤ B.2.2.1) (h4 : su + B'.2.2.2 ≤ B.2.2.2) (kk : ∀ a : Int32 × z_Dat, z_okv M'.2.2.2.1 (.inl (some (.int a.1))) → z_F l M B (cu + B'.2.2.1) (su + B'.2.2.2) (pc + 3) lv (.int a.1 :: rest) S (a.2) (z_ko (z_kTV S)) (f a)) : z_F l M B cu su pc lv (As.reverse ++ rest) S D (z_ko (z_kTV S)) (z_bt F' f) := by
  intro out ho
  cases hF : F' with
  | none =>
    rw [hF] at ho
    obtain ⟨a, h1, -⟩ := ho
    cases h1
  | some a =>
    have hm := hM _ ⟨a, hF, rfl⟩
    rw [hF] at ho
    cases a with
    | inl a =>
      have k := kk a hm.1 out ho
      obtain ⟨b, -, hb⟩ := ho
      refine ⟨k.1, z_call0 (hr _ hm) rfl (fun _ => rfl) rfl ?_ k.2⟩
      rw [hb]
      cases b <;> exact Nat.le_refl _
    | inr a =>
      obtain ⟨b, hb1, hb⟩ := ho
      have hb1 : some (Sum.inr a) = some b := hb1
      cases hb1
      subst hb
      exact ⟨trivial, z_callT hh (hr _ hm) rfl h3 h4⟩
theorem z_cXVI {F' : Option ((z_Dat) ⊕ (String × z_Dat))} {f : (z_Dat) → Option ((Int32 × z_Dat) ⊕ (String × z_Dat))} (hh : M.2.2.2.2 = []) (hM : ∀ out, z_ko (z_kTV S) F' out → z_EM l M' B' As S D out) (hr : ∀ o', z_EM l M' B' As S D o' → z_Runs l M B M' B' cu su pc As rest S D o') (h3 : cu + B'.2.2.1 ≤ B.2.2.1) (h4 : su + B'.2.2.2 ≤ B.2.2.2) (kk : ∀ a : z_Dat, z_okv M'.2.2.2.1 (.inl none) → z_F l M B (cu + B'.2.2.1) (su + B'.2.2.2) (pc + 3) lv (rest) S (a) (z_ko (z_kTI S)) (f a)) : z_F l M B cu su pc lv (As.reverse ++ rest) S D (z_ko (z_kTI S)) (z_bt F' f) := by
  intro out ho
  cases hF : F' with
  | none =>
    rw [hF] at ho
    obtain ⟨a, h1, -⟩ := ho
    cases h1
  | some a =>
    have hm := hM _ ⟨a, hF, rfl⟩
    rw [hF] at ho
    cases a with
    | inl a =>
      have k := kk a hm.1 out ho
      obtain ⟨b, -, hb⟩ := ho
      refine ⟨k.1, z_call0 (hr _ hm) rfl (fun _ => rfl) rfl ?_ k.2⟩
      rw [hb]
      cases b <;> exact Nat.le_refl _
    | inr a =>
      obtain ⟨b, hb1, hb⟩ := ho
      have hb1 : some (Sum.inr a) = some b := hb1
      cases hb1
      subst hb
      exact ⟨trivial, z_callT hh (hr _ hm) rfl h3 h4⟩
theorem z_cXVJ {F' : Option ((z_Dat) ⊕ (String × z_Dat))} {f : (z_Dat) → Option ((Int64 × z_Dat) ⊕ (String × z_Dat))} (hh : M.2.2.2.2 = []) (hM : ∀ out, z_ko (z_kTV S) F' out → z_EM l M' B' As S D out) (hr : ∀ o', z_EM l M' B' As S D o' → z_Runs l M B M' B' cu su pc As rest S D o') (h3 : cu + B'.2.2.1 ≤ B.2.2.1) (h4 : su + B'.2.2.2 ≤ B.2.2.2) (kk : ∀ a : z_Dat, z_okv M'.2.2.2.1 (.inl none) → z_F l M B (cu + B'.2.2.1) (su + B'.2.2.2) (pc + 3) lv (rest) S (a) (z_ko (z_kTJ S)) (f a)) : z_F l M B cu su pc lv (As.reverse ++ rest) S D (z_ko (z_kTJ S)) (z_bt F' f) := by
  intro out ho
  cases hF : F' with
  | none =>
    rw [hF] at ho
    obtain ⟨a, h1, -⟩ := ho
    cases h1
  | some a =>
    have hm := hM _ ⟨a, hF, rfl⟩
    rw [hF] at ho
    cases a with
    | inl a =>
      have k := kk a hm.1 out ho
      obtain ⟨b, -, hb⟩ := ho
      refine ⟨k.1, z_call0 (hr _ hm) rfl (fun _ => rfl) rfl ?_ k.2⟩
      rw [hb]
      cases b <;> exact Nat.le_refl _
    | inr a =>
      obtain ⟨b, hb1, hb⟩ := ho
      have hb1 : some (Sum.inr a) = some b := hb1
      cases hb1
      subst hb
      exact ⟨trivial, z_callT hh (hr _ hm) rfl h3 h4⟩
theorem z_cXVV {F' : Option ((z_Dat) ⊕ (String × z_Dat))} {f : (z_Dat) → Option ((z_Dat) ⊕ (String × z_Dat))} (hh : M.2.2.2.2 = []) (hM : ∀ out, z_ko (z_kTV S) F' out → z_EM l M' B' As S D out) (hr : ∀ o', z_EM l M' B' As S D o' → z_Runs l M B M' B' cu su pc As rest S D o') (h3 : cu + B'.2.2.1 ≤ B.2.2.1) (h4 : su + B'.2.2.2 ≤ B.2.2.2) (kk : ∀ a : z_Dat, z_okv M'.2.2.2.1 (.inl none) → z_F l M B (cu + B'.2.2.1) (su + B'.2.2.2) (pc + 3) lv (rest) S (a) (z_ko (z_kTV S)) (f a)) : z_F l M B cu su pc lv (As.reverse ++ rest) S D (z_ko (z_kTV S)) (z_bt F' f) := by
  intro out ho
  cases hF : F' with
  | none =>
    rw [hF] at ho
    obtain ⟨a, h1, -⟩ := ho
    cases h1
  | some a =>
    have hm := hM _ ⟨a, hF, rfl⟩
    rw [hF] at ho
    cases a with
    | inl a =>
      have k := kk a hm.1 out ho
      obtain ⟨b, -, hb⟩ := ho
      refine ⟨k.1, z_call0 (hr _ hm) rfl (fun _ => rfl) rfl ?_ k.2⟩
      rw [hb]
      cases b <;> exact Nat.le_refl _
    | inr a =>
      obtain ⟨b, hb1, hb⟩ := ho
      have hb1 : some (Sum.inr a) = some b := hb1
      cases hb1
      subst hb
      exact ⟨trivial, z_callT hh (hr _ hm) rfl h3 h4⟩
theorem z_gr_kt {α : Type} {κ : α → z_Out} (h : ∀ a, (κ a).2.1 = S) : z_gr S (z_kt κ) := fun f out ho => by
  cases ho
  rw [h]
  exact Nat.le_refl _
theorem z_gr_ko {α : Type} {κ : α → z_Out} (h : ∀ a, (κ a).2.1 = S) : z_gr S (z_ko κ) := fun f out ho => by
  obtain ⟨a, -, rfl⟩ := ho
  rw [h]
  exact Nat.le_refl _
end ZC
section ZM
variable {l : Launch} {M : z_M} {B : z_B} {cu su pc : Nat} {lv : List (Option Value)} {rest : List Value} {S : List z_Shp} {D : z_Dat} {γ : Type} {κ : γ → z_Out → Prop} {f : γ}
theorem z_mmin {i : Nat} {x y : Int32} (hdg : decode M.2.1 pc = .ok (.invokestatic i, 3)) (hk : ∀ w ∈ [Cond.methodLink M.1.cls i Lib.Math.min.name, .static Lib.Math.min.name, .initialized "java/lang/Math", .code Lib.Math.min.name Lib.Math.min.code 2 (some .int)], w ∈ z_gw) (hB : 1 ≤ B.1 ∧ (rest.map fun v => v.category).sum + 13 ≤ B.2.1 ∧ cu ≤ B.2.2.1 ∧ su ≤ B.2.2.2) (k : z_F l M B cu su (pc + 3) lv (.int (z_min x y) :: rest) S D κ f) : z_F l M B cu su pc lv (.int y :: .int x :: rest) S D κ f := by
  refine fun out ho => ⟨(k out ho).1, ?_⟩
  intro p e R s m args below meth c Q G cI cJ A X ρ H locs ls C hP hD hS hl hend
  obtain ⟨r1, r2, r3, r4⟩ := C.2.2.2.2.2.2.2.1
  have ok := C.2.2.2.2.1
  exact va_mmin C.1 C.2.1 (C.2.2.1.trans hl.1.symm) C.2.2.2.1 (ok _ (hk (.methodLink M.1.cls i Lib.Math.min.name) (by simp))) (ok _ (hk (.static Lib.Math.min.name) (by simp))) (ok _ (hk (.initialized "java/lang/Math") (by simp))) (ok _ (hk (.code Lib.Math.min.name Lib.Math.min.code 2 (some .int)) (by simp))) (Nat.le_trans hB.1 r1) (by rw [z_cv_cats]; exact Nat.le_trans hB.2.1 r2) (Nat.le_trans hB.2.2.1 r3) (Nat.le_trans hB.2.2.2 r4) hdg ((k out ho).2 p e R s m args below meth c Q G cI cJ A X ρ H locs ls C hP hD hS hl hend)
theorem z_mmax {i : Nat} {x y : Int32} (hdg : decode M.2.1 pc = .ok (.invokestatic i, 3)) (hk : ∀ w ∈ [Cond.methodLink M.1.cls i Lib.Math.max.name, .static Lib.Math.max.name, .initialized "java/lang/Math", .code Lib.Math.max.name Lib.Math.max.code 2 (some .int)], w ∈ z_gw) (hB : 1 ≤ B.1 ∧ (rest.map fun v => v.category).sum + 13 ≤ B.2.1 ∧ cu ≤ B.2.2.1 ∧ su ≤ B.2.2.2) (k : z_F l M B cu su (pc + 3) lv (.int (z_max x y) :: rest) S D κ f) : z_F l M B cu su pc lv (.int y :: .int x :: rest) S D κ f := by
  refine fun out ho => ⟨(k out ho).1, ?_⟩
  intro p e R s m args below meth c Q G cI cJ A X ρ H locs ls C hP hD hS hl hend
  obtain ⟨r1, r2, r3, r4⟩ := C.2.2.2.2.2.2.2.1
  have ok := C.2.2.2.2.1
  exact va_mmax C.1 C.2.1 (C.2.2.1.trans hl.1.symm) C.2.2.2.1 (ok _ (hk (.methodLink M.1.cls i Lib.Math.max.name) (by simp))) (ok _ (hk (.static Lib.Math.max.name) (by simp))) (ok _ (hk (.initialized "java/lang/Math") (by simp))) (ok _ (hk (.code Lib.Math.max.name Lib.Math.max.code 2 (some .int)) (by simp))) (Nat.le_trans hB.1 r1) (by rw [z_cv_cats]; exact Nat.le_trans hB.2.1 r2) (Nat.le_trans hB.2.2.1 r3) (Nat.le_trans hB.2.2.2 r4) hdg ((k out ho).2 p e R s m args below meth c Q G cI cJ A X ρ H locs ls C hP hD hS hl hend)
theorem z_mabs {i : Nat} {x : Int32} (hdg : decode M.2.1 pc = .ok (.invokestatic i, 3)) (hk : ∀ w ∈ [Cond.methodLink M.1.cls i Lib.Math.abs.name, .static Lib.Math.abs.name, .initialized "java/lang/Math", .code Lib.Math.abs.name Lib.Math.abs.code 1 (some .int)], w ∈ z_gw) (hB : 1 ≤ B.1 ∧ (rest.map fun v => v.category).sum + 13 ≤ B.2.1 ∧ cu ≤ B.2.2.1 ∧ su ≤ B.2.2.2) (k : z_F l M B cu su (pc + 3) lv (.int (z_abs x) :: rest) S D κ f) : z_F l M B cu su pc lv (.int x :: rest) S D κ f := by
  refine fun out ho => ⟨(k out ho).1, ?_⟩
  intro p e R s m args below meth c Q G cI cJ A X ρ H locs ls C hP hD hS hl hend
  obtain ⟨r1, r2, r3, r4⟩ := C.2.2.2.2.2.2.2.1
  have ok := C.2.2.2.2.1
  exact va_mabs C.1 C.2.1 (C.2.2.1.trans hl.1.symm) C.2.2.2.1 (ok _ (hk (.methodLink M.1.cls i Lib.Math.abs.name) (by simp))) (ok _ (hk (.static Lib.Math.abs.name) (by simp))) (ok _ (hk (.initialized "java/lang/Math") (by simp))) (ok _ (hk (.code Lib.Math.abs.name Lib.Math.abs.code 1 (some .int)) (by simp))) (Nat.le_trans hB.1 r1) (by rw [z_cv_cats]; exact Nat.le_trans hB.2.1 r2) (Nat.le_trans hB.2.2.1 r3) (Nat.le_trans hB.2.2.2 r4) hdg ((k out ho).2 p e R s m args below meth c Q G cI cJ A X ρ H locs ls C hP hD hS hl hend)
/-- a method out of its body -/
theorem z_meth {lv : List (Option Value)} {As : List Value} (hl : l.stackTraces = false) (hh : M.2.2.2.2 = []) (hp : plainName M.1.cls = true) (hlen : (z_fl As).length ≤ M.2.2.1) (hlv : z_args M.2.2.1 As = lv) (hF : z_F l M B 0 0 0 lv [] S D κ f) : ∀ out, κ f out → z_EM l M B As S D out :=
  fun out ho => z_enter hl hh hp (hF out ho).1 hlen hlv (hF out ho).2
end ZM
theorem z_hat {ad : Nat → Nat} {s : State} {args : Array Value} (hts : ∀ w ∈ z_gw, w.before args s = true) (hN : z_N ad s) {L : List Cond} (h1 : L.all (fun w => decide (w ∈ lw_tbl)) = true) (h2 : L.all (fun w => goodWord w || z_isN w) = true) : ∀ w ∈ L, w.before args s = true := by
  intro w hw
  have m1 : w ∈ lw_tbl := by simpa using List.all_eq_true.mp h1 w hw
  have m2 := List.all_eq_true.mp h2 w hw
  cases hg : goodWord w with
  | true => exact hts w (List.mem_filter.mpr ⟨m1, hg⟩)
  | false =>
    rw [hg] at m2
    have m3 : z_isN w = true := by simpa using m2
    have h3 := hN.1 w (List.mem_filter.mpr ⟨m1, m3⟩)
    cases w <;> first | (exact (Bool.false_ne_true m3).elim) | exact va_Nw.use rfl h3
/-- new, dup, its constructor, athrow: the method's end -/
theorem z_throwG {l : Launch} {M : z_M} {B : z_B} {cu su pc : Nat} {lv : List (Option Value)} {S : List z_Shp} {D : z_Dat} {E : String} (names : List String) {ik ic : Nat} (hh : M.2.2.2.2 = []) (hfE : Bundle.fit E = true) (hfn : ∀ n ∈ names, Bundle.fit n = true)
    (h1 : (Cond.classLink M.1.cls ik E :: Cond.initialized E :: vx_at0 M.1.cls ic E names).all (fun w => decide (w ∈ lw_tbl)) = true) (h2 : (Cond.classLink M.1.cls ik E :: Cond.initialized E :: vx_at0 M.1.cls ic E names).all (fun w => goodWord w || z_isN w) = true) (h3 : (Cond.classLink M.1.cls ik E :: Cond.initialized E :: vx_at0 M.1.cls ic E names).all vx_ot = true)
    (hB : names.length + 3 < B.1 ∧ 13 * (names.length + 1) + 42 ≤ B.2.1 ∧ cu + 1 ≤ B.2.2.1 ∧ su + 6 ≤ B.2.2.2)
    (d0 : decode M.2.1 pc = .ok (.new ik, 3)) (d3 : decode M.2.1 (pc + 3) = .ok (.dup, 1)) (d4 : decode M.2.1 (pc + 4) = .ok (.invokespecial ic, 3)) (d7 : decode M.2.1 (pc + 7) = .ok (.athrow, 1)) :
    z_F l M B cu su pc lv [] S D (z_ko (z_kTV S)) (some (.inr (E, D))) := by
  rintro out ⟨a, ha, rfl⟩
  cases ha
  refine ⟨trivial, ?_⟩
  intro p e R s m args below meth c Q G cI cJ A X ρ H locs ls C hP hD hS hl hend
  have hw := z_hat C.2.2.2.2.1 C.2.2.2.2.2.2.2.2.2.2.2.2.2 h1 h2
  exact (hend ρ H locs pc ls z_ext.rf hP hD hS hh).2 names ik ic cu su hfE hfn (fun w hw2 => ⟨hw w hw2, List.all_eq_true.mp h3 w hw2⟩) hl.1 d0 d3 d4 d7 hB.1 hB.2.1 hB.2.2.1 hB.2.2.2
section ZR
variable {S : List z_Shp} {D : z_Dat}
theorem z_rWI {v : Int32} : ∀ out, z_ko (z_kI S) (some (v, D)) out → out = (.inl (some (.int v)), S, D) := fun _ h => by
  obtain ⟨a, h1, rfl⟩ := h
  cases h1
  rfl
theorem z_rWJ {v : Int64} : ∀ out, z_ko (z_kJ S) (some (v, D)) out → out = (.inl (some (.long v)), S, D) := fun _ h => by
  obtain ⟨a, h1, rfl⟩ := h
  cases h1
  rfl
theorem z_rWV : ∀ out, z_ko (z_kV S) (some D) out → out = (.inl none, S, D) := fun _ h => by
  obtain ⟨a, h1, rfl⟩ := h
  cases h1
  rfl
theorem z_rR {v : Int32} : ∀ out, z_ko (z_kR S D) (some v) out → out = (.inl (some (.int v)), S, D) := fun _ h => by
  obtain ⟨a, h1, rfl⟩ := h
  cases h1
  rfl
theorem z_rRJ {v : Int64} : ∀ out, z_ko (z_kRJ S D) (some v) out → out = (.inl (some (.long v)), S, D) := fun _ h => by
  obtain ⟨a, h1, rfl⟩ := h
  cases h1
  rfl
theorem z_rXI {v : Int32} : ∀ out, z_ko (z_kTI S) (some (.inl (v, D))) out → out = (.inl (some (.int v)), S, D) := fun _ h => by
  obtain ⟨a, h1, rfl⟩ := h
  cases h1
  rfl
theorem z_rXJ {v : Int64} : ∀ out, z_ko (z_kTJ S) (some (.inl (v, D))) out → out = (.inl (some (.long v)), S, D) := fun _ h => by
  obtain ⟨a, h1, rfl⟩ := h
  cases h1
  rfl
theorem z_rXV : ∀ out, z_ko (z_kTV S) (some (.inl D)) out → out = (.inl none, S, D) := fun _ h => by
  obtain ⟨a, h1, rfl⟩ := h
  cases h1
  rfl
theorem z_rP {v : Int32} : ∀ out, z_kt (z_kR S D) v out → out = (.inl (some (.int v)), S, D) := fun _ h => h
theorem z_rPJ {v : Int64} : ∀ out, z_kt (z_kRJ S D) v out → out = (.inl (some (.long v)), S, D) := fun _ h => h
theorem z_rTI {v : Int32} : ∀ out, z_kt (z_kI S) (v, D) out → out = (.inl (some (.int v)), S, D) := fun _ h => h
theorem z_rTV : ∀ out, z_kt (z_kV S) D out → out = (.inl none, S, D) := fun _ h => h
theorem z_gWI : z_gr S (z_ko (z_kI S)) := z_gr_ko fun _ => rfl
theorem z_gWJ : z_gr S (z_ko (z_kJ S)) := z_gr_ko fun _ => rfl
theorem z_gWV : z_gr S (z_ko (z_kV S)) := z_gr_ko fun _ => rfl
theorem z_gR : z_gr S (z_ko (z_kR S D)) := z_gr_ko fun _ => rfl
theorem z_gRJ : z_gr S (z_ko (z_kRJ S D)) := z_gr_ko fun _ => rfl
theorem z_gXI : z_gr S (z_ko (z_kTI S)) := z_gr_ko fun a => by cases a <;> rfl
theorem z_gXJ : z_gr S (z_ko (z_kTJ S)) := z_gr_ko fun a => by cases a <;> rfl
theorem z_gXV : z_gr S (z_ko (z_kTV S)) := z_gr_ko fun a => by cases a <;> rfl
theorem z_gP : z_gr S (z_kt (z_kR S D)) := z_gr_kt fun _ => rfl
theorem z_gPJ : z_gr S (z_kt (z_kRJ S D)) := z_gr_kt fun _ => rfl
theorem z_gTI : z_gr S (z_kt (z_kI S)) := z_gr_kt fun _ => rfl
theorem z_gTV : z_gr S (z_kt (z_kV S)) := z_gr_kt fun _ => rfl
end ZR
