/-! ===== rules that make cells ===== -/
def z_new (D : z_Dat) (n : Nat) : z_Dat := fun b j => if b = n then 0 else D b j
def z_wfb (S : List z_Shp) (n : Nat) : Bool := S.all (fun sp => sp.2.2.all (fun r => match r with
  | some (some r) => decide (r < n)
  | _ => true))
theorem z_wfb_at {S : List z_Shp} {n k : Nat} {sp : z_Shp} (h : z_wfb S n = true) (hk : S[k]? = some sp) : ∀ r, some (some r) ∈ sp.2.2 → r < n := by
  intro r hr
  have h1 := List.all_eq_true.mp h sp (List.mem_of_getElem? hk)
  have h2 := List.all_eq_true.mp h1 _ hr
  simpa using h2
theorem z_cell_ext {ρ ρ' : z_Rho} {cI cJ : ClassId} {sp : z_Shp} {row : Nat → Int32} (h : ∀ r, some (some r) ∈ sp.2.2 → ρ'.1 r = ρ.1 r) : z_cell ρ' cI cJ sp row = z_cell ρ cI cJ sp row := by
  obtain ⟨k, n, rs⟩ := sp
  unfold z_cell
  match k with
  | 0 => rfl
  | 1 => rfl
  | k + 2 =>
    have e : z_fs ρ' rs row = z_fs ρ rs row := by
      unfold z_fs
      apply List.ext_getElem?
      intro i
      rw [List.getElem?_mapIdx, List.getElem?_mapIdx]
      cases hr : rs[i]? with
      | none => rfl
      | some r =>
        have hm := List.mem_of_getElem? hr
        cases r with
        | none => rfl
        | some r =>
          cases r with
          | none => rfl
          | some r =>
            show some (va_rf (some (ρ'.1 r))) = some (va_rf (some (ρ.1 r)))
            rw [h r hm]
    show Sum.inr (k, z_fs ρ' rs row) = Sum.inr (k, z_fs ρ rs row)
    rw [e]
theorem z_ws_app {ρ ρ' : z_Rho} {cI cJ : ClassId} {S : List z_Shp} {D : z_Dat} {n q : Nat} {sp : z_Shp} {e : va_E} (hn : S.length = n) (hwf : z_wfb S n = true) (hρ : ∀ k, k < n → ρ'.1 k = ρ.1 k) (hq : ρ'.1 n = q) (he : z_cell ρ' cI cJ sp (fun _ => 0) = e) :
    z_ws ρ cI cJ S D ++ [(q, e)] = z_ws ρ' cI cJ (S ++ [sp]) (z_new D n) := by
  subst hn
  apply List.ext_getElem?
  intro i
  unfold z_ws
  rw [List.getElem?_append, List.length_mapIdx, List.getElem?_mapIdx, List.getElem?_mapIdx, List.getElem?_append]
  by_cases hi : i < S.length
  · rw [if_pos hi, if_pos hi]
    have hg : S[i]? = some S[i] := List.getElem?_eq_getElem hi
    rw [hg]
    have e1 : z_new D S.length i = D i := by
      funext j
      simp [z_new, Nat.ne_of_lt hi]
    show some (ρ.1 i, z_cell ρ cI cJ S[i] (D i)) = some (ρ'.1 i, z_cell ρ' cI cJ S[i] (z_new D S.length i))
    rw [e1, hρ i hi, z_cell_ext (fun r hr => hρ r (z_wfb_at hwf hg r hr))]
  · rw [if_neg hi, if_neg hi]
    by_cases h0 : i - S.length = 0
    · have hi2 : i = S.length := by omega
      subst hi2
      have e1 : z_new D S.length S.length = fun _ => 0 := by
        funext j
        simp [z_new]
      simp [e1, hq, he]
    · cases h1 : i - S.length with
      | zero => exact absurd h1 h0
      | succ m => simp
theorem z_ext_new {ρ : z_Rho} {n q : Nat} : z_ext n (n + 1) ρ (va_up ρ.1 n q, ρ.2) := ⟨fun e => by omega, rfl, fun k hk => by simp [va_up, Nat.ne_of_lt hk]⟩
section ZN
variable {l : Launch} {M : z_M} {B : z_B} {cu su pc : Nat} {lv : List (Option Value)} {st : List Value} {S S' : List z_Shp} {D : z_Dat} {γ : Type} {κ : γ → z_Out → Prop} {f : z_Dat → γ}
theorem z_newaA {n N : Nat} {x : Int32} (hdg : decode M.2.1 pc = .ok (.newarray .int, 2)) (harr : Cond.arrayClass .int ∈ z_gw) (hx : ¬ x < 0) (hN : x.toNatClampNeg = N) (hb : N * 4 ≤ 536870912) (hn : S.length = n) (hS' : S ++ [(0, N, [])] = S') (hwf : z_wfb S n = true) (hsame : z_same n (n + 1) lv st) (hg : ∀ f out, κ f out → n + 1 ≤ out.2.1.length) (hB : cu + 1 ≤ B.2.2.1 ∧ su + N ≤ B.2.2.2)
    (k : ∀ D', z_F l M B (cu + 1) (su + N) (pc + 2) lv (.ref n :: st) S' D' κ (f D')) : z_F l M B cu su pc lv (.int x :: st) S D κ (z_let (z_new D n) f) := by
  refine fun out ho => ⟨(k _ out ho).1, ?_⟩
  intro p e R s m args below meth c Q G cI cJ A X ρ H locs ls C hP hD hS hl hend
  obtain ⟨r1, r2, r3, r4⟩ := C.2.2.2.2.2.2.2.1
  have hK := C.2.2.2.2.2.2.2.2.1
  have hcI : s.vm.findClass ("[" ++ FieldType.int.toString) = some cI := (hK.2 0 (cI, .int) rfl).2
  refine va_newa (atype := .int) (ty := .int) (N' := N) (a0 := (N, .inl (fun _ => 0))) C.1 C.2.1 (C.2.2.2.2.1 _ harr) rfl hK hP hD hS C.2.2.2.2.2.2.2.2.2.1 (fun _ => rfl) hx hN hb (Nat.le_trans hB.1 r3) (Nat.le_trans hB.2 r4) hdg (fun q cA H1 hK1 hP1 hD1 hS1 => ?_)
  have hcA : s.vm.findClass ("[" ++ FieldType.int.toString) = some cA := (hK1.2 2 (cA, .int) rfl).2
  cases Option.some.inj (hcI.symm.trans hcA)
  have ew := z_ws_app (ρ := ρ) (ρ' := (va_up ρ.1 n q, ρ.2)) (cI := cI) (cJ := cJ) (D := D) (q := q) (sp := (0, N, [])) (e := .inl (cI, N, .inl (fun _ => 0))) hn hwf (fun k hk => by simp [va_up, Nat.ne_of_lt hk]) (by simp [va_up]) rfl
  rw [ew, hS'] at hP1 hD1
  have hx2 : z_ext n (n + 1) ρ (va_up ρ.1 n q, ρ.2) := z_ext_new
  obtain ⟨e1, e2⟩ := hsame ρ _ hx2
  have hl' : S'.length = n + 1 := by rw [← hS', List.length_append, hn]; rfl
  have kk := (k (z_new D n) out ho).2 p e R s m args below meth c Q G cI cJ A X (va_up ρ.1 n q, ρ.2) H1 locs ls C hP1 hD1 hS1 (hl.ext e2) (by rw [hl']; rw [hn] at hend; exact hend.ext hx2 (Nat.le_succ n) (hg _ _ ho))
  have e3 : List.map (z_cv (va_up ρ.1 n q, ρ.2)) (.ref n :: st) = .ref q :: List.map (z_cv ρ) st := by
    rw [List.map_cons, e1]
    show Value.ref (va_up ρ.1 n q n) :: _ = _
    simp [va_up]
  rw [e3] at kk
  exact kk
def z_fs0 (rs : List (Option (Option Nat))) : List Value := rs.map (fun r => match r with
  | none => .int 0
  | some _ => .null)
theorem z_fs0_eq {ρ : z_Rho} {rs : List (Option (Option Nat))} (h : ∀ r ∈ rs, r = none ∨ r = some none) : z_fs ρ rs (fun _ => 0) = z_fs0 rs := by
  unfold z_fs z_fs0
  apply List.ext_getElem?
  intro i
  rw [List.getElem?_mapIdx, List.getElem?_map]
  cases hr : rs[i]? with
  | none => rfl
  | some r =>
    rcases h r (List.mem_of_getElem? hr) with rfl | rfl <;> rfl
theorem z_newO {n ci N idx : Nat} {C0 : String} {T : u_T} {ty : Nat → FieldType} {rs : List (Option (Option Nat))} (hdg : decode M.2.1 pc = .ok (.new idx, 3)) (hcl : z_cl ci C0 T N) (hty : ∀ k, k < N → parseFieldDescriptor (T k).2.2.1 = some (ty k)) (hw : ∀ w ∈ [Cond.classLink M.1.cls idx C0, .instantiable C0 N, .initialized C0], w ∈ z_gw) (hrs : ∀ r ∈ rs, r = none ∨ r = some none) (hfs : ∀ j, j < N → defaultValue (ty j) = vp_V (z_fs0 rs) j)
    (hn : S.length = n) (hS' : S ++ [(ci + 2, N, rs)] = S') (hwf : z_wfb S n = true) (hsame : z_same n (n + 1) lv st) (hg : ∀ f out, κ f out → n + 1 ≤ out.2.1.length) (hB : cu + 1 ≤ B.2.2.1 ∧ su + N ≤ B.2.2.2)
    (k : ∀ D', z_F l M B (cu + 1) (su + N) (pc + 3) lv (.ref n :: st) S' D' κ (f D')) : z_F l M B cu su pc lv st S D κ (z_let (z_new D n) f) := by
  refine fun out ho => ⟨(k _ out ho).1, ?_⟩
  intro p e R s m args below meth c Q G cI cJ A X ρ H locs ls C hP hD hS hl hend
  obtain ⟨r1, r2, r3, r4⟩ := C.2.2.2.2.2.2.2.1
  have hK := C.2.2.2.2.2.2.2.2.1
  have ok := C.2.2.2.2.1
  refine va_new (ci := ci) (fs := z_fs0 rs) C.1 C.2.1 ok hcl.2 ty hty C.2.2.2.1 (ok _ (hw (.classLink M.1.cls idx C0) (by simp))) (ok _ (hw (.instantiable C0 N) (by simp))) (ok _ (hw (.initialized C0) (by simp))) hK hP hD hS C.2.2.2.2.2.2.2.2.2.1 hcl.1 hfs (Nat.le_trans hB.1 r3) (Nat.le_trans hB.2 r4) hdg (fun q H1 hP1 hD1 hS1 => ?_)
  have ew := z_ws_app (ρ := ρ) (ρ' := (va_up ρ.1 n q, ρ.2)) (cI := cI) (cJ := cJ) (D := D) (q := q) (sp := (ci + 2, N, rs)) (e := .inr (ci, z_fs0 rs)) hn hwf (fun k hk => by simp [va_up, Nat.ne_of_lt hk]) (by simp [va_up]) (by show Sum.inr (ci, z_fs _ rs _) = _; rw [z_fs0_eq hrs])
  rw [ew, hS'] at hP1 hD1
  have hx2 : z_ext n (n + 1) ρ (va_up ρ.1 n q, ρ.2) := z_ext_new
  obtain ⟨e1, e2⟩ := hsame ρ _ hx2
  have hl' : S'.length = n + 1 := by rw [← hS', List.length_append, hn]; rfl
  have kk := (k (z_new D n) out ho).2 p e R s m args below meth c Q G cI cJ A X (va_up ρ.1 n q, ρ.2) H1 locs ls C hP1 hD1 hS1 (hl.ext e2) (by rw [hl']; rw [hn] at hend; exact hend.ext hx2 (Nat.le_succ n) (hg _ _ ho))
  have e3 : List.map (z_cv (va_up ρ.1 n q, ρ.2)) (.ref n :: st) = .ref q :: List.map (z_cv ρ) st := by
    rw [List.map_cons, e1]
    show Value.ref (va_up ρ.1 n q n) :: _ = _
    simp [va_up]
  rw [e3] at kk
  exact kk
/-- a field that holds a cell is set: a final one, in a constructor -/
theorem z_putFR {k ci N nn j idx r : Nat} {C0 : String} {T : u_T} {ty0 : Nat → FieldType} {ty : FieldType} {rs : List (Option (Option Nat))} {r0 : Option Nat} {f : γ} (hdg : decode M.2.1 pc = .ok (.putfield idx, 3)) (hcl : z_cl ci C0 T N) (hty : ∀ k, k < N → parseFieldDescriptor (T k).2.2.1 = some (ty0 k)) (hnm : ∀ a, a < N → ∀ b, b < N → a ≠ b → (T a).2.1 ≠ (T b).2.1) (hk : S[k]? = some (ci + 2, nn, rs)) (hj : j < N) (hr : rs[j]? = some (some r0)) (hT : (T j).1 = C0) (hf : (T j).2.2.2 = true) (hini : M.1.name = "<init>") (hown : M.1.cls = C0) (h0 : ty0 j = ty) (hn : ∀ a : Nat, narrow ty (.ref a) = .ref a) (hfi : ∀ a : Nat, fits ty (.ref a) = true) (hlink : Cond.fieldLink M.1.cls idx C0 (T j).2.1 (T j).2.2.1 ∈ z_gw) (hS' : S.set k (ci + 2, nn, rs.set j (some (some r))) = S')
    (kk : z_F l M B cu su (pc + 3) lv st S' D κ f) : z_F l M B cu su pc lv (.ref r :: .ref k :: st) S D κ f := by
  refine fun out ho => ⟨(kk out ho).1, ?_⟩
  intro p e_ R s m args below meth c Q G cI cJ A X ρ H locs ls C hP hD hS hl hend
  subst h0
  have hjl : j < rs.length := (List.getElem?_eq_some_iff.mp hr).1
  refine va_putF (v := .ref (ρ.1 r)) C.1 C.2.1 C.2.2.2.2.1 hcl.2 ty0 hty hnm C.2.2.2.1 C.2.2.2.2.2.2.2.2.1 hP hD hS k (z_ws_at hk) hcl.1 j hj (C.2.2.2.2.1 _ hlink) (fun _ h => by rw [hT] at h; exact h) hf (C.2.2.2.2.2.2.2.2.2.2.2.1.trans hini) (hT.trans hown.symm) (hty j hj) (hn _) (hfi _) (by rw [z_fs_len]; exact hjl) hdg (fun H1 locs1 hP1 hD1 hS1 => ?_)
  have e := z_ws_set (ρ := ρ) (cI := cI) (cJ := cJ) (D := D) (D' := D) (sp' := (ci + 2, nn, rs.set j (some (some r)))) hk (e := .inr (ci, (z_fs ρ rs (D k)).set j (.ref (ρ.1 r)))) (by
    have h1 := z_fs_set (ρ := ρ) (rs := rs) (rs' := rs.set j (some (some r))) (row := D k) (row' := D k) (j := j) (r := some (some r)) (v := .ref (ρ.1 r)) hjl rfl rfl (fun i hi => rfl)
    rw [h1]
    rfl) (fun b hb => rfl)
  rw [e, hS'] at hP1 hD1
  have hl' : S'.length = S.length := by rw [← hS', List.length_set]
  exact (kk out ho).2 p e_ R s m args below meth c Q G cI cJ A X ρ H1 locs1 ls C hP1 hD1 hS1 hl (by rw [hl']; exact hend)
theorem z_putR {k ci N nn j idx r : Nat} {C0 : String} {T : u_T} {ty0 : Nat → FieldType} {ty : FieldType} {rs : List (Option (Option Nat))} {r0 : Option Nat} {f : γ} (hdg : decode M.2.1 pc = .ok (.putfield idx, 3)) (hcl : z_cl ci C0 T N) (hty : ∀ k, k < N → parseFieldDescriptor (T k).2.2.1 = some (ty0 k)) (hnm : ∀ a, a < N → ∀ b, b < N → a ≠ b → (T a).2.1 ≠ (T b).2.1) (hk : S[k]? = some (ci + 2, nn, rs)) (hj : j < N) (hr : rs[j]? = some (some r0)) (hT : (T j).1 = C0) (hf : (T j).2.2.2 = false) (h0 : ty0 j = ty) (hn : ∀ a : Nat, narrow ty (.ref a) = .ref a) (hfi : ∀ a : Nat, fits ty (.ref a) = true) (hlink : Cond.fieldLink M.1.cls idx C0 (T j).2.1 (T j).2.2.1 ∈ z_gw) (hS' : S.set k (ci + 2, nn, rs.set j (some (some r))) = S')
    (kk : z_F l M B cu su (pc + 3) lv st S' D κ f) : z_F l M B cu su pc lv (.ref r :: .ref k :: st) S D κ f := by
  refine fun out ho => ⟨(kk out ho).1, ?_⟩
  intro p e_ R s m args below meth c Q G cI cJ A X ρ H locs ls C hP hD hS hl hend
  subst h0
  have hjl : j < rs.length := (List.getElem?_eq_some_iff.mp hr).1
  refine va_put (v := .ref (ρ.1 r)) C.1 C.2.1 C.2.2.2.2.1 hcl.2 ty0 hty hnm C.2.2.2.1 C.2.2.2.2.2.2.2.2.1 hP hD hS k (z_ws_at hk) hcl.1 j hj (C.2.2.2.2.1 _ hlink) (fun _ h => by rw [hT] at h; exact h) hf (hty j hj) (hn _) (hfi _) (by rw [z_fs_len]; exact hjl) hdg (fun H1 locs1 hP1 hD1 hS1 => ?_)
  have e := z_ws_set (ρ := ρ) (cI := cI) (cJ := cJ) (D := D) (D' := D) (sp' := (ci + 2, nn, rs.set j (some (some r)))) hk (e := .inr (ci, (z_fs ρ rs (D k)).set j (.ref (ρ.1 r)))) (by
    have h1 := z_fs_set (ρ := ρ) (rs := rs) (rs' := rs.set j (some (some r))) (row := D k) (row' := D k) (j := j) (r := some (some r)) (v := .ref (ρ.1 r)) hjl rfl rfl (fun i hi => rfl)
    rw [h1]
    rfl) (fun b hb => rfl)
  rw [e, hS'] at hP1 hD1
  have hl' : S'.length = S.length := by rw [← hS', List.length_set]
  exact (kk out ho).2 p e_ R s m args below meth c Q G cI cJ A X ρ H1 locs1 ls C hP1 hD1 hS1 hl (by rw [hl']; exact hend)
theorem z_objI {k idx : Nat} {f : γ} (hdg : decode M.2.1 pc = .ok (.invokespecial idx, 3)) (hw : ∀ w ∈ [Cond.methodLink M.1.cls idx objectInit, .instanceMethod objectInit, .code objectInit ⟨#[0xb1]⟩ 1 none], w ∈ z_gw) (hB : 1 ≤ B.1 ∧ 20 ≤ B.2.1) (hst : (st.map fun v => v.category).sum ≤ 2) (kk : z_F l M B cu su (pc + 3) lv st S D κ f) : z_F l M B cu su pc lv (.ref k :: st) S D κ f := by
  refine fun out ho => ⟨(kk out ho).1, ?_⟩
  intro p e R s m args below meth c Q G cI cJ A X ρ H locs ls C hP hD hS hl hend
  obtain ⟨r1, r2, r3, r4⟩ := C.2.2.2.2.2.2.2.1
  have ok := C.2.2.2.2.1
  refine W.objInit C.1 C.2.1 C.2.2.2.1 (ok _ (hw (.methodLink M.1.cls idx objectInit) (by simp))) (ok _ (hw (.instanceMethod objectInit) (by simp))) (ok _ (hw (.code objectInit ⟨#[0xb1]⟩ 1 none) (by simp))) rfl (by rw [C.2.2.1]; exact hl.1) rfl hdg (Nat.le_trans hB.1 r1) (by show 2 * 0 + ((st.map (z_cv ρ)).map fun v => v.category).sum + 12 ≤ R.locals; rw [z_cv_cats]; omega) ?_
  exact (kk out ho).2 p e R s m args below meth c Q G cI cJ A X ρ H locs ls C hP hD hS hl hend
end ZN
