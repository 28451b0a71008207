/-! ===== the logic's rules: an instruction, a rule ===== -/
/-- the rest of a method answers what f tells (κ: how f tells it) -/
def z_F {γ : Type} (l : Launch) (M : z_M) (B : z_B) (cu su pc : Nat) (lv : List (Option Value)) (st : List Value) (S : List z_Shp) (D : z_Dat) (κ : γ → z_Out → Prop) (f : γ) : Prop := ∀ out, κ f out → z_okv M.2.2.2.1 out.1 ∧ z_E l M B cu su pc lv st S D out
def z_let {α β : Type} (x : α) (k : α → β) : β := k x
def z_bd {α β : Type} (x : Option α) (k : α → Option β) : Option β := match x with
  | none => none
  | some a => k a
def z_kt {α : Type} (κ : α → z_Out) : α → z_Out → Prop := fun f out => out = κ f
def z_ko {α : Type} (κ : α → z_Out) : Option α → z_Out → Prop := fun f out => ∃ a, f = some a ∧ out = κ a
def z_loop {σ α : Type} (body : (σ → Option α) → σ → Option α) : Nat → σ → Option α
  | 0, _ => none
  | n + 1, s => body (z_loop body n) s
def z_rem (x y : Int32) : Int32 := x - x / y * y
def z_shl (x y : Int32) : Int32 := x <<< (y &&& 31)
def z_shr (x y : Int32) : Int32 := x >>> (y &&& 31)
def z_ushr (x y : Int32) : Int32 := (x.toUInt32 >>> (y.toUInt32 &&& Int32.toUInt32 31)).toInt32
def z_ix (i : Int32) : Nat := i.toNatClampNeg
/-- an index within -/
abbrev z_inb (i : Int32) (n : Nat) : Prop := 0 ≤ i.toInt ∧ i.toInt < (n : Int)
theorem z_inb_vp {i : Int32} {n : Nat} (h : z_inb i n) : vp_in i n := vp_in_iff.mpr h
/-- locals as the kit has them -/
def z_pairs (ρ : z_Rho) (lv : List (Option Value)) : List (Nat × Value) := (lv.mapIdx (fun i o => o.map (fun v => (i, z_cv ρ v)))).filterMap id
theorem z_pairs_mem {ρ : z_Rho} {lv : List (Option Value)} {q : Nat × Value} : q ∈ z_pairs ρ lv ↔ ∃ v, lv[q.1]? = some (some v) ∧ q.2 = z_cv ρ v := by
  unfold z_pairs
  rw [List.mem_filterMap]
  constructor
  · rintro ⟨o, ho, h⟩
    obtain ⟨i, hi⟩ := List.getElem?_of_mem ho
    rw [List.getElem?_mapIdx] at hi
    cases hl : lv[i]? with
    | none => rw [hl] at hi; cases hi
    | some o2 =>
      rw [hl] at hi
      cases o2 with
      | none =>
        have hi : some (none : Option (Nat × Value)) = some o := hi
        cases hi
        cases h
      | some v =>
        have hi : some (some (i, z_cv ρ v)) = some o := hi
        cases hi
        have h : some (i, z_cv ρ v) = some q := h
        cases h
        exact ⟨v, hl, rfl⟩
  · rintro ⟨v, h1, h2⟩
    refine ⟨some q, List.mem_of_getElem? (i := q.1) ?_, rfl⟩
    rw [List.getElem?_mapIdx, h1, ← (show (q.1, z_cv ρ v) = q from by rw [← h2])]
    rfl
theorem z_lo.has {ρ : z_Rho} {nL : Nat} {ls : Array Slot} {lv : List (Option Value)} (h : z_lo ρ nL ls lv) : lv_has ls nL (z_pairs ρ lv) :=
  ⟨h.1, h.2.2.1, fun q hq => by
    obtain ⟨v, h1, h2⟩ := z_pairs_mem.mp hq
    rw [h2]
    exact h.2.2.2 _ _ h1⟩
/-- no long ends at this place -/
def z_o1 (lv : List (Option Value)) (i : Nat) : Bool := match i with
  | 0 => true
  | j + 1 => match lv[j]? with
    | some (some w) => w.category == 1
    | _ => true
theorem z_lo.set1 {ρ : z_Rho} {nL i : Nat} {ls ls' : Array Slot} {lv : List (Option Value)} {v w : Value} (h : z_lo ρ nL ls lv) (hw : z_cv ρ v = w) (h2 : lv_has ls' nL ((i, w) :: (z_pairs ρ lv).filter (fun q => !(q.1 == i) && !(q.1 + 1 == i && q.2.category == 2)))) (ho : z_o1 lv i = true) : z_lo ρ nL ls' (lv.set i (some v)) := by
  subst hw
  refine ⟨h2.1, by rw [List.length_set]; exact h.2.1, h2.2.1, fun j u hj => ?_⟩
  rw [List.getElem?_set] at hj
  by_cases e : i = j
  · subst e
    rw [if_pos rfl] at hj
    split at hj
    · cases hj
      exact h2.2.2 _ List.mem_cons_self
    · cases hj
  · rw [if_neg e] at hj
    refine h2.2.2 (j, z_cv ρ u) (List.mem_cons_of_mem _ (List.mem_filter.mpr ⟨z_pairs_mem.mpr ⟨u, hj, rfl⟩, ?_⟩))
    have e1 : (j == i) = false := by simpa using Ne.symm e
    have e2 : (j + 1 == i && (z_cv ρ u).category == 2) = false := by
      by_cases e3 : j + 1 = i
      · subst e3
        unfold z_o1 at ho
        simp only [hj] at ho
        rw [z_cv_cat, show u.category = 1 from by simpa using ho]
        simp
      · simp [e3]
    simp only [e1, e2]
    rfl
theorem z_lo.set2 {ρ : z_Rho} {nL i : Nat} {ls ls' : Array Slot} {lv : List (Option Value)} {v w : Value} (h : z_lo ρ nL ls lv) (hw : z_cv ρ v = w) (h2 : lv_has ls' nL ((i, w) :: (z_pairs ρ lv).filter (fun q => !(q.1 == i) && (!(q.1 == i + 1) && !(q.1 + 1 == i && q.2.category == 2))))) (ho : z_o1 lv i = true) : z_lo ρ nL ls' ((lv.set i (some v)).set (i + 1) none) := by
  subst hw
  refine ⟨h2.1, by rw [List.length_set, List.length_set]; exact h.2.1, h2.2.1, fun j u hj => ?_⟩
  rw [List.getElem?_set] at hj
  by_cases e0 : i + 1 = j
  · rw [if_pos e0] at hj
    split at hj
    · cases hj
    · cases hj
  rw [if_neg e0, List.getElem?_set] at hj
  by_cases e : i = j
  · subst e
    rw [if_pos rfl] at hj
    split at hj
    · cases hj
      exact h2.2.2 _ List.mem_cons_self
    · cases hj
  · rw [if_neg e] at hj
    refine h2.2.2 (j, z_cv ρ u) (List.mem_cons_of_mem _ (List.mem_filter.mpr ⟨z_pairs_mem.mpr ⟨u, hj, rfl⟩, ?_⟩))
    have e1 : (j == i) = false := by simpa using Ne.symm e
    have e4 : (j == i + 1) = false := by simpa using Ne.symm e0
    have e2 : (j + 1 == i && (z_cv ρ u).category == 2) = false := by
      by_cases e3 : j + 1 = i
      · subst e3
        unfold z_o1 at ho
        simp only [hj] at ho
        rw [z_cv_cat, show u.category = 1 from by simpa using ho]
        simp
      · simp [e3]
    simp only [e1, e2, e4]
    rfl
/-- fewer locals -/
def z_le : List (Option Value) → List (Option Value) → Prop
  | [], [] => True
  | a :: as, b :: bs => (b = none ∨ b = a) ∧ z_le as bs
  | _, _ => False
theorem z_le.len : ∀ {a b : List (Option Value)}, z_le a b → a.length = b.length
  | [], [], _ => rfl
  | _ :: _, _ :: _, h => congrArg Nat.succ (z_le.len h.2)
  | [], _ :: _, h => h.elim
  | _ :: _, [], h => h.elim
theorem z_le.at : ∀ {a b : List (Option Value)}, z_le a b → ∀ (i : Nat) (v : Value), b[i]? = some (some v) → a[i]? = some (some v)
  | [], [], _, i, v, h => h
  | x :: as, y :: bs, h, i, v, h2 => by
    cases i with
    | zero =>
      have h2 : some y = some (some v) := h2
      rcases h.1 with e | e
      · rw [e] at h2; cases h2
      · show some x = _
        rw [← e]
        exact h2
    | succ i => exact z_le.at h.2 i v h2
  | [], _ :: _, h, _, _, _ => h.elim
  | _ :: _, [], h, _, _, _ => h.elim
theorem z_lo.le {ρ : z_Rho} {nL : Nat} {ls : Array Slot} {lv lv' : List (Option Value)} (h : z_lo ρ nL ls lv) (hle : z_le lv lv') : z_lo ρ nL ls lv' := ⟨h.1, hle.len ▸ h.2.1, h.2.2.1, fun i v hv => h.2.2.2 i v (hle.at i v hv)⟩
section ZI
variable {l : Launch} {M : z_M} {B : z_B} {cu su pc : Nat} {lv : List (Option Value)} {st : List Value} {S : List z_Shp} {D : z_Dat} {γ : Type} {κ : γ → z_Out → Prop} {f g : γ}
theorem z_weak {lv' : List (Option Value)} (h : z_le lv lv') (k : z_F l M B cu su pc lv' st S D κ f) : z_F l M B cu su pc lv st S D κ f := by
  refine fun out ho => ⟨(k out ho).1, ?_⟩
  intro p e R s m args below meth c Q G cI cJ A X ρ H locs ls C hP hD hS hl hend
  exact (k out ho).2 p e R s m args below meth c Q G cI cJ A X ρ H locs ls C hP hD hS (hl.le h) hend
theorem z_widen {k n : Nat} (h1 : cu ≤ k) (h2 : su ≤ n) (kk : z_F l M B k n pc lv st S D κ f) : z_F l M B cu su pc lv st S D κ f := by
  refine fun out ho => ⟨(kk out ho).1, ?_⟩
  intro p e R s m args below meth c Q G cI cJ A X ρ H locs ls C hP hD hS hl hend
  exact W.widen h1 h2 ((kk out ho).2 p e R s m args below meth c Q G cI cJ A X ρ H locs ls C hP hD hS hl hend)
theorem z_eq {g : γ} (e : f = g) (k : z_F l M B cu su pc lv st S D κ g) : z_F l M B cu su pc lv st S D κ f := by subst e; exact k
theorem z_topi {β : Type} {κ : β → z_Out → Prop} {x : Int32} {f : Int32 → β} (k : ∀ y : Int32, z_F l M B cu su pc lv (.int y :: st) S D κ (f y)) : z_F l M B cu su pc lv (.int x :: st) S D κ (z_let x f) := k x
theorem z_topl {β : Type} {κ : β → z_Out → Prop} {x : Int64} {f : Int64 → β} (k : ∀ y : Int64, z_F l M B cu su pc lv (.long y :: st) S D κ (f y)) : z_F l M B cu su pc lv (.long x :: st) S D κ (z_let x f) := k x
theorem z_datn {β : Type} {κ : β → z_Out → Prop} {D : z_Dat} {f : z_Dat → β} (k : ∀ y : z_Dat, z_F l M B cu su pc lv st S y κ (f y)) : z_F l M B cu su pc lv st S D κ (z_let D f) := k D
theorem z_iconst {n : Int} {v : Int32} (hdg : decode M.2.1 pc = .ok (.iconst n, 1)) (hv : Int32.ofInt n = v) (k : z_F l M B cu su (pc + 1) lv (.int v :: st) S D κ f) : z_F l M B cu su pc lv (st) S D κ f := by
  refine fun out ho => ⟨(k out ho).1, ?_⟩
  intro p e R s m args below meth c Q G cI cJ A X ρ H locs ls C hP hD hS hl hend
  exact lv_iconst C.1 C.2.1 hdg hv ((k out ho).2 p e R s m args below meth c Q G cI cJ A X ρ H locs ls C hP hD hS hl hend)
theorem z_bipush {n : Int} {v : Int32} (hdg : decode M.2.1 pc = .ok (.bipush n, 2)) (hv : (Int8.ofInt n).toInt32 = v) (k : z_F l M B cu su (pc + 2) lv (.int v :: st) S D κ f) : z_F l M B cu su pc lv (st) S D κ f := by
  refine fun out ho => ⟨(k out ho).1, ?_⟩
  intro p e R s m args below meth c Q G cI cJ A X ρ H locs ls C hP hD hS hl hend
  exact lv_bipush C.1 C.2.1 hdg hv ((k out ho).2 p e R s m args below meth c Q G cI cJ A X ρ H locs ls C hP hD hS hl hend)
theorem z_sipush {n : Int} {v : Int32} (hdg : decode M.2.1 pc = .ok (.sipush n, 3)) (hv : (Int16.ofInt n).toInt32 = v) (k : z_F l M B cu su (pc + 3) lv (.int v :: st) S D κ f) : z_F l M B cu su pc lv (st) S D κ f := by
  refine fun out ho => ⟨(k out ho).1, ?_⟩
  intro p e R s m args below meth c Q G cI cJ A X ρ H locs ls C hP hD hS hl hend
  exact lv_sipush C.1 C.2.1 hdg hv ((k out ho).2 p e R s m args below meth c Q G cI cJ A X ρ H locs ls C hP hD hS hl hend)
theorem z_lconst {n : Fin 2} {v : Int64} (hdg : decode M.2.1 pc = .ok (.lconst n, 1)) (hv : Int64.ofNat (n : Nat) = v) (k : z_F l M B cu su (pc + 1) lv (.long v :: st) S D κ f) : z_F l M B cu su pc lv (st) S D κ f := by
  refine fun out ho => ⟨(k out ho).1, ?_⟩
  intro p e R s m args below meth c Q G cI cJ A X ρ H locs ls C hP hD hS hl hend
  exact lv_lconst C.1 C.2.1 hdg hv ((k out ho).2 p e R s m args below meth c Q G cI cJ A X ρ H locs ls C hP hD hS hl hend)
theorem z_ldc {i : Nat} {v : Int32} (hdg : decode M.2.1 pc = .ok (.ldc i, 2)) (hc : Cond.constant M.1.cls i v ∈ z_gw) (k : z_F l M B cu su (pc + 2) lv (.int v :: st) S D κ f) : z_F l M B cu su pc lv (st) S D κ f := by
  refine fun out ho => ⟨(k out ho).1, ?_⟩
  intro p e R s m args below meth c Q G cI cJ A X ρ H locs ls C hP hD hS hl hend
  exact lv_ldc C.1 C.2.1 C.2.2.2.1 (C.2.2.2.2.1 _ hc) hdg ((k out ho).2 p e R s m args below meth c Q G cI cJ A X ρ H locs ls C hP hD hS hl hend)
theorem z_ldcw {i : Nat} {v : Int32} (hdg : decode M.2.1 pc = .ok (.ldc_w i, 3)) (hc : Cond.constant M.1.cls i v ∈ z_gw) (k : z_F l M B cu su (pc + 3) lv (.int v :: st) S D κ f) : z_F l M B cu su pc lv (st) S D κ f := by
  refine fun out ho => ⟨(k out ho).1, ?_⟩
  intro p e R s m args below meth c Q G cI cJ A X ρ H locs ls C hP hD hS hl hend
  exact lv_ldcw C.1 C.2.1 C.2.2.2.1 (C.2.2.2.2.1 _ hc) hdg ((k out ho).2 p e R s m args below meth c Q G cI cJ A X ρ H locs ls C hP hD hS hl hend)
theorem z_ldc2 {i : Nat} {v : Int64} (hdg : decode M.2.1 pc = .ok (.ldc2_w i, 3)) (hc : Cond.constantLong M.1.cls i v ∈ z_gw) (k : z_F l M B cu su (pc + 3) lv (.long v :: st) S D κ f) : z_F l M B cu su pc lv (st) S D κ f := by
  refine fun out ho => ⟨(k out ho).1, ?_⟩
  intro p e R s m args below meth c Q G cI cJ A X ρ H locs ls C hP hD hS hl hend
  exact lv_ldc2 C.1 C.2.1 C.2.2.2.1 (C.2.2.2.2.1 _ hc) hdg ((k out ho).2 p e R s m args below meth c Q G cI cJ A X ρ H locs ls C hP hD hS hl hend)
theorem z_iload {i : Nat} {x : Int32} (hdg : decode M.2.1 pc = .ok (.iload i, 2)) (hv : lv[i]? = some (some (.int x))) (k : z_F l M B cu su (pc + 2) lv (.int x :: st) S D κ f) : z_F l M B cu su pc lv (st) S D κ f := by
  refine fun out ho => ⟨(k out ho).1, ?_⟩
  intro p e R s m args below meth c Q G cI cJ A X ρ H locs ls C hP hD hS hl hend
  exact lv_iload C.1 C.2.1 hdg (hl.2.2.2 _ _ hv) ((k out ho).2 p e R s m args below meth c Q G cI cJ A X ρ H locs ls C hP hD hS hl hend)
theorem z_iload_n {j : Fin 4} {i : Nat} {x : Int32} (hdg : decode M.2.1 pc = .ok (.iload_n j, 1)) (hi : (j : Nat) = i) (hv : lv[i]? = some (some (.int x))) (k : z_F l M B cu su (pc + 1) lv (.int x :: st) S D κ f) : z_F l M B cu su pc lv (st) S D κ f := by
  refine fun out ho => ⟨(k out ho).1, ?_⟩
  intro p e R s m args below meth c Q G cI cJ A X ρ H locs ls C hP hD hS hl hend
  exact lv_iload_n C.1 C.2.1 hdg hi (hl.2.2.2 _ _ hv) ((k out ho).2 p e R s m args below meth c Q G cI cJ A X ρ H locs ls C hP hD hS hl hend)
theorem z_lload {i : Nat} {x : Int64} (hdg : decode M.2.1 pc = .ok (.lload i, 2)) (hv : lv[i]? = some (some (.long x))) (k : z_F l M B cu su (pc + 2) lv (.long x :: st) S D κ f) : z_F l M B cu su pc lv (st) S D κ f := by
  refine fun out ho => ⟨(k out ho).1, ?_⟩
  intro p e R s m args below meth c Q G cI cJ A X ρ H locs ls C hP hD hS hl hend
  exact lv_lload C.1 C.2.1 hdg (hl.2.2.2 _ _ hv) ((k out ho).2 p e R s m args below meth c Q G cI cJ A X ρ H locs ls C hP hD hS hl hend)
theorem z_lload_n {j : Fin 4} {i : Nat} {x : Int64} (hdg : decode M.2.1 pc = .ok (.lload_n j, 1)) (hi : (j : Nat) = i) (hv : lv[i]? = some (some (.long x))) (k : z_F l M B cu su (pc + 1) lv (.long x :: st) S D κ f) : z_F l M B cu su pc lv (st) S D κ f := by
  refine fun out ho => ⟨(k out ho).1, ?_⟩
  intro p e R s m args below meth c Q G cI cJ A X ρ H locs ls C hP hD hS hl hend
  exact lv_lload_n C.1 C.2.1 hdg hi (hl.2.2.2 _ _ hv) ((k out ho).2 p e R s m args below meth c Q G cI cJ A X ρ H locs ls C hP hD hS hl hend)
theorem z_aload {i x : Nat} (hdg : decode M.2.1 pc = .ok (.aload i, 2)) (hv : lv[i]? = some (some (.ref x))) (k : z_F l M B cu su (pc + 2) lv (.ref x :: st) S D κ f) : z_F l M B cu su pc lv (st) S D κ f := by
  refine fun out ho => ⟨(k out ho).1, ?_⟩
  intro p e R s m args below meth c Q G cI cJ A X ρ H locs ls C hP hD hS hl hend
  exact lv_aload C.1 C.2.1 hdg (hl.2.2.2 _ _ hv) ((k out ho).2 p e R s m args below meth c Q G cI cJ A X ρ H locs ls C hP hD hS hl hend)
theorem z_aload_n {j : Fin 4} {i x : Nat} (hdg : decode M.2.1 pc = .ok (.aload_n j, 1)) (hi : (j : Nat) = i) (hv : lv[i]? = some (some (.ref x))) (k : z_F l M B cu su (pc + 1) lv (.ref x :: st) S D κ f) : z_F l M B cu su pc lv (st) S D κ f := by
  refine fun out ho => ⟨(k out ho).1, ?_⟩
  intro p e R s m args below meth c Q G cI cJ A X ρ H locs ls C hP hD hS hl hend
  exact lv_aload_n C.1 C.2.1 hdg hi (hl.2.2.2 _ _ hv) ((k out ho).2 p e R s m args below meth c Q G cI cJ A X ρ H locs ls C hP hD hS hl hend)
theorem z_aloadC {i x : Nat} (hdg : decode M.2.1 pc = .ok (.aload i, 2)) (hv : lv[i]? = some (some (.retAddr x))) (k : z_F l M B cu su (pc + 2) lv (.retAddr x :: st) S D κ f) : z_F l M B cu su pc lv (st) S D κ f := by
  refine fun out ho => ⟨(k out ho).1, ?_⟩
  intro p e R s m args below meth c Q G cI cJ A X ρ H locs ls C hP hD hS hl hend
  exact lv_aload C.1 C.2.1 hdg (hl.2.2.2 _ _ hv) ((k out ho).2 p e R s m args below meth c Q G cI cJ A X ρ H locs ls C hP hD hS hl hend)
theorem z_aloadC_n {j : Fin 4} {i x : Nat} (hdg : decode M.2.1 pc = .ok (.aload_n j, 1)) (hi : (j : Nat) = i) (hv : lv[i]? = some (some (.retAddr x))) (k : z_F l M B cu su (pc + 1) lv (.retAddr x :: st) S D κ f) : z_F l M B cu su pc lv (st) S D κ f := by
  refine fun out ho => ⟨(k out ho).1, ?_⟩
  intro p e R s m args below meth c Q G cI cJ A X ρ H locs ls C hP hD hS hl hend
  exact lv_aload_n C.1 C.2.1 hdg hi (hl.2.2.2 _ _ hv) ((k out ho).2 p e R s m args below meth c Q G cI cJ A X ρ H locs ls C hP hD hS hl hend)
theorem z_istore {i : Nat} {x : Int32} {lv' : List (Option Value)} (hdg : decode M.2.1 pc = .ok (.istore i, 2)) (hn : i < M.2.2.1) (hz : z_o1 lv i = true) (hlv : lv.set i (some (.int x)) = lv') (k : z_F l M B cu su (pc + 2) lv' st S D κ f) : z_F l M B cu su pc lv (.int x :: st) S D κ f := by
  refine fun out ho => ⟨(k out ho).1, ?_⟩
  intro p e R s m args below meth c Q G cI cJ A X ρ H locs ls C hP hD hS hl hend
  subst hlv
  exact lv_istore C.1 C.2.1 hdg hl.has hn rfl (fun ls' hl' => (k out ho).2 p e R s m args below meth c Q G cI cJ A X ρ H locs ls' C hP hD hS (hl.set1 (v := .int x) rfl hl' hz) hend)
theorem z_istore_n {j : Fin 4} {i : Nat} {x : Int32} {lv' : List (Option Value)} (hdg : decode M.2.1 pc = .ok (.istore_n j, 1)) (hi : (j : Nat) = i) (hn : i < M.2.2.1) (hz : z_o1 lv i = true) (hlv : lv.set i (some (.int x)) = lv') (k : z_F l M B cu su (pc + 1) lv' st S D κ f) : z_F l M B cu su pc lv (.int x :: st) S D κ f := by
  refine fun out ho => ⟨(k out ho).1, ?_⟩
  intro p e R s m args below meth c Q G cI cJ A X ρ H locs ls C hP hD hS hl hend
  subst hlv
  exact lv_istore_n C.1 C.2.1 hdg hi hl.has hn rfl (fun ls' hl' => (k out ho).2 p e R s m args below meth c Q G cI cJ A X ρ H locs ls' C hP hD hS (hl.set1 (v := .int x) rfl hl' hz) hend)
theorem z_astore {i : Nat} {x : Nat} {lv' : List (Option Value)} (hdg : decode M.2.1 pc = .ok (.astore i, 2)) (hn : i < M.2.2.1) (hz : z_o1 lv i = true) (hlv : lv.set i (some (.ref x)) = lv') (k : z_F l M B cu su (pc + 2) lv' st S D κ f) : z_F l M B cu su pc lv (.ref x :: st) S D κ f := by
  refine fun out ho => ⟨(k out ho).1, ?_⟩
  intro p e R s m args below meth c Q G cI cJ A X ρ H locs ls C hP hD hS hl hend
  subst hlv
  exact lv_astore C.1 C.2.1 hdg hl.has hn rfl (fun ls' hl' => (k out ho).2 p e R s m args below meth c Q G cI cJ A X ρ H locs ls' C hP hD hS (hl.set1 (v := .ref x) rfl hl' hz) hend)
theorem z_astore_n {j : Fin 4} {i : Nat} {x : Nat} {lv' : List (Option Value)} (hdg : decode M.2.1 pc = .ok (.astore_n j, 1)) (hi : (j : Nat) = i) (hn : i < M.2.2.1) (hz : z_o1 lv i = true) (hlv : lv.set i (some (.ref x)) = lv') (k : z_F l M B cu su (pc + 1) lv' st S D κ f) : z_F l M B cu su pc lv (.ref x :: st) S D κ f := by
  refine fun out ho => ⟨(k out ho).1, ?_⟩
  intro p e R s m args below meth c Q G cI cJ A X ρ H locs ls C hP hD hS hl hend
  subst hlv
  exact lv_astore_n C.1 C.2.1 hdg hi hl.has hn rfl (fun ls' hl' => (k out ho).2 p e R s m args below meth c Q G cI cJ A X ρ H locs ls' C hP hD hS (hl.set1 (v := .ref x) rfl hl' hz) hend)
theorem z_lstore {i : Nat} {x : Int64} {lv' : List (Option Value)} (hdg : decode M.2.1 pc = .ok (.lstore i, 2)) (hn : i + 1 < M.2.2.1) (hz : z_o1 lv i = true) (hlv : (lv.set i (some (.long x))).set (i + 1) none = lv') (k : z_F l M B cu su (pc + 2) lv' st S D κ f) : z_F l M B cu su pc lv (.long x :: st) S D κ f := by
  refine fun out ho => ⟨(k out ho).1, ?_⟩
  intro p e R s m args below meth c Q G cI cJ A X ρ H locs ls C hP hD hS hl hend
  subst hlv
  exact lv_lstore C.1 C.2.1 hdg hl.has hn rfl (fun ls' hl' => (k out ho).2 p e R s m args below meth c Q G cI cJ A X ρ H locs ls' C hP hD hS (hl.set2 (v := .long x) rfl hl' hz) hend)
theorem z_lstore_n {j : Fin 4} {i : Nat} {x : Int64} {lv' : List (Option Value)} (hdg : decode M.2.1 pc = .ok (.lstore_n j, 1)) (hi : (j : Nat) = i) (hn : i + 1 < M.2.2.1) (hz : z_o1 lv i = true) (hlv : (lv.set i (some (.long x))).set (i + 1) none = lv') (k : z_F l M B cu su (pc + 1) lv' st S D κ f) : z_F l M B cu su pc lv (.long x :: st) S D κ f := by
  refine fun out ho => ⟨(k out ho).1, ?_⟩
  intro p e R s m args below meth c Q G cI cJ A X ρ H locs ls C hP hD hS hl hend
  subst hlv
  exact lv_lstore_n C.1 C.2.1 hdg hi hl.has hn rfl (fun ls' hl' => (k out ho).2 p e R s m args below meth c Q G cI cJ A X ρ H locs ls' C hP hD hS (hl.set2 (v := .long x) rfl hl' hz) hend)
theorem z_iincC {i : Nat} {n : Int} {x v : Int32} {lv' : List (Option Value)} (hdg : decode M.2.1 pc = .ok (.iinc i n, 3)) (hv : lv[i]? = some (some (.int x))) (hx : x + Int32.ofInt n = v) (hn : i < M.2.2.1) (hz : z_o1 lv i = true) (hlv : lv.set i (some (.int v)) = lv') (k : z_F l M B cu su (pc + 3) lv' st S D κ f) : z_F l M B cu su pc lv st S D κ f := by
  refine fun out ho => ⟨(k out ho).1, ?_⟩
  intro p e R s m args below meth c Q G cI cJ A X ρ H locs ls C hP hD hS hl hend
  subst hlv
  obtain ⟨q, hq⟩ := List.getElem?_of_mem (z_pairs_mem (ρ := ρ) (q := (i, .int x)).mpr ⟨.int x, hv, rfl⟩)
  exact lv_iinc C.1 C.2.1 hdg hl.has hq hx hn rfl (fun ls' hl' => (k out ho).2 p e R s m args below meth c Q G cI cJ A X ρ H locs ls' C hP hD hS (hl.set1 (v := .int v) rfl hl' hz) hend)
theorem z_iinc {β : Type} {κ : β → z_Out → Prop} {f : Int32 → β} {i : Nat} {n : Int} {x y : Int32} (hdg : decode M.2.1 pc = .ok (.iinc i n, 3)) (hv : lv[i]? = some (some (.int x))) (hy : Int32.ofInt n = y) (hn : i < M.2.2.1) (hz : z_o1 lv i = true) (k : ∀ v : Int32, z_F l M B cu su (pc + 3) (lv.set i (some (.int v))) st S D κ (f v)) : z_F l M B cu su pc lv st S D κ (z_let (x + y) f) :=
  z_iincC hdg hv (by rw [hy]) hn hz rfl (k (x + y))
theorem z_iadd {x y : Int32} (hdg : decode M.2.1 pc = .ok (.iadd, 1)) (k : z_F l M B cu su (pc + 1) lv (.int (x + y) :: st) S D κ f) : z_F l M B cu su pc lv (.int y :: .int x :: st) S D κ f := by
  refine fun out ho => ⟨(k out ho).1, ?_⟩
  intro p e R s m args below meth c Q G cI cJ A X ρ H locs ls C hP hD hS hl hend
  exact lv_iadd C.1 C.2.1 hdg ((k out ho).2 p e R s m args below meth c Q G cI cJ A X ρ H locs ls C hP hD hS hl hend)
theorem z_isub {x y : Int32} (hdg : decode M.2.1 pc = .ok (.isub, 1)) (k : z_F l M B cu su (pc + 1) lv (.int (x - y) :: st) S D κ f) : z_F l M B cu su pc lv (.int y :: .int x :: st) S D κ f := by
  refine fun out ho => ⟨(k out ho).1, ?_⟩
  intro p e R s m args below meth c Q G cI cJ A X ρ H locs ls C hP hD hS hl hend
  exact lv_isub C.1 C.2.1 hdg ((k out ho).2 p e R s m args below meth c Q G cI cJ A X ρ H locs ls C hP hD hS hl hend)
theorem z_imul {x y : Int32} (hdg : decode M.2.1 pc = .ok (.imul, 1)) (k : z_F l M B cu su (pc + 1) lv (.int (x * y) :: st) S D κ f) : z_F l M B cu su pc lv (.int y :: .int x :: st) S D κ f := by
  refine fun out ho => ⟨(k out ho).1, ?_⟩
  intro p e R s m args below meth c Q G cI cJ A X ρ H locs ls C hP hD hS hl hend
  exact lv_imul C.1 C.2.1 hdg ((k out ho).2 p e R s m args below meth c Q G cI cJ A X ρ H locs ls C hP hD hS hl hend)
theorem z_iand {x y : Int32} (hdg : decode M.2.1 pc = .ok (.iand, 1)) (k : z_F l M B cu su (pc + 1) lv (.int (x &&& y) :: st) S D κ f) : z_F l M B cu su pc lv (.int y :: .int x :: st) S D κ f := by
  refine fun out ho => ⟨(k out ho).1, ?_⟩
  intro p e R s m args below meth c Q G cI cJ A X ρ H locs ls C hP hD hS hl hend
  exact lv_iand C.1 C.2.1 hdg ((k out ho).2 p e R s m args below meth c Q G cI cJ A X ρ H locs ls C hP hD hS hl hend)
theorem z_ior {x y : Int32} (hdg : decode M.2.1 pc = .ok (.ior, 1)) (k : z_F l M B cu su (pc + 1) lv (.int (x ||| y) :: st) S D κ f) : z_F l M B cu su pc lv (.int y :: .int x :: st) S D κ f := by
  refine fun out ho => ⟨(k out ho).1, ?_⟩
  intro p e R s m args below meth c Q G cI cJ A X ρ H locs ls C hP hD hS hl hend
  exact lv_ior C.1 C.2.1 hdg ((k out ho).2 p e R s m args below meth c Q G cI cJ A X ρ H locs ls C hP hD hS hl hend)
theorem z_ixor {x y : Int32} (hdg : decode M.2.1 pc = .ok (.ixor, 1)) (k : z_F l M B cu su (pc + 1) lv (.int (x ^^^ y) :: st) S D κ f) : z_F l M B cu su pc lv (.int y :: .int x :: st) S D κ f := by
  refine fun out ho => ⟨(k out ho).1, ?_⟩
  intro p e R s m args below meth c Q G cI cJ A X ρ H locs ls C hP hD hS hl hend
  exact lv_ixor C.1 C.2.1 hdg ((k out ho).2 p e R s m args below meth c Q G cI cJ A X ρ H locs ls C hP hD hS hl hend)
theorem z_ishl {x y : Int32} (hdg : decode M.2.1 pc = .ok (.ishl, 1)) (k : z_F l M B cu su (pc + 1) lv (.int (z_shl x y) :: st) S D κ f) : z_F l M B cu su pc lv (.int y :: .int x :: st) S D κ f := by
  refine fun out ho => ⟨(k out ho).1, ?_⟩
  intro p e R s m args below meth c Q G cI cJ A X ρ H locs ls C hP hD hS hl hend
  exact lv_ishl C.1 C.2.1 hdg ((k out ho).2 p e R s m args below meth c Q G cI cJ A X ρ H locs ls C hP hD hS hl hend)
theorem z_ishr {x y : Int32} (hdg : decode M.2.1 pc = .ok (.ishr, 1)) (k : z_F l M B cu su (pc + 1) lv (.int (z_shr x y) :: st) S D κ f) : z_F l M B cu su pc lv (.int y :: .int x :: st) S D κ f := by
  refine fun out ho => ⟨(k out ho).1, ?_⟩
  intro p e R s m args below meth c Q G cI cJ A X ρ H locs ls C hP hD hS hl hend
  exact lv_ishr C.1 C.2.1 hdg ((k out ho).2 p e R s m args below meth c Q G cI cJ A X ρ H locs ls C hP hD hS hl hend)
theorem z_ladd {x y : Int64} (hdg : decode M.2.1 pc = .ok (.ladd, 1)) (k : z_F l M B cu su (pc + 1) lv (.long (x + y) :: st) S D κ f) : z_F l M B cu su pc lv (.long y :: .long x :: st) S D κ f := by
  refine fun out ho => ⟨(k out ho).1, ?_⟩
  intro p e R s m args below meth c Q G cI cJ A X ρ H locs ls C hP hD hS hl hend
  exact lv_ladd C.1 C.2.1 hdg ((k out ho).2 p e R s m args below meth c Q G cI cJ A X ρ H locs ls C hP hD hS hl hend)
theorem z_lmul {x y : Int64} (hdg : decode M.2.1 pc = .ok (.lmul, 1)) (k : z_F l M B cu su (pc + 1) lv (.long (x * y) :: st) S D κ f) : z_F l M B cu su pc lv (.long y :: .long x :: st) S D κ f := by
  refine fun out ho => ⟨(k out ho).1, ?_⟩
  intro p e R s m args below meth c Q G cI cJ A X ρ H locs ls C hP hD hS hl hend
  exact lv_lmul C.1 C.2.1 hdg ((k out ho).2 p e R s m args below meth c Q G cI cJ A X ρ H locs ls C hP hD hS hl hend)
theorem z_iushr {x y : Int32} (hdg : decode M.2.1 pc = .ok (.iushr, 1)) (k : z_F l M B cu su (pc + 1) lv (.int (z_ushr x y) :: st) S D κ f) : z_F l M B cu su pc lv (.int y :: .int x :: st) S D κ f := by
  refine fun out ho => ⟨(k out ho).1, ?_⟩
  intro p e R s m args below meth c Q G cI cJ A X ρ H locs ls C hP hD hS hl hend
  exact lv_iushr C.1 C.2.1 hdg rfl ((k out ho).2 p e R s m args below meth c Q G cI cJ A X ρ H locs ls C hP hD hS hl hend)
theorem z_ineg {x : Int32} (hdg : decode M.2.1 pc = .ok (.ineg, 1)) (k : z_F l M B cu su (pc + 1) lv (.int (-x) :: st) S D κ f) : z_F l M B cu su pc lv (.int x :: st) S D κ f := by
  refine fun out ho => ⟨(k out ho).1, ?_⟩
  intro p e R s m args below meth c Q G cI cJ A X ρ H locs ls C hP hD hS hl hend
  exact lv_ineg C.1 C.2.1 hdg ((k out ho).2 p e R s m args below meth c Q G cI cJ A X ρ H locs ls C hP hD hS hl hend)
theorem z_i2l {x : Int32} (hdg : decode M.2.1 pc = .ok (.i2l, 1)) (k : z_F l M B cu su (pc + 1) lv (.long x.toInt64 :: st) S D κ f) : z_F l M B cu su pc lv (.int x :: st) S D κ f := by
  refine fun out ho => ⟨(k out ho).1, ?_⟩
  intro p e R s m args below meth c Q G cI cJ A X ρ H locs ls C hP hD hS hl hend
  exact lv_i2l C.1 C.2.1 hdg rfl ((k out ho).2 p e R s m args below meth c Q G cI cJ A X ρ H locs ls C hP hD hS hl hend)
theorem z_lcmp {x y : Int64} (hdg : decode M.2.1 pc = .ok (.lcmp, 1)) (k : z_F l M B cu su (pc + 1) lv (.int (lg_cmp x y) :: st) S D κ f) : z_F l M B cu su pc lv (.long y :: .long x :: st) S D κ f := by
  refine fun out ho => ⟨(k out ho).1, ?_⟩
  intro p e R s m args below meth c Q G cI cJ A X ρ H locs ls C hP hD hS hl hend
  exact W.lcmp C.1 C.2.1 hdg ((k out ho).2 p e R s m args below meth c Q G cI cJ A X ρ H locs ls C hP hD hS hl hend)
theorem z_idivC {x y : Int32} (hdg : decode M.2.1 pc = .ok (.idiv, 1)) (h0 : ¬ y = 0) (k : z_F l M B cu su (pc + 1) lv (.int (x / y) :: st) S D κ f) : z_F l M B cu su pc lv (.int y :: .int x :: st) S D κ f := by
  refine fun out ho => ⟨(k out ho).1, ?_⟩
  intro p e R s m args below meth c Q G cI cJ A X ρ H locs ls C hP hD hS hl hend
  exact lv_idiv C.1 C.2.1 hdg h0 ((k out ho).2 p e R s m args below meth c Q G cI cJ A X ρ H locs ls C hP hD hS hl hend)
theorem z_idiv {α : Type} {κ : α → z_Out} {f : Option α} {x y : Int32} (hdg : decode M.2.1 pc = .ok (.idiv, 1)) (k : ¬ y = 0 → z_F l M B cu su (pc + 1) lv (.int (x / y) :: st) S D (z_ko κ) f) : z_F l M B cu su pc lv (.int y :: .int x :: st) S D (z_ko κ) (if y = 0 then none else f) := by
  intro out ho
  by_cases h : y = 0
  · rw [if_pos h] at ho
    obtain ⟨a, h1, -⟩ := ho
    cases h1
  · rw [if_neg h] at ho
    exact z_idivC hdg h (k h) out ho
theorem z_iremC {x y : Int32} (hdg : decode M.2.1 pc = .ok (.irem, 1)) (h0 : ¬ y = 0) (k : z_F l M B cu su (pc + 1) lv (.int (z_rem x y) :: st) S D κ f) : z_F l M B cu su pc lv (.int y :: .int x :: st) S D κ f := by
  refine fun out ho => ⟨(k out ho).1, ?_⟩
  intro p e R s m args below meth c Q G cI cJ A X ρ H locs ls C hP hD hS hl hend
  exact lv_irem C.1 C.2.1 hdg h0 ((k out ho).2 p e R s m args below meth c Q G cI cJ A X ρ H locs ls C hP hD hS hl hend)
theorem z_irem {α : Type} {κ : α → z_Out} {f : Option α} {x y : Int32} (hdg : decode M.2.1 pc = .ok (.irem, 1)) (k : ¬ y = 0 → z_F l M B cu su (pc + 1) lv (.int (z_rem x y) :: st) S D (z_ko κ) f) : z_F l M B cu su pc lv (.int y :: .int x :: st) S D (z_ko κ) (if y = 0 then none else f) := by
  intro out ho
  by_cases h : y = 0
  · rw [if_pos h] at ho
    obtain ⟨a, h1, -⟩ := ho
    cases h1
  · rw [if_neg h] at ho
    exact z_iremC hdg h (k h) out ho
theorem z_ldivC {x y : Int64} (hdg : decode M.2.1 pc = .ok (.ldiv, 1)) (h0 : ¬ y = 0) (k : z_F l M B cu su (pc + 1) lv (.long (x / y) :: st) S D κ f) : z_F l M B cu su pc lv (.long y :: .long x :: st) S D κ f := by
  refine fun out ho => ⟨(k out ho).1, ?_⟩
  intro p e R s m args below meth c Q G cI cJ A X ρ H locs ls C hP hD hS hl hend
  exact lv_ldiv C.1 C.2.1 hdg h0 ((k out ho).2 p e R s m args below meth c Q G cI cJ A X ρ H locs ls C hP hD hS hl hend)
theorem z_ldiv {α : Type} {κ : α → z_Out} {f : Option α} {x y : Int64} (hdg : decode M.2.1 pc = .ok (.ldiv, 1)) (k : ¬ y = 0 → z_F l M B cu su (pc + 1) lv (.long (x / y) :: st) S D (z_ko κ) f) : z_F l M B cu su pc lv (.long y :: .long x :: st) S D (z_ko κ) (if y = 0 then none else f) := by
  intro out ho
  by_cases h : y = 0
  · rw [if_pos h] at ho
    obtain ⟨a, h1, -⟩ := ho
    cases h1
  · rw [if_neg h] at ho
    exact z_ldivC hdg h (k h) out ho
theorem z_lremC {x y : Int64} (hdg : decode M.2.1 pc = .ok (.lrem, 1)) (h0 : ¬ y = 0) (k : z_F l M B cu su (pc + 1) lv (.long (x - x / y * y) :: st) S D κ f) : z_F l M B cu su pc lv (.long y :: .long x :: st) S D κ f := by
  refine fun out ho => ⟨(k out ho).1, ?_⟩
  intro p e R s m args below meth c Q G cI cJ A X ρ H locs ls C hP hD hS hl hend
  exact lv_lrem C.1 C.2.1 hdg h0 ((k out ho).2 p e R s m args below meth c Q G cI cJ A X ρ H locs ls C hP hD hS hl hend)
theorem z_lrem {α : Type} {κ : α → z_Out} {f : Option α} {x y : Int64} (hdg : decode M.2.1 pc = .ok (.lrem, 1)) (k : ¬ y = 0 → z_F l M B cu su (pc + 1) lv (.long (x - x / y * y) :: st) S D (z_ko κ) f) : z_F l M B cu su pc lv (.long y :: .long x :: st) S D (z_ko κ) (if y = 0 then none else f) := by
  intro out ho
  by_cases h : y = 0
  · rw [if_pos h] at ho
    obtain ⟨a, h1, -⟩ := ho
    cases h1
  · rw [if_neg h] at ho
    exact z_lremC hdg h (k h) out ho
theorem z_dup {v : Value} (hdg : decode M.2.1 pc = .ok (.dup, 1)) (hc : v.category = 1) (k : z_F l M B cu su (pc + 1) lv (v :: v :: st) S D κ f) : z_F l M B cu su pc lv (v :: st) S D κ f := by
  refine fun out ho => ⟨(k out ho).1, ?_⟩
  intro p e R s m args below meth c Q G cI cJ A X ρ H locs ls C hP hD hS hl hend
  exact lv_dup C.1 C.2.1 hdg (by rw [z_cv_cat]; exact hc) ((k out ho).2 p e R s m args below meth c Q G cI cJ A X ρ H locs ls C hP hD hS hl hend)
theorem z_pop {v : Value} (hdg : decode M.2.1 pc = .ok (.pop, 1)) (hc : v.category = 1) (k : z_F l M B cu su (pc + 1) lv (st) S D κ f) : z_F l M B cu su pc lv (v :: st) S D κ f := by
  refine fun out ho => ⟨(k out ho).1, ?_⟩
  intro p e R s m args below meth c Q G cI cJ A X ρ H locs ls C hP hD hS hl hend
  exact lv_pop C.1 C.2.1 hdg (by rw [z_cv_cat]; exact hc) ((k out ho).2 p e R s m args below meth c Q G cI cJ A X ρ H locs ls C hP hD hS hl hend)
theorem z_dup2 {v u : Value} (hdg : decode M.2.1 pc = .ok (.dup2, 1)) (hc : v.category = 1) (hd : u.category = 1) (k : z_F l M B cu su (pc + 1) lv (v :: u :: v :: u :: st) S D κ f) : z_F l M B cu su pc lv (v :: u :: st) S D κ f := by
  refine fun out ho => ⟨(k out ho).1, ?_⟩
  intro p e R s m args below meth c Q G cI cJ A X ρ H locs ls C hP hD hS hl hend
  exact lv_dup2_11 C.1 C.2.1 hdg (by rw [z_cv_cat]; exact hc) (by rw [z_cv_cat]; exact hd) ((k out ho).2 p e R s m args below meth c Q G cI cJ A X ρ H locs ls C hP hD hS hl hend)
theorem z_goto {off : Int} (tgt : Nat) (hdg : decode M.2.1 pc = .ok (.goto off, 3)) (ht : (pc : Int) + off = (tgt : Int)) (k : z_F l M B cu su tgt lv st S D κ f) : z_F l M B cu su pc lv st S D κ f := by
  refine fun out ho => ⟨(k out ho).1, ?_⟩
  intro p e R s m args below meth c Q G cI cJ A X ρ H locs ls C hP hD hS hl hend
  exact lv_goto C.1 C.2.1 hdg ht ((k out ho).2 p e R s m args below meth c Q G cI cJ A X ρ H locs ls C hP hD hS hl hend)
theorem z_icmp_eqJ {x y : Int32} {off : Int} (tgt : Nat) (hdg : decode M.2.1 pc = .ok (.if_icmp .eq off, 3)) (ht : (pc : Int) + off = (tgt : Int)) (hc : x = y) (k1 : z_F l M B cu su tgt lv st S D κ f) : z_F l M B cu su pc lv (.int y :: .int x :: st) S D κ f := by
  refine fun out ho => ⟨(k1 out ho).1, ?_⟩
  intro p e R s m args below meth c Q G cI cJ A X ρ H locs ls C hP hD hS hl hend
  exact lv_icmp_eq C.1 C.2.1 hdg ht (fun h => (k1 out ho).2 p e R s m args below meth c Q G cI cJ A X ρ H locs ls C hP hD hS hl hend) (fun h => absurd hc h)
theorem z_icmp_eqN {x y : Int32} {off : Int} (tgt : Nat) (hdg : decode M.2.1 pc = .ok (.if_icmp .eq off, 3)) (ht : (pc : Int) + off = (tgt : Int)) (hc : ¬ x = y) (k1 : z_F l M B cu su (pc + 3) lv st S D κ f) : z_F l M B cu su pc lv (.int y :: .int x :: st) S D κ f := by
  refine fun out ho => ⟨(k1 out ho).1, ?_⟩
  intro p e R s m args below meth c Q G cI cJ A X ρ H locs ls C hP hD hS hl hend
  exact lv_icmp_eq C.1 C.2.1 hdg ht (fun h => absurd h hc) (fun h => (k1 out ho).2 p e R s m args below meth c Q G cI cJ A X ρ H locs ls C hP hD hS hl hend)
theorem z_icmp_eq {x y : Int32} [Decidable (x = y)] {off : Int} (tgt : Nat) (hdg : decode M.2.1 pc = .ok (.if_icmp .eq off, 3)) (ht : (pc : Int) + off = (tgt : Int)) (k1 : x = y → z_F l M B cu su (tgt) lv st S D κ f) (k2 : ¬ x = y → z_F l M B cu su (pc + 3) lv st S D κ g) : z_F l M B cu su pc lv (.int y :: .int x :: st) S D κ (if x = y then f else g) := by
  intro out ho
  by_cases h : x = y
  · rw [if_pos h] at ho
    exact z_icmp_eqJ tgt hdg ht h (k1 h) out ho
  · rw [if_neg h] at ho
    exact z_icmp_eqN tgt hdg ht h (k2 h) out ho
theorem z_if_eqJ {x : Int32} {off : Int} (tgt : Nat) (hdg : decode M.2.1 pc = .ok (.ifCond .eq off, 3)) (ht : (pc : Int) + off = (tgt : Int)) (hc : x = 0) (k1 : z_F l M B cu su tgt lv st S D κ f) : z_F l M B cu su pc lv (.int x :: st) S D κ f := by
  refine fun out ho => ⟨(k1 out ho).1, ?_⟩
  intro p e R s m args below meth c Q G cI cJ A X ρ H locs ls C hP hD hS hl hend
  exact lv_if_eq C.1 C.2.1 hdg ht (fun h => (k1 out ho).2 p e R s m args below meth c Q G cI cJ A X ρ H locs ls C hP hD hS hl hend) (fun h => absurd hc h)
theorem z_if_eqN {x : Int32} {off : Int} (tgt : Nat) (hdg : decode M.2.1 pc = .ok (.ifCond .eq off, 3)) (ht : (pc : Int) + off = (tgt : Int)) (hc : ¬ x = 0) (k1 : z_F l M B cu su (pc + 3) lv st S D κ f) : z_F l M B cu su pc lv (.int x :: st) S D κ f := by
  refine fun out ho => ⟨(k1 out ho).1, ?_⟩
  intro p e R s m args below meth c Q G cI cJ A X ρ H locs ls C hP hD hS hl hend
  exact lv_if_eq C.1 C.2.1 hdg ht (fun h => absurd h hc) (fun h => (k1 out ho).2 p e R s m args below meth c Q G cI cJ A X ρ H locs ls C hP hD hS hl hend)
theorem z_if_eq {x : Int32} [Decidable (x = 0)] {off : Int} (tgt : Nat) (hdg : decode M.2.1 pc = .ok (.ifCond .eq off, 3)) (ht : (pc : Int) + off = (tgt : Int)) (k1 : x = 0 → z_F l M B cu su (tgt) lv st S D κ f) (k2 : ¬ x = 0 → z_F l M B cu su (pc + 3) lv st S D κ g) : z_F l M B cu su pc lv (.int x :: st) S D κ (if x = 0 then f else g) := by
  intro out ho
  by_cases h : x = 0
  · rw [if_pos h] at ho
    exact z_if_eqJ tgt hdg ht h (k1 h) out ho
  · rw [if_neg h] at ho
    exact z_if_eqN tgt hdg ht h (k2 h) out ho
theorem z_icmp_neJ {x y : Int32} {off : Int} (tgt : Nat) (hdg : decode M.2.1 pc = .ok (.if_icmp .ne off, 3)) (ht : (pc : Int) + off = (tgt : Int)) (hc : ¬ x = y) (k1 : z_F l M B cu su tgt lv st S D κ f) : z_F l M B cu su pc lv (.int y :: .int x :: st) S D κ f := by
  refine fun out ho => ⟨(k1 out ho).1, ?_⟩
  intro p e R s m args below meth c Q G cI cJ A X ρ H locs ls C hP hD hS hl hend
  exact lv_icmp_ne C.1 C.2.1 hdg ht (fun h => (k1 out ho).2 p e R s m args below meth c Q G cI cJ A X ρ H locs ls C hP hD hS hl hend) (fun h => absurd h hc)
theorem z_icmp_neN {x y : Int32} {off : Int} (tgt : Nat) (hdg : decode M.2.1 pc = .ok (.if_icmp .ne off, 3)) (ht : (pc : Int) + off = (tgt : Int)) (hc : x = y) (k1 : z_F l M B cu su (pc + 3) lv st S D κ f) : z_F l M B cu su pc lv (.int y :: .int x :: st) S D κ f := by
  refine fun out ho => ⟨(k1 out ho).1, ?_⟩
  intro p e R s m args below meth c Q G cI cJ A X ρ H locs ls C hP hD hS hl hend
  exact lv_icmp_ne C.1 C.2.1 hdg ht (fun h => absurd hc h) (fun h => (k1 out ho).2 p e R s m args below meth c Q G cI cJ A X ρ H locs ls C hP hD hS hl hend)
theorem z_icmp_ne {x y : Int32} [Decidable (x = y)] {off : Int} (tgt : Nat) (hdg : decode M.2.1 pc = .ok (.if_icmp .ne off, 3)) (ht : (pc : Int) + off = (tgt : Int)) (k1 : x = y → z_F l M B cu su (pc + 3) lv st S D κ f) (k2 : ¬ x = y → z_F l M B cu su (tgt) lv st S D κ g) : z_F l M B cu su pc lv (.int y :: .int x :: st) S D κ (if x = y then f else g) := by
  intro out ho
  by_cases h : x = y
  · rw [if_pos h] at ho
    exact z_icmp_neN tgt hdg ht h (k1 h) out ho
  · rw [if_neg h] at ho
    exact z_icmp_neJ tgt hdg ht h (k2 h) out ho
theorem z_if_neJ {x : Int32} {off : Int} (tgt : Nat) (hdg : decode M.2.1 pc = .ok (.ifCond .ne off, 3)) (ht : (pc : Int) + off = (tgt : Int)) (hc : ¬ x = 0) (k1 : z_F l M B cu su tgt lv st S D κ f) : z_F l M B cu su pc lv (.int x :: st) S D κ f := by
  refine fun out ho => ⟨(k1 out ho).1, ?_⟩
  intro p e R s m args below meth c Q G cI cJ A X ρ H locs ls C hP hD hS hl hend
  exact lv_if_ne C.1 C.2.1 hdg ht (fun h => (k1 out ho).2 p e R s m args below meth c Q G cI cJ A X ρ H locs ls C hP hD hS hl hend) (fun h => absurd h hc)
theorem z_if_neN {x : Int32} {off : Int} (tgt : Nat) (hdg : decode M.2.1 pc = .ok (.ifCond .ne off, 3)) (ht : (pc : Int) + off = (tgt : Int)) (hc : x = 0) (k1 : z_F l M B cu su (pc + 3) lv st S D κ f) : z_F l M B cu su pc lv (.int x :: st) S D κ f := by
  refine fun out ho => ⟨(k1 out ho).1, ?_⟩
  intro p e R s m args below meth c Q G cI cJ A X ρ H locs ls C hP hD hS hl hend
  exact lv_if_ne C.1 C.2.1 hdg ht (fun h => absurd hc h) (fun h => (k1 out ho).2 p e R s m args below meth c Q G cI cJ A X ρ H locs ls C hP hD hS hl hend)
theorem z_if_ne {x : Int32} [Decidable (x = 0)] {off : Int} (tgt : Nat) (hdg : decode M.2.1 pc = .ok (.ifCond .ne off, 3)) (ht : (pc : Int) + off = (tgt : Int)) (k1 : x = 0 → z_F l M B cu su (pc + 3) lv st S D κ f) (k2 : ¬ x = 0 → z_F l M B cu su (tgt) lv st S D κ g) : z_F l M B cu su pc lv (.int x :: st) S D κ (if x = 0 then f else g) := by
  intro out ho
  by_cases h : x = 0
  · rw [if_pos h] at ho
    exact z_if_neN tgt hdg ht h (k1 h) out ho
  · rw [if_neg h] at ho
    exact z_if_neJ tgt hdg ht h (k2 h) out ho
theorem z_icmp_ltJ {x y : Int32} {off : Int} (tgt : Nat) (hdg : decode M.2.1 pc = .ok (.if_icmp .lt off, 3)) (ht : (pc : Int) + off = (tgt : Int)) (hc : x < y) (k1 : z_F l M B cu su tgt lv st S D κ f) : z_F l M B cu su pc lv (.int y :: .int x :: st) S D κ f := by
  refine fun out ho => ⟨(k1 out ho).1, ?_⟩
  intro p e R s m args below meth c Q G cI cJ A X ρ H locs ls C hP hD hS hl hend
  exact lv_icmp_lt C.1 C.2.1 hdg ht (fun h => (k1 out ho).2 p e R s m args below meth c Q G cI cJ A X ρ H locs ls C hP hD hS hl hend) (fun h => absurd hc h)
theorem z_icmp_ltN {x y : Int32} {off : Int} (tgt : Nat) (hdg : decode M.2.1 pc = .ok (.if_icmp .lt off, 3)) (ht : (pc : Int) + off = (tgt : Int)) (hc : ¬ x < y) (k1 : z_F l M B cu su (pc + 3) lv st S D κ f) : z_F l M B cu su pc lv (.int y :: .int x :: st) S D κ f := by
  refine fun out ho => ⟨(k1 out ho).1, ?_⟩
  intro p e R s m args below meth c Q G cI cJ A X ρ H locs ls C hP hD hS hl hend
  exact lv_icmp_lt C.1 C.2.1 hdg ht (fun h => absurd h hc) (fun h => (k1 out ho).2 p e R s m args below meth c Q G cI cJ A X ρ H locs ls C hP hD hS hl hend)
theorem z_icmp_lt {x y : Int32} [Decidable (x < y)] {off : Int} (tgt : Nat) (hdg : decode M.2.1 pc = .ok (.if_icmp .lt off, 3)) (ht : (pc : Int) + off = (tgt : Int)) (k1 : x < y → z_F l M B cu su (tgt) lv st S D κ f) (k2 : ¬ x < y → z_F l M B cu su (pc + 3) lv st S D κ g) : z_F l M B cu su pc lv (.int y :: .int x :: st) S D κ (if x < y then f else g) := by
  intro out ho
  by_cases h : x < y
  · rw [if_pos h] at ho
    exact z_icmp_ltJ tgt hdg ht h (k1 h) out ho
  · rw [if_neg h] at ho
    exact z_icmp_ltN tgt hdg ht h (k2 h) out ho
theorem z_if_ltJ {x : Int32} {off : Int} (tgt : Nat) (hdg : decode M.2.1 pc = .ok (.ifCond .lt off, 3)) (ht : (pc : Int) + off = (tgt : Int)) (hc : x < 0) (k1 : z_F l M B cu su tgt lv st S D κ f) : z_F l M B cu su pc lv (.int x :: st) S D κ f := by
  refine fun out ho => ⟨(k1 out ho).1, ?_⟩
  intro p e R s m args below meth c Q G cI cJ A X ρ H locs ls C hP hD hS hl hend
  exact lv_if_lt C.1 C.2.1 hdg ht (fun h => (k1 out ho).2 p e R s m args below meth c Q G cI cJ A X ρ H locs ls C hP hD hS hl hend) (fun h => absurd hc h)
theorem z_if_ltN {x : Int32} {off : Int} (tgt : Nat) (hdg : decode M.2.1 pc = .ok (.ifCond .lt off, 3)) (ht : (pc : Int) + off = (tgt : Int)) (hc : ¬ x < 0) (k1 : z_F l M B cu su (pc + 3) lv st S D κ f) : z_F l M B cu su pc lv (.int x :: st) S D κ f := by
  refine fun out ho => ⟨(k1 out ho).1, ?_⟩
  intro p e R s m args below meth c Q G cI cJ A X ρ H locs ls C hP hD hS hl hend
  exact lv_if_lt C.1 C.2.1 hdg ht (fun h => absurd h hc) (fun h => (k1 out ho).2 p e R s m args below meth c Q G cI cJ A X ρ H locs ls C hP hD hS hl hend)
theorem z_if_lt {x : Int32} [Decidable (x < 0)] {off : Int} (tgt : Nat) (hdg : decode M.2.1 pc = .ok (.ifCond .lt off, 3)) (ht : (pc : Int) + off = (tgt : Int)) (k1 : x < 0 → z_F l M B cu su (tgt) lv st S D κ f) (k2 : ¬ x < 0 → z_F l M B cu su (pc + 3) lv st S D κ g) : z_F l M B cu su pc lv (.int x :: st) S D κ (if x < 0 then f else g) := by
  intro out ho
  by_cases h : x < 0
  · rw [if_pos h] at ho
    exact z_if_ltJ tgt hdg ht h (k1 h) out ho
  · rw [if_neg h] at ho
    exact z_if_ltN tgt hdg ht h (k2 h) out ho
theorem z_icmp_geJ {x y : Int32} {off : Int} (tgt : Nat) (hdg : decode M.2.1 pc = .ok (.if_icmp .ge off, 3)) (ht : (pc : Int) + off = (tgt : Int)) (hc : y ≤ x) (k1 : z_F l M B cu su tgt lv st S D κ f) : z_F l M B cu su pc lv (.int y :: .int x :: st) S D κ f := by
  refine fun out ho => ⟨(k1 out ho).1, ?_⟩
  intro p e R s m args below meth c Q G cI cJ A X ρ H locs ls C hP hD hS hl hend
  exact lv_icmp_ge C.1 C.2.1 hdg ht (fun h => (k1 out ho).2 p e R s m args below meth c Q G cI cJ A X ρ H locs ls C hP hD hS hl hend) (fun h => absurd hc h)
theorem z_icmp_geN {x y : Int32} {off : Int} (tgt : Nat) (hdg : decode M.2.1 pc = .ok (.if_icmp .ge off, 3)) (ht : (pc : Int) + off = (tgt : Int)) (hc : ¬ y ≤ x) (k1 : z_F l M B cu su (pc + 3) lv st S D κ f) : z_F l M B cu su pc lv (.int y :: .int x :: st) S D κ f := by
  refine fun out ho => ⟨(k1 out ho).1, ?_⟩
  intro p e R s m args below meth c Q G cI cJ A X ρ H locs ls C hP hD hS hl hend
  exact lv_icmp_ge C.1 C.2.1 hdg ht (fun h => absurd h hc) (fun h => (k1 out ho).2 p e R s m args below meth c Q G cI cJ A X ρ H locs ls C hP hD hS hl hend)
theorem z_icmp_ge {x y : Int32} [Decidable (y ≤ x)] {off : Int} (tgt : Nat) (hdg : decode M.2.1 pc = .ok (.if_icmp .ge off, 3)) (ht : (pc : Int) + off = (tgt : Int)) (k1 : y ≤ x → z_F l M B cu su (tgt) lv st S D κ f) (k2 : ¬ y ≤ x → z_F l M B cu su (pc + 3) lv st S D κ g) : z_F l M B cu su pc lv (.int y :: .int x :: st) S D κ (if y ≤ x then f else g) := by
  intro out ho
  by_cases h : y ≤ x
  · rw [if_pos h] at ho
    exact z_icmp_geJ tgt hdg ht h (k1 h) out ho
  · rw [if_neg h] at ho
    exact z_icmp_geN tgt hdg ht h (k2 h) out ho
theorem z_if_geJ {x : Int32} {off : Int} (tgt : Nat) (hdg : decode M.2.1 pc = .ok (.ifCond .ge off, 3)) (ht : (pc : Int) + off = (tgt : Int)) (hc : 0 ≤ x) (k1 : z_F l M B cu su tgt lv st S D κ f) : z_F l M B cu su pc lv (.int x :: st) S D κ f := by
  refine fun out ho => ⟨(k1 out ho).1, ?_⟩
  intro p e R s m args below meth c Q G cI cJ A X ρ H locs ls C hP hD hS hl hend
  exact lv_if_ge C.1 C.2.1 hdg ht (fun h => (k1 out ho).2 p e R s m args below meth c Q G cI cJ A X ρ H locs ls C hP hD hS hl hend) (fun h => absurd hc h)
theorem z_if_geN {x : Int32} {off : Int} (tgt : Nat) (hdg : decode M.2.1 pc = .ok (.ifCond .ge off, 3)) (ht : (pc : Int) + off = (tgt : Int)) (hc : ¬ 0 ≤ x) (k1 : z_F l M B cu su (pc + 3) lv st S D κ f) : z_F l M B cu su pc lv (.int x :: st) S D κ f := by
  refine fun out ho => ⟨(k1 out ho).1, ?_⟩
  intro p e R s m args below meth c Q G cI cJ A X ρ H locs ls C hP hD hS hl hend
  exact lv_if_ge C.1 C.2.1 hdg ht (fun h => absurd h hc) (fun h => (k1 out ho).2 p e R s m args below meth c Q G cI cJ A X ρ H locs ls C hP hD hS hl hend)
theorem z_if_ge {x : Int32} [Decidable (0 ≤ x)] {off : Int} (tgt : Nat) (hdg : decode M.2.1 pc = .ok (.ifCond .ge off, 3)) (ht : (pc : Int) + off = (tgt : Int)) (k1 : 0 ≤ x → z_F l M B cu su (tgt) lv st S D κ f) (k2 : ¬ 0 ≤ x → z_F l M B cu su (pc + 3) lv st S D κ g) : z_F l M B cu su pc lv (.int x :: st) S D κ (if 0 ≤ x then f else g) := by
  intro out ho
  by_cases h : 0 ≤ x
  · rw [if_pos h] at ho
    exact z_if_geJ tgt hdg ht h (k1 h) out ho
  · rw [if_neg h] at ho
    exact z_if_geN tgt hdg ht h (k2 h) out ho
theorem z_icmp_gtJ {x y : Int32} {off : Int} (tgt : Nat) (hdg : decode M.2.1 pc = .ok (.if_icmp .gt off, 3)) (ht : (pc : Int) + off = (tgt : Int)) (hc : y < x) (k1 : z_F l M B cu su tgt lv st S D κ f) : z_F l M B cu su pc lv (.int y :: .int x :: st) S D κ f := by
  refine fun out ho => ⟨(k1 out ho).1, ?_⟩
  intro p e R s m args below meth c Q G cI cJ A X ρ H locs ls C hP hD hS hl hend
  exact lv_icmp_gt C.1 C.2.1 hdg ht (fun h => (k1 out ho).2 p e R s m args below meth c Q G cI cJ A X ρ H locs ls C hP hD hS hl hend) (fun h => absurd hc h)
theorem z_icmp_gtN {x y : Int32} {off : Int} (tgt : Nat) (hdg : decode M.2.1 pc = .ok (.if_icmp .gt off, 3)) (ht : (pc : Int) + off = (tgt : Int)) (hc : ¬ y < x) (k1 : z_F l M B cu su (pc + 3) lv st S D κ f) : z_F l M B cu su pc lv (.int y :: .int x :: st) S D κ f := by
  refine fun out ho => ⟨(k1 out ho).1, ?_⟩
  intro p e R s m args below meth c Q G cI cJ A X ρ H locs ls C hP hD hS hl hend
  exact lv_icmp_gt C.1 C.2.1 hdg ht (fun h => absurd h hc) (fun h => (k1 out ho).2 p e R s m args below meth c Q G cI cJ A X ρ H locs ls C hP hD hS hl hend)
theorem z_icmp_gt {x y : Int32} [Decidable (y < x)] {off : Int} (tgt : Nat) (hdg : decode M.2.1 pc = .ok (.if_icmp .gt off, 3)) (ht : (pc : Int) + off = (tgt : Int)) (k1 : y < x → z_F l M B cu su (tgt) lv st S D κ f) (k2 : ¬ y < x → z_F l M B cu su (pc + 3) lv st S D κ g) : z_F l M B cu su pc lv (.int y :: .int x :: st) S D κ (if y < x then f else g) := by
  intro out ho
  by_cases h : y < x
  · rw [if_pos h] at ho
    exact z_icmp_gtJ tgt hdg ht h (k1 h) out ho
  · rw [if_neg h] at ho
    exact z_icmp_gtN tgt hdg ht h (k2 h) out ho
theorem z_if_gtJ {x : Int32} {off : Int} (tgt : Nat) (hdg : decode M.2.1 pc = .ok (.ifCond .gt off, 3)) (ht : (pc : Int) + off = (tgt : Int)) (hc : 0 < x) (k1 : z_F l M B cu su tgt lv st S D κ f) : z_F l M B cu su pc lv (.int x :: st) S D κ f := by
  refine fun out ho => ⟨(k1 out ho).1, ?_⟩
  intro p e R s m args below meth c Q G cI cJ A X ρ H locs ls C hP hD hS hl hend
  exact lv_if_gt C.1 C.2.1 hdg ht (fun h => (k1 out ho).2 p e R s m args below meth c Q G cI cJ A X ρ H locs ls C hP hD hS hl hend) (fun h => absurd hc h)
theorem z_if_gtN {x : Int32} {off : Int} (tgt : Nat) (hdg : decode M.2.1 pc = .ok (.ifCond .gt off, 3)) (ht : (pc : Int) + off = (tgt : Int)) (hc : ¬ 0 < x) (k1 : z_F l M B cu su (pc + 3) lv st S D κ f) : z_F l M B cu su pc lv (.int x :: st) S D κ f := by
  refine fun out ho => ⟨(k1 out ho).1, ?_⟩
  intro p e R s m args below meth c Q G cI cJ A X ρ H locs ls C hP hD hS hl hend
  exact lv_if_gt C.1 C.2.1 hdg ht (fun h => absurd h hc) (fun h => (k1 out ho).2 p e R s m args below meth c Q G cI cJ A X ρ H locs ls C hP hD hS hl hend)
theorem z_if_gt {x : Int32} [Decidable (0 < x)] {off : Int} (tgt : Nat) (hdg : decode M.2.1 pc = .ok (.ifCond .gt off, 3)) (ht : (pc : Int) + off = (tgt : Int)) (k1 : 0 < x → z_F l M B cu su (tgt) lv st S D κ f) (k2 : ¬ 0 < x → z_F l M B cu su (pc + 3) lv st S D κ g) : z_F l M B cu su pc lv (.int x :: st) S D κ (if 0 < x then f else g) := by
  intro out ho
  by_cases h : 0 < x
  · rw [if_pos h] at ho
    exact z_if_gtJ tgt hdg ht h (k1 h) out ho
  · rw [if_neg h] at ho
    exact z_if_gtN tgt hdg ht h (k2 h) out ho
theorem z_icmp_leJ {x y : Int32} {off : Int} (tgt : Nat) (hdg : decode M.2.1 pc = .ok (.if_icmp .le off, 3)) (ht : (pc : Int) + off = (tgt : Int)) (hc : x ≤ y) (k1 : z_F l M B cu su tgt lv st S D κ f) : z_F l M B cu su pc lv (.int y :: .int x :: st) S D κ f := by
  refine fun out ho => ⟨(k1 out ho).1, ?_⟩
  intro p e R s m args below meth c Q G cI cJ A X ρ H locs ls C hP hD hS hl hend
  exact lv_icmp_le C.1 C.2.1 hdg ht (fun h => (k1 out ho).2 p e R s m args below meth c Q G cI cJ A X ρ H locs ls C hP hD hS hl hend) (fun h => absurd hc h)
theorem z_icmp_leN {x y : Int32} {off : Int} (tgt : Nat) (hdg : decode M.2.1 pc = .ok (.if_icmp .le off, 3)) (ht : (pc : Int) + off = (tgt : Int)) (hc : ¬ x ≤ y) (k1 : z_F l M B cu su (pc + 3) lv st S D κ f) : z_F l M B cu su pc lv (.int y :: .int x :: st) S D κ f := by
  refine fun out ho => ⟨(k1 out ho).1, ?_⟩
  intro p e R s m args below meth c Q G cI cJ A X ρ H locs ls C hP hD hS hl hend
  exact lv_icmp_le C.1 C.2.1 hdg ht (fun h => absurd h hc) (fun h => (k1 out ho).2 p e R s m args below meth c Q G cI cJ A X ρ H locs ls C hP hD hS hl hend)
theorem z_icmp_le {x y : Int32} [Decidable (x ≤ y)] {off : Int} (tgt : Nat) (hdg : decode M.2.1 pc = .ok (.if_icmp .le off, 3)) (ht : (pc : Int) + off = (tgt : Int)) (k1 : x ≤ y → z_F l M B cu su (tgt) lv st S D κ f) (k2 : ¬ x ≤ y → z_F l M B cu su (pc + 3) lv st S D κ g) : z_F l M B cu su pc lv (.int y :: .int x :: st) S D κ (if x ≤ y then f else g) := by
  intro out ho
  by_cases h : x ≤ y
  · rw [if_pos h] at ho
    exact z_icmp_leJ tgt hdg ht h (k1 h) out ho
  · rw [if_neg h] at ho
    exact z_icmp_leN tgt hdg ht h (k2 h) out ho
theorem z_if_leJ {x : Int32} {off : Int} (tgt : Nat) (hdg : decode M.2.1 pc = .ok (.ifCond .le off, 3)) (ht : (pc : Int) + off = (tgt : Int)) (hc : x ≤ 0) (k1 : z_F l M B cu su tgt lv st S D κ f) : z_F l M B cu su pc lv (.int x :: st) S D κ f := by
  refine fun out ho => ⟨(k1 out ho).1, ?_⟩
  intro p e R s m args below meth c Q G cI cJ A X ρ H locs ls C hP hD hS hl hend
  exact lv_if_le C.1 C.2.1 hdg ht (fun h => (k1 out ho).2 p e R s m args below meth c Q G cI cJ A X ρ H locs ls C hP hD hS hl hend) (fun h => absurd hc h)
theorem z_if_leN {x : Int32} {off : Int} (tgt : Nat) (hdg : decode M.2.1 pc = .ok (.ifCond .le off, 3)) (ht : (pc : Int) + off = (tgt : Int)) (hc : ¬ x ≤ 0) (k1 : z_F l M B cu su (pc + 3) lv st S D κ f) : z_F l M B cu su pc lv (.int x :: st) S D κ f := by
  refine fun out ho => ⟨(k1 out ho).1, ?_⟩
  intro p e R s m args below meth c Q G cI cJ A X ρ H locs ls C hP hD hS hl hend
  exact lv_if_le C.1 C.2.1 hdg ht (fun h => absurd h hc) (fun h => (k1 out ho).2 p e R s m args below meth c Q G cI cJ A X ρ H locs ls C hP hD hS hl hend)
theorem z_if_le {x : Int32} [Decidable (x ≤ 0)] {off : Int} (tgt : Nat) (hdg : decode M.2.1 pc = .ok (.ifCond .le off, 3)) (ht : (pc : Int) + off = (tgt : Int)) (k1 : x ≤ 0 → z_F l M B cu su (tgt) lv st S D κ f) (k2 : ¬ x ≤ 0 → z_F l M B cu su (pc + 3) lv st S D κ g) : z_F l M B cu su pc lv (.int x :: st) S D κ (if x ≤ 0 then f else g) := by
  intro out ho
  by_cases h : x ≤ 0
  · rw [if_pos h] at ho
    exact z_if_leJ tgt hdg ht h (k1 h) out ho
  · rw [if_neg h] at ho
    exact z_if_leN tgt hdg ht h (k2 h) out ho
theorem z_alen {k n : Nat} {rs : List (Option (Option Nat))} {v : Int32} (hdg : decode M.2.1 pc = .ok (.arraylength, 1)) (hk : S[k]? = some (0, n, rs)) (hv : Int32.ofNat n = v) (kk : z_F l M B cu su (pc + 1) lv (.int v :: st) S D κ f) : z_F l M B cu su pc lv (.ref k :: st) S D κ f := by
  refine fun out ho => ⟨(kk out ho).1, ?_⟩
  intro p e R s m args below meth c Q G cI cJ A X ρ H locs ls C hP hD hS hl hend
  exact va_alen C.1 C.2.1 C.2.2.2.2.2.2.2.2.1 hP k 0 (z_ws_at hk) (ty := .int) rfl hv hdg ((kk out ho).2 p e R s m args below meth c Q G cI cJ A X ρ H locs ls C hP hD hS hl hend)
theorem z_ialdC {k n : Nat} {rs : List (Option (Option Nat))} {i : Int32} (hdg : decode M.2.1 pc = .ok (.iaload, 1)) (hk : S[k]? = some (0, n, rs)) (hi : vp_in i n) (kk : z_F l M B cu su (pc + 1) lv (.int (D k (z_ix i)) :: st) S D κ f) : z_F l M B cu su pc lv (.int i :: .ref k :: st) S D κ f := by
  refine fun out ho => ⟨(kk out ho).1, ?_⟩
  intro p e R s m args below meth c Q G cI cJ A X ρ H locs ls C hP hD hS hl hend
  exact va_iald C.1 C.2.1 C.2.2.2.2.2.2.2.2.1 hP k 0 (z_ws_at hk) rfl hi hdg ((kk out ho).2 p e R s m args below meth c Q G cI cJ A X ρ H locs ls C hP hD hS hl hend)
theorem z_iald {α : Type} {κ : α → z_Out} {f : Option α} {k n : Nat} {rs : List (Option (Option Nat))} {i : Int32} [Decidable (z_inb i n)] (hdg : decode M.2.1 pc = .ok (.iaload, 1)) (hk : S[k]? = some (0, n, rs)) (kk : z_F l M B cu su (pc + 1) lv (.int (D k (z_ix i)) :: st) S D (z_ko κ) f) : z_F l M B cu su pc lv (.int i :: .ref k :: st) S D (z_ko κ) (if z_inb i n then f else none) := by
  intro out ho
  by_cases h : z_inb i n
  · rw [if_pos h] at ho
    exact z_ialdC hdg hk (z_inb_vp h) kk out ho
  · rw [if_neg h] at ho
    obtain ⟨a, h1, -⟩ := ho
    cases h1
theorem z_iastC {k n : Nat} {rs : List (Option (Option Nat))} {i x : Int32} (hdg : decode M.2.1 pc = .ok (.iastore, 1)) (hk : S[k]? = some (0, n, rs)) (hi : vp_in i n) (kk : z_F l M B cu su (pc + 1) lv st S (z_up D k (z_ix i) x) κ f) : z_F l M B cu su pc lv (.int x :: .int i :: .ref k :: st) S D κ f := by
  refine fun out ho => ⟨(kk out ho).1, ?_⟩
  intro p e_ R s m args below meth c Q G cI cJ A X ρ H locs ls C hP hD hS hl hend
  refine va_iast C.1 C.2.1 C.2.2.2.2.2.2.2.2.1 hP hD hS k 0 (z_ws_at hk) rfl hi hdg (fun H1 locs1 hP1 hD1 hS1 => ?_)
  have e := z_ws_set (ρ := ρ) (cI := cI) (cJ := cJ) (D := D) (D' := z_up D k (z_ix i) x) (sp' := (0, n, rs)) hk (e := .inl (cI, n, .inl (upd (D k) i.toNatClampNeg x))) (by rw [z_up_row]; rfl) (fun b hb => z_up_ne hb)
  rw [e, z_set_self hk] at hP1 hD1
  exact (kk out ho).2 p e_ R s m args below meth c Q G cI cJ A X ρ H1 locs1 ls C hP1 hD1 hS1 hl hend
theorem z_iast {α : Type} {κ : α → z_Out} {f : z_Dat → Option α} {k n : Nat} {rs : List (Option (Option Nat))} {i x : Int32} [Decidable (z_inb i n)] (hdg : decode M.2.1 pc = .ok (.iastore, 1)) (hk : S[k]? = some (0, n, rs)) (kk : ∀ D', z_F l M B cu su (pc + 1) lv st S D' (z_ko κ) (f D')) : z_F l M B cu su pc lv (.int x :: .int i :: .ref k :: st) S D (z_ko κ) (if z_inb i n then z_let (z_up D k (z_ix i) x) f else none) := by
  intro out ho
  by_cases h : z_inb i n
  · rw [if_pos h] at ho
    exact z_iastC hdg hk (z_inb_vp h) (kk _) out ho
  · rw [if_neg h] at ho
    obtain ⟨a, h1, -⟩ := ho
    cases h1
theorem z_getI {k ci N nn j idx : Nat} {C0 : String} {T : u_T} {rs : List (Option (Option Nat))} (hdg : decode M.2.1 pc = .ok (.getfield idx, 3)) (hcl : z_cl ci C0 T N) (hk : S[k]? = some (ci + 2, nn, rs)) (hj : j < N) (hr : rs[j]? = some none) (hT : (T j).1 = C0) (hlink : Cond.fieldLink M.1.cls idx C0 (T j).2.1 (T j).2.2.1 ∈ z_gw) (kk : z_F l M B cu su (pc + 3) lv (.int (D k j) :: st) S D κ f) : z_F l M B cu su pc lv (.ref k :: st) S D κ f := by
  refine fun out ho => ⟨(kk out ho).1, ?_⟩
  intro p e R s m args below meth c Q G cI cJ A X ρ H locs ls C hP hD hS hl hend
  exact va_get C.1 C.2.1 C.2.2.2.2.1 hcl.2 C.2.2.2.1 C.2.2.2.2.2.2.2.2.1 hP k (z_ws_at hk) hcl.1 j hj (C.2.2.2.2.1 _ hlink) (fun _ h => by rw [hT] at h; exact h) (z_fs_at hr) hdg ((kk out ho).2 p e R s m args below meth c Q G cI cJ A X ρ H locs ls C hP hD hS hl hend)
theorem z_getR {k ci N nn j idx r : Nat} {C0 : String} {T : u_T} {rs : List (Option (Option Nat))} (hdg : decode M.2.1 pc = .ok (.getfield idx, 3)) (hcl : z_cl ci C0 T N) (hk : S[k]? = some (ci + 2, nn, rs)) (hj : j < N) (hr : rs[j]? = some (some (some r))) (hT : (T j).1 = C0) (hlink : Cond.fieldLink M.1.cls idx C0 (T j).2.1 (T j).2.2.1 ∈ z_gw) (kk : z_F l M B cu su (pc + 3) lv (.ref r :: st) S D κ f) : z_F l M B cu su pc lv (.ref k :: st) S D κ f := by
  refine fun out ho => ⟨(kk out ho).1, ?_⟩
  intro p e R s m args below meth c Q G cI cJ A X ρ H locs ls C hP hD hS hl hend
  exact va_get C.1 C.2.1 C.2.2.2.2.1 hcl.2 C.2.2.2.1 C.2.2.2.2.2.2.2.2.1 hP k (z_ws_at hk) hcl.1 j hj (C.2.2.2.2.1 _ hlink) (fun _ h => by rw [hT] at h; exact h) (z_fs_at hr) hdg ((kk out ho).2 p e R s m args below meth c Q G cI cJ A X ρ H locs ls C hP hD hS hl hend)
theorem z_getIN {k ci N nn j idx : Nat} {C0 host : String} {T : u_T} {rs : List (Option (Option Nat))} (hdg : decode M.2.1 pc = .ok (.getfield idx, 3)) (hcl : z_cl ci C0 T N) (hk : S[k]? = some (ci + 2, nn, rs)) (hj : j < N) (hr : rs[j]? = some none) (hT : (T j).1 = C0) (hlink : Cond.fieldLinkNest M.1.cls idx C0 (T j).2.1 (T j).2.2.1 host ∈ z_nw) (kk : z_F l M B cu su (pc + 3) lv (.int (D k j) :: st) S D κ f) : z_F l M B cu su pc lv (.ref k :: st) S D κ f := by
  refine fun out ho => ⟨(kk out ho).1, ?_⟩
  intro p e R s m args below meth c Q G cI cJ A X ρ H locs ls C hP hD hS hl hend
  exact va_getN C.1 C.2.1 C.2.2.2.2.1 hcl.2 C.2.2.2.1 C.2.2.2.2.2.2.2.2.1 hP k (z_ws_at hk) hcl.1 j hj (va_Nw.use rfl (C.2.2.2.2.2.2.2.2.2.2.2.2.2.1 _ hlink)) (fun _ h => by rw [hT] at h; exact h) (z_fs_at hr) hdg ((kk out ho).2 p e R s m args below meth c Q G cI cJ A X ρ H locs ls C hP hD hS hl hend)
theorem z_getRN {k ci N nn j idx r : Nat} {C0 host : String} {T : u_T} {rs : List (Option (Option Nat))} (hdg : decode M.2.1 pc = .ok (.getfield idx, 3)) (hcl : z_cl ci C0 T N) (hk : S[k]? = some (ci + 2, nn, rs)) (hj : j < N) (hr : rs[j]? = some (some (some r))) (hT : (T j).1 = C0) (hlink : Cond.fieldLinkNest M.1.cls idx C0 (T j).2.1 (T j).2.2.1 host ∈ z_nw) (kk : z_F l M B cu su (pc + 3) lv (.ref r :: st) S D κ f) : z_F l M B cu su pc lv (.ref k :: st) S D κ f := by
  refine fun out ho => ⟨(kk out ho).1, ?_⟩
  intro p e R s m args below meth c Q G cI cJ A X ρ H locs ls C hP hD hS hl hend
  exact va_getN C.1 C.2.1 C.2.2.2.2.1 hcl.2 C.2.2.2.1 C.2.2.2.2.2.2.2.2.1 hP k (z_ws_at hk) hcl.1 j hj (va_Nw.use rfl (C.2.2.2.2.2.2.2.2.2.2.2.2.2.1 _ hlink)) (fun _ h => by rw [hT] at h; exact h) (z_fs_at hr) hdg ((kk out ho).2 p e R s m args below meth c Q G cI cJ A X ρ H locs ls C hP hD hS hl hend)
theorem z_putI {β : Type} {κ : β → z_Out → Prop} {f : z_Dat → β} {k ci N nn j idx : Nat} {C0 : String} {T : u_T} {ty0 : Nat → FieldType} {ty : FieldType} {rs : List (Option (Option Nat))} {x : Int32} (hdg : decode M.2.1 pc = .ok (.putfield idx, 3)) (hcl : z_cl ci C0 T N) (hty : ∀ k, k < N → parseFieldDescriptor (T k).2.2.1 = some (ty0 k)) (hnm : ∀ a, a < N → ∀ b, b < N → a ≠ b → (T a).2.1 ≠ (T b).2.1) (hk : S[k]? = some (ci + 2, nn, rs)) (hj : j < N) (hr : rs[j]? = some none) (hT : (T j).1 = C0) (hf : (T j).2.2.2 = false) (h0 : ty0 j = ty) (hn : narrow ty (.int x) = .int x) (hfi : fits ty (.int x) = true) (hlink : Cond.fieldLink M.1.cls idx C0 (T j).2.1 (T j).2.2.1 ∈ z_gw) (kk : ∀ D', z_F l M B cu su (pc + 3) lv st S D' κ (f D')) : z_F l M B cu su pc lv (.int x :: .ref k :: st) S D κ (z_let (z_up D k j x) f) := by
  refine fun out ho => ⟨(kk _ out ho).1, ?_⟩
  intro p e_ R s m args below meth c Q G cI cJ A X ρ H locs ls C hP hD hS hl hend
  subst h0
  have hjl : j < rs.length := (List.getElem?_eq_some_iff.mp hr).1
  refine va_put (v := .int x) C.1 C.2.1 C.2.2.2.2.1 hcl.2 ty0 hty hnm C.2.2.2.1 C.2.2.2.2.2.2.2.2.1 hP hD hS k (z_ws_at hk) hcl.1 j hj (C.2.2.2.2.1 _ hlink) (fun _ h => by rw [hT] at h; exact h) hf (hty j hj) hn hfi (by rw [z_fs_len]; exact hjl) hdg (fun H1 locs1 hP1 hD1 hS1 => ?_)
  have e := z_ws_set (ρ := ρ) (cI := cI) (cJ := cJ) (D := D) (D' := z_up D k j x) (sp' := (ci + 2, nn, rs)) hk (e := .inr (ci, (z_fs ρ rs (D k)).set j (.int x))) (by
    have h1 := z_fs_set (ρ := ρ) (rs := rs) (rs' := rs) (row := D k) (row' := z_up D k j x k) (j := j) (r := none) (v := .int x) hjl (by
      apply List.ext_getElem?
      intro i
      rw [List.getElem?_set]
      by_cases hi : j = i
      · subst hi; rw [if_pos rfl, if_pos hjl]; exact hr
      · rw [if_neg hi]) (by simp [z_fv, z_up]) (fun i hi => by simp [z_up, hi])
    rw [h1]
    rfl) (fun b hb => z_up_ne hb)
  rw [e, z_set_self hk] at hP1 hD1
  exact (kk _ out ho).2 p e_ R s m args below meth c Q G cI cJ A X ρ H1 locs1 ls C hP1 hD1 hS1 hl hend
theorem z_ireturn {κ : γ → z_Out → Prop} {v : Int32} (hdg : decode M.2.1 pc = .ok (.ireturn, 1)) (hκ : ∀ out, κ f out → out = (.inl (some (.int v)), S, D)) (hz : z_okv M.2.2.2.1 (.inl (some (.int v)))) (h1 : cu ≤ B.2.2.1) (h2 : su ≤ B.2.2.2) : z_F l M B cu su pc lv [.int v] S D κ f := by
  refine fun out ho => ⟨by cases hκ out ho; exact hz, ?_⟩
  intro p e R s m args below meth c Q G cI cJ A X ρ H locs ls C hP hD hS hl hend
  cases hκ out ho
  exact W.widen h1 h2 (hend ρ H locs pc ls z_ext.rf hP hD hS hdg)
theorem z_lreturn {κ : γ → z_Out → Prop} {v : Int64} (hdg : decode M.2.1 pc = .ok (.lreturn, 1)) (hκ : ∀ out, κ f out → out = (.inl (some (.long v)), S, D)) (hz : z_okv M.2.2.2.1 (.inl (some (.long v)))) (h1 : cu ≤ B.2.2.1) (h2 : su ≤ B.2.2.2) : z_F l M B cu su pc lv [.long v] S D κ f := by
  refine fun out ho => ⟨by cases hκ out ho; exact hz, ?_⟩
  intro p e R s m args below meth c Q G cI cJ A X ρ H locs ls C hP hD hS hl hend
  cases hκ out ho
  exact W.widen h1 h2 (hend ρ H locs pc ls z_ext.rf hP hD hS hdg)
theorem z_vreturn {κ : γ → z_Out → Prop} (hdg : decode M.2.1 pc = .ok (.return_, 1)) (hκ : ∀ out, κ f out → out = (.inl none, S, D)) (hz : z_okv M.2.2.2.1 (.inl none)) (h1 : cu ≤ B.2.2.1) (h2 : su ≤ B.2.2.2) : z_F l M B cu su pc lv [] S D κ f := by
  refine fun out ho => ⟨by cases hκ out ho; exact hz, ?_⟩
  intro p e R s m args below meth c Q G cI cJ A X ρ H locs ls C hP hD hS hl hend
  cases hκ out ho
  exact W.widen h1 h2 (hend ρ H locs pc ls z_ext.rf hP hD hS hdg)
theorem z_loops {σ α : Type} {κ : α → z_Out} {body : (σ → Option α) → σ → Option α} (lvOf : σ → List (Option Value)) (dOf : σ → z_Dat) (hb : ∀ kc : σ → Option α, (∀ s, z_F l M B cu su pc (lvOf s) [] S (dOf s) (z_ko κ) (kc s)) → ∀ s, z_F l M B cu su pc (lvOf s) [] S (dOf s) (z_ko κ) (body kc s)) : ∀ (n : Nat) (s : σ), z_F l M B cu su pc (lvOf s) [] S (dOf s) (z_ko κ) (z_loop body n s)
  | 0, s => fun out ho => by
    obtain ⟨a, h1, -⟩ := ho
    cases h1
  | n + 1, s => hb (z_loop body n) (fun s => z_loops lvOf dOf hb n s) s
theorem z_iastL {β : Type} {κ : β → z_Out → Prop} {f : z_Dat → β} {k n : Nat} {rs : List (Option (Option Nat))} {i x : Int32} (hdg : decode M.2.1 pc = .ok (.iastore, 1)) (hk : S[k]? = some (0, n, rs)) (hi : vp_in i n) (kk : ∀ D', z_F l M B cu su (pc + 1) lv st S D' κ (f D')) : z_F l M B cu su pc lv (.int x :: .int i :: .ref k :: st) S D κ (z_let (z_up D k (z_ix i) x) f) := z_iastC hdg hk hi (kk _)
theorem z_ite {c : Prop} [Decidable c] (k1 : c → z_F l M B cu su pc lv st S D κ f) (k2 : ¬ c → z_F l M B cu su pc lv st S D κ g) : z_F l M B cu su pc lv st S D κ (if c then f else g) := by
  intro out ho
  by_cases h : c
  · rw [if_pos h] at ho
    exact k1 h out ho
  · rw [if_neg h] at ho
    exact k2 h out ho
theorem z_tswC {dflt lo hi : Int} {offs : Array Int} {len : Nat} {x c : Int32} {off : Int} (tgt : Nat) (hdg : decode M.2.1 pc = .ok (.tableswitch dflt lo hi offs, len)) (hx : x = c) (h1 : ¬ c.toInt < lo) (h2 : ¬ hi < c.toInt) (ho : offs[(c.toInt - lo).toNat]? = some off) (ht : (pc : Int) + off = (tgt : Int)) (k : z_F l M B cu su tgt lv st S D κ f) : z_F l M B cu su pc lv (.int x :: st) S D κ f := by
  subst hx
  refine fun out ho2 => ⟨(k out ho2).1, ?_⟩
  intro p e R s m args below meth cc Q G cI cJ A X ρ H locs ls C hP hD hS hl hend
  exact lv_tableIn C.1 C.2.1 hdg h1 h2 ho ht ((k out ho2).2 p e R s m args below meth cc Q G cI cJ A X ρ H locs ls C hP hD hS hl hend)
theorem z_tswD {dflt lo hi : Int} {offs : Array Int} {len : Nat} {x : Int32} (tgt : Nat) (hdg : decode M.2.1 pc = .ok (.tableswitch dflt lo hi offs, len)) (h : x.toInt < lo ∨ hi < x.toInt) (ht : (pc : Int) + dflt = (tgt : Int)) (k : z_F l M B cu su tgt lv st S D κ f) : z_F l M B cu su pc lv (.int x :: st) S D κ f := by
  refine fun out ho2 => ⟨(k out ho2).1, ?_⟩
  intro p e R s m args below meth cc Q G cI cJ A X ρ H locs ls C hP hD hS hl hend
  exact lv_tableOut C.1 C.2.1 hdg h ht ((k out ho2).2 p e R s m args below meth cc Q G cI cJ A X ρ H locs ls C hP hD hS hl hend)
theorem z_lsw {dflt : Int} {ps : Array (Int × Int)} {len : Nat} {x : Int32} {off : Int} (tgt : Nat) (hdg : decode M.2.1 pc = .ok (.lookupswitch dflt ps, len)) (hp : (ps.toList.zip (ps.toList.drop 1)).all (fun (a, next) => a.1 < next.1) = true) (ho : Op.lookupswitch.offset ps.toList dflt x.toInt = off) (ht : (pc : Int) + off = (tgt : Int)) (k : z_F l M B cu su tgt lv st S D κ f) : z_F l M B cu su pc lv (.int x :: st) S D κ f := by
  refine fun out ho2 => ⟨(k out ho2).1, ?_⟩
  intro p e R s m args below meth cc Q G cI cJ A X ρ H locs ls C hP hD hS hl hend
  exact lv_lookup C.1 C.2.1 hdg hp ho ht ((k out ho2).2 p e R s m args below meth cc Q G cI cJ A X ρ H locs ls C hP hD hS hl hend)
theorem z_swn {x c : Int32} {k : Int} (h : ¬ x = c) (hk : c.toInt = k) : ¬ x.toInt = k := fun e => h (Int32.toInt_inj.mp (e.trans hk.symm))
theorem z_ldcS (i : Nat) {ix : Nat} (hi : i < 24) (hdg : decode M.2.1 pc = .ok (.ldc ix, 2)) (h1 : z_sown.getD i "" = M.1.cls) (h2 : z_sidx.getD i 0 = ix) (k : z_F l M B cu su (pc + 2) lv (.retAddr i :: st) S D κ f) : z_F l M B cu su pc lv st S D κ f := by
  refine fun out ho => ⟨(k out ho).1, ?_⟩
  intro p e R s m args below meth c Q G cI cJ A X ρ H locs ls C hP hD hS hl hend
  subst h2
  exact va_ldcS C.1 C.2.1 C.2.2.2.1 (by rw [← h1]; exact C.2.2.2.2.2.2.2.2.2.2.2.2.2.2.1 i hi) hdg ((k out ho).2 p e R s m args below meth c Q G cI cJ A X ρ H locs ls C hP hD hS hl hend)
theorem z_ldcSw (i : Nat) {ix : Nat} (hi : i < 24) (hdg : decode M.2.1 pc = .ok (.ldc_w ix, 3)) (h1 : z_sown.getD i "" = M.1.cls) (h2 : z_sidx.getD i 0 = ix) (k : z_F l M B cu su (pc + 3) lv (.retAddr i :: st) S D κ f) : z_F l M B cu su pc lv st S D κ f := by
  refine fun out ho => ⟨(k out ho).1, ?_⟩
  intro p e R s m args below meth c Q G cI cJ A X ρ H locs ls C hP hD hS hl hend
  subst h2
  intro T hT X2
  have hR := C.2.2.2.2.2.2.2.2.2.2.2.2.2.2.1 i hi
  rw [h1] at hR
  obtain ⟨t, a1, b1⟩ := (k out ho).2 p e R s m args below meth c Q G cI cJ A X ρ H locs ls C hP hD hS hl hend T hT X2
  exact ⟨t, z_ldcwStr X2 C.1 C.2.2.2.1 hR.1 hR.2 (g := F0 m pc ls _) rfl (by rw [C.2.1]; exact hdg) t a1, b1⟩
theorem z_getSv {i ix : Nat} (hi : i < 24) (hdg : decode M.2.1 pc = .ok (.getfield ix, 3)) (hlink : Cond.fieldLink M.1.cls ix "java/lang/String" "value" "[B" ∈ z_gw) (kk : z_F l M B cu su (pc + 3) lv (.retAddr (100 + i) :: st) S D κ f) : z_F l M B cu su pc lv (.retAddr i :: st) S D κ f := by
  refine fun out ho => ⟨(kk out ho).1, ?_⟩
  intro p e R s m args below meth c Q G cI cJ A X ρ H locs ls C hP hD hS hl hend
  exact vk_getf C.1 C.2.1 (C.2.2.2.2.2.2.2.2.2.2.1.2.2.2.1.1 i hi).2.2.1 hS C.2.2.2.1 (C.2.2.2.2.1 _ hlink) (fun _ h => h) hdg ((kk out ho).2 p e R s m args below meth c Q G cI cJ A X ρ H locs ls C hP hD hS hl hend)
theorem z_getSc {i ix : Nat} (hi : i < 24) (hdg : decode M.2.1 pc = .ok (.getfield ix, 3)) (hlink : Cond.fieldLink M.1.cls ix "java/lang/String" "coder" "B" ∈ z_gw) (kk : z_F l M B cu su (pc + 3) lv (.int 0 :: st) S D κ f) : z_F l M B cu su pc lv (.retAddr i :: st) S D κ f := by
  refine fun out ho => ⟨(kk out ho).1, ?_⟩
  intro p e R s m args below meth c Q G cI cJ A X ρ H locs ls C hP hD hS hl hend
  exact vk_getf C.1 C.2.1 (C.2.2.2.2.2.2.2.2.2.2.1.2.2.2.1.1 i hi).2.1 hS C.2.2.2.1 (C.2.2.2.2.1 _ hlink) (fun _ h => h) hdg ((kk out ho).2 p e R s m args below meth c Q G cI cJ A X ρ H locs ls C hP hD hS hl hend)
theorem z_getCS {ix : Nat} (hdg : decode M.2.1 pc = .ok (.getstatic ix, 3)) (hlink : Cond.fieldLink M.1.cls ix "java/lang/String" "COMPACT_STRINGS" "Z" ∈ z_gw) (kk : z_F l M B cu su (pc + 3) lv (.int 1 :: st) S D κ f) : z_F l M B cu su pc lv st S D κ f := by
  refine fun out ho => ⟨(kk out ho).1, ?_⟩
  intro p e R s m args below meth c Q G cI cJ A X ρ H locs ls C hP hD hS hl hend
  exact va_gets C.1 C.2.1 C.2.2.2.2.2.2.2.2.2.2.1.2.2.2.2.1 hS C.2.2.2.1 (C.2.2.2.2.1 _ hlink) (fun _ h => h) hdg ((kk out ho).2 p e R s m args below meth c Q G cI cJ A X ρ H locs ls C hP hD hS hl hend)
theorem z_getSI {ix : Nat} (hdg : decode M.2.1 pc = .ok (.getstatic ix, 3)) (hlink : Cond.fieldLink M.1.cls ix "jdk/internal/util/Preconditions" "SIOOBE_FORMATTER" "Ljava/util/function/BiFunction;" ∈ z_gw) (kk : z_F l M B cu su (pc + 3) lv (.null :: st) S D κ f) (k2 : z_F l M B cu su (pc + 3) lv (.retAddr 2000 :: st) S D κ f) : z_F l M B cu su pc lv st S D κ f := by
  refine fun out ho => ⟨(kk out ho).1, ?_⟩
  intro p e R s m args below meth c Q G cI cJ A X ρ H locs ls C hP hD hS hl hend
  rcases C.2.2.2.2.2.2.2.2.2.2.1.2.2.2.2.2 with h | h
  · exact va_gets C.1 C.2.1 h hS C.2.2.2.1 (C.2.2.2.2.1 _ hlink) (fun _ h => h) hdg ((kk out ho).2 p e R s m args below meth c Q G cI cJ A X ρ H locs ls C hP hD hS hl hend)
  · exact va_gets C.1 C.2.1 h hS C.2.2.2.1 (C.2.2.2.2.1 _ hlink) (fun _ h => h) hdg ((k2 out ho).2 p e R s m args below meth c Q G cI cJ A X ρ H locs ls C hP hD hS hl hend)
theorem z_alenS {i : Nat} (hi : i < 24) (hdg : decode M.2.1 pc = .ok (.arraylength, 1)) (kk : z_F l M B cu su (pc + 1) lv (.int (Int32.ofNat (z_slen.getD i 0)) :: st) S D κ f) : z_F l M B cu su pc lv (.retAddr (100 + i) :: st) S D κ f := by
  refine fun out ho => ⟨(kk out ho).1, ?_⟩
  intro p e R s m args below meth c Q G cI cJ A X ρ H locs ls C hP hD hS hl hend
  exact va_tlen C.1 C.2.1 (C.2.2.2.2.2.2.2.2.2.2.1.2.2.2.1.1 i hi).2.2.2 hS rfl hdg ((kk out ho).2 p e R s m args below meth c Q G cI cJ A X ρ H locs ls C hP hD hS hl hend)
theorem z_baldS {i : Nat} {j : Int32} (hi : i < 24) (hj : vp_in j (z_slen.getD i 0)) (hdg : decode M.2.1 pc = .ok (.baload, 1)) (kk : z_F l M B cu su (pc + 1) lv (.int ((z_sby.getD i []).getD (z_ix j) 0) :: st) S D κ f) : z_F l M B cu su pc lv (.int j :: .retAddr (100 + i) :: st) S D κ f := by
  refine fun out ho => ⟨(kk out ho).1, ?_⟩
  intro p e R s m args below meth c Q G cI cJ A X ρ H locs ls C hP hD hS hl hend
  exact va_tb C.1 C.2.1 (C.2.2.2.2.2.2.2.2.2.2.1.2.2.2.1.1 i hi).2.2.2 hS hj rfl hdg ((kk out ho).2 p e R s m args below meth c Q G cI cJ A X ρ H locs ls C hP hD hS hl hend)
theorem z_i2c {x : Int32} (hdg : decode M.2.1 pc = .ok (.i2c, 1)) (kk : z_F l M B cu su (pc + 1) lv (.int (x.toUInt32 % 65536).toInt32 :: st) S D κ f) : z_F l M B cu su pc lv (.int x :: st) S D κ f := by
  refine fun out ho => ⟨(kk out ho).1, ?_⟩
  intro p e R s m args below meth c Q G cI cJ A X ρ H locs ls C hP hD hS hl hend
  exact lv_i2c C.1 C.2.1 hdg rfl ((kk out ho).2 p e R s m args below meth c Q G cI cJ A X ρ H locs ls C hP hD hS hl hend)
theorem z_ifn {α : Type} {κ : α → z_Out} {f : Option α} {c : Prop} [Decidable c] (k : c → z_F l M B cu su pc lv st S D (z_ko κ) f) : z_F l M B cu su pc lv st S D (z_ko κ) (if c then f else none) := by
  intro out ho
  by_cases h : c
  · rw [if_pos h] at ho
    exact k h out ho
  · rw [if_neg h] at ho
    obtain ⟨a, h1, -⟩ := ho
    cases h1
end ZI
