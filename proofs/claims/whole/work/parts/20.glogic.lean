/-! ===== the law's own body: the same rules, upon one script (by program) ===== -/
def z_G (X : Nat × (Nat → Int32)) (l : Launch) (M : z_M) (B : z_B) (cu su pc : Nat) (lv : List (Option Value)) (st : List Value) (S : List z_Shp) (D : z_Dat) (out : z_Out) : Prop :=
  ∀ (p : Program) (e : Env) (R : Room) (s : State) (m : MethodId) (args : Array Value) (below : List Frame) (meth : Method) (c : Code) (Q : State → Prop) (G : va_G) (cI cJ : ClassId) (A : Nat → Prop) (ρ : z_Rho) (H : Heap) (locs : List Loc) (ls : Array Slot),
    z_Cx l M B p R s m args meth c G cI cJ A ρ.2 X → va_P G vwCl (z_ws ρ cI cJ S D) H → va_D A (z_ws ρ cI cJ S D) → va_S A s.heap H locs → z_lo ρ M.2.2.1 ls lv →
    z_end p l e R s m args below meth c B Q M G cI cJ A S.length ρ out →
    W p l e R s m args below meth c H locs cu su Q (F0 m pc ls (st.map (z_cv ρ)))
theorem z_jn00 : z_jn 0 0 = 0 := by decide +kernel
section GG
variable {X : Nat × (Nat → Int32)} {l : Launch} {M : z_M} {B : z_B} {cu su pc : Nat} {lv : List (Option Value)} {st : List Value} {S S' : List z_Shp} {D : z_Dat} {out : z_Out}
theorem g_iload {i : Nat} {x : Int32} (hdg : decode M.2.1 pc = .ok (.iload i, 2)) (hv : lv[i]? = some (some (.int x))) (k : z_G X l M B cu su (pc + 2) lv (.int x :: st) S D out) : z_G X l M B cu su pc lv (st) S D out := by
  intro p e R s m args below meth c Q G cI cJ A ρ H locs ls C hP hD hS hl hend
  exact lv_iload C.1 C.2.1 hdg (hl.2.2.2 _ _ hv) (k p e R s m args below meth c Q G cI cJ A ρ H locs ls C hP hD hS hl hend)
theorem g_iload_n {j : Fin 4} {i : Nat} {x : Int32} (hdg : decode M.2.1 pc = .ok (.iload_n j, 1)) (hi : (j : Nat) = i) (hv : lv[i]? = some (some (.int x))) (k : z_G X l M B cu su (pc + 1) lv (.int x :: st) S D out) : z_G X l M B cu su pc lv (st) S D out := by
  intro p e R s m args below meth c Q G cI cJ A ρ H locs ls C hP hD hS hl hend
  exact lv_iload_n C.1 C.2.1 hdg hi (hl.2.2.2 _ _ hv) (k p e R s m args below meth c Q G cI cJ A ρ H locs ls C hP hD hS hl hend)
theorem g_aload_n {j : Fin 4} {i x : Nat} (hdg : decode M.2.1 pc = .ok (.aload_n j, 1)) (hi : (j : Nat) = i) (hv : lv[i]? = some (some (.ref x))) (k : z_G X l M B cu su (pc + 1) lv (.ref x :: st) S D out) : z_G X l M B cu su pc lv (st) S D out := by
  intro p e R s m args below meth c Q G cI cJ A ρ H locs ls C hP hD hS hl hend
  exact lv_aload_n C.1 C.2.1 hdg hi (hl.2.2.2 _ _ hv) (k p e R s m args below meth c Q G cI cJ A ρ H locs ls C hP hD hS hl hend)
theorem g_iadd {x y : Int32} (hdg : decode M.2.1 pc = .ok (.iadd, 1)) (k : z_G X l M B cu su (pc + 1) lv (.int (x + y) :: st) S D out) : z_G X l M B cu su pc lv (.int y :: .int x :: st) S D out := by
  intro p e R s m args below meth c Q G cI cJ A ρ H locs ls C hP hD hS hl hend
  exact lv_iadd C.1 C.2.1 hdg (k p e R s m args below meth c Q G cI cJ A ρ H locs ls C hP hD hS hl hend)
theorem g_iconst {n : Int} {v : Int32} (hdg : decode M.2.1 pc = .ok (.iconst n, 1)) (hv : Int32.ofInt n = v) (k : z_G X l M B cu su (pc + 1) lv (.int v :: st) S D out) : z_G X l M B cu su pc lv (st) S D out := by
  intro p e R s m args below meth c Q G cI cJ A ρ H locs ls C hP hD hS hl hend
  exact lv_iconst C.1 C.2.1 hdg hv (k p e R s m args below meth c Q G cI cJ A ρ H locs ls C hP hD hS hl hend)
theorem g_bipush {n : Int} {v : Int32} (hdg : decode M.2.1 pc = .ok (.bipush n, 2)) (hv : (Int8.ofInt n).toInt32 = v) (k : z_G X l M B cu su (pc + 2) lv (.int v :: st) S D out) : z_G X l M B cu su pc lv (st) S D out := by
  intro p e R s m args below meth c Q G cI cJ A ρ H locs ls C hP hD hS hl hend
  exact lv_bipush C.1 C.2.1 hdg hv (k p e R s m args below meth c Q G cI cJ A ρ H locs ls C hP hD hS hl hend)
theorem g_istore {i : Nat} {x : Int32} {lv' : List (Option Value)} (hdg : decode M.2.1 pc = .ok (.istore i, 2)) (hn : i < M.2.2.1) (hz : z_o1 lv i = true) (hlv : lv.set i (some (.int x)) = lv') (k : z_G X l M B cu su (pc + 2) lv' st S D out) : z_G X l M B cu su pc lv (.int x :: st) S D out := by
  intro p e R s m args below meth c Q G cI cJ A ρ H locs ls C hP hD hS hl hend
  subst hlv
  exact lv_istore C.1 C.2.1 hdg hl.has hn rfl (fun ls' hl' => k p e R s m args below meth c Q G cI cJ A ρ H locs ls' C hP hD hS (hl.set1 (v := .int x) rfl hl' hz) hend)
theorem g_lstore {i : Nat} {x : Int64} {lv' : List (Option Value)} (hdg : decode M.2.1 pc = .ok (.lstore i, 2)) (hn : i + 1 < M.2.2.1) (hz : z_o1 lv i = true) (hlv : (lv.set i (some (.long x))).set (i + 1) none = lv') (k : z_G X l M B cu su (pc + 2) lv' st S D out) : z_G X l M B cu su pc lv (.long x :: st) S D out := by
  intro p e R s m args below meth c Q G cI cJ A ρ H locs ls C hP hD hS hl hend
  subst hlv
  exact lv_lstore C.1 C.2.1 hdg hl.has hn rfl (fun ls' hl' => k p e R s m args below meth c Q G cI cJ A ρ H locs ls' C hP hD hS (hl.set2 (v := .long x) rfl hl' hz) hend)
theorem g_lload {i : Nat} {x : Int64} (hdg : decode M.2.1 pc = .ok (.lload i, 2)) (hv : lv[i]? = some (some (.long x))) (k : z_G X l M B cu su (pc + 2) lv (.long x :: st) S D out) : z_G X l M B cu su pc lv (st) S D out := by
  intro p e R s m args below meth c Q G cI cJ A ρ H locs ls C hP hD hS hl hend
  exact lv_lload C.1 C.2.1 hdg (hl.2.2.2 _ _ hv) (k p e R s m args below meth c Q G cI cJ A ρ H locs ls C hP hD hS hl hend)
theorem g_astore_n {j : Fin 4} {i : Nat} {x : Nat} {lv' : List (Option Value)} (hdg : decode M.2.1 pc = .ok (.astore_n j, 1)) (hi : (j : Nat) = i) (hn : i < M.2.2.1) (hz : z_o1 lv i = true) (hlv : lv.set i (some (.ref x)) = lv') (k : z_G X l M B cu su (pc + 1) lv' st S D out) : z_G X l M B cu su pc lv (.ref x :: st) S D out := by
  intro p e R s m args below meth c Q G cI cJ A ρ H locs ls C hP hD hS hl hend
  subst hlv
  exact lv_astore_n C.1 C.2.1 hdg hi hl.has hn rfl (fun ls' hl' => k p e R s m args below meth c Q G cI cJ A ρ H locs ls' C hP hD hS (hl.set1 (v := .ref x) rfl hl' hz) hend)
theorem g_icmp_eqJ {x y : Int32} {off : Int} (tgt : Nat) (hdg : decode M.2.1 pc = .ok (.if_icmp .eq off, 3)) (ht : (pc : Int) + off = (tgt : Int)) (hc : x = y) (k1 : z_G X l M B cu su tgt lv st S D out) : z_G X l M B cu su pc lv (.int y :: .int x :: st) S D out := by
  intro p e R s m args below meth c Q G cI cJ A ρ H locs ls C hP hD hS hl hend
  exact lv_icmp_eq C.1 C.2.1 hdg ht (fun h => k1 p e R s m args below meth c Q G cI cJ A ρ H locs ls C hP hD hS hl hend) (fun h => absurd hc h)
theorem g_icmp_eqN {x y : Int32} {off : Int} (tgt : Nat) (hdg : decode M.2.1 pc = .ok (.if_icmp .eq off, 3)) (ht : (pc : Int) + off = (tgt : Int)) (hc : ¬ x = y) (k1 : z_G X l M B cu su (pc + 3) lv st S D out) : z_G X l M B cu su pc lv (.int y :: .int x :: st) S D out := by
  intro p e R s m args below meth c Q G cI cJ A ρ H locs ls C hP hD hS hl hend
  exact lv_icmp_eq C.1 C.2.1 hdg ht (fun h => absurd h hc) (fun h => k1 p e R s m args below meth c Q G cI cJ A ρ H locs ls C hP hD hS hl hend)
theorem g_goto {off : Int} (tgt : Nat) (hdg : decode M.2.1 pc = .ok (.goto off, 3)) (ht : (pc : Int) + off = (tgt : Int)) (k : z_G X l M B cu su tgt lv st S D out) : z_G X l M B cu su pc lv st S D out := by
  intro p e R s m args below meth c Q G cI cJ A ρ H locs ls C hP hD hS hl hend
  exact lv_goto C.1 C.2.1 hdg ht (k p e R s m args below meth c Q G cI cJ A ρ H locs ls C hP hD hS hl hend)
theorem g_if_eqJ {x : Int32} {off : Int} (tgt : Nat) (hdg : decode M.2.1 pc = .ok (.ifCond .eq off, 3)) (ht : (pc : Int) + off = (tgt : Int)) (hc : x = 0) (k1 : z_G X l M B cu su tgt lv st S D out) : z_G X l M B cu su pc lv (.int x :: st) S D out := by
  intro p e R s m args below meth c Q G cI cJ A ρ H locs ls C hP hD hS hl hend
  exact lv_if_eq C.1 C.2.1 hdg ht (fun h => k1 p e R s m args below meth c Q G cI cJ A ρ H locs ls C hP hD hS hl hend) (fun h => absurd hc h)
theorem g_if_eqN {x : Int32} {off : Int} (tgt : Nat) (hdg : decode M.2.1 pc = .ok (.ifCond .eq off, 3)) (ht : (pc : Int) + off = (tgt : Int)) (hc : ¬ x = 0) (k1 : z_G X l M B cu su (pc + 3) lv st S D out) : z_G X l M B cu su pc lv (.int x :: st) S D out := by
  intro p e R s m args below meth c Q G cI cJ A ρ H locs ls C hP hD hS hl hend
  exact lv_if_eq C.1 C.2.1 hdg ht (fun h => absurd h hc) (fun h => k1 p e R s m args below meth c Q G cI cJ A ρ H locs ls C hP hD hS hl hend)
theorem g_if_neJ {x : Int32} {off : Int} (tgt : Nat) (hdg : decode M.2.1 pc = .ok (.ifCond .ne off, 3)) (ht : (pc : Int) + off = (tgt : Int)) (hc : ¬ x = 0) (k1 : z_G X l M B cu su tgt lv st S D out) : z_G X l M B cu su pc lv (.int x :: st) S D out := by
  intro p e R s m args below meth c Q G cI cJ A ρ H locs ls C hP hD hS hl hend
  exact lv_if_ne C.1 C.2.1 hdg ht (fun h => k1 p e R s m args below meth c Q G cI cJ A ρ H locs ls C hP hD hS hl hend) (fun h => absurd h hc)
theorem g_if_neN {x : Int32} {off : Int} (tgt : Nat) (hdg : decode M.2.1 pc = .ok (.ifCond .ne off, 3)) (ht : (pc : Int) + off = (tgt : Int)) (hc : x = 0) (k1 : z_G X l M B cu su (pc + 3) lv st S D out) : z_G X l M B cu su pc lv (.int x :: st) S D out := by
  intro p e R s m args below meth c Q G cI cJ A ρ H locs ls C hP hD hS hl hend
  exact lv_if_ne C.1 C.2.1 hdg ht (fun h => absurd hc h) (fun h => k1 p e R s m args below meth c Q G cI cJ A ρ H locs ls C hP hD hS hl hend)
theorem g_lcmp {x y : Int64} (hdg : decode M.2.1 pc = .ok (.lcmp, 1)) (k : z_G X l M B cu su (pc + 1) lv (.int (lg_cmp x y) :: st) S D out) : z_G X l M B cu su pc lv (.long y :: .long x :: st) S D out := by
  intro p e R s m args below meth c Q G cI cJ A ρ H locs ls C hP hD hS hl hend
  exact W.lcmp C.1 C.2.1 hdg (k p e R s m args below meth c Q G cI cJ A ρ H locs ls C hP hD hS hl hend)
theorem g_i2l {x : Int32} (hdg : decode M.2.1 pc = .ok (.i2l, 1)) (k : z_G X l M B cu su (pc + 1) lv (.long x.toInt64 :: st) S D out) : z_G X l M B cu su pc lv (.int x :: st) S D out := by
  intro p e R s m args below meth c Q G cI cJ A ρ H locs ls C hP hD hS hl hend
  exact lv_i2l C.1 C.2.1 hdg rfl (k p e R s m args below meth c Q G cI cJ A ρ H locs ls C hP hD hS hl hend)
theorem g_dup {v : Value} (hdg : decode M.2.1 pc = .ok (.dup, 1)) (hc : v.category = 1) (k : z_G X l M B cu su (pc + 1) lv (v :: v :: st) S D out) : z_G X l M B cu su pc lv (v :: st) S D out := by
  intro p e R s m args below meth c Q G cI cJ A ρ H locs ls C hP hD hS hl hend
  exact lv_dup C.1 C.2.1 hdg (by rw [z_cv_cat]; exact hc) (k p e R s m args below meth c Q G cI cJ A ρ H locs ls C hP hD hS hl hend)
theorem g_isub {x y : Int32} (hdg : decode M.2.1 pc = .ok (.isub, 1)) (k : z_G X l M B cu su (pc + 1) lv (.int (x - y) :: st) S D out) : z_G X l M B cu su pc lv (.int y :: .int x :: st) S D out := by
  intro p e R s m args below meth c Q G cI cJ A ρ H locs ls C hP hD hS hl hend
  exact lv_isub C.1 C.2.1 hdg (k p e R s m args below meth c Q G cI cJ A ρ H locs ls C hP hD hS hl hend)
theorem g_icmp_gtJ {x y : Int32} {off : Int} (tgt : Nat) (hdg : decode M.2.1 pc = .ok (.if_icmp .gt off, 3)) (ht : (pc : Int) + off = (tgt : Int)) (hc : y < x) (k1 : z_G X l M B cu su tgt lv st S D out) : z_G X l M B cu su pc lv (.int y :: .int x :: st) S D out := by
  intro p e R s m args below meth c Q G cI cJ A ρ H locs ls C hP hD hS hl hend
  exact lv_icmp_gt C.1 C.2.1 hdg ht (fun h => k1 p e R s m args below meth c Q G cI cJ A ρ H locs ls C hP hD hS hl hend) (fun h => absurd hc h)
theorem g_icmp_gtN {x y : Int32} {off : Int} (tgt : Nat) (hdg : decode M.2.1 pc = .ok (.if_icmp .gt off, 3)) (ht : (pc : Int) + off = (tgt : Int)) (hc : ¬ y < x) (k1 : z_G X l M B cu su (pc + 3) lv st S D out) : z_G X l M B cu su pc lv (.int y :: .int x :: st) S D out := by
  intro p e R s m args below meth c Q G cI cJ A ρ H locs ls C hP hD hS hl hend
  exact lv_icmp_gt C.1 C.2.1 hdg ht (fun h => absurd h hc) (fun h => k1 p e R s m args below meth c Q G cI cJ A ρ H locs ls C hP hD hS hl hend)
theorem g_iand {x y : Int32} (hdg : decode M.2.1 pc = .ok (.iand, 1)) (k : z_G X l M B cu su (pc + 1) lv (.int (x &&& y) :: st) S D out) : z_G X l M B cu su pc lv (.int y :: .int x :: st) S D out := by
  intro p e R s m args below meth c Q G cI cJ A ρ H locs ls C hP hD hS hl hend
  exact lv_iand C.1 C.2.1 hdg (k p e R s m args below meth c Q G cI cJ A ρ H locs ls C hP hD hS hl hend)
theorem g_tswC {dflt lo hi : Int} {offs : Array Int} {len : Nat} {x c : Int32} {off : Int} (tgt : Nat) (hdg : decode M.2.1 pc = .ok (.tableswitch dflt lo hi offs, len)) (hx : x = c) (h1 : ¬ c.toInt < lo) (h2 : ¬ hi < c.toInt) (ho : offs[(c.toInt - lo).toNat]? = some off) (ht : (pc : Int) + off = (tgt : Int)) (k : z_G X l M B cu su tgt lv st S D out) : z_G X l M B cu su pc lv (.int x :: st) S D out := by
  subst hx
  intro p e R s m args below meth cc Q G cI cJ A ρ H locs ls C hP hD hS hl hend
  exact lv_tableIn C.1 C.2.1 hdg h1 h2 ho ht (k p e R s m args below meth cc Q G cI cJ A ρ H locs ls C hP hD hS hl hend)
theorem g_lconst {n : Fin 2} {v : Int64} (hdg : decode M.2.1 pc = .ok (.lconst n, 1)) (hv : Int64.ofNat (n : Nat) = v) (k : z_G X l M B cu su (pc + 1) lv (.long v :: st) S D out) : z_G X l M B cu su pc lv (st) S D out := by
  intro p e R s m args below meth c Q G cI cJ A ρ H locs ls C hP hD hS hl hend
  exact lv_lconst C.1 C.2.1 hdg hv (k p e R s m args below meth c Q G cI cJ A ρ H locs ls C hP hD hS hl hend)
theorem g_iincC {i : Nat} {n : Int} {x v : Int32} {lv' : List (Option Value)} (hdg : decode M.2.1 pc = .ok (.iinc i n, 3)) (hv : lv[i]? = some (some (.int x))) (hx : x + Int32.ofInt n = v) (hn : i < M.2.2.1) (hz : z_o1 lv i = true) (hlv : lv.set i (some (.int v)) = lv') (k : z_G X l M B cu su (pc + 3) lv' st S D out) : z_G X l M B cu su pc lv st S D out := by
  intro p e R s m args below meth c Q G cI cJ A ρ H locs ls C hP hD hS hl hend
  subst hlv
  obtain ⟨q, hq⟩ := List.getElem?_of_mem (z_pairs_mem (ρ := ρ) (q := (i, .int x)).mpr ⟨.int x, hv, rfl⟩)
  exact lv_iinc C.1 C.2.1 hdg hl.has hq hx hn rfl (fun ls' hl' => k p e R s m args below meth c Q G cI cJ A ρ H locs ls' C hP hD hS (hl.set1 (v := .int v) rfl hl' hz) hend)
theorem g_call {M' : z_M} {B' : z_B} {As rest : List Value} {o' : z_Out} {v : Option Value} (hr : z_Runs l M B M' B' cu su pc As rest S D o') (ho : o'.1 = .inl v) (hv : ∀ (ρ : z_Rho), v.map (z_cv ρ) = v) (hs : z_same S.length o'.2.1.length lv rest) (h1 : S.length ≤ o'.2.1.length) (h2 : o'.2.1.length ≤ out.2.1.length)
    (kk : z_G X l M B (cu + B'.2.2.1) (su + B'.2.2.2) (pc + 3) lv (v.toList ++ rest) o'.2.1 o'.2.2 out) : z_G X l M B cu su pc lv (As.reverse ++ rest) S D out := by
  intro p e R s m args below meth c Q G cI cJ A ρ H locs ls C hP hD hS hl hend
  refine z_back (hr p e R s m args below meth c G cI cJ A X ρ H locs ls C hP hD hS hl.1) hS (z_free hD hS C.2.2.2.2.2.2.2.2.2.1) ?_ ?_
  · intro v' hv' ρ' H1 locs1 hx hP1 hD1 hS1
    rw [ho] at hv'
    cases hv'
    obtain ⟨e1, e2⟩ := hs ρ ρ' hx
    have k := kk p e R s m args below meth c Q G cI cJ A ρ' H1 locs1 ls (by rw [hx.2.1]; exact C) hP1 hD1 hS1 (hl.ext e2) (hend.ext hx h1 h2)
    rw [List.map_append, e1] at k
    rw [hv ρ']
    have e3 : List.map (z_cv ρ') v.toList = v.toList := by
      have := congrArg Option.toList (hv ρ')
      cases v with
      | none => rfl
      | some w => simpa using this
    rw [e3] at k
    exact k
  · intro E hE
    rw [ho] at hE
    cases hE
theorem g_newO {n ci N idx : Nat} {C0 : String} {T : u_T} {ty : Nat → FieldType} {rs : List (Option (Option Nat))} (hdg : decode M.2.1 pc = .ok (.new idx, 3)) (hcl : z_cl ci C0 T N) (hty : ∀ k, k < N → parseFieldDescriptor (T k).2.2.1 = some (ty k)) (hw : ∀ w ∈ [Cond.classLink M.1.cls idx C0, .instantiable C0 N, .initialized C0], w ∈ z_gw) (hrs : ∀ r ∈ rs, r = none ∨ r = some none) (hfs : ∀ j, j < N → defaultValue (ty j) = vp_V (z_fs0 rs) j)
    (hn : S.length = n) (hS' : S ++ [(ci + 2, N, rs)] = S') (hwf : z_wfb S n = true) (hsame : z_same n (n + 1) lv st) (hg : n + 1 ≤ out.2.1.length) (hB : cu + 1 ≤ B.2.2.1 ∧ su + N ≤ B.2.2.2)
    (k : z_G X l M B (cu + 1) (su + N) (pc + 3) lv (.ref n :: st) S' (z_new D n) out) : z_G X l M B cu su pc lv st S D out := by
  intro p e R s m args below meth c Q G cI cJ A ρ H locs ls C hP hD hS hl hend
  obtain ⟨r1, r2, r3, r4⟩ := C.2.2.2.2.2.2.2.1
  have hK := C.2.2.2.2.2.2.2.2.1
  have ok := C.2.2.2.2.1
  refine va_new (ci := ci) (fs := z_fs0 rs) C.1 C.2.1 ok hcl.2 ty hty C.2.2.2.1 (ok _ (hw (.classLink M.1.cls idx C0) (by simp))) (ok _ (hw (.instantiable C0 N) (by simp))) (ok _ (hw (.initialized C0) (by simp))) hK hP hD hS C.2.2.2.2.2.2.2.2.2.1 hcl.1 hfs (Nat.le_trans hB.1 r3) (Nat.le_trans hB.2 r4) hdg (fun q H1 hP1 hD1 hS1 => ?_)
  have ew := z_ws_app (ρ := ρ) (ρ' := (va_up ρ.1 n q, ρ.2)) (cI := cI) (cJ := cJ) (D := D) (q := q) (sp := (ci + 2, N, rs)) (e := .inr (ci, z_fs0 rs)) hn hwf (fun k hk => by simp [va_up, Nat.ne_of_lt hk]) (by simp [va_up]) (by show Sum.inr (ci, z_fs _ rs _) = _; rw [z_fs0_eq hrs])
  rw [ew, hS'] at hP1 hD1
  have hx2 : z_ext n (n + 1) ρ (va_up ρ.1 n q, ρ.2) := z_ext_new
  obtain ⟨e1, e2⟩ := hsame ρ _ hx2
  have hl' : S'.length = n + 1 := by rw [← hS', List.length_append, hn]; rfl
  have kk := k p e R s m args below meth c Q G cI cJ A (va_up ρ.1 n q, ρ.2) H1 locs ls C hP1 hD1 hS1 (hl.ext e2) (by rw [hl']; rw [hn] at hend; exact hend.ext hx2 (Nat.le_succ n) hg)
  have e3 : List.map (z_cv (va_up ρ.1 n q, ρ.2)) (.ref n :: st) = .ref q :: List.map (z_cv ρ) st := by
    rw [List.map_cons, e1]
    show Value.ref (va_up ρ.1 n q n) :: _ = _
    simp [va_up]
  rw [e3] at kk
  exact kk
theorem g_newaJ {n N : Nat} {x : Int32} (hdg : decode M.2.1 pc = .ok (.newarray .long, 2)) (harr : Cond.arrayClass .long ∈ z_gw) (hx : ¬ x < 0) (hN : x.toNatClampNeg = N) (hb : N * 8 ≤ 536870912) (hn : S.length = n) (hS' : S ++ [(1, N, [])] = S') (hwf : z_wfb S n = true) (hsame : z_same n (n + 1) lv st) (hg : n + 1 ≤ out.2.1.length) (hB : cu + 1 ≤ B.2.2.1 ∧ su + N ≤ B.2.2.2)
    (k : z_G X l M B (cu + 1) (su + N) (pc + 2) lv (.ref n :: st) S' (z_new D n) out) : z_G X l M B cu su pc lv (.int x :: st) S D out := by
  intro p e R s m args below meth c Q G cI cJ A ρ H locs ls C hP hD hS hl hend
  obtain ⟨r1, r2, r3, r4⟩ := C.2.2.2.2.2.2.2.1
  have hK := C.2.2.2.2.2.2.2.2.1
  have hcJ : s.vm.findClass ("[" ++ FieldType.long.toString) = some cJ := (hK.2 1 (cJ, .long) rfl).2
  refine va_newa (atype := .long) (ty := .long) (N' := N) (a0 := (N, .inr (.inl (fun _ => 0)))) C.1 C.2.1 (C.2.2.2.2.1 _ harr) rfl hK hP hD hS C.2.2.2.2.2.2.2.2.2.1 (fun _ => rfl) hx hN hb (Nat.le_trans hB.1 r3) (Nat.le_trans hB.2 r4) hdg (fun q cA H1 hK1 hP1 hD1 hS1 => ?_)
  have hcA : s.vm.findClass ("[" ++ FieldType.long.toString) = some cA := (hK1.2 2 (cA, .long) rfl).2
  cases Option.some.inj (hcJ.symm.trans hcA)
  have ew := z_ws_app (ρ := ρ) (ρ' := (va_up ρ.1 n q, ρ.2)) (cI := cI) (cJ := cJ) (D := D) (q := q) (sp := (1, N, [])) (e := .inl (cJ, N, .inr (.inl (fun _ => 0)))) hn hwf (fun k hk => by simp [va_up, Nat.ne_of_lt hk]) (by simp [va_up]) (by show (Sum.inl (cJ, N, Sum.inr (Sum.inl (fun _ => z_jn 0 0))) : va_E) = _; rw [z_jn00])
  rw [ew, hS'] at hP1 hD1
  have hx2 : z_ext n (n + 1) ρ (va_up ρ.1 n q, ρ.2) := z_ext_new
  obtain ⟨e1, e2⟩ := hsame ρ _ hx2
  have hl' : S'.length = n + 1 := by rw [← hS', List.length_append, hn]; rfl
  have kk := k p e R s m args below meth c Q G cI cJ A (va_up ρ.1 n q, ρ.2) H1 locs ls C hP1 hD1 hS1 (hl.ext e2) (by rw [hl']; rw [hn] at hend; exact hend.ext hx2 (Nat.le_succ n) hg)
  have e3 : List.map (z_cv (va_up ρ.1 n q, ρ.2)) (.ref n :: st) = .ref q :: List.map (z_cv ρ) st := by
    rw [List.map_cons, e1]
    show Value.ref (va_up ρ.1 n q n) :: _ = _
    simp [va_up]
  rw [e3] at kk
  exact kk
theorem g_aloadC_n {j : Fin 4} {i x : Nat} (hdg : decode M.2.1 pc = .ok (.aload_n j, 1)) (hi : (j : Nat) = i) (hv : lv[i]? = some (some (.retAddr x))) (k : z_G X l M B cu su (pc + 1) lv (.retAddr x :: st) S D out) : z_G X l M B cu su pc lv (st) S D out := by
  intro p e R s m args below meth c Q G cI cJ A ρ H locs ls C hP hD hS hl hend
  exact lv_aload_n C.1 C.2.1 hdg hi (hl.2.2.2 _ _ hv) (k p e R s m args below meth c Q G cI cJ A ρ H locs ls C hP hD hS hl hend)
theorem g_cK {M' : z_M} {B' : z_B} {As rest : List Value} {S2 : List z_Shp} {D2 : z_Dat} (hM : z_EM l M' B' As S D (.inl none, S2, D2)) (hr : ∀ o', z_EM l M' B' As S D o' → z_Runs l M B M' B' cu su pc As rest S D o') (hs : z_same S.length S2.length lv rest) (h1 : S.length ≤ S2.length) (hg : S2.length ≤ out.2.1.length) (kk : z_G X l M B (cu + B'.2.2.1) (su + B'.2.2.2) (pc + 3) lv rest S2 D2 out) : z_G X l M B cu su pc lv (As.reverse ++ rest) S D out := g_call (hr _ hM) rfl (fun _ => rfl) hs h1 hg kk
/-- a call that answers, the shapes kept -/
theorem g_cE {M' : z_M} {B' : z_B} {As rest : List Value} {D2 : z_Dat} {v : Option Value} (hM : z_EM l M' B' As S D (.inl v, S, D2)) (hv : ∀ ρ : z_Rho, v.map (z_cv ρ) = v) (hr : ∀ o', z_EM l M' B' As S D o' → z_Runs l M B M' B' cu su pc As rest S D o') (hg : S.length ≤ out.2.1.length) (kk : z_G X l M B (cu + B'.2.2.1) (su + B'.2.2.2) (pc + 3) lv (v.toList ++ rest) S D2 out) : z_G X l M B cu su pc lv (As.reverse ++ rest) S D out := g_call (hr _ hM) rfl hv (z_same_eq rfl) (Nat.le_refl _) hg kk
theorem g_scr {i : Int32} (hdg : decode M.2.1 pc = .ok (.iaload, 1)) (hi : vp_in i X.1) (kk : z_G X l M B cu su (pc + 1) lv (.int (X.2 i.toNatClampNeg) :: st) S D out) : z_G X l M B cu su pc lv (.int i :: .retAddr 1000 :: st) S D out := by
  intro p e R s m args below meth c Q G cI cJ A ρ H locs ls C hP hD hS hl hend
  have hX := C.2.2.2.2.2.2.2.2.2.2.1.2.2.1
  exact va_sld C.1 C.2.1 hX.1 hX.2.2 hX.2.1 hS hi hdg (kk p e R s m args below meth c Q G cI cJ A ρ H locs ls C hP hD hS hl hend)
theorem g_slen (hdg : decode M.2.1 pc = .ok (.arraylength, 1)) (kk : z_G X l M B cu su (pc + 1) lv (.int (Int32.ofNat X.1) :: st) S D out) : z_G X l M B cu su pc lv (.retAddr 1000 :: st) S D out := by
  intro p e R s m args below meth c Q G cI cJ A ρ H locs ls C hP hD hS hl hend
  have hX := C.2.2.2.2.2.2.2.2.2.2.1.2.2.1
  exact va_slen C.1 C.2.1 hX.1 hX.2.2 hX.2.1 hS hdg (kk p e R s m args below meth c Q G cI cJ A ρ H locs ls C hP hD hS hl hend)
theorem g_lald {k n : Nat} {rs : List (Option (Option Nat))} {i : Int32} (hdg : decode M.2.1 pc = .ok (.laload, 1)) (hk : S[k]? = some (1, n, rs)) (hi : vp_in i n) (kk : z_G X l M B cu su (pc + 1) lv (.long (z_ldJ D k i.toNatClampNeg) :: st) S D out) : z_G X l M B cu su pc lv (.int i :: .ref k :: st) S D out := by
  intro p e_ R s m args below meth c Q G cI cJ A ρ H locs ls C hP hD hS hl hend
  exact va_lald C.1 C.2.1 C.2.2.2.2.2.2.2.2.1 hP k 1 (z_ws_at hk) rfl hi hdg (kk p e_ R s m args below meth c Q G cI cJ A ρ H locs ls C hP hD hS hl hend)
theorem g_ret {v : Int32} (hdg : decode M.2.1 pc = .ok (.ireturn, 1)) (ho : out = (.inl (some (.int v)), S, D)) (h1 : cu ≤ B.2.2.1) (h2 : su ≤ B.2.2.2) : z_G X l M B cu su pc lv [.int v] S D out := by
  intro p e R s m args below meth c Q G cI cJ A ρ H locs ls C hP hD hS hl hend
  subst ho
  exact W.widen h1 h2 (hend ρ H locs pc ls z_ext.rf hP hD hS hdg)
/-- fewer locals known -/
theorem g_weak {lv' : List (Option Value)} (hlen : lv'.length = lv.length) (h : ∀ (i : Nat) (v : Value), lv'[i]? = some (some v) → lv[i]? = some (some v)) (kk : z_G X l M B cu su pc lv' st S D out) : z_G X l M B cu su pc lv st S D out := by
  intro p e R s m args below meth c Q G cI cJ A ρ H locs ls C hP hD hS hl hend
  exact kk p e R s m args below meth c Q G cI cJ A ρ H locs ls C hP hD hS ⟨hl.1, hlen.trans hl.2.1, hl.2.2.1, fun i v hi => hl.2.2.2 i v (h i v hi)⟩ hend
/-- room used may be counted higher -/
theorem g_room {cu' su' : Nat} (h1 : cu ≤ cu') (h2 : su ≤ su') (kk : z_G X l M B cu' su' pc lv st S D out) : z_G X l M B cu su pc lv st S D out := by
  intro p e R s m args below meth c Q G cI cJ A ρ H locs ls C hP hD hS hl hend
  exact W.widen h1 h2 (kk p e R s m args below meth c Q G cI cJ A ρ H locs ls C hP hD hS hl hend)
end GG
