/-! ===== methods with a table: entering, catching; the array that an answer is laid in ===== -/
theorem z_enterH {l : Launch} {M : z_M} {B : z_B} {As : List Value} {S : List z_Shp} {D : z_Dat} {out : z_Out} {lv : List (Option Value)} {h1 : Nat × Nat × Nat × Nat} {h2 : List (Nat × Nat × Nat × Nat)} (hl : l.stackTraces = false) (hh : M.2.2.2.2 = h1 :: h2) (hp : plainName M.1.cls = true) (hok : z_okv M.2.2.2.1 out.1) (hlen : (z_fl As).length ≤ M.2.2.1) (hlv : z_args M.2.2.1 As = lv) (hint : ∃ v, out.1 = .inl (some (.int v)))
    (hE : z_E l M B 0 0 0 lv [] S D out) : z_EM l M B As S D out := by
  refine ⟨hok, fun G cI cJ ρ X sz => ?_⟩
  subst hlv
  refine vx_ofWH (cc := M.2.1) (maxL := M.2.2.1) (ret := M.2.2.2.1) (hh := h1 :: h2) (ws' := z_gw) hp (by unfold z_wd z_code; rw [hh]) ?_
  intro p e s m args below meth c s₁ Bd hml hv
  obtain ⟨rfl, hsz, hP, hK, hD0, hEx, hNx⟩ := hv
  subst hsz
  have hx := Bd.exec
  have hb := Bd.bytes
  have hr := Bd.returns
  have hts := atoms_spec (ws := z_wd M) Bd.pre
  have hown : s.vm.findClass M.1.cls = some m.cls := findClass_of_methodNamed Bd.named
  have hlocks := Bd.notSynchronized
  have hin : meth.name = M.1.name := (name_of_methodNamed Bd.named Bd.method).1
  have htab : c.exceptionTable.toList = tableOf M.2.2.2.2 := by
    have hc := hts (z_code M) List.mem_cons_self
    unfold z_code at hc
    rw [hh] at hc
    obtain ⟨m9, meth9, c9, w1, w2, w3, -, -, w6, -⟩ := Cond.codeWith_spec hc
    cases Bd.named.symm.trans w1
    cases Option.some.inj (w2.symm.trans Bd.method)
    cases Option.some.inj (w3.symm.trans (Stand.of_body Bd).code)
    rw [hh, ← w6, table_eq]
  have hD := hD0.self (sz := s.heap.size)
  rw [lg_entry_eq]
  refine hE p e _ s m _ below meth c _ G cI cJ (va_A (z_ws ρ cI cJ S D) s.heap.size) X ρ s.heap [] _ ⟨hx, hb, hml, hown, fun w hw => hts w (List.mem_cons_of_mem _ hw), htab, hl, ⟨Nat.le_refl _, Nat.le_refl _, Nat.le_refl _, Nat.le_refl _⟩, hK, fun q h => Or.inr h, hEx, hin, hlocks, hNx⟩ hP hD va_S.rf (z_args_lo hlen) ?_
  intro ρ' H locs pc ls hext hP' hD' hS'
  obtain ⟨o, S', D'⟩ := out
  obtain ⟨v, hv⟩ := hint
  have hv : o = .inl (some (.int v)) := hv
  subst hv
  intro hd
  obtain ⟨ty, hty, hn⟩ : ∃ ty, M.2.2.2.1 = some ty ∧ narrow ty (.int v) = .int v := by
    revert hok
    generalize M.2.2.2.1 = rt
    intro hok
    cases rt with
    | none => exact absurd hok (fun h => h)
    | some t => exact ⟨t, rfl, hok⟩
  exact vx_ret (W.zret (ty := ty) hx hb (by rw [hr]; exact hty) hn (fun t ht2 hW => ⟨some (.int v), ρ', rfl, rfl, hext, by rw [ht2]; exact hP', hD', hS'.F ht2⟩) hS'.2.2 hd hlocks)
theorem z_lo_none {ρ : z_Rho} {nL : Nat} {ls : Array Slot} {pr : List (Nat × Value)} (h : lv_has ls nL pr) : z_lo ρ nL ls (List.replicate nL none) :=
  ⟨h.1, List.length_replicate, h.2.1, fun i v hi => by
    rw [List.getElem?_replicate] at hi
    split at hi <;> cases hi⟩
/-- a call that throws, caught by a row of the method's own table, whose handler lays it by -/
theorem z_callC {l : Launch} {M M' : z_M} {B B' : z_B} {cu su pc : Nat} {lv : List (Option Value)} {As rest : List Value} {S : List z_Shp} {D : z_Dat} {o' out : z_Out} {E : String} {a b h ct i n : Nat} {pre suf : List (Nat × Nat × Nat × Nat)}
    (hh : M.2.2.2.2 = pre ++ (a, b, h, ct) :: suf) (hpre : ∀ z ∈ pre, z.2.2.2 ≠ 0 ∧ E = "java/lang/IllegalArgumentException" ∧ Cond.classLink M.1.cls z.2.2.2 "java/util/NoSuchElementException" ∈ z_gw)
    (hcov : covers ⟨a, b, h, ct⟩ pc = true) (h0 : ct ≠ 0) (hlink : Cond.classLink M.1.cls ct E ∈ z_gw) (hcast : Cond.castable E E ∈ z_nw)
    (hst : (∃ j : Fin 4, decode M.2.1 h = .ok (.astore_n j, 1) ∧ (j : Nat) = i ∧ n = 1) ∨ (decode M.2.1 h = .ok (.astore i, 2) ∧ n = 2)) (hi : i < M.2.2.1)
    (hr : z_Runs l M B M' B' cu su pc As rest S D o') (ho : o'.1 = .inr E) (h1 : S.length ≤ o'.2.1.length) (h2 : o'.2.1.length ≤ out.2.1.length)
    (kk : z_E l M B (cu + B'.2.2.1) (su + B'.2.2.2) (h + n) (List.replicate M.2.2.1 none) [] o'.2.1 o'.2.2 out) : z_E l M B cu su pc lv (As.reverse ++ rest) S D out := by
  intro p e R s m args below meth c Q G cI cJ A X ρ H locs ls C hP hD hS hl hend
  refine z_back (hr p e R s m args below meth c G cI cJ A X ρ H locs ls C hP hD hS hl.1) hS (z_free hD hS C.2.2.2.2.2.2.2.2.2.1) ?_ ?_
  · intro v hv
    rw [ho] at hv
    cases hv
  · intro E' hE ρ' H1 locs1 hx hP1 hD1 hS1 q ce hq hv hcl
    rw [ho] at hE
    cases hE
    have htab := C.2.2.2.2.2.1
    have hN : z_N ρ.2 s := C.2.2.2.2.2.2.2.2.2.2.2.2.2
    refine vx_catch C.2.2.2.1 (tableOf pre) ⟨a, b, h, ct⟩ (tableOf suf) (by rw [htab, hh]; simp [tableOf]) (fun z hz => ?_) hcov h0 (C.2.2.2.2.1 _ hlink) (va_Nw.use rfl (hN.1 _ hcast)) hq hv hcl ?_
    · obtain ⟨y, hy, rfl⟩ := List.mem_map.mp hz
      obtain ⟨y0, y1, y2⟩ := hpre y hy
      exact Or.inr ⟨y0, _, C.2.2.2.2.1 _ y2, by rw [y1]; exact hN.2.2⟩
    · have k := fun ls' hl' => kk p e R s m args below meth c Q G cI cJ A X ρ' H1 locs1 ls' (by rw [hx.2.1]; exact C) hP1 hD1 hS1 hl' (hend.ext hx h1 h2)
      rcases hst with ⟨j, d1, d2, rfl⟩ | ⟨d1, rfl⟩
      · exact lv_astore_n C.1 C.2.1 d1 d2 hl.has hi rfl (fun ls' hl' => k ls' (z_lo_none hl'))
      · exact lv_astore C.1 C.2.1 d1 hl.has hi rfl (fun ls' hl' => k ls' (z_lo_none hl'))
/-- a long as two ints -/
def z_lo32 (x : Int64) : Int32 := Int32.ofInt x.toInt
def z_hi32 (x : Int64) : Int32 := Int32.ofInt (x.toInt / 4294967296)
theorem z_jn_parts (x : Int64) : z_jn (z_lo32 x) (z_hi32 x) = x := by
  have h1 := x.le_toInt
  have h2 := x.toInt_lt
  have hs : (Int64.size : Int) = 18446744073709551616 := rfl
  have e1 : (z_lo32 x).toInt = x.toInt.bmod (2 ^ 32) := Int32.toInt_ofInt
  have e2 : (z_hi32 x).toInt = (x.toInt / 4294967296).bmod (2 ^ 32) := Int32.toInt_ofInt
  apply Int64.toInt_inj.mp
  unfold z_jn
  rw [Int64.toInt_ofInt, e1, e2]
  have e3 : (x.toInt / 4294967296).bmod (2 ^ 32) = x.toInt / 4294967296 := by
    apply Int.bmod_eq_of_le <;> omega
  have e4 : x.toInt.bmod (2 ^ 32) % 4294967296 = x.toInt % 4294967296 := by
    have := Int.bmod_emod (x := x.toInt) (m := 2 ^ 32)
    simpa using this
  rw [e3, e4]
  have e5 : x.toInt / 4294967296 * 4294967296 + x.toInt % 4294967296 = x.toInt := by omega
  rw [e5]
  apply Int.bmod_eq_of_le <;> omega
def z_upJ (D : z_Dat) (a i : Nat) (x : Int64) : z_Dat := z_up (z_up D a (2 * i) (z_lo32 x)) a (2 * i + 1) (z_hi32 x)
def z_ldJ (D : z_Dat) (a i : Nat) : Int64 := z_jn (D a (2 * i)) (D a (2 * i + 1))
theorem z_upJ_row {D : z_Dat} {a i : Nat} {x : Int64} : (fun j => z_jn (z_upJ D a i x a (2 * j)) (z_upJ D a i x a (2 * j + 1))) = vp_updL (fun j => z_jn (D a (2 * j)) (D a (2 * j + 1))) i x := by
  funext j
  unfold vp_updL z_upJ z_up
  by_cases h : j = i
  · subst h
    rw [if_pos rfl]
    have e1 : ¬ (2 * j = 2 * j + 1) := by omega
    simp only [true_and, e1, if_false, if_true]
    exact z_jn_parts x
  · rw [if_neg h]
    have e1 : ¬ (2 * j = 2 * i + 1) := by omega
    have e2 : ¬ (2 * j = 2 * i) := by omega
    have e3 : ¬ (2 * j + 1 = 2 * i + 1) := by omega
    have e4 : ¬ (2 * j + 1 = 2 * i) := by omega
    simp only [true_and, e1, e2, e3, e4, if_false]
section ZJ
variable {l : Launch} {M : z_M} {B : z_B} {cu su pc : Nat} {lv : List (Option Value)} {st : List Value} {S : List z_Shp} {D : z_Dat} {out : z_Out}
theorem z_lastE {k n : Nat} {rs : List (Option (Option Nat))} {i : Int32} {x : Int64} (hdg : decode M.2.1 pc = .ok (.lastore, 1)) (hk : S[k]? = some (1, n, rs)) (hi : vp_in i n) (kk : z_E l M B cu su (pc + 1) lv st S (z_upJ D k i.toNatClampNeg x) out) : z_E l M B cu su pc lv (.long x :: .int i :: .ref k :: st) S D out := by
  intro p e_ R s m args below meth c Q G cI cJ A X ρ H locs ls C hP hD hS hl hend
  refine va_last C.1 C.2.1 C.2.2.2.2.2.2.2.2.1 hP hD hS k 1 (z_ws_at hk) rfl hi hdg (fun H1 locs1 hP1 hD1 hS1 => ?_)
  have e := z_ws_set (ρ := ρ) (cI := cI) (cJ := cJ) (D := D) (D' := z_upJ D k i.toNatClampNeg x) (sp' := (1, n, rs)) hk (e := .inl (cJ, n, .inr (.inl (vp_updL (fun j => z_jn (D k (2 * j)) (D k (2 * j + 1))) i.toNatClampNeg x)))) (by rw [← z_upJ_row]; rfl) (fun b hb => by unfold z_upJ; rw [z_up_ne hb, z_up_ne hb])
  rw [e, z_set_self hk] at hP1 hD1
  exact kk p e_ R s m args below meth c Q G cI cJ A X ρ H1 locs1 ls C hP1 hD1 hS1 hl hend
theorem z_laldE {k n : Nat} {rs : List (Option (Option Nat))} {i : Int32} (hdg : decode M.2.1 pc = .ok (.laload, 1)) (hk : S[k]? = some (1, n, rs)) (hi : vp_in i n) (kk : z_E l M B cu su (pc + 1) lv (.long (z_ldJ D k i.toNatClampNeg) :: st) S D out) : z_E l M B cu su pc lv (.int i :: .ref k :: st) S D out := by
  intro p e_ R s m args below meth c Q G cI cJ A X ρ H locs ls C hP hD hS hl hend
  exact va_lald C.1 C.2.1 C.2.2.2.2.2.2.2.2.1 hP k 1 (z_ws_at hk) rfl hi hdg (kk p e_ R s m args below meth c Q G cI cJ A X ρ H locs ls C hP hD hS hl hend)
/-- the run's own script -/
theorem z_scrE {L : Nat} {xs : Nat → Int32} {i : Int32} (hdg : decode M.2.1 pc = .ok (.iaload, 1)) (hi : vp_in i L) (kk : z_E l M B cu su (pc + 1) lv (.int (xs i.toNatClampNeg) :: st) S D out) :
    ∀ (p : Program) (e : Env) (R : Room) (s : State) (m : MethodId) (args : Array Value) (below : List Frame) (meth : Method) (c : Code) (Q : State → Prop) (G : va_G) (cI cJ : ClassId) (A : Nat → Prop) (ρ : z_Rho) (H : Heap) (locs : List Loc) (ls : Array Slot),
    z_Cx l M B p R s m args meth c G cI cJ A ρ.2 (L, xs) → va_P G vwCl (z_ws ρ cI cJ S D) H → va_D A (z_ws ρ cI cJ S D) → va_S A s.heap H locs → z_lo ρ M.2.2.1 ls lv →
    z_end p l e R s m args below meth c B Q M G cI cJ A S.length ρ out →
    W p l e R s m args below meth c H locs cu su Q (F0 m pc ls ((.int i :: .retAddr 1000 :: st).map (z_cv ρ))) := by
  intro p e R s m args below meth c Q G cI cJ A ρ H locs ls C hP hD hS hl hend
  have hX := C.2.2.2.2.2.2.2.2.2.2.1.2.2.1
  exact va_sld C.1 C.2.1 hX.1 hX.2.2 hX.2.1 hS hi hdg (kk p e R s m args below meth c Q G cI cJ A (L, xs) ρ H locs ls C hP hD hS hl hend)
end ZJ
