/-! ===== the logic's rules: entry, calls, throws ===== -/
theorem z_ext.trans {a b c : Nat} {ρ ρ1 ρ2 : z_Rho} (h1 : z_ext a b ρ ρ1) (h2 : z_ext b c ρ1 ρ2) (ha : a ≤ b) (hb : b ≤ c) : z_ext a c ρ ρ2 :=
  ⟨fun e => (h2.1 (by omega)).trans (h1.1 (by omega)), h2.2.1.trans h1.2.1, fun k hk => (h2.2.2 k (by omega)).trans (h1.2.2 k hk)⟩
/-- the locals of a call -/
def z_fl (As : List Value) : List (Option Value) := As.flatMap fun v => if v.category = 2 then [some v, none] else [some v]
def z_args (nL : Nat) (As : List Value) : List (Option Value) := z_fl As ++ List.replicate (nL - (z_fl As).length) none
def z_sl (ρ : z_Rho) (o : Option Value) : Slot := match o with
  | some v => .val (z_cv ρ v)
  | none => .second
theorem z_fl_sl (ρ : z_Rho) : ∀ As : List Value, lg_sl (As.map (z_cv ρ)) = (z_fl As).map (z_sl ρ)
  | [] => rfl
  | v :: vs => by
    have ih := z_fl_sl ρ vs
    unfold lg_sl z_fl at ih ⊢
    rw [List.map_cons, List.flatMap_cons, List.flatMap_cons, List.map_append, ih, z_cv_cat]
    by_cases h : v.category = 2
    · rw [if_pos h, if_pos h]; rfl
    · rw [if_neg h, if_neg h]; rfl
theorem z_args_lo {ρ : z_Rho} {nL : Nat} {As : List Value} (h : (z_fl As).length ≤ nL) : z_lo ρ nL ((lg_sl (As.map (z_cv ρ)) ++ List.replicate (nL - (lg_sl (As.map (z_cv ρ))).length) Slot.unset).toArray) (z_args nL As) := by
  have hl : (lg_sl (As.map (z_cv ρ))).length = (z_fl As).length := by rw [z_fl_sl, List.length_map]
  obtain ⟨h1, h2, -⟩ := lv_entry (As.map (z_cv ρ)) (n := nL) (by rw [hl]; exact h)
  refine ⟨h1, ?_, h2, fun i v hv => ?_⟩
  · unfold z_args
    rw [List.length_append, List.length_replicate]
    omega
  · unfold z_args at hv
    rw [z_fl_sl, List.getElem?_toArray]
    rw [List.getElem?_append] at hv ⊢
    rw [List.length_map]
    by_cases hi : i < (z_fl As).length
    · rw [if_pos hi] at hv ⊢
      rw [List.getElem?_map, hv]
      rfl
    · rw [if_neg hi] at hv
      rw [List.getElem?_replicate] at hv
      split at hv
      · cases hv
      · cases hv
theorem z_enter {l : Launch} {M : z_M} {B : z_B} {As : List Value} {S : List z_Shp} {D : z_Dat} {out : z_Out} {lv : List (Option Value)} (hl : l.stackTraces = false) (hh : M.2.2.2.2 = []) (hp : plainName M.1.cls = true) (hok : z_okv M.2.2.2.1 out.1) (hlen : (z_fl As).length ≤ M.2.2.1) (hlv : z_args M.2.2.1 As = lv)
    (hE : z_E l M B 0 0 0 lv [] S D out) : z_EM l M B As S D out := by
  refine ⟨hok, fun G cI cJ ρ X sz => ?_⟩
  subst hlv
  refine vx_ofW (cc := M.2.1) (maxL := M.2.2.1) (ret := M.2.2.2.1) (ws' := z_gw) hp (by unfold z_wd z_code; rw [hh]) ?_
  intro p e s m args below meth c s₁ Bd hml ht hv
  obtain ⟨rfl, hsz, hP, hK, hD0, hEx, hNx⟩ := hv
  subst hsz
  have hx := Bd.exec
  have hb := Bd.bytes
  have hr := Bd.returns
  have hts := atoms_spec (ws := z_wd M) Bd.pre
  have hown : s.vm.findClass M.1.cls = some m.cls := findClass_of_methodNamed Bd.named
  have hlocks := Bd.notSynchronized
  have hin : meth.name = M.1.name := (name_of_methodNamed Bd.named Bd.method).1
  have htab : c.exceptionTable.toList = tableOf M.2.2.2.2 := by
    rw [hh]
    exact List.eq_nil_iff_forall_not_mem.mpr (fun x hx => ht x hx)
  have hD := hD0.self (sz := s.heap.size)
  rw [lg_entry_eq]
  refine hE p e _ s m _ below meth c _ G cI cJ (va_A (z_ws ρ cI cJ S D) s.heap.size) X ρ s.heap [] _ ⟨hx, hb, hml, hown, fun w hw => hts w (List.mem_cons_of_mem _ hw), htab, hl, ⟨Nat.le_refl _, Nat.le_refl _, Nat.le_refl _, Nat.le_refl _⟩, hK, fun q h => Or.inr h, hEx, hin, hlocks, hNx⟩ hP hD va_S.rf (z_args_lo hlen) ?_
  intro ρ' H locs pc ls hext hP' hD' hS'
  obtain ⟨o, S', D'⟩ := out
  cases o with
  | inr E =>
    intro _
    refine ⟨fun q ce rest hq hce hcl => vx_out (fun x hx => (ht x hx).elim) hlocks hq hce hcl (fun t ht2 hW => ⟨ρ', rfl, hext, by rw [ht2]; exact hP', hD', hS'.F ht2⟩) hS'.2.2 (Nat.le_refl _) (Nat.le_refl _), ?_⟩
    intro names ik ic cu su hfE hfn hws hls d0 d3 d4 d7 r1 r2 r3 r4
    have hsub : ∀ q, q < H.size → True := fun _ _ => trivial
    refine vx_throw0 hx hb hl hown hfE hfn (hws _ List.mem_cons_self).1 (hws _ (List.mem_cons_of_mem _ List.mem_cons_self)).1 (fun w hw => (hws w (List.mem_cons_of_mem _ (List.mem_cons_of_mem _ hw))).1) (fun w hw => (hws w hw).2) hEx.1 hEx.2.1 hS' (hls.trans hml.symm) d0 d3 d4 d7 (fun x hx => (ht x hx).elim) r1 (by show 0 + (13 * (names.length + 1) + 42) ≤ B.2.1; omega) r3 r4 hlocks ?_ hS'.2.2 r3 r4
    intro t hal hz hk
    have hk2 : ∀ (k : Nat) (q : Nat × va_E), (z_ws ρ' cI cJ S' D')[k]? = some q → t.heap[q.1]? = H[q.1]? := fun k q hq => hk q.1 (hP' k q hq).lt
    exact ⟨ρ', rfl, hext, hP'.kept hk2, hD', Nat.le_trans hS'.1 hz, fun q h1 h2 => by rw [hk q (Nat.lt_of_lt_of_le h1 hS'.1)]; exact hS'.2.1 q h1 h2⟩
  | inl v =>
    cases v with
    | none =>
      intro hd
      have hr2 : meth.sig.returnType = none := by
        rw [hr]
        revert hok
        generalize M.2.2.2.1 = rt
        intro hok
        cases rt with
        | none => rfl
        | some t => exact absurd hok (fun h => h)
      exact vx_ret (W.vret hx hb hr2 (fun t ht2 hW => ⟨none, ρ', rfl, rfl, hext, by rw [ht2]; exact hP', hD', hS'.F ht2⟩) hS'.2.2 hd hlocks)
    | some v =>
      cases v with
      | int v =>
        intro hd
        obtain ⟨ty, hty, hn⟩ : ∃ ty, M.2.2.2.1 = some ty ∧ narrow ty (.int v) = .int v := by
          revert hok
          generalize M.2.2.2.1 = rt
          intro hok
          cases rt with
          | none => exact absurd hok (fun h => h)
          | some t => exact ⟨t, rfl, hok⟩
        exact vx_ret (W.zret (ty := ty) hx hb (by rw [hr]; exact hty) hn (fun t ht2 hW => ⟨some (.int v), ρ', rfl, rfl, hext, by rw [ht2]; exact hP', hD', hS'.F ht2⟩) hS'.2.2 hd hlocks)
      | long v =>
        intro hd
        have hr2 : M.2.2.2.1 = some .long := by
          revert hok
          generalize M.2.2.2.1 = rt
          intro hok
          cases rt with
          | none => exact absurd hok (fun h => h)
          | some t => cases t <;> first | rfl | exact absurd hok (fun h => h)
        exact vx_ret (W.lret hx hb (by rw [hr]; exact hr2) (fun t ht2 hW => ⟨some (.long v), ρ', rfl, rfl, hext, by rw [ht2]; exact hP', hD', hS'.F ht2⟩) hS'.2.2 hd hlocks)
      | float v => trivial
      | double v => trivial
      | null => trivial
      | ref v => trivial
      | retAddr v => trivial
/-- behind any call -/
theorem z_back {p : Program} {l : Launch} {e : Env} {R : Room} {s : State} {m : MethodId} {args : Array Value} {below : List Frame} {meth : Method} {c : Code} {H : Heap} {locs : List Loc} {cu su mc ms : Nat} {Q : State → Prop} {G : va_G} {cI cJ : ClassId} {ρ : z_Rho} {S : List z_Shp} {D : z_Dat} {o' : z_Out} {A : Nat → Prop} {a : Array Value} {pc : Nat} {ls : Array Slot} {st0 rest : List Value}
    (hr : vx_Run p l e R s m args below meth c H locs cu su mc ms (F0 m pc ls st0) rest (z_Ret G cI cJ ρ S D H.size o' a) (z_Thr G cI cJ ρ S D H.size o') (va_A (z_ws ρ cI cJ S D) H.size)) (hS : va_S A s.heap H locs) (hF : ∀ q, va_A (z_ws ρ cI cJ S D) H.size q → A q)
    (kk : ∀ v, o'.1 = .inl v → ∀ (ρ' : z_Rho) (H1 : Heap) (locs1 : List Loc), z_ext S.length o'.2.1.length ρ ρ' → va_P G vwCl (z_ws ρ' cI cJ o'.2.1 o'.2.2) H1 → va_D A (z_ws ρ' cI cJ o'.2.1 o'.2.2) → va_S A s.heap H1 locs1 → W p l e R s m args below meth c H1 locs1 (cu + mc) (su + ms) Q (F0 m (pc + 3) ls ((v.map (z_cv ρ')).toList ++ rest)))
    (kx : ∀ E, o'.1 = .inr E → ∀ (ρ' : z_Rho) (H1 : Heap) (locs1 : List Loc), z_ext S.length o'.2.1.length ρ ρ' → va_P G vwCl (z_ws ρ' cI cJ o'.2.1 o'.2.2) H1 → va_D A (z_ws ρ' cI cJ o'.2.1 o'.2.2) → va_S A s.heap H1 locs1 → ∀ (q : Addr) (ce : Cell), H1[q]? = some ce → ce.vm = .none → s.vm.findClass E = some ce.cls → vx_W p l e R s m args below meth c H1 locs1 (cu + mc) (su + ms) Q (F0 m pc ls rest) q) :
    W p l e R s m args below meth c H locs cu su Q (F0 m pc ls st0) := by
  intro T hT X
  rcases hr T hT X with ⟨v, st₀, t, T', L, h0, X', hL, e1, e2, ⟨v', ρ', hv, hoc, hext, hP, hD, hFr⟩, st⟩ | ⟨q, st₀, t, T', L, E, ce, h0, X', hL, e1, e2, ⟨ρ', hv, hext, hP, hD, hFr⟩, hce, hcv, hcl, st⟩
  · cases hoc
    obtain ⟨k1, k2, k3⟩ := vx_keep h0 e1 hS (fun q _ h => hF q h) hF hL hFr
    obtain ⟨t2, a1, b1⟩ := kk v' hv ρ' T'.heap (locs ++ L) hext (by rw [e1]; exact hP) (hD.weaken (fun _ _ _ h => hF _ h)) k3 T' rfl X'
    exact ⟨t2, st t2 a1, b1⟩
  · obtain ⟨k1, k2, k3⟩ := vx_keep h0 e1 hS (fun q _ h => hF q h) hF hL hFr
    obtain ⟨t2, a1, b1⟩ := kx E hv ρ' T'.heap (locs ++ L) hext (by rw [e1]; exact hP) (hD.weaken (fun _ _ _ h => hF _ h)) k3 q ce (by rw [e1]; exact hce) hcv hcl T' rfl X'
    exact ⟨t2, st.trans a1, b1⟩
/-- what the caller keeps means the same behind the call -/
def z_same (n n' : Nat) (lv : List (Option Value)) (rest : List Value) : Prop := ∀ ρ ρ' : z_Rho, z_ext n n' ρ ρ' → rest.map (z_cv ρ') = rest.map (z_cv ρ) ∧ ∀ (i : Nat) (v : Value), lv[i]? = some (some v) → z_cv ρ' v = z_cv ρ v
theorem z_same_eq {n n' : Nat} {lv : List (Option Value)} {rest : List Value} (h : n = n') : z_same n n' lv rest := fun ρ ρ' hx => by
  rw [hx.1 h]
  exact ⟨rfl, fun _ _ _ => rfl⟩
def z_vok (n : Nat) (v : Value) : Prop := match v with
  | .ref k => k < n
  | _ => True
theorem z_vok_cv {n n' : Nat} {ρ ρ' : z_Rho} (hx : z_ext n n' ρ ρ') {v : Value} (h : z_vok n v) : z_cv ρ' v = z_cv ρ v := by
  cases v with
  | ref k => show Value.ref _ = Value.ref _; rw [hx.2.2 k h]
  | retAddr k => show Value.ref _ = Value.ref _; rw [hx.2.1]
  | _ => rfl
theorem z_same_of {n n' : Nat} {lv : List (Option Value)} {rest : List Value} (h1 : ∀ v ∈ rest, z_vok n v) (h2 : ∀ v, some v ∈ lv → z_vok n v) : z_same n n' lv rest := fun ρ ρ' hx =>
  ⟨List.map_congr_left fun v hv => z_vok_cv hx (h1 v hv), fun i v hv => z_vok_cv hx (h2 v (List.mem_of_getElem? hv))⟩
theorem z_lo.ext {ρ ρ' : z_Rho} {nL : Nat} {ls : Array Slot} {lv : List (Option Value)} (h : z_lo ρ nL ls lv) (hs : ∀ (i : Nat) (v : Value), lv[i]? = some (some v) → z_cv ρ' v = z_cv ρ v) : z_lo ρ' nL ls lv :=
  ⟨h.1, h.2.1, h.2.2.1, fun i v hv => by rw [hs i v hv]; exact h.2.2.2 i v hv⟩
theorem z_end.ext {p : Program} {l : Launch} {e : Env} {R : Room} {s : State} {m : MethodId} {args : Array Value} {below : List Frame} {meth : Method} {c : Code} {B : z_B} {Q : State → Prop} {M : z_M} {G : va_G} {cI cJ : ClassId} {A : Nat → Prop} {n n1 : Nat} {ρ ρ1 : z_Rho} {out : z_Out}
    (h : z_end p l e R s m args below meth c B Q M G cI cJ A n ρ out) (hx : z_ext n n1 ρ ρ1) (h1 : n ≤ n1) (h2 : n1 ≤ out.2.1.length) : z_end p l e R s m args below meth c B Q M G cI cJ A n1 ρ1 out :=
  fun ρ' H locs pc ls hx2 hP hD hS => h ρ' H locs pc ls (hx.trans hx2 h1 h2) hP hD hS
theorem z_free {ρ : z_Rho} {cI cJ : ClassId} {S : List z_Shp} {D : z_Dat} {A : Nat → Prop} {H0 H : Heap} {locs : List Loc} (hD : va_D A (z_ws ρ cI cJ S D)) (hS : va_S A H0 H locs) (hA : ∀ q, H0.size ≤ q → A q) : ∀ q, va_A (z_ws ρ cI cJ S D) H.size q → A q :=
  va_free (isC := List.range (z_ws ρ cI cJ S D).length) hD hS hA (by
    apply List.ext_getElem?
    intro i
    rw [List.getElem?_map, List.getElem?_map]
    by_cases hi : i < (z_ws ρ cI cJ S D).length
    · simp [hi]
    · simp [hi])
/-- words of the tables, by their places -/
theorem z_in (ws : List Cond) (is : List Nat) (h : ws = is.filterMap (fun i => lw_tbl[i]?)) (hg : ws.all goodWord = true) : ∀ w ∈ ws, w ∈ z_gw := by
  intro w hw
  have h1 := List.all_eq_true.mp hg w hw
  rw [h] at hw
  obtain ⟨i, -, hi⟩ := List.mem_filterMap.mp hw
  exact z_gwm i hi h1
/-- a method's name and descriptor: what a call asks of them -/
def z_nm (y : MethodName) (n : Nat) : Prop := y.cls ≠ "java/lang/invoke/MethodHandle" ∧ y.cls ≠ "java/lang/invoke/VarHandle" ∧ (parseMethodDescriptor y.desc).map (fun d => d.parameters.length) = some n
/-- the room of a call -/
def z_rm (B B' : z_B) (maxL cu su : Nat) : Prop := B'.1 + 1 ≤ B.1 ∧ 8 + (maxL + 11) + B'.2.1 ≤ B.2.1 ∧ cu + B'.2.2.1 ≤ B.2.2.1 ∧ su + B'.2.2.2 ≤ B.2.2.2
/-- the run that a call gives, of any kind -/
def z_Runs (l : Launch) (M : z_M) (B : z_B) (M' : z_M) (B' : z_B) (cu su pc : Nat) (As rest : List Value) (S : List z_Shp) (D : z_Dat) (o' : z_Out) : Prop :=
  ∀ (p : Program) (e : Env) (R : Room) (s : State) (m : MethodId) (args : Array Value) (below : List Frame) (meth : Method) (c : Code) (G : va_G) (cI cJ : ClassId) (A : Nat → Prop) (X : Nat × (Nat → Int32)) (ρ : z_Rho) (H : Heap) (locs : List Loc) (ls : Array Slot),
    z_Cx l M B p R s m args meth c G cI cJ A ρ.2 X → va_P G vwCl (z_ws ρ cI cJ S D) H → va_D A (z_ws ρ cI cJ S D) → va_S A s.heap H locs → ls.size = M.2.2.1 →
    vx_Run p l e R s m args below meth c H locs cu su B'.2.2.1 B'.2.2.2 (F0 m pc ls ((As.reverse ++ rest).map (z_cv ρ))) (rest.map (z_cv ρ)) (z_Ret G cI cJ ρ S D H.size o' (As.map (z_cv ρ)).toArray) (z_Thr G cI cJ ρ S D H.size o') (va_A (z_ws ρ cI cJ S D) H.size)
/-- invokestatic by a plain link -/
theorem z_runS {l : Launch} {M M' : z_M} {B B' : z_B} {cu su pc : Nat} {As rest : List Value} {S : List z_Shp} {D : z_Dat} {o' : z_Out} (idx n : Nat) (hM : z_EM l M' B' As S D o') (hh : M'.2.2.2.2 = []) (hg : ∀ w ∈ [Cond.methodLink M.1.cls idx M'.1, .static M'.1, .initialized M'.1.cls, z_code M'], w ∈ z_gw) (hd : z_nm M'.1 n) (hn : As.length = n) (hW : (rest.map fun v => v.category).sum ≤ 8) (hB : z_rm B B' M'.2.2.1 cu su) (hdg : decode M.2.1 pc = .ok (.invokestatic idx, 3)) :
    z_Runs l M B M' B' cu su pc As rest S D o' := by
  intro p e R s m args below meth c G cI cJ A X ρ H locs ls C hP hD hS hls
  obtain ⟨hx, hb, hml, hown, hts, htab, hl, ⟨r1, r2, r3, r4⟩, hK, hA, hE, hin, hlocks, hN⟩ := C
  have hcw : z_code M' = Cond.code M'.1 M'.2.1 M'.2.2.1 M'.2.2.2.1 := by unfold z_code; rw [hh]
  have hc0 : z_code M' ∈ z_gw := hg _ (by simp)
  have hr := vx_runS (rest := rest.map (z_cv ρ)) (g := F0 m pc ls ((As.reverse ++ rest).map (z_cv ρ))) ⟨hx, hb, hml, hown, hts⟩ (hM.2 G cI cJ ρ X H.size) ⟨callB_of (R := R) (own := M.1.cls) (index := idx) (y := M'.1) (bytes := M'.2.1) (maxL := M'.2.2.1) (ret := M'.2.2.2.1) (ws := z_wd M') (ws' := z_gw) (rm := { frames := B'.1, cells := B'.2.2.1, slots := B'.2.2.2, locals := B'.2.1 }) (mc := B'.2.2.1) (ms := B'.2.2.2) n hts (z_goodIn hc0) (by unfold z_wd; rw [hcw]) rfl rfl (hts _ (hg (.initialized M'.1.cls) (by simp))) (hts _ (hg (.methodLink M.1.cls idx M'.1) (by simp))) hd ⟨Nat.le_trans hB.1 r1, Nat.le_trans hB.2.1 r2⟩, hts _ (hg (.static M'.1) (by simp))⟩ (H := H) (As := As.map (z_cv ρ)) ⟨z_Pre_blind, fun U hU hW => z_Pre_at (As := As) hK hA hE hN hP hD hS hU hW⟩ rfl (by rw [List.length_map]; exact hn) hls (by show List.map _ _ = _; simp [z_cv]) (by show 2 * 0 + _ ≤ 8; rw [z_cv_cats]; omega) hdg (below := below) (meth := meth) (locs := locs) (e := e) (cells := cu) (slots := su) ⟨Nat.le_trans hB.2.2.1 r3, Nat.le_trans hB.2.2.2 r4⟩
  exact hr
/-- invokestatic of a nest mate -/
theorem z_runSN {l : Launch} {M M' : z_M} {B B' : z_B} {cu su pc : Nat} {As rest : List Value} {S : List z_Shp} {D : z_Dat} {o' : z_Out} (idx n : Nat) (hM : z_EM l M' B' As S D o') (hh : M'.2.2.2.2 = []) (hg : ∀ w ∈ [Cond.static M'.1, .initialized M'.1.cls, z_code M'], w ∈ z_gw) {host : String} (hnest : Cond.methodLinkNest M.1.cls idx M'.1 host ∈ z_nw) (hd : z_nm M'.1 n) (hn : As.length = n) (hW : (rest.map fun v => v.category).sum ≤ 8) (hB : z_rm B B' M'.2.2.1 cu su) (hdg : decode M.2.1 pc = .ok (.invokestatic idx, 3)) :
    z_Runs l M B M' B' cu su pc As rest S D o' := by
  intro p e R s m args below meth c G cI cJ A X ρ H locs ls C hP hD hS hls
  obtain ⟨hx, hb, hml, hown, hts, htab, hl, ⟨r1, r2, r3, r4⟩, hK, hA, hE, hin, hlocks, hN⟩ := C
  have hcw : z_code M' = Cond.code M'.1 M'.2.1 M'.2.2.1 M'.2.2.2.1 := by unfold z_code; rw [hh]
  have hc0 : z_code M' ∈ z_gw := hg _ (by simp)
  have hr := vx_runSN (rest := rest.map (z_cv ρ)) (g := F0 m pc ls ((As.reverse ++ rest).map (z_cv ρ))) ⟨hx, hb, hml, hown, hts⟩ (hM.2 G cI cJ ρ X H.size) ⟨va_cnB (R := R) (own := M.1.cls) (host := host) (index := idx) (y := M'.1) (bytes := M'.2.1) (maxL := M'.2.2.1) (ret := M'.2.2.2.1) (ws := z_wd M') (ws' := z_gw) (rm := { frames := B'.1, cells := B'.2.2.1, slots := B'.2.2.2, locals := B'.2.1 }) (mc := B'.2.2.1) (ms := B'.2.2.2) n hts (z_goodIn hc0) (by unfold z_wd; rw [hcw]) rfl rfl (hN.1 _ hnest) (hts _ (hg (.initialized M'.1.cls) (by simp))) hd ⟨Nat.le_trans hB.1 r1, Nat.le_trans hB.2.1 r2⟩, hts _ (hg (.static M'.1) (by simp)), trivial⟩ (H := H) (As := As.map (z_cv ρ)) ⟨z_Pre_blind, fun U hU hW => z_Pre_at (As := As) hK hA hE hN hP hD hS hU hW⟩ rfl (by rw [List.length_map]; exact hn) hls (by show List.map _ _ = _; simp [z_cv]) (by show 2 * 0 + _ ≤ 8; rw [z_cv_cats]; omega) hdg (below := below) (meth := meth) (locs := locs) (e := e) (cells := cu) (slots := su) ⟨Nat.le_trans hB.2.2.1 r3, Nat.le_trans hB.2.2.2 r4⟩
  exact hr
/-- invokevirtual -/
theorem z_runV {l : Launch} {M M' : z_M} {B B' : z_B} {cu su pc : Nat} {As rest : List Value} {S : List z_Shp} {D : z_Dat} {o' : z_Out} {k ci N nn : Nat} {T : u_T} {rs : List (Option (Option Nat))} (idx n : Nat) (hM : z_EM l M' B' (Value.ref k :: As) S D o') (hh : M'.2.2.2.2 = []) (hg : ∀ w ∈ [Cond.methodLink M.1.cls idx M'.1, .instanceMethod M'.1, .selects M'.1.cls M'.1 M'.1, .initialized M'.1.cls, z_code M'], w ∈ z_gw) (hk : S[k]? = some (ci + 2, nn, rs)) (hc : vwCl[ci]? = some (M'.1.cls, T, N)) (hd : z_nm M'.1 n) (hn : As.length = n) (hW : (rest.map fun v => v.category).sum ≤ 8) (hB : z_rm B B' M'.2.2.1 cu su) (hdg : decode M.2.1 pc = .ok (.invokevirtual idx, 3)) :
    z_Runs l M B M' B' cu su pc (Value.ref k :: As) rest S D o' := by
  intro p e R s m args below meth c G cI cJ A X ρ H locs ls C hP hD hS hls
  obtain ⟨hx, hb, hml, hown, hts, htab, hl, ⟨r1, r2, r3, r4⟩, hK, hA, hE, hin, hlocks, hN⟩ := C
  have hcw : z_code M' = Cond.code M'.1 M'.2.1 M'.2.2.1 M'.2.2.2.1 := by unfold z_code; rw [hh]
  have hc0 : z_code M' ∈ z_gw := hg _ (by simp)
  obtain ⟨cellB, hcB, hoB, hclB⟩ := va_recv hK hP hc (z_ws_at (ρ := ρ) (cI := cI) (cJ := cJ) (D := D) hk)
  have hr := vx_runV (rest := rest.map (z_cv ρ)) (g := F0 m pc ls (((Value.ref k :: As).reverse ++ rest).map (z_cv ρ))) ⟨hx, hb, hml, hown, hts⟩ (hM.2 G cI cJ ρ X H.size) ⟨callB_of (R := R) (own := M.1.cls) (index := idx) (y := M'.1) (bytes := M'.2.1) (maxL := M'.2.2.1) (ret := M'.2.2.2.1) (ws := z_wd M') (ws' := z_gw) (rm := { frames := B'.1, cells := B'.2.2.1, slots := B'.2.2.2, locals := B'.2.1 }) (mc := B'.2.2.1) (ms := B'.2.2.2) n hts (z_goodIn hc0) (by unfold z_wd; rw [hcw]) rfl rfl (hts _ (hg (.initialized M'.1.cls) (by simp))) (hts _ (hg (.methodLink M.1.cls idx M'.1) (by simp))) hd ⟨Nat.le_trans hB.1 r1, Nat.le_trans hB.2.1 r2⟩, hts _ (hg (.instanceMethod M'.1) (by simp)), hts _ (hg (.selects M'.1.cls M'.1 M'.1) (by simp))⟩ (H := H) (b := ρ.1 k) (As := As.map (z_cv ρ)) ⟨z_Pre_blind, ⟨cellB, hcB, hoB, hclB⟩, fun U hU hW => z_Pre_at (As := (Value.ref k :: As)) hK hA hE hN hP hD hS hU hW⟩ rfl (by rw [List.length_map]; exact hn) hls (by show List.map _ _ = _; simp [z_cv]) (by show 2 * 0 + _ ≤ 8; rw [z_cv_cats]; omega) hdg (below := below) (meth := meth) (locs := locs) (e := e) (cells := cu) (slots := su) ⟨Nat.le_trans hB.2.2.1 r3, Nat.le_trans hB.2.2.2 r4⟩
  exact hr
/-- invokevirtual at a text constant -/
theorem z_runVS {l : Launch} {M M' : z_M} {B B' : z_B} {cu su pc : Nat} {As rest : List Value} {S : List z_Shp} {D : z_Dat} {o' : z_Out} {i : Nat} (idx n : Nat) (hM : z_EM l M' B' (Value.retAddr i :: As) S D o') (hh : M'.2.2.2.2 = []) (hg : ∀ w ∈ [Cond.methodLink M.1.cls idx M'.1, .instanceMethod M'.1, .selects M'.1.cls M'.1 M'.1, .initialized M'.1.cls, z_code M'], w ∈ z_gw) (hi : i < 24) (hcs : M'.1.cls = "java/lang/String") (hd : z_nm M'.1 n) (hn : As.length = n) (hW : (rest.map fun v => v.category).sum ≤ 8) (hB : z_rm B B' M'.2.2.1 cu su) (hdg : decode M.2.1 pc = .ok (.invokevirtual idx, 3)) :
    z_Runs l M B M' B' cu su pc (Value.retAddr i :: As) rest S D o' := by
  intro p e R s m args below meth c G cI cJ A X ρ H locs ls C hP hD hS hls
  obtain ⟨hx, hb, hml, hown, hts, htab, hl, ⟨r1, r2, r3, r4⟩, hK, hA, hE, hin, hlocks, hN⟩ := C
  have hcw : z_code M' = Cond.code M'.1 M'.2.1 M'.2.2.1 M'.2.2.2.1 := by unfold z_code; rw [hh]
  have hc0 : z_code M' ∈ z_gw := hg _ (by simp)
  obtain ⟨cellB, hcB, hoB, hclB⟩ := vk_recv hE.2.2.2.1 hi hS
  rw [← hcs] at hclB
  have hr := vx_runV (rest := rest.map (z_cv ρ)) (g := F0 m pc ls (((Value.retAddr i :: As).reverse ++ rest).map (z_cv ρ))) ⟨hx, hb, hml, hown, hts⟩ (hM.2 G cI cJ ρ X H.size) ⟨callB_of (R := R) (own := M.1.cls) (index := idx) (y := M'.1) (bytes := M'.2.1) (maxL := M'.2.2.1) (ret := M'.2.2.2.1) (ws := z_wd M') (ws' := z_gw) (rm := { frames := B'.1, cells := B'.2.2.1, slots := B'.2.2.2, locals := B'.2.1 }) (mc := B'.2.2.1) (ms := B'.2.2.2) n hts (z_goodIn hc0) (by unfold z_wd; rw [hcw]) rfl rfl (hts _ (hg (.initialized M'.1.cls) (by simp))) (hts _ (hg (.methodLink M.1.cls idx M'.1) (by simp))) hd ⟨Nat.le_trans hB.1 r1, Nat.le_trans hB.2.1 r2⟩, hts _ (hg (.instanceMethod M'.1) (by simp)), hts _ (hg (.selects M'.1.cls M'.1 M'.1) (by simp))⟩ (H := H) (b := ρ.2 i) (As := As.map (z_cv ρ)) ⟨z_Pre_blind, ⟨cellB, hcB, hoB, hclB⟩, fun U hU hW => z_Pre_at (As := (Value.retAddr i :: As)) hK hA hE hN hP hD hS hU hW⟩ rfl (by rw [List.length_map]; exact hn) hls (by show List.map _ _ = _; simp [z_cv]) (by show 2 * 0 + _ ≤ 8; rw [z_cv_cats]; omega) hdg (below := below) (meth := meth) (locs := locs) (e := e) (cells := cu) (slots := su) ⟨Nat.le_trans hB.2.2.1 r3, Nat.le_trans hB.2.2.2 r4⟩
  exact hr
/-- a constructor, by a plain link -/
theorem z_runI {l : Launch} {M M' : z_M} {B B' : z_B} {cu su pc : Nat} {As rest : List Value} {S : List z_Shp} {D : z_Dat} {o' : z_Out} {k : Nat} (idx n : Nat) (hM : z_EM l M' B' (Value.ref k :: As) S D o') (hh : M'.2.2.2.2 = []) (hret : M'.2.2.2.1 = none) (hy1 : M'.1.name = "<init>") (hg : ∀ w ∈ [Cond.methodLink M.1.cls idx M'.1, .instanceMethod M'.1, .initialized M'.1.cls, z_code M'], w ∈ z_gw) (hd : z_nm M'.1 n) (hn : As.length = n) (hW : (rest.map fun v => v.category).sum ≤ 8) (hB : z_rm B B' M'.2.2.1 cu su) (hdg : decode M.2.1 pc = .ok (.invokespecial idx, 3)) :
    z_Runs l M B M' B' cu su pc (Value.ref k :: As) rest S D o' := by
  intro p e R s m args below meth c G cI cJ A X ρ H locs ls C hP hD hS hls
  obtain ⟨hx, hb, hml, hown, hts, htab, hl, ⟨r1, r2, r3, r4⟩, hK, hA, hE, hin, hlocks, hN⟩ := C
  have hcw : z_code M' = Cond.code M'.1 M'.2.1 M'.2.2.1 none := by unfold z_code; rw [hh, hret]
  have hc0 : z_code M' ∈ z_gw := hg _ (by simp)
  have hr := vx_runI (rest := rest.map (z_cv ρ)) (g := F0 m pc ls (((Value.ref k :: As).reverse ++ rest).map (z_cv ρ))) ⟨hx, hb, hml, hown, hts⟩ (hM.2 G cI cJ ρ X H.size) ⟨callB_of (R := R) (own := M.1.cls) (index := idx) (y := M'.1) (bytes := M'.2.1) (maxL := M'.2.2.1) (ret := none) (ws := z_wd M') (ws' := z_gw) (rm := { frames := B'.1, cells := B'.2.2.1, slots := B'.2.2.2, locals := B'.2.1 }) (mc := B'.2.2.1) (ms := B'.2.2.2) n hts (z_goodIn hc0) (by unfold z_wd; rw [hcw]) rfl rfl (hts _ (hg (.initialized M'.1.cls) (by simp))) (hts _ (hg (.methodLink M.1.cls idx M'.1) (by simp))) hd ⟨Nat.le_trans hB.1 r1, Nat.le_trans hB.2.1 r2⟩, hy1, hts _ (hg (.instanceMethod M'.1) (by simp))⟩ (H := H) (b := ρ.1 k) (As := As.map (z_cv ρ)) ⟨z_Pre_blind, fun U hU hW => z_Pre_at (As := (Value.ref k :: As)) hK hA hE hN hP hD hS hU hW⟩ rfl (by rw [List.length_map]; exact hn) hls (by show List.map _ _ = _; simp [z_cv]) (by show 2 * 0 + _ ≤ 8; rw [z_cv_cats]; omega) hdg (below := below) (meth := meth) (locs := locs) (e := e) (cells := cu) (slots := su) ⟨Nat.le_trans hB.2.2.1 r3, Nat.le_trans hB.2.2.2 r4⟩
  exact hr
/-- a constructor of a nest mate -/
theorem z_runIN {l : Launch} {M M' : z_M} {B B' : z_B} {cu su pc : Nat} {As rest : List Value} {S : List z_Shp} {D : z_Dat} {o' : z_Out} {k : Nat} (idx n : Nat) (hM : z_EM l M' B' (Value.ref k :: As) S D o') (hh : M'.2.2.2.2 = []) (hret : M'.2.2.2.1 = none) (hy1 : M'.1.name = "<init>") (hg : ∀ w ∈ [Cond.instanceMethod M'.1, .initialized M'.1.cls, z_code M'], w ∈ z_gw) {host : String} (hnest : Cond.methodLinkNest M.1.cls idx M'.1 host ∈ z_nw) (hd : z_nm M'.1 n) (hn : As.length = n) (hW : (rest.map fun v => v.category).sum ≤ 8) (hB : z_rm B B' M'.2.2.1 cu su) (hdg : decode M.2.1 pc = .ok (.invokespecial idx, 3)) :
    z_Runs l M B M' B' cu su pc (Value.ref k :: As) rest S D o' := by
  intro p e R s m args below meth c G cI cJ A X ρ H locs ls C hP hD hS hls
  obtain ⟨hx, hb, hml, hown, hts, htab, hl, ⟨r1, r2, r3, r4⟩, hK, hA, hE, hin, hlocks, hN⟩ := C
  have hcw : z_code M' = Cond.code M'.1 M'.2.1 M'.2.2.1 none := by unfold z_code; rw [hh, hret]
  have hc0 : z_code M' ∈ z_gw := hg _ (by simp)
  have hr := vx_runIN (rest := rest.map (z_cv ρ)) (g := F0 m pc ls (((Value.ref k :: As).reverse ++ rest).map (z_cv ρ))) ⟨hx, hb, hml, hown, hts⟩ (hM.2 G cI cJ ρ X H.size) ⟨va_cnB (R := R) (own := M.1.cls) (host := host) (index := idx) (y := M'.1) (bytes := M'.2.1) (maxL := M'.2.2.1) (ret := none) (ws := z_wd M') (ws' := z_gw) (rm := { frames := B'.1, cells := B'.2.2.1, slots := B'.2.2.2, locals := B'.2.1 }) (mc := B'.2.2.1) (ms := B'.2.2.2) n hts (z_goodIn hc0) (by unfold z_wd; rw [hcw]) rfl rfl (hN.1 _ hnest) (hts _ (hg (.initialized M'.1.cls) (by simp))) hd ⟨Nat.le_trans hB.1 r1, Nat.le_trans hB.2.1 r2⟩, hy1, hts _ (hg (.instanceMethod M'.1) (by simp))⟩ (H := H) (b := ρ.1 k) (As := As.map (z_cv ρ)) ⟨z_Pre_blind, fun U hU hW => z_Pre_at (As := (Value.ref k :: As)) hK hA hE hN hP hD hS hU hW⟩ rfl (by rw [List.length_map]; exact hn) hls (by show List.map _ _ = _; simp [z_cv]) (by show 2 * 0 + _ ≤ 8; rw [z_cv_cats]; omega) hdg (below := below) (meth := meth) (locs := locs) (e := e) (cells := cu) (slots := su) ⟨Nat.le_trans hB.2.2.1 r3, Nat.le_trans hB.2.2.2 r4⟩
  exact hr
/-- invokestatic of a method with a table -/
theorem z_runSX {l : Launch} {M M' : z_M} {B B' : z_B} {cu su pc : Nat} {As rest : List Value} {S : List z_Shp} {D : z_Dat} {o' : z_Out} {h1 : Nat × Nat × Nat × Nat} {h2 : List (Nat × Nat × Nat × Nat)} (idx n : Nat) (hM : z_EM l M' B' As S D o') (hh : M'.2.2.2.2 = h1 :: h2) (hg : ∀ w ∈ [Cond.methodLink M.1.cls idx M'.1, .static M'.1, .initialized M'.1.cls, z_code M'], w ∈ z_gw) (hd : z_nm M'.1 n) (hn : As.length = n) (hW : (rest.map fun v => v.category).sum ≤ 8) (hB : z_rm B B' M'.2.2.1 cu su) (hdg : decode M.2.1 pc = .ok (.invokestatic idx, 3)) :
    z_Runs l M B M' B' cu su pc As rest S D o' := by
  intro p e R s m args below meth c G cI cJ A X ρ H locs ls C hP hD hS hls
  obtain ⟨hx, hb, hml, hown, hts, htab, hl, ⟨r1, r2, r3, r4⟩, hK, hA, hE, hin, hlocks, hN⟩ := C
  have hcw : z_code M' = Cond.codeWith M'.1 M'.2.1 M'.2.2.1 M'.2.2.2.1 (h1 :: h2) := by unfold z_code; rw [hh]
  have hc0 : z_code M' ∈ z_gw := hg _ (by simp)
  have hr := vx_runSX (rest := rest.map (z_cv ρ)) (g := F0 m pc ls ((As.reverse ++ rest).map (z_cv ρ))) ⟨hx, hb, hml, hown, hts⟩ (hM.2 G cI cJ ρ X H.size) (vx_cwSW (R := R) (own := M.1.cls) (index := idx) (y := M'.1) (bytes := M'.2.1) (maxL := M'.2.2.1) (ret := M'.2.2.2.1) (hh := h1 :: h2) (ws := z_wd M') (ws' := z_gw) (rm := { frames := B'.1, cells := B'.2.2.1, slots := B'.2.2.2, locals := B'.2.1 }) (mc := B'.2.2.1) (ms := B'.2.2.2) n hts (fun w hw => (List.mem_append.mp (show w ∈ ([Cond.methodLink M.1.cls idx M'.1, .static M'.1, .initialized M'.1.cls] : List Cond) ++ z_wd M' from hw)).elim (fun h => z_good (hg w (List.mem_append_left [z_code M'] h))) (fun h => z_goodIn hc0 w h)) (by unfold z_wd; rw [hcw]) rfl rfl hd ⟨Nat.le_trans hB.1 r1, Nat.le_trans hB.2.1 r2⟩) (H := H) (As := As.map (z_cv ρ)) ⟨z_Pre_blind, fun U hU hW => z_Pre_at (As := As) hK hA hE hN hP hD hS hU hW⟩ rfl (by rw [List.length_map]; exact hn) hls (by show List.map _ _ = _; simp [z_cv]) (by show 2 * 0 + _ ≤ 8; rw [z_cv_cats]; omega) hdg (below := below) (meth := meth) (locs := locs) (e := e) (cells := cu) (slots := su) ⟨Nat.le_trans hB.2.2.1 r3, Nat.le_trans hB.2.2.2 r4⟩
  exact hr
/-- the caller goes on behind a call that returns -/
theorem z_call {l : Launch} {M M' : z_M} {B B' : z_B} {cu su pc : Nat} {lv : List (Option Value)} {As rest : List Value} {S : List z_Shp} {D : z_Dat} {o' out : z_Out} {v : Option Value} (hr : z_Runs l M B M' B' cu su pc As rest S D o') (ho : o'.1 = .inl v) (hv : ∀ (ρ : z_Rho), v.map (z_cv ρ) = v) (hs : z_same S.length o'.2.1.length lv rest) (h1 : S.length ≤ o'.2.1.length) (h2 : o'.2.1.length ≤ out.2.1.length)
    (kk : z_E l M B (cu + B'.2.2.1) (su + B'.2.2.2) (pc + 3) lv (v.toList ++ rest) o'.2.1 o'.2.2 out) : z_E l M B cu su pc lv (As.reverse ++ rest) S D out := by
  intro p e R s m args below meth c Q G cI cJ A X ρ H locs ls C hP hD hS hl hend
  refine z_back (hr p e R s m args below meth c G cI cJ A X ρ H locs ls C hP hD hS hl.1) hS (z_free hD hS C.2.2.2.2.2.2.2.2.2.1) ?_ ?_
  · intro v' hv' ρ' H1 locs1 hx hP1 hD1 hS1
    rw [ho] at hv'
    cases hv'
    obtain ⟨e1, e2⟩ := hs ρ ρ' hx
    have k := kk p e R s m args below meth c Q G cI cJ A X ρ' H1 locs1 ls (by rw [hx.2.1]; exact C) hP1 hD1 hS1 (hl.ext e2) (hend.ext hx h1 h2)
    rw [List.map_append, e1] at k
    rw [hv ρ']
    have e3 : List.map (z_cv ρ') v.toList = v.toList := by
      have := congrArg Option.toList (hv ρ')
      cases v with
      | none => rfl
      | some w => simpa using this
    rw [e3] at k
    exact k
  · intro E hE
    rw [ho] at hE
    cases hE
/-- a call that throws, in a method without a table: the method's end -/
theorem z_callT {l : Launch} {M M' : z_M} {B B' : z_B} {cu su pc : Nat} {lv : List (Option Value)} {As rest : List Value} {S : List z_Shp} {D : z_Dat} {o' : z_Out} {E : String} (hh : M.2.2.2.2 = []) (hr : z_Runs l M B M' B' cu su pc As rest S D o') (ho : o'.1 = .inr E) (h3 : cu + B'.2.2.1 ≤ B.2.2.1) (h4 : su + B'.2.2.2 ≤ B.2.2.2) : z_E l M B cu su pc lv (As.reverse ++ rest) S D (.inr E, o'.2) := by
  intro p e R s m args below meth c Q G cI cJ A X ρ H locs ls C hP hD hS hl hend
  refine z_back (hr p e R s m args below meth c G cI cJ A X ρ H locs ls C hP hD hS hl.1) hS (z_free hD hS C.2.2.2.2.2.2.2.2.2.1) ?_ ?_
  · intro v hv
    rw [ho] at hv
    cases hv
  · intro E' hE ρ' H1 locs1 hx hP1 hD1 hS1 q ce hq hv hcl
    rw [ho] at hE
    cases hE
    have k := (hend ρ' H1 locs1 pc ls hx hP1 hD1 hS1 hh).1 q ce (rest.map (z_cv ρ)) hq hv hcl
    exact vx_widen h3 h4 k
/-- ldc_w of a text constant -/
theorem z_ldcwStr {p : Program} {l : Launch} {e : Env} {R : Room} {s : State} {m : MethodId} {args : Array Value} {below : List Frame} {meth : Method} {c : Code} {T : State} {locs : List Loc} {cells slots : Nat}
    (X : Stand p l e R s m args below meth c T locs cells slots) (hexec : p.tables.exec = Jvm.exec) {own text : String} {index : Nat} {a : Addr} (hown : s.vm.findClass own = some m.cls)
    (hconst : (Cond.stringRef own index text).before args s = true) (hev : (Term.string own index).eval args s none [] s = some (.ref a)) {g : JFrame} (hg : g.method = m) (hdg : decode c.code g.pc = .ok (.ldc_w index, 3)) :
    ∀ target, Steps p.tables e below (T.setTop { g with pc := g.pc + 3, stack := .ref a :: g.stack }) target → Steps p.tables e below (T.setTop g) target := by
  obtain ⟨k, cf, i, a', hk, hcf, hcp, -, hr, hev'⟩ := Cond.stringRef_spec hown hconst
  cases hev.symm.trans hev'
  obtain ⟨k', hk', he⟩ := X.warmed.alike.2.2 _ _ hk
  have hr' : k'.resolved[index]? = some (some (.string a)) := by
    rcases X.warmed.entry hk hk' index with h | ⟨h, -⟩
    · rw [h]; exact hr
    · rw [hr] at h; cases h
  intro target hrest
  subst hg
  jvm_step X.here [hexec, hdg, ldc_w.wp_string (e := e) (s := T) (f := g) X.here.top hk' (by rw [he]; exact hcf) hcp hr']
  exact hrest
