/-! THE CLAIM OUT OF ONE WALK OF THE LAW'S BODY. Your part is whole_start (and what it stands on); all else here is the same for every law, but numbers. -/
def R_law : String := "DyeStreetsLaw"
def lw_P (b : Addr) (xs : List Int32) (args : Array Value) (s : State) : Prop := args = #[.ref b] ∧ s.IntsAt b xs ∧ xs.length ≤ 3584 ∧ (Jvm.Cond.and given_1 narrow_1).before args s = true
def lw_Q (_ : Array Value) (s : State) (o : Outcome) (t : State) : Prop := o = .returned (some (.int 1)) ∧ Framed s o t [] 601024 7293034
def lw_Z (below : List Frame) (a : Array Value) (s : State) : State → Prop := fun t => ∃ o, t.status = .running ∧ Ended t below o ∧ lw_Q a s o t
/-- the law's own end, with 1 on the stack, nothing written that was there before, its room as the claim has it -/
theorem lw_ret {p : Program} {l : Launch} {e : Env} {s : State} {m : MethodId} {below : List Frame} {meth : Method} {c : Code} {b : Nat} (hx : p.tables.exec = Jvm.exec) (hb : c.code = code) (hr : meth.sig.returnType = ret) (hlocks : meth.locks = false) {pc : Nat} {H : Heap} {ls : Array Slot} (hdg : decode code pc = .ok (.ireturn, 1)) : W p l e room_1 s m #[Value.ref b] below meth c H [] 601024 7293034 (lw_Z below #[Value.ref b] s) (F0 m pc ls [.int 1]) := by
  intro T hT X
  obtain ⟨fs, hret, hrun, hended, hW, hframe⟩ := X.leave (v := some (.int 1)) (hlocks := hlocks) (fun h => by rw [hr] at h; cases h)
  have hmeth' : T.vm.method? m = some meth := X.method'
  refine ⟨T.setFrames fs, ?_, .returned (some (.int 1)), hrun, hended, rfl, ⟨_, rfl⟩, hW, hframe⟩
  jvm_step X.here [X.here.top, hx, hb, hdg, hmeth', hr, ret, narrow_b1]
  (try refine ⟨rfl, ?_⟩); (try refine ⟨rfl, ?_⟩)
  first | (intro acts; rw [hret _ acts rfl rfl rfl]) | rw [hret _ _ rfl rfl rfl]
  exact Steps.refl _
/-- what holds at the law's entry: the machine, the code, the tables' words (any of lw_tbl by 'hts w (by decide +kernel)'), the script of L ints xs at the cell b, what the Statement gives of the start (any of its parts by flat_of_before) -/
def lw_At (p : Program) (s : State) (m : MethodId) (meth : Method) (c : Code) (b L : Nat) (xs : Nat → Int32) : Prop :=
  p.tables.exec = Jvm.exec ∧ c.code = code ∧ meth.sig.returnType = ret ∧ c.maxLocals = 8 ∧ s.vm.findClass R_law = some m.cls ∧ (∀ w ∈ lw_tbl, w.before #[Value.ref b] s = true) ∧ va_X b L xs s s.heap ∧ b < s.heap.size ∧ meth.locks = false ∧ meth.name = "law" ∧ c.exceptionTable.toList = [] ∧ (Jvm.Cond.and given_1 narrow_1).before #[Value.ref b] s = true
/-! ===== the start: what the Statement gives, as the logic wants it ===== -/
def w_tm (i : Nat) : Term := .string (z_sown.getD i "") (z_sidx.getD i 0)
def w_va (i : Nat) : Term := .field (w_tm i) "java/lang/String" "value" "[B"
def w_blk (i : Nat) : List Cond := [.exactly (w_tm i) "java/lang/String", .eq (.field (w_tm i) "java/lang/String" "coder" "B") (.int 0), .arrayOf (w_va i) .byte, .eq (.length (w_va i)) (.int (Int32.ofNat (z_slen.getD i 0)))] ++ ((List.range (z_slen.getD i 0)).map (fun j => .eq (.elem (w_va i) (.int (Int32.ofNat j))) (.int ((z_sby.getD i []).getD j 0))) ++ (List.range i).map (fun k => .not (.eq (w_tm k) (w_tm i))))
theorem w_drop : (flatC (Jvm.Cond.and given_1 narrow_1)).drop 37 = (List.range 24).flatMap w_blk := by decide +kernel
theorem w_mem {w : Cond} {i : Nat} (hi : i < 24) (h : w ∈ w_blk i) : w ∈ flatC (Jvm.Cond.and given_1 narrow_1) :=
  List.mem_of_mem_drop (i := 37) (by rw [w_drop]; exact List.mem_flatMap.mpr ⟨i, List.mem_range.mpr hi, h⟩)
theorem w_slen : ∀ i, i < 24 → z_slen.getD i 0 < 2 ^ 31 := by decide +kernel
theorem w_sref : ∀ i, i < 24 → Cond.stringRef (z_sown.getD i "") (z_sidx.getD i 0) (z_stx.getD i "") ∈ lw_tbl := by decide +kernel
theorem w_nwt : ∀ w ∈ z_nw, w.onTables = true := fun w hw => by
  have h2 := (List.mem_filter.mp hw).2
  cases w <;> first | (exact (Bool.false_ne_true h2).elim) | rfl
/-- what is to be shown of the two sides, with no machine in it -/
def z_pure : Prop := ∃ (N : Nat) (J : Nat → Nat → z_Dat → Prop) (D D2 : z_Dat), F_X11_init_40 N (z_new (F_X10_init_0 (z_new D 0)) 40) = some D2 ∧ J 34 68 (z_new D2 67) ∧ ∀ o n D, J o n D → ∀ a1 a2 a3 a4 a5 a6 k, k ≤ 37 → z_okS J N o n a1 a2 a3 a4 a5 a6 D k
set_option maxRecDepth 100000 in
set_option maxHeartbeats 4000000 in
theorem start_of (hp : z_pure) {p : Program} {e : Env} {s : State} {m : MethodId} {below : List Frame} {meth : Method} {c : Code} (l : Launch) (hflags : l.flags = flags0) {b L : Nat} {xs : Nat → Int32} (hL : L ≤ 3584) (C0 : lw_At p s m meth c b L xs) : W p l e room_1 s m #[Value.ref b] below meth c s.heap [] 0 0 (lw_Z below #[Value.ref b] s) (entryFrame m ([Value.ref b] : List Value).toArray 8) := by
  obtain ⟨hx, hb, hr, hml, hown, hts, hX, hbl, hlocks, hname, htab, hgv⟩ := id C0
  have hl : l.stackTraces = false := by
    simp [Launch.stackTraces, hflags, flags0, Jvm.noTraceFlag, Jvm.pinnedFlags]
  have hfl := flat_of_before _ hgv
  obtain ⟨N, J, D, D2, hi, h0, hstep⟩ := hp
  obtain ⟨out, g1, g2, kk⟩ := law_whole (X := (L, xs)) hl N hL J D D2 hi h0 hstep
  have hgw : ∀ w ∈ z_gw, w.before #[Value.ref b] s = true := fun w hw => hts w (List.mem_filter.mp hw).1
  have hA : ∀ q : Nat, s.heap.size ≤ q → (fun q : Nat => s.heap.size ≤ q) q := fun _ h => h
  have hnA : ∀ a : Nat, a < s.heap.size → ¬ (fun q : Nat => s.heap.size ≤ q) a := fun a h => Nat.not_le.mpr h
  obtain ⟨c0, iS0, hKn0⟩ := u_known (C := RX0) (T := TX0) (N := 3) (n := 3) hgw kl_0.2 (hts (.instantiable RX0 3) (by decide +kernel))
  obtain ⟨c1, iS1, hKn1⟩ := u_known (C := RX1) (T := TX1) (N := 8) (n := 8) hgw kl_1.2 (hts (.instantiable RX1 8) (by decide +kernel))
  obtain ⟨c2, iS2, hKn2⟩ := u_known (C := RX2) (T := TX2) (N := 5) (n := 5) hgw kl_2.2 (hts (.instantiable RX2 5) (by decide +kernel))
  obtain ⟨c3, iS3, hKn3⟩ := u_known (C := RX3) (T := TX3) (N := 3) (n := 3) hgw kl_3.2 (hts (.instantiable RX3 3) (by decide +kernel))
  obtain ⟨c4, iS4, hKn4⟩ := u_known (C := RX4) (T := TX4) (N := 5) (n := 5) hgw kl_4.2 (hts (.instantiable RX4 5) (by decide +kernel))
  obtain ⟨c5, iS5, hKn5⟩ := u_known (C := RX5) (T := TX5) (N := 7) (n := 7) hgw kl_5.2 (hts (.instantiable RX5 7) (by decide +kernel))
  obtain ⟨c6, iS6, hKn6⟩ := u_known (C := RX6) (T := TX6) (N := 2) (n := 2) hgw kl_6.2 (hts (.instantiable RX6 2) (by decide +kernel))
  obtain ⟨c7, iS7, hKn7⟩ := u_known (C := RX7) (T := TX7) (N := 9) (n := 9) hgw kl_7.2 (hts (.instantiable RX7 9) (by decide +kernel))
  obtain ⟨c8, iS8, hKn8⟩ := u_known (C := RX8) (T := TX8) (N := 7) (n := 7) hgw kl_8.2 (hts (.instantiable RX8 7) (by decide +kernel))
  obtain ⟨c9, iS9, hKn9⟩ := u_known (C := RX9) (T := TX9) (N := 1) (n := 1) hgw kl_9.2 (hts (.instantiable RX9 1) (by decide +kernel))
  obtain ⟨c10, iS10, hKn10⟩ := u_known (C := RX10) (T := TX10) (N := 15) (n := 15) hgw kl_10.2 (hts (.instantiable RX10 15) (by decide +kernel))
  obtain ⟨c11, iS11, hKn11⟩ := u_known (C := RX11) (T := TX11) (N := 55) (n := 55) hgw kl_11.2 (hts (.instantiable RX11 55) (by decide +kernel))
  obtain ⟨dC, dI, hKc⟩ : ∃ (dC : Nat → ClassId) (dI : Nat → Nat → Nat), ∀ (k : Nat) (q : vw_C), vwCl[k]? = some q → u_Kn s q.1 q.2.1 q.2.2 (dC k) (dI k) := by
    refine ⟨fun k => [c0, c1, c2, c3, c4, c5, c6, c7, c8, c9, c10, c11].getD k c0, fun k => [iS0, iS1, iS2, iS3, iS4, iS5, iS6, iS7, iS8, iS9, iS10, iS11].getD k iS0, ?_⟩
    intro k q hq
    match k, hq with
    | 0, hq => cases hq; exact hKn0
    | 1, hq => cases hq; exact hKn1
    | 2, hq => cases hq; exact hKn2
    | 3, hq => cases hq; exact hKn3
    | 4, hq => cases hq; exact hKn4
    | 5, hq => cases hq; exact hKn5
    | 6, hq => cases hq; exact hKn6
    | 7, hq => cases hq; exact hKn7
    | 8, hq => cases hq; exact hKn8
    | 9, hq => cases hq; exact hKn9
    | 10, hq => cases hq; exact hKn10
    | 11, hq => cases hq; exact hKn11
    | k + 12, hq => simp [vwCl] at hq
  obtain ⟨cI, kI, coI, hI1, hI2, hI3⟩ := Cond.arrayClass_spec (hts (.arrayClass .int) (by decide +kernel))
  obtain ⟨cJ, kJ, coJ, hJ1, hJ2, hJ3⟩ := Cond.arrayClass_spec (hts (.arrayClass .long) (by decide +kernel))
  have hK : va_K (dC, dI) vwCl [(cI, .int), (cJ, .long)] s := ⟨hKc, fun k q h => by
    match k, h with
    | 0, h => cases h; exact ⟨fun n z => ⟨fun k h => (by cases h), kI, hI2, coI, hI3⟩, hI1⟩
    | 1, h => cases h; exact ⟨fun n z => ⟨fun k h => (by cases h), kJ, hJ2, coJ, hJ3⟩, hJ1⟩
    | k + 2, h => simp at h⟩
  obtain ⟨adK, adV, hSt, hTm⟩ := vk_Sof (args := #[Value.ref b]) (s := s) (N := 24) (tm := w_tm) (len := z_slen) (byt := z_sby) (A := fun q : Nat => s.heap.size ≤ q) w_slen
    (fun i hi => hfl _ (w_mem hi (List.mem_append_left _ (by simp [w_tm]))))
    (fun i hi => hfl _ (w_mem hi (List.mem_append_left _ (by simp [w_tm]))))
    (fun i hi => hfl _ (w_mem hi (List.mem_append_left _ (by simp [w_tm, w_va]))))
    (fun i hi => hfl _ (w_mem hi (List.mem_append_left _ (by simp [w_tm, w_va]))))
    (fun i hi j hj => hfl _ (w_mem hi (List.mem_append_right _ (List.mem_append_left _ (List.mem_map.mpr ⟨j, List.mem_range.mpr hj, rfl⟩)))))
    (fun i j hi hj hij => by
      rcases Nat.lt_or_gt_of_ne hij with h | h
      · exact Or.inl (hfl _ (w_mem hj (List.mem_append_right _ (List.mem_append_right _ (List.mem_map.mpr ⟨i, List.mem_range.mpr h, rfl⟩)))))
      · exact Or.inr (hfl _ (w_mem hi (List.mem_append_right _ (List.mem_append_right _ (List.mem_map.mpr ⟨j, List.mem_range.mpr h, rfl⟩)))))) hnA
  have hZ0 := vx_Zqof (C := Bundle.tN) (n := "UNASSIGNED_STACK") (d := Bundle.steD) (A := fun q : Nat => s.heap.size ≤ q) (hts _ (by decide +kernel)) (hts _ (by decide +kernel)) (hfl _ (by decide +kernel)) hnA
  have hZ1 := vx_Zqof (C := Bundle.tN) (n := "SUPPRESSED_SENTINEL") (d := Bundle.listD) (A := fun q : Nat => s.heap.size ≤ q) (hts _ (by decide +kernel)) (hts _ (by decide +kernel)) (hfl _ (by decide +kernel)) hnA
  have hZ2 := va_Zof (C := "java/lang/String") (n := "COMPACT_STRINGS") (d := "Z") (A := fun q : Nat => s.heap.size ≤ q) (hts _ (by decide +kernel)) (hts _ (by decide +kernel)) (va_eqt (hfl (.eq (.static "java/lang/String" "COMPACT_STRINGS" "Z") (.int 1)) (by decide +kernel))) hnA
  have hZ3 := va_Zqof (C := "jdk/internal/util/Preconditions") (n := "SIOOBE_FORMATTER") (d := "Ljava/util/function/BiFunction;") (A := fun q : Nat => s.heap.size ≤ q) (hts _ (by decide +kernel)) (hts _ (by decide +kernel)) (hfl _ (by decide +kernel)) hnA
  obtain ⟨t0, hZ4⟩ : ∃ t0 : Nat, va_Z "jdk/internal/util/Preconditions" "SIOOBE_FORMATTER" "Ljava/util/function/BiFunction;" .null (fun q : Nat => s.heap.size ≤ q) s s.heap ∨ va_Z "jdk/internal/util/Preconditions" "SIOOBE_FORMATTER" "Ljava/util/function/BiFunction;" (.ref t0) (fun q : Nat => s.heap.size ≤ q) s s.heap := by
    rcases hZ3 with h | ⟨t, h⟩
    · exact ⟨0, Or.inl h⟩
    · exact ⟨t, Or.inr h⟩
  obtain ⟨ad, had⟩ : ∃ ad : Nat → Nat, ad = fun k => if k < 24 then adK k else if k < 124 then adV (k - 100) else if k = 1000 then b else t0 := ⟨_, rfl⟩
  have ad1000 : ad 1000 = b := by rw [had]; rfl
  have ad2000 : ad 2000 = t0 := by rw [had]; rfl
  have adk : ∀ i, i < 24 → ad i = adK i := fun i hi => by rw [had]; exact if_pos hi
  have adv : ∀ i, i < 24 → ad (100 + i) = adV i := fun i hi => by
    rw [had]
    show (if 100 + i < 24 then _ else if 100 + i < 124 then adV (100 + i - 100) else _) = _
    rw [if_neg (by omega), if_pos (by omega), show 100 + i - 100 = i by omega]
  have hEx : z_Ex ad (L, xs) (fun q : Nat => s.heap.size ≤ q) s s.heap := by
    refine ⟨hZ0, hZ1, ⟨by rw [ad1000]; exact hX, by rw [ad1000]; exact hnA b hbl, by rw [ad1000]; exact hbl⟩, ⟨fun i hi => ?_, fun i j hi hj e => hSt.2 i j hi hj (by rw [← adk i hi, ← adk j hj]; exact e)⟩, hZ2, by rw [ad2000]; exact hZ4⟩
    have h := hSt.1 i hi
    rw [← adk i hi, ← adv i hi] at h
    exact h
  have hNN : z_N ad s := by
    refine ⟨fun w hw => va_Nw.of (w_nwt w hw) (hts w (List.mem_filter.mp hw).1), fun i hi => ?_, va_Nc.of (hfl (.not (.castable "java/lang/IllegalArgumentException" "java/util/NoSuchElementException")) (by decide +kernel))⟩
    have h := vk_R.of (hts _ (w_sref i hi)) (hTm i hi)
    rw [← adk i hi] at h
    exact h
  have hlo : z_lo (fun _ : Nat => (0 : Nat), ad) 8 ((lg_sl (([.retAddr 1000] : List Value).map (z_cv (fun _ => 0, ad))) ++ List.replicate (8 - (lg_sl (([.retAddr 1000] : List Value).map (z_cv (fun _ => 0, ad)))).length) Slot.unset).toArray) (z_args 8 [.retAddr 1000]) := z_args_lo (by decide)
  have harg : ([.retAddr 1000] : List Value).map (z_cv (fun _ : Nat => (0 : Nat), ad)) = [Value.ref b] := by
    show [Value.ref (ad 1000)] = _
    rw [ad1000]
  rw [harg] at hlo
  rw [lg_entry_eq]
  refine kk p e room_1 s m #[Value.ref b] below meth c (lw_Z below #[Value.ref b] s) (dC, dI) cI cJ (fun q : Nat => s.heap.size ≤ q) (fun _ => 0, ad) s.heap [] _ ⟨hx, hb, hml, hown, hgw, ?_, hl, ⟨Nat.le_refl _, Nat.le_refl _, Nat.le_refl _, Nat.le_refl _⟩, hK, hA, hEx, hname, hlocks, hNN⟩ (fun k q h => by simp [z_ws] at h) ⟨fun i j p q h => by simp [z_ws] at h, fun k q h => by simp [z_ws] at h⟩ va_S.rf hlo ?_
  · exact htab
  · intro ρ' H locs pc ls hx2 hP hD hS
    rw [g1]
    intro hdg
    refine va_forget (fun q hq => hS.2.2 q hq) ?_
    exact lw_ret hx hb hr hlocks hdg
