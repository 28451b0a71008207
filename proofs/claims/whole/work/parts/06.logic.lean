/-! ===== a small logic over the machine: abstract worlds (shapes and rows of ints), judgements of a method's rest (z_E) and of a method (z_EM) ===== -/
/-- a cell's shape: 0 and n: ints, n of them; 1 and n: longs (two ints each, in the row); k + 2: an object of class k; of its fields, in the order of the slots: none an int, some a cell or null -/
abbrev z_Shp : Type := Nat × Nat × List (Option (Option Nat))
abbrev z_Dat : Type := Nat → Nat → Int32
/-- addresses of the cells by their number, of constants (texts, the script) by theirs -/
abbrev z_Rho : Type := (Nat → Nat) × (Nat → Nat)
/-- how a method ends: with a value or none, or by a throw; the shapes and rows behind it -/
abbrev z_Out : Type := (Option Value ⊕ String) × List z_Shp × z_Dat
/-- a method: name, code, locals, what it returns, its table -/
abbrev z_M : Type := MethodName × ByteArray × Nat × Option FieldType × List (Nat × Nat × Nat × Nat)
abbrev z_B : Type := Nat × Nat × Nat × Nat
/-- a value as the machine has it -/
def z_cv (ρ : z_Rho) (v : Value) : Value := match v with
  | .ref k => .ref (ρ.1 k)
  | .retAddr k => .ref (ρ.2 k)
  | v => v
theorem z_cv_cat (ρ : z_Rho) (v : Value) : (z_cv ρ v).category = v.category := by cases v <;> rfl
theorem z_cv_cats (ρ : z_Rho) (st : List Value) : ((st.map (z_cv ρ)).map fun v => v.category).sum = (st.map fun v => v.category).sum := by
  rw [List.map_map]
  congr 1
  exact List.map_congr_left fun v _ => z_cv_cat ρ v
def z_jn (x y : Int32) : Int64 := Int64.ofInt (y.toInt * 4294967296 + x.toInt % 4294967296)
def z_fv (ρ : z_Rho) (row : Nat → Int32) (j : Nat) (r : Option (Option Nat)) : Value := match r with
  | none => .int (row j)
  | some r => va_rf (r.map ρ.1)
def z_fs (ρ : z_Rho) (rs : List (Option (Option Nat))) (row : Nat → Int32) : List Value := rs.mapIdx (z_fv ρ row)
def z_cell (ρ : z_Rho) (cI cJ : ClassId) (sp : z_Shp) (row : Nat → Int32) : va_E := match sp.1 with
  | 0 => .inl (cI, sp.2.1, .inl row)
  | 1 => .inl (cJ, sp.2.1, .inr (.inl (fun i => z_jn (row (2 * i)) (row (2 * i + 1)))))
  | k + 2 => .inr (k, z_fs ρ sp.2.2 row)
def z_ws (ρ : z_Rho) (cI cJ : ClassId) (S : List z_Shp) (D : z_Dat) : va_W := S.mapIdx (fun k sp => (ρ.1 k, z_cell ρ cI cJ sp (D k)))
theorem z_ws_at {ρ : z_Rho} {cI cJ : ClassId} {S : List z_Shp} {D : z_Dat} {k : Nat} {sp : z_Shp} (h : S[k]? = some sp) : (z_ws ρ cI cJ S D)[k]? = some (ρ.1 k, z_cell ρ cI cJ sp (D k)) := by
  unfold z_ws
  rw [List.getElem?_mapIdx, h]
  rfl
/-- one int of a row is set -/
def z_up (D : z_Dat) (a i : Nat) (x : Int32) : z_Dat := fun b j => if b = a ∧ j = i then x else D b j
theorem z_up_row {D : z_Dat} {a i : Nat} {x : Int32} : z_up D a i x a = upd (D a) i x := by
  funext j
  by_cases h : j = i <;> simp [z_up, upd, h]
theorem z_up_ne {D : z_Dat} {a i b : Nat} {x : Int32} (h : b ≠ a) : z_up D a i x b = D b := by
  funext j
  simp [z_up, h]
theorem z_ws_set {ρ : z_Rho} {cI cJ : ClassId} {S : List z_Shp} {D D' : z_Dat} {k : Nat} {sp sp' : z_Shp} {e : va_E} (h : S[k]? = some sp) (he : z_cell ρ cI cJ sp' (D' k) = e) (ho : ∀ b, b ≠ k → D' b = D b) :
    (z_ws ρ cI cJ S D).set k (ρ.1 k, e) = z_ws ρ cI cJ (S.set k sp') D' := by
  apply List.ext_getElem?
  intro i
  unfold z_ws
  rw [List.getElem?_set, List.getElem?_mapIdx, List.getElem?_mapIdx, List.getElem?_set]
  have hk : k < S.length := (List.getElem?_eq_some_iff.mp h).1
  by_cases hi : k = i
  · subst hi
    simp [hk, he]
  · rw [if_neg hi, if_neg hi, ho i (Ne.symm hi)]
theorem z_set_self {S : List z_Shp} {k : Nat} {sp : z_Shp} (h : S[k]? = some sp) : S.set k sp = S := by
  apply List.ext_getElem?
  intro i
  rw [List.getElem?_set]
  by_cases hi : k = i
  · subst hi
    have hk : k < S.length := (List.getElem?_eq_some_iff.mp h).1
    rw [if_pos rfl, if_pos hk, h]
  · rw [if_neg hi]
theorem z_fs_at {ρ : z_Rho} {rs : List (Option (Option Nat))} {row : Nat → Int32} {j : Nat} {r : Option (Option Nat)} (h : rs[j]? = some r) : (z_fs ρ rs row)[j]? = some (z_fv ρ row j r) := by
  unfold z_fs
  rw [List.getElem?_mapIdx, h]
  rfl
theorem z_fs_len {ρ : z_Rho} {rs : List (Option (Option Nat))} {row : Nat → Int32} : (z_fs ρ rs row).length = rs.length := by
  unfold z_fs
  rw [List.length_mapIdx]
theorem z_fs_set {ρ : z_Rho} {rs rs' : List (Option (Option Nat))} {row row' : Nat → Int32} {j : Nat} {r : Option (Option Nat)} {v : Value} (hj : j < rs.length) (hr : rs' = rs.set j r) (hv : z_fv ρ row' j r = v) (ho : ∀ i, i ≠ j → row' i = row i) : (z_fs ρ rs row).set j v = z_fs ρ rs' row' := by
  subst hr
  apply List.ext_getElem?
  intro i
  unfold z_fs
  rw [List.getElem?_set, List.getElem?_mapIdx, List.getElem?_mapIdx, List.getElem?_set]
  by_cases hi : j = i
  · subst hi
    simp [hj, hv]
  · rw [if_neg hi, if_neg hi]
    have e := ho i (Ne.symm hi)
    cases rs[i]? with
    | none => rfl
    | some x => cases x <;> simp [z_fv, e]
/-- from n cells to n': the addresses grow -/
def z_ext (n n' : Nat) (ρ ρ' : z_Rho) : Prop := (n = n' → ρ' = ρ) ∧ ρ'.2 = ρ.2 ∧ ∀ k, k < n → ρ'.1 k = ρ.1 k
theorem z_ext.rf {n : Nat} {ρ : z_Rho} : z_ext n n ρ ρ := ⟨fun _ => rfl, rfl, fun _ _ => rfl⟩
/-- the words that every method is given: all good ones of the tables -/
def z_gw : List Cond := lw_tbl.filter goodWord
theorem z_gwm {w : Cond} (i : Nat) (h : lw_tbl[i]? = some w) (hg : goodWord w = true) : w ∈ z_gw := List.mem_filter.mpr ⟨List.mem_of_getElem? h, hg⟩
def z_code (M : z_M) : Cond := match M.2.2.2.2 with
  | [] => .code M.1 M.2.1 M.2.2.1 M.2.2.2.1
  | x :: xs => .codeWith M.1 M.2.1 M.2.2.1 M.2.2.2.1 (x :: xs)
def z_wd (M : z_M) : List Cond := z_code M :: z_gw
theorem z_gwg {w : Cond} (h : w ∈ z_gw) : goodWord w = true := (List.mem_filter.mp h).2
theorem z_good {w : Cond} (h : w ∈ z_gw) : w ∈ z_gw ∧ ((w.onTables && w.keeps) = true ∨ ∃ ty, w = .arrayClass ty) := ⟨h, good_of_word (z_gwg h)⟩
theorem z_goodIn {M : z_M} (h : z_code M ∈ z_gw) : GoodIn z_gw (z_wd M) := fun w hw => by
  rcases List.mem_cons.mp hw with rfl | hw
  · exact z_good h
  · exact z_good hw
/-- the text constants: class, entry, text, length, bytes -/
def z_sown : List String := [RX1, RX5, RX7, RX11, RX11, RX11, RX11, RX11, RX11, RX11, RX11, RX11, RX11, RX11, RX11, RX11, RX11, RX11, RX11, RX11, RX11, RX11, RX11, RX11]
def z_sidx : List Nat := [49, 90, 59, 184, 189, 191, 193, 263, 268, 246, 248, 250, 252, 254, 256, 258, 260, 262, 290, 292, 294, 296, 298, 303]
def z_stx : List String := ["street person stock river ", "madder indigo weld dark age rank dips year birth least most ", "dip wash salt rain marry year again ", "street", "person", "stock", "river", "least", "most", "madder", "indigo", "weld", "dark", "age", "rank", "dips", "year", "birth", "rain", "wash", "salt", "dip", "marry", "again"]
def z_slen : List Nat := [26, 60, 36, 6, 6, 5, 5, 5, 4, 6, 6, 4, 4, 3, 4, 4, 4, 5, 4, 4, 4, 3, 5, 5]
def z_sby : List (List Int32) := [[115, 116, 114, 101, 101, 116, 32, 112, 101, 114, 115, 111, 110, 32, 115, 116, 111, 99, 107, 32, 114, 105, 118, 101, 114, 32],
  [109, 97, 100, 100, 101, 114, 32, 105, 110, 100, 105, 103, 111, 32, 119, 101, 108, 100, 32, 100, 97, 114, 107, 32, 97, 103, 101, 32, 114, 97, 110, 107, 32, 100, 105, 112, 115, 32, 121, 101, 97, 114, 32, 98, 105, 114, 116, 104, 32, 108, 101, 97, 115, 116, 32, 109, 111, 115, 116, 32],
  [100, 105, 112, 32, 119, 97, 115, 104, 32, 115, 97, 108, 116, 32, 114, 97, 105, 110, 32, 109, 97, 114, 114, 121, 32, 121, 101, 97, 114, 32, 97, 103, 97, 105, 110, 32],
  [115, 116, 114, 101, 101, 116],
  [112, 101, 114, 115, 111, 110],
  [115, 116, 111, 99, 107],
  [114, 105, 118, 101, 114],
  [108, 101, 97, 115, 116],
  [109, 111, 115, 116],
  [109, 97, 100, 100, 101, 114],
  [105, 110, 100, 105, 103, 111],
  [119, 101, 108, 100],
  [100, 97, 114, 107],
  [97, 103, 101],
  [114, 97, 110, 107],
  [100, 105, 112, 115],
  [121, 101, 97, 114],
  [98, 105, 114, 116, 104],
  [114, 97, 105, 110],
  [119, 97, 115, 104],
  [115, 97, 108, 116],
  [100, 105, 112],
  [109, 97, 114, 114, 121],
  [97, 103, 97, 105, 110]]
/-- constants that no method writes: statics of the JDK, the texts, the script -/
def z_Ex (ad : Nat → Nat) (X : Nat × (Nat → Int32)) (A : Nat → Prop) (U : State) (H : Heap) : Prop :=
  vx_Zq Bundle.tN "UNASSIGNED_STACK" Bundle.steD A U H ∧ vx_Zq Bundle.tN "SUPPRESSED_SENTINEL" Bundle.listD A U H ∧ (va_X (ad 1000) X.1 X.2 U H ∧ ¬ A (ad 1000) ∧ ad 1000 < H.size) ∧
  vk_S 24 z_slen z_sby ad (fun i => ad (100 + i)) A U H ∧ va_Z "java/lang/String" "COMPACT_STRINGS" "Z" (.int 1) A U H ∧ (va_Z "jdk/internal/util/Preconditions" "SIOOBE_FORMATTER" "Ljava/util/function/BiFunction;" .null A U H ∨ va_Z "jdk/internal/util/Preconditions" "SIOOBE_FORMATTER" "Ljava/util/function/BiFunction;" (.ref (ad 2000)) A U H)
theorem z_Ex.moved {ad : Nat → Nat} {X : Nat × (Nat → Int32)} {A : Nat → Prop} {u U : State} {H : Heap} (hvm : u.vm.Alike U.vm) (h : z_Ex ad X A u H) : z_Ex ad X A U H := ⟨h.1.moved hvm, h.2.1.moved hvm, ⟨h.2.2.1.1.moved hvm, h.2.2.1.2⟩, h.2.2.2.1.moved hvm, h.2.2.2.2.1.moved hvm, h.2.2.2.2.2.elim (fun q => Or.inl (q.moved hvm)) (fun q => Or.inr (q.moved hvm))⟩
theorem z_Ex.kept {ad : Nat → Nat} {X : Nat × (Nat → Int32)} {A : Nat → Prop} {U : State} {H H1 : Heap} (h : z_Ex ad X A U H) (hz : H.size ≤ H1.size) (hq : ∀ a : Nat, a < H.size → ¬ A a → H1[a]? = H[a]?) : z_Ex ad X A U H1 :=
  ⟨h.1.kept hq, h.2.1.kept hq, ⟨h.2.2.1.1.kept (hq _ h.2.2.1.2.2 h.2.2.1.2.1), h.2.2.1.2.1, Nat.lt_of_lt_of_le h.2.2.1.2.2 hz⟩, h.2.2.2.1.kept hq, h.2.2.2.2.1.kept hq, h.2.2.2.2.2.elim (fun q => Or.inl (q.kept hq)) (fun q => Or.inr (q.kept hq))⟩
theorem z_Ex.narrow {ad : Nat → Nat} {X : Nat × (Nat → Int32)} {A B : Nat → Prop} {U : State} {H : Heap} (h : z_Ex ad X A U H) (hAB : ∀ q, B q → A q) : z_Ex ad X B U H :=
  ⟨h.1.narrow hAB, h.2.1.narrow hAB, ⟨h.2.2.1.1, fun q => h.2.2.1.2.1 (hAB _ q), h.2.2.1.2.2⟩, h.2.2.2.1.narrow hAB, h.2.2.2.2.1.narrow hAB, h.2.2.2.2.2.elim (fun q => Or.inl (q.narrow hAB)) (fun q => Or.inr (q.narrow hAB))⟩
/-- links between nest mates -/
def z_isN (w : Cond) : Bool := match w with
  | .methodLinkNest _ _ _ _ => true
  | .fieldLinkNest _ _ _ _ _ _ => true
  | .declares _ => true
  | .castable _ _ => true
  | _ => false
def z_nw : List Cond := lw_tbl.filter z_isN
def z_N (ad : Nat → Nat) (s : State) : Prop := (∀ w ∈ z_nw, va_Nw w s) ∧ (∀ i, i < 24 → vk_R (z_sown.getD i "") (z_sidx.getD i 0) (z_stx.getD i "") (ad i) s) ∧ va_Nc "java/lang/IllegalArgumentException" "java/util/NoSuchElementException" s
theorem z_N.warm {ad : Nat → Nat} {s U : State} (hW : s.WarmedH U.vm) (h : z_N ad s) : z_N ad U := ⟨fun w hw => by
  have h1 := h.1 w hw
  have h2 := (List.mem_filter.mp hw).2
  cases w <;> first | (exact (Bool.false_ne_true h2).elim) | exact va_Nw.warmF hW h1 | exact va_Nw.warmM hW h1 | exact va_Nw.warmD hW h1 | exact va_Nw.warmC hW h1, fun i hi => (h.2.1 i hi).warm hW, va_Nc.moved hW.alike h.2.2⟩
theorem z_N.same {ad : Nat → Nat} {u U : State} (hv : u.vm = U.vm) (h : z_N ad u) : z_N ad U := ⟨fun w hw => by
  have h1 := h.1 w hw
  have h2 := (List.mem_filter.mp hw).2
  cases w <;> first | (exact (Bool.false_ne_true h2).elim) | exact va_Nw.same rfl hv h1, fun i hi => (h.2.1 i hi).same hv.symm, va_Nc.moved (by rw [hv]; exact Vm.Alike.refl _) h.2.2⟩
theorem z_nwm {w : Cond} (i : Nat) (h : lw_tbl[i]? = some w) (hg : z_isN w = true) : w ∈ z_nw := List.mem_filter.mpr ⟨List.mem_of_getElem? h, hg⟩
/-- what a method's whole body stands on -/
def z_Cx (l : Launch) (M : z_M) (B : z_B) (p : Program) (R : Room) (s : State) (m : MethodId) (args : Array Value) (meth : Method) (c : Code) (G : va_G) (cI cJ : ClassId) (A : Nat → Prop) (ad : Nat → Nat) (X : Nat × (Nat → Int32)) : Prop :=
  p.tables.exec = Jvm.exec ∧ c.code = M.2.1 ∧ c.maxLocals = M.2.2.1 ∧ s.vm.findClass M.1.cls = some m.cls ∧ (∀ w ∈ z_gw, w.before args s = true) ∧ c.exceptionTable.toList = tableOf M.2.2.2.2 ∧ l.stackTraces = false ∧
  (B.1 ≤ R.frames ∧ B.2.1 ≤ R.locals ∧ B.2.2.1 ≤ R.cells ∧ B.2.2.2 ≤ R.slots) ∧ va_K G vwCl [(cI, .int), (cJ, .long)] s ∧ (∀ q, s.heap.size ≤ q → A q) ∧ z_Ex ad X A s s.heap ∧ meth.name = M.1.name ∧ meth.locks = false ∧ z_N ad s
def z_lo (ρ : z_Rho) (nL : Nat) (ls : Array Slot) (lv : List (Option Value)) : Prop := ls.size = nL ∧ lv.length = nL ∧ lv_wf ls ∧ ∀ (i : Nat) (v : Value), lv[i]? = some (some v) → ls[i]? = some (.val (z_cv ρ v))
/-- the method's end, at any place that returns (or where it throws) -/
def z_end (p : Program) (l : Launch) (e : Env) (R : Room) (s : State) (m : MethodId) (args : Array Value) (below : List Frame) (meth : Method) (c : Code) (B : z_B) (Q : State → Prop) (M : z_M) (G : va_G) (cI cJ : ClassId) (A : Nat → Prop) (n : Nat) (ρ : z_Rho) (out : z_Out) : Prop :=
  ∀ (ρ' : z_Rho) (H : Heap) (locs : List Loc) (pc : Nat) (ls : Array Slot), z_ext n out.2.1.length ρ ρ' → va_P G vwCl (z_ws ρ' cI cJ out.2.1 out.2.2) H → va_D A (z_ws ρ' cI cJ out.2.1 out.2.2) → va_S A s.heap H locs → match out.1 with
    | .inl none => decode M.2.1 pc = .ok (.return_, 1) → W p l e R s m args below meth c H locs B.2.2.1 B.2.2.2 Q (F0 m pc ls [])
    | .inl (some (.int v)) => decode M.2.1 pc = .ok (.ireturn, 1) → W p l e R s m args below meth c H locs B.2.2.1 B.2.2.2 Q (F0 m pc ls [.int v])
    | .inl (some (.long v)) => decode M.2.1 pc = .ok (.lreturn, 1) → W p l e R s m args below meth c H locs B.2.2.1 B.2.2.2 Q (F0 m pc ls [.long v])
    | .inl _ => True
    | .inr E => M.2.2.2.2 = [] → (∀ (q : Addr) (ce : Cell) (rest : List Value), H[q]? = some ce → ce.vm = .none → s.vm.findClass E = some ce.cls → vx_W p l e R s m args below meth c H locs B.2.2.1 B.2.2.2 Q (F0 m pc ls rest) q) ∧
      (∀ (names : List String) (ik ic cu su : Nat), Bundle.fit E = true → (∀ n ∈ names, Bundle.fit n = true) → (∀ w ∈ Cond.classLink M.1.cls ik E :: Cond.initialized E :: vx_at0 M.1.cls ic E names, w.before args s = true ∧ vx_ot w = true) → ls.size = M.2.2.1 →
        decode M.2.1 pc = .ok (.new ik, 3) → decode M.2.1 (pc + 3) = .ok (.dup, 1) → decode M.2.1 (pc + 4) = .ok (.invokespecial ic, 3) → decode M.2.1 (pc + 7) = .ok (.athrow, 1) → names.length + 3 < B.1 → 13 * (names.length + 1) + 42 ≤ B.2.1 → cu + 1 ≤ B.2.2.1 → su + 6 ≤ B.2.2.2 →
        W p l e R s m args below meth c H locs cu su Q (F0 m pc ls []))
/-- the rest of a method: from the place pc with locals lv, stack st, shapes S and rows D (cu, su: what it has made already) the method comes to its end 'out' -/
def z_E (l : Launch) (M : z_M) (B : z_B) (cu su pc : Nat) (lv : List (Option Value)) (st : List Value) (S : List z_Shp) (D : z_Dat) (out : z_Out) : Prop :=
  ∀ (p : Program) (e : Env) (R : Room) (s : State) (m : MethodId) (args : Array Value) (below : List Frame) (meth : Method) (c : Code) (Q : State → Prop) (G : va_G) (cI cJ : ClassId) (A : Nat → Prop) (X : Nat × (Nat → Int32)) (ρ : z_Rho) (H : Heap) (locs : List Loc) (ls : Array Slot),
    z_Cx l M B p R s m args meth c G cI cJ A ρ.2 X → va_P G vwCl (z_ws ρ cI cJ S D) H → va_D A (z_ws ρ cI cJ S D) → va_S A s.heap H locs → z_lo ρ M.2.2.1 ls lv →
    z_end p l e R s m args below meth c B Q M G cI cJ A S.length ρ out →
    W p l e R s m args below meth c H locs cu su Q (F0 m pc ls (st.map (z_cv ρ)))
/-- what a returned number must be: as wide as the method's type says -/
def z_okv (ret : Option FieldType) (o : Option Value ⊕ String) : Prop := match o, ret with
  | .inl none, none => True
  | .inl (some (.int v)), some ty => narrow ty (.int v) = .int v
  | .inl (some (.long _)), some .long => True
  | .inr _, _ => True
  | _, _ => False
def z_Pre (G : va_G) (cI cJ : ClassId) (ρ : z_Rho) (X : Nat × (Nat → Int32)) (As : List Value) (S : List z_Shp) (D : z_Dat) (sz : Nat) : Array Value → State → Prop := fun a U =>
  a = (As.map (z_cv ρ)).toArray ∧ U.heap.size = sz ∧ va_P G vwCl (z_ws ρ cI cJ S D) U.heap ∧ va_K G vwCl [(cI, .int), (cJ, .long)] U ∧ va_D (fun _ => True) (z_ws ρ cI cJ S D) ∧ z_Ex ρ.2 X (va_A (z_ws ρ cI cJ S D) sz) U U.heap ∧ z_N ρ.2 U
def z_Ret (G : va_G) (cI cJ : ClassId) (ρ : z_Rho) (S : List z_Shp) (D : z_Dat) (sz : Nat) (out : z_Out) : Array Value → State → Outcome → State → Prop := fun _ st oc t =>
  ∃ (v : Option Value) (ρ' : z_Rho), out.1 = .inl v ∧ oc = .returned (v.map (z_cv ρ')) ∧ z_ext S.length out.2.1.length ρ ρ' ∧ va_P G vwCl (z_ws ρ' cI cJ out.2.1 out.2.2) t.heap ∧ va_D (va_A (z_ws ρ cI cJ S D) sz) (z_ws ρ' cI cJ out.2.1 out.2.2) ∧ va_F (va_A (z_ws ρ cI cJ S D) sz) st t
def z_Thr (G : va_G) (cI cJ : ClassId) (ρ : z_Rho) (S : List z_Shp) (D : z_Dat) (sz : Nat) (out : z_Out) : String → State → State → Prop := fun E st t =>
  ∃ (ρ' : z_Rho), out.1 = .inr E ∧ z_ext S.length out.2.1.length ρ ρ' ∧ va_P G vwCl (z_ws ρ' cI cJ out.2.1 out.2.2) t.heap ∧ va_D (va_A (z_ws ρ cI cJ S D) sz) (z_ws ρ' cI cJ out.2.1 out.2.2) ∧ va_F (va_A (z_ws ρ cI cJ S D) sz) st t
/-- a method, called with As at shapes S and rows D: it ends with 'out' -/
def z_EM (l : Launch) (M : z_M) (B : z_B) (As : List Value) (S : List z_Shp) (D : z_Dat) (out : z_Out) : Prop :=
  z_okv M.2.2.2.1 out.1 ∧ ∀ (G : va_G) (cI cJ : ClassId) (ρ : z_Rho) (X : Nat × (Nat → Int32)) (sz : Nat),
    vx_Met l M.1 (z_wd M) { frames := B.1, cells := B.2.2.1, slots := B.2.2.2, locals := B.2.1 } (z_Pre G cI cJ ρ X As S D sz) (z_Ret G cI cJ ρ S D sz out) (z_Thr G cI cJ ρ S D sz out) B.2.2.1 B.2.2.2 (va_A (z_ws ρ cI cJ S D) sz)
theorem z_Pre_blind {G : va_G} {cI cJ : ClassId} {ρ : z_Rho} {X : Nat × (Nat → Int32)} {As : List Value} {S : List z_Shp} {D : z_Dat} {sz : Nat} : FrameBlind (z_Pre G cI cJ ρ X As S D sz) := fun a U g mk q => by
  obtain ⟨q0, q1, qP, qK, qD, qE, qN⟩ := q
  exact ⟨q0, q1, qP, va_K.moved (u := U) (U := U.calling g mk a) (Vm.Alike.refl U.vm) qK, qD, z_Ex.moved (u := U) (U := U.calling g mk a) (Vm.Alike.refl U.vm) qE, z_N.same (u := U) (U := U.calling g mk a) rfl qN⟩
theorem z_Pre_at {G : va_G} {cI cJ : ClassId} {ρ : z_Rho} {X : Nat × (Nat → Int32)} {As : List Value} {S : List z_Shp} {D : z_Dat} {s U : State} {A : Nat → Prop} {H : Heap} {locs : List Loc}
    (hK : va_K G vwCl [(cI, .int), (cJ, .long)] s) (hA : ∀ q, s.heap.size ≤ q → A q) (hE : z_Ex ρ.2 X A s s.heap) (hN : z_N ρ.2 s) (hP : va_P G vwCl (z_ws ρ cI cJ S D) H) (hD : va_D A (z_ws ρ cI cJ S D)) (hS : va_S A s.heap H locs) (hU : U.heap = H) (hW : s.WarmedH U.vm) :
    z_Pre G cI cJ ρ X As S D H.size (As.map (z_cv ρ)).toArray U := by
  refine ⟨rfl, by rw [hU], by rw [hU]; exact hP, hK.moved hW.alike, hD.weaken (fun _ _ _ _ => trivial), ?_, hN.warm hW⟩
  rw [hU]
  exact ((hE.kept hS.1 hS.2.1).narrow (va_free (isC := List.range (z_ws ρ cI cJ S D).length) hD hS hA (by
    apply List.ext_getElem?
    intro i
    rw [List.getElem?_map, List.getElem?_map]
    by_cases hi : i < (z_ws ρ cI cJ S D).length
    · simp [hi]
    · simp [hi]))).moved hW.alike
