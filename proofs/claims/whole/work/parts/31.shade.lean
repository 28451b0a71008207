/-! ===== shades: a number below 1000, its three digits ===== -/
def dg (n d : Nat) : Nat := if d = 0 then n / 100 else if d = 1 then n / 10 % 10 else n % 10
def ap (a b : Nat) : Nat := dist (a / 100) (b / 100) + dist (a / 10 % 10) (b / 10 % 10) + dist (a % 10) (b % 10)
def dp (a b : Nat) : Nat := min 9 (a / 100 + b / 100) * 100 + min 9 (a / 10 % 10 + b / 10 % 10) * 10 + min 9 (a % 10 + b % 10)
def pl (n d : Nat) : Nat := if d = 0 then (if n / 100 = 0 then n else n - 100) else if d = 1 then (if n / 10 % 10 = 0 then n else n - 10) else (if n % 10 = 0 then n else n - 1)
theorem dist_le {a b c : Nat} (ha : a ≤ c) (hb : b ≤ c) : dist a b ≤ c := by
  unfold dist
  omega
theorem ap_le {a b : Nat} (ha : a < 1000) (hb : b < 1000) : ap a b ≤ 27 := by
  unfold ap
  have h1 := dist_le (a := a / 100) (b := b / 100) (c := 9) (by omega) (by omega)
  have h2 := dist_le (a := a / 10 % 10) (b := b / 10 % 10) (c := 9) (by omega) (by omega)
  have h3 := dist_le (a := a % 10) (b := b % 10) (c := 9) (by omega) (by omega)
  omega
theorem dp_lt {a b : Nat} : dp a b < 1000 := by
  unfold dp
  omega
theorem dp_0 {a b : Nat} : dp a b / 100 = min 9 (a / 100 + b / 100) := by
  unfold dp
  omega
theorem dp_1 {a b : Nat} : dp a b / 10 % 10 = min 9 (a / 10 % 10 + b / 10 % 10) := by
  unfold dp
  omega
theorem dp_2 {a b : Nat} : dp a b % 10 = min 9 (a % 10 + b % 10) := by
  unfold dp
  omega
theorem partOf_0 {n : Nat} (h : n < 1000) : F_X10_partOf (nn n) (nn 0) = nn (n / 100) := by
  simp (disch := omega) only [F_X10_partOf, z_let, nn_lit, nn_add, nn_mul, nn_sub, nn_addM, nn_div, nn_rem, nn_min, nn_max, nn_abs, nn_lt, nn_le, nn_eq, nn_eqM, nn_Meq, nn_ltM, nn_Mlt, nn_leM, nn_Mle, z_ix_nn, z_inb_nn, F_at_nn, F_put_nn, Nat.zero_add, Nat.add_zero, z_P_some, z_R_some, z_P_bd, if_true, if_false, if_pos, if_neg]
  congr 1
  omega
theorem partOf_1 {n : Nat} (h : n < 1000) : F_X10_partOf (nn n) (nn 1) = nn (n / 10 % 10) := by
  simp (disch := omega) only [F_X10_partOf, z_let, nn_lit, nn_add, nn_mul, nn_sub, nn_addM, nn_div, nn_rem, nn_min, nn_max, nn_abs, nn_lt, nn_le, nn_eq, nn_eqM, nn_Meq, nn_ltM, nn_Mlt, nn_leM, nn_Mle, z_ix_nn, z_inb_nn, F_at_nn, F_put_nn, Nat.zero_add, Nat.add_zero, z_P_some, z_R_some, z_P_bd, if_true, if_false, if_pos, if_neg]
theorem partOf_2 {n : Nat} (h : n < 1000) : F_X10_partOf (nn n) (nn 2) = nn (n % 10) := by
  simp (disch := omega) only [F_X10_partOf, z_let, nn_lit, nn_add, nn_mul, nn_sub, nn_addM, nn_div, nn_rem, nn_min, nn_max, nn_abs, nn_lt, nn_le, nn_eq, nn_eqM, nn_Meq, nn_ltM, nn_Mlt, nn_leM, nn_Mle, z_ix_nn, z_inb_nn, F_at_nn, F_put_nn, Nat.zero_add, Nat.add_zero, z_P_some, z_R_some, z_P_bd, if_true, if_false, if_pos, if_neg]
theorem unitOf_0 : F_X10_unitOf (nn 0) = nn 100 := rfl
theorem unitOf_1 : F_X10_unitOf (nn 1) = nn 10 := rfl
theorem unitOf_2 : F_X10_unitOf (nn 2) = nn 1 := rfl
theorem dyeOf_0 {n : Nat} (h : n < 1000) : F_X11_dyeOf (nn n) (nn 0) = nn (n / 100) := by
  simp (disch := omega) only [F_X11_dyeOf, z_let, nn_lit, nn_add, nn_mul, nn_sub, nn_addM, nn_div, nn_rem, nn_min, nn_max, nn_abs, nn_lt, nn_le, nn_eq, nn_eqM, nn_Meq, nn_ltM, nn_Mlt, nn_leM, nn_Mle, z_ix_nn, z_inb_nn, F_at_nn, F_put_nn, Nat.zero_add, Nat.add_zero, z_P_some, z_R_some, z_P_bd, if_true, if_false, if_pos, if_neg]
theorem dyeOf_1 {n : Nat} (h : n < 1000) : F_X11_dyeOf (nn n) (nn 1) = nn (n / 10 % 10) := by
  simp (disch := omega) only [F_X11_dyeOf, z_let, nn_lit, nn_add, nn_mul, nn_sub, nn_addM, nn_div, nn_rem, nn_min, nn_max, nn_abs, nn_lt, nn_le, nn_eq, nn_eqM, nn_Meq, nn_ltM, nn_Mlt, nn_leM, nn_Mle, z_ix_nn, z_inb_nn, F_at_nn, F_put_nn, Nat.zero_add, Nat.add_zero, z_P_some, z_R_some, z_P_bd, if_true, if_false, if_pos, if_neg]
theorem dyeOf_2 {n : Nat} (h : n < 1000) : F_X11_dyeOf (nn n) (nn 2) = nn (n % 10) := by
  simp (disch := omega) only [F_X11_dyeOf, z_let, nn_lit, nn_add, nn_mul, nn_sub, nn_addM, nn_div, nn_rem, nn_min, nn_max, nn_abs, nn_lt, nn_le, nn_eq, nn_eqM, nn_Meq, nn_ltM, nn_Mlt, nn_leM, nn_Mle, z_ix_nn, z_inb_nn, F_at_nn, F_put_nn, Nat.zero_add, Nat.add_zero, z_P_some, z_R_some, z_P_bd, if_true, if_false, if_pos, if_neg]
theorem apart_10 {a b : Nat} (ha : a < 1000) (hb : b < 1000) : F_X10_apart (nn a) (nn b) = nn (ap a b) := by
  simp (disch := omega) only [F_X10_apart, F_X10_apart_J4xxx, F_X10_apart_J4xx, F_X10_apart_J4x, F_X10_apart_J4, partOf_0, partOf_1, partOf_2, z_let, nn_lit, nn_add, nn_mul, nn_sub, nn_addM, nn_div, nn_rem, nn_min, nn_max, nn_abs, nn_lt, nn_le, nn_eq, nn_eqM, nn_Meq, nn_ltM, nn_Mlt, nn_leM, nn_Mle, z_ix_nn, z_inb_nn, F_at_nn, F_put_nn, Nat.zero_add, Nat.add_zero, z_P_some, z_R_some, z_P_bd, if_true, if_false, if_pos, if_neg]
  rfl
theorem apart_11 {a b : Nat} (ha : a < 1000) (hb : b < 1000) : F_X11_apart (nn a) (nn b) = nn (ap a b) := by
  have e : ∀ v : Int32, F_X11_apart_J36 v = fun w => v + w := fun v => rfl
  unfold F_X11_apart F_X11_apart_J4xxx
  simp (disch := omega) only [dyeOf_0, z_let, nn_lit, nn_add, nn_mul, nn_sub, nn_addM, nn_div, nn_rem, nn_min, nn_max, nn_abs, nn_lt, nn_le, nn_eq, nn_eqM, nn_Meq, nn_ltM, nn_Mlt, nn_leM, nn_Mle, z_ix_nn, z_inb_nn, F_at_nn, F_put_nn, Nat.zero_add, Nat.add_zero, z_P_some, z_R_some, z_P_bd]
  rw [nn_absM (F := F_X11_apart_J36xx (nn a) (nn b)) (by omega) (by omega)]
  unfold F_X11_apart_J36xx F_X11_apart_J4xx
  simp (disch := omega) only [dyeOf_1, z_let, nn_lit, nn_add, nn_mul, nn_sub, nn_addM, nn_div, nn_rem, nn_min, nn_max, nn_abs, nn_lt, nn_le, nn_eq, nn_eqM, nn_Meq, nn_ltM, nn_Mlt, nn_leM, nn_Mle, z_ix_nn, z_inb_nn, F_at_nn, F_put_nn, Nat.zero_add, Nat.add_zero, z_P_some, z_R_some, z_P_bd]
  rw [nn_absM (F := F_X11_apart_J36x (nn a) (nn b) _) (by omega) (by omega)]
  unfold F_X11_apart_J36x F_X11_apart_J4x
  simp (disch := omega) only [dyeOf_2, z_let, nn_lit, nn_add, nn_mul, nn_sub, nn_addM, nn_div, nn_rem, nn_min, nn_max, nn_abs, nn_lt, nn_le, nn_eq, nn_eqM, nn_Meq, nn_ltM, nn_Mlt, nn_leM, nn_Mle, z_ix_nn, z_inb_nn, F_at_nn, F_put_nn, Nat.zero_add, Nat.add_zero, z_P_some, z_R_some, z_P_bd]
  rw [nn_absM (F := F_X11_apart_J36 _) (by omega) (by omega)]
  simp (disch := omega) only [F_X11_apart_J36, F_X11_apart_J4, z_let, nn_lit, nn_add, nn_mul, nn_sub, nn_addM, nn_div, nn_rem, nn_min, nn_max, nn_abs, nn_lt, nn_le, nn_eq, nn_eqM, nn_Meq, nn_ltM, nn_Mlt, nn_leM, nn_Mle, z_ix_nn, z_inb_nn, F_at_nn, F_put_nn, Nat.zero_add, Nat.add_zero, z_P_some, z_R_some, z_P_bd]
  rfl
theorem deeper_10 {a b : Nat} (ha : a < 1000) (hb : b < 1000) : F_X10_deeper (nn a) (nn b) = nn (dp a b) := by
  simp (disch := omega) only [F_X10_deeper, F_X10_deeper_J4xxx, F_X10_deeper_J4xx, F_X10_deeper_J4x, F_X10_deeper_J4, partOf_0, partOf_1, partOf_2, unitOf_0, unitOf_1, unitOf_2, z_let, nn_lit, nn_add, nn_mul, nn_sub, nn_addM, nn_div, nn_rem, nn_min, nn_max, nn_abs, nn_lt, nn_le, nn_eq, nn_eqM, nn_Meq, nn_ltM, nn_Mlt, nn_leM, nn_Mle, z_ix_nn, z_inb_nn, F_at_nn, F_put_nn, Nat.zero_add, Nat.add_zero, z_P_some, z_R_some, z_P_bd, if_true, if_false, if_pos, if_neg]
  congr 1
  unfold dp
  omega
theorem darkness_10 {n : Nat} (h : n < 1000) : F_X10_darkness (nn n) = nn (n / 100 + n / 10 % 10 + n % 10) := by
  simp (disch := omega) only [F_X10_darkness, partOf_0, partOf_1, partOf_2, z_let, nn_lit, nn_add, nn_mul, nn_sub, nn_addM, nn_div, nn_rem, nn_min, nn_max, nn_abs, nn_lt, nn_le, nn_eq, nn_eqM, nn_Meq, nn_ltM, nn_Mlt, nn_leM, nn_Mle, z_ix_nn, z_inb_nn, F_at_nn, F_put_nn, Nat.zero_add, Nat.add_zero, z_P_some, z_R_some, z_P_bd, if_true, if_false, if_pos, if_neg]
theorem paler_0 {n : Nat} (h : n < 1000) : F_X10_paler (nn n) (nn 0) = nn (pl n 0) := by
  unfold F_X10_paler pl
  simp (disch := omega) only [partOf_0, unitOf_0, z_let, nn_lit, nn_add, nn_mul, nn_sub, nn_addM, nn_div, nn_rem, nn_min, nn_max, nn_abs, nn_lt, nn_le, nn_eq, nn_eqM, nn_Meq, nn_ltM, nn_Mlt, nn_leM, nn_Mle, z_ix_nn, z_inb_nn, F_at_nn, F_put_nn, Nat.zero_add, Nat.add_zero, z_P_some, z_R_some, z_P_bd]
  by_cases h0 : n / 100 = 0
  · simp (disch := omega) only [z_let, nn_lit, nn_add, nn_mul, nn_sub, nn_addM, nn_div, nn_rem, nn_min, nn_max, nn_abs, nn_lt, nn_le, nn_eq, nn_eqM, nn_Meq, nn_ltM, nn_Mlt, nn_leM, nn_Mle, z_ix_nn, z_inb_nn, F_at_nn, F_put_nn, Nat.zero_add, Nat.add_zero, z_P_some, z_R_some, z_P_bd, if_true, if_false, if_pos, if_neg]
  · simp (disch := omega) only [z_let, nn_lit, nn_add, nn_mul, nn_sub, nn_addM, nn_div, nn_rem, nn_min, nn_max, nn_abs, nn_lt, nn_le, nn_eq, nn_eqM, nn_Meq, nn_ltM, nn_Mlt, nn_leM, nn_Mle, z_ix_nn, z_inb_nn, F_at_nn, F_put_nn, Nat.zero_add, Nat.add_zero, z_P_some, z_R_some, z_P_bd, if_true, if_false, if_pos, if_neg]
theorem paler_1 {n : Nat} (h : n < 1000) : F_X10_paler (nn n) (nn 1) = nn (pl n 1) := by
  unfold F_X10_paler pl
  simp (disch := omega) only [partOf_1, unitOf_1, z_let, nn_lit, nn_add, nn_mul, nn_sub, nn_addM, nn_div, nn_rem, nn_min, nn_max, nn_abs, nn_lt, nn_le, nn_eq, nn_eqM, nn_Meq, nn_ltM, nn_Mlt, nn_leM, nn_Mle, z_ix_nn, z_inb_nn, F_at_nn, F_put_nn, Nat.zero_add, Nat.add_zero, z_P_some, z_R_some, z_P_bd]
  by_cases h0 : n / 10 % 10 = 0
  · simp (disch := omega) only [z_let, nn_lit, nn_add, nn_mul, nn_sub, nn_addM, nn_div, nn_rem, nn_min, nn_max, nn_abs, nn_lt, nn_le, nn_eq, nn_eqM, nn_Meq, nn_ltM, nn_Mlt, nn_leM, nn_Mle, z_ix_nn, z_inb_nn, F_at_nn, F_put_nn, Nat.zero_add, Nat.add_zero, z_P_some, z_R_some, z_P_bd, if_true, if_false, if_pos, if_neg]
  · simp (disch := omega) only [z_let, nn_lit, nn_add, nn_mul, nn_sub, nn_addM, nn_div, nn_rem, nn_min, nn_max, nn_abs, nn_lt, nn_le, nn_eq, nn_eqM, nn_Meq, nn_ltM, nn_Mlt, nn_leM, nn_Mle, z_ix_nn, z_inb_nn, F_at_nn, F_put_nn, Nat.zero_add, Nat.add_zero, z_P_some, z_R_some, z_P_bd, if_true, if_false, if_pos, if_neg]
theorem paler_2 {n : Nat} (h : n < 1000) : F_X10_paler (nn n) (nn 2) = nn (pl n 2) := by
  unfold F_X10_paler pl
  simp (disch := omega) only [partOf_2, unitOf_2, z_let, nn_lit, nn_add, nn_mul, nn_sub, nn_addM, nn_div, nn_rem, nn_min, nn_max, nn_abs, nn_lt, nn_le, nn_eq, nn_eqM, nn_Meq, nn_ltM, nn_Mlt, nn_leM, nn_Mle, z_ix_nn, z_inb_nn, F_at_nn, F_put_nn, Nat.zero_add, Nat.add_zero, z_P_some, z_R_some, z_P_bd]
  by_cases h0 : n % 10 = 0
  · simp (disch := omega) only [z_let, nn_lit, nn_add, nn_mul, nn_sub, nn_addM, nn_div, nn_rem, nn_min, nn_max, nn_abs, nn_lt, nn_le, nn_eq, nn_eqM, nn_Meq, nn_ltM, nn_Mlt, nn_leM, nn_Mle, z_ix_nn, z_inb_nn, F_at_nn, F_put_nn, Nat.zero_add, Nat.add_zero, z_P_some, z_R_some, z_P_bd, if_true, if_false, if_pos, if_neg]
  · simp (disch := omega) only [z_let, nn_lit, nn_add, nn_mul, nn_sub, nn_addM, nn_div, nn_rem, nn_min, nn_max, nn_abs, nn_lt, nn_le, nn_eq, nn_eqM, nn_Meq, nn_ltM, nn_Mlt, nn_leM, nn_Mle, z_ix_nn, z_inb_nn, F_at_nn, F_put_nn, Nat.zero_add, Nat.add_zero, z_P_some, z_R_some, z_P_bd, if_true, if_false, if_pos, if_neg]
theorem pl_lt {n d : Nat} (h : n < 1000) : pl n d < 1000 := by
  unfold pl
  split
  · split <;> omega
  · split <;> split <;> omega
