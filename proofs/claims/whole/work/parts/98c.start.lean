/-! ===== the start: J holds of two new objects ===== -/
def iniM (D : z_Dat) : Option z_Dat :=
  z_let (z_new D 41) (fun D1 => z_let (z_up D1 40 8 (-1)) (fun D2 => z_let (z_new D2 42) (fun D3 => z_let (z_new D3 43) (fun D4 => z_let (z_new D4 44) (fun D5 => z_let (z_new D5 45) (fun D6 => z_let (z_new D6 46) (fun D7 => z_let (z_new D7 47) (fun D8 => z_let (z_new D8 48) (fun D9 => z_let (z_new D9 49) (fun D10 => z_let (z_new D10 50) (fun D11 => z_let (z_new D11 51) (fun D12 => z_let (z_new D12 52) (fun D13 => z_let (z_new D13 53) (fun D14 => z_let (z_new D14 54) (fun D15 => z_let (z_new D15 55) (fun D16 => z_let (z_new D16 56) (fun D17 => z_let (z_new D17 57) (fun D18 => z_let (z_new D18 58) (fun D19 => z_let (z_new D19 59) (fun D20 => z_let (z_new D20 60) (fun D21 => z_let (z_new D21 61) (fun D22 => z_let (z_up D22 61 (z_ix 0) (-1)) (fun D23 => z_let (z_up D23 61 (z_ix 1) (-1)) (fun D24 => z_let (z_up D24 61 (z_ix 2) (-1)) (fun D25 => z_let (z_new D25 62) (fun D26 => z_let (z_new D26 63) (fun D27 => z_let (z_new D27 64) (fun D28 => z_let (z_new D28 65) (fun D29 => z_let (z_new D29 66) (fun D30 => F_X11_clears D30))))))))))))))))))))))))))))))
def iniF (D : z_Dat) : z_Dat := (iniM D).getD D
def iniD : z_Dat := iniF (z_new (F_X10_init_0 (z_new (fun _ _ => 0) 0)) 40)
theorem ini_40 {N : Nat} {D : z_Dat} : F_X11_init_40 N D = z_bd (iniM D) (fun a => z_bd (F_X11_sets N a) (fun b => some b)) := rfl
theorem ini_M {D : z_Dat} : iniM D = some (iniF D) := rfl
theorem ini_c : (iniD 34 5 = nn 0 ∧ iniD 34 6 = nn 0 ∧ iniD 34 7 = nn 5) ∧ (iniD 40 16 = nn 0 ∧ iniD 40 17 = nn 0 ∧ iniD 40 18 = nn 5) ∧ (∀ d, d < 3 → iniD 4 (40 + d) = nn 50 ∧ iniD 46 d = nn 50 ∧ iniD 13 d = -nn 1) ∧ iniD 4 43 = nn 0 ∧ iniD 7 6 = nn 0 ∧ iniD 12 2 = nn 0 ∧ iniD 29 0 = nn 0 ∧ iniD 21 3 = nn 0 ∧ iniD 21 4 = nn 0 ∧ iniD 1 1 = nn 0 ∧ iniD 40 2 = nn 0 ∧ iniD 1 6 = -nn 1 ∧ iniD 40 8 = -nn 1 ∧ iniD 0 12 = nn 0 ∧ iniD 0 13 = nn 0 ∧ iniD 0 14 = nn 0 ∧ iniD 41 0 = nn 0 ∧ iniD 41 1 = nn 0 := by decide +kernel
theorem ini_t : ∀ j, j < 600 → iniD 2 j = nn 0 ∧ iniD 42 j = nn 0 := by decide +kernel
theorem start_J {N : Nat} (hN : 2000 < N) : ∃ D D2 : z_Dat, F_X11_init_40 N (z_new (F_X10_init_0 (z_new D 0)) 40) = some D2 ∧ J 34 68 (z_new D2 67) := by
  obtain ⟨⟨a5, a6, a7⟩, ⟨c16, c17, c18⟩, hd, y0, l0, b12, b29, p3, p4, t1, t2, f1, f2, m12, m13, m14, m0, m1⟩ := ini_c
  obtain ⟨S, s1, s2, ⟨u19, u20, u21, u28, u43, u33, u54, u34⟩, s4, s5, s6, s7, s8, s9, s10⟩ := sets_P (N := N) (F := iniD) (ns := 0) (pe := 0) (rv := 5) hN (by decide) c16 c17 c18
  refine ⟨fun _ _ => 0, S, ?_, ?_⟩
  · rw [ini_40, ini_M, z_bdE]
    show z_bd (F_X11_sets N iniD) _ = _
    rw [s1, z_bdE]
  have w : ∀ r, r ≠ 67 → z_new S 67 r = S r := fun r hr => z_new_ne hr
  have r_ : ∀ r, r ≠ 40 → r ≠ 47 → r ≠ 48 → r ≠ 57 → r ≠ 61 → r ≠ 67 → z_new S 67 r = iniD r := fun r a b c d e f => by rw [w r f, s2 r a b c d e]
  refine ⟨Or.inl ⟨rfl, Nat.le_refl _⟩, 0, 0, 5, ⟨by decide, ⟨?_, ?_, ?_⟩, ⟨?_, ?_, ?_⟩, fun b hb => absurd hb (by omega), fun p hp => absurd hp (by omega)⟩, ⟨fun p hp => absurd hp (by omega), fun d hd2 => ⟨50, by decide, ?_, ?_⟩, 0, by decide, ?_, ?_⟩, Or.inl ⟨?_, ?_⟩, ⟨fun d hd2 => ?_, ?_, ?_⟩, ⟨0, by decide, ?_, ?_, fun k hk => absurd hk (by omega)⟩, ⟨0, by decide, ?_, ?_, fun k hk => absurd hk (by omega)⟩, ⟨⟨0, by decide, ?_, ?_⟩, fun j hj => ⟨0, by decide, ?_, ?_⟩, ?_⟩, ?_, ?_, ?_⟩
  · rw [r_ 34 (by decide) (by decide) (by decide) (by decide) (by decide) (by decide)]; exact a5
  · rw [r_ 34 (by decide) (by decide) (by decide) (by decide) (by decide) (by decide)]; exact a6
  · rw [r_ 34 (by decide) (by decide) (by decide) (by decide) (by decide) (by decide)]; exact a7
  · rw [w 40 (by decide)]; exact u19
  · rw [w 40 (by decide)]; exact u20
  · rw [w 40 (by decide)]; exact u21
  · rw [r_ 4 (by decide) (by decide) (by decide) (by decide) (by decide) (by decide)]; exact (hd d hd2).1
  · rw [w 57 (by decide), s8 d hd2]; exact (hd d hd2).2.1
  · rw [r_ 4 (by decide) (by decide) (by decide) (by decide) (by decide) (by decide)]; exact y0
  · rw [w 57 (by decide)]; exact s9 59 (by decide)
  · rw [r_ 7 (by decide) (by decide) (by decide) (by decide) (by decide) (by decide)]; exact l0
  · rw [w 40 (by decide)]; exact u28
  · rw [r_ 13 (by decide) (by decide) (by decide) (by decide) (by decide) (by decide), w 61 (by decide), s10 d hd2]; exact (hd d hd2).2.2
  · rw [r_ 12 (by decide) (by decide) (by decide) (by decide) (by decide) (by decide), w 40 (by decide), u43]; exact b12
  · rw [r_ 29 (by decide) (by decide) (by decide) (by decide) (by decide) (by decide)]; exact b29
  · rw [r_ 21 (by decide) (by decide) (by decide) (by decide) (by decide) (by decide)]; exact p3
  · rw [w 40 (by decide)]; exact u33
  · rw [r_ 21 (by decide) (by decide) (by decide) (by decide) (by decide) (by decide)]; exact p4
  · rw [w 40 (by decide)]; exact u54
  · rw [r_ 1 (by decide) (by decide) (by decide) (by decide) (by decide) (by decide)]; exact t1
  · rw [w 40 (by decide), s4 2 (by decide)]; exact t2
  · rw [r_ 2 (by decide) (by decide) (by decide) (by decide) (by decide) (by decide)]; exact (ini_t j hj).1
  · rw [r_ 42 (by decide) (by decide) (by decide) (by decide) (by decide) (by decide)]; exact (ini_t j hj).2
  · rw [r_ 1 (by decide) (by decide) (by decide) (by decide) (by decide) (by decide), w 40 (by decide), s4 8 (by decide), f1, f2]
  · rw [r_ 0 (by decide) (by decide) (by decide) (by decide) (by decide) (by decide), w 40 (by decide), u34]; exact m12
  · rw [r_ 0 (by decide) (by decide) (by decide) (by decide) (by decide) (by decide), r_ 41 (by decide) (by decide) (by decide) (by decide) (by decide) (by decide), m13, m0]
  · rw [r_ 0 (by decide) (by decide) (by decide) (by decide) (by decide) (by decide), r_ 41 (by decide) (by decide) (by decide) (by decide) (by decide) (by decide), m14, m1]
