/-! ===== every call of every kind: what the machine's part asks for ===== -/
theorem every_call {N : Nat} (hN : 50000 < N) : ∀ o n D, J o n D → ∀ a1 a2 a3 a4 a5 a6 k, k ≤ 37 → z_okS J N o n a1 a2 a3 a4 a5 a6 D k := by
  intro o n D hJ a1 a2 a3 a4 a5 a6 k hk
  have hk2 : k = 0 ∨ k = 1 ∨ k = 2 ∨ k = 3 ∨ k = 4 ∨ k = 5 ∨ k = 6 ∨ k = 7 ∨ k = 8 ∨ k = 9 ∨ k = 10 ∨ k = 11 ∨ k = 12 ∨ k = 13 ∨ k = 14 ∨ k = 15 ∨ k = 16 ∨ k = 17 ∨ k = 18 ∨ k = 19 ∨ k = 20 ∨ k = 21 ∨ k = 22 ∨ k = 23 ∨ k = 24 ∨ k = 25 ∨ k = 26 ∨ k = 27 ∨ k = 28 ∨ k = 29 ∨ k = 30 ∨ k = 31 ∨ k = 32 ∨ k = 33 ∨ k = 34 ∨ k = 35 ∨ k = 36 ∨ k = 37 := by omega
  rcases hk2 with rfl | rfl | rfl | rfl | rfl | rfl | rfl | rfl | rfl | rfl | rfl | rfl | rfl | rfl | rfl | rfl | rfl | rfl | rfl | rfl | rfl | rfl | rfl | rfl | rfl | rfl | rfl | rfl | rfl | rfl | rfl | rfl | rfl | rfl | rfl | rfl | rfl | rfl
  · exact T_feed hJ
  · exact T_city (by omega) hJ
  · exact T_law (by omega) hJ
  · exact T_work hN hJ
  · exact T_book (by omega) hJ
  · exact T_fault hJ
  · exact T_undo (by omega) hJ
  · exact T_told (by omega) hJ
  · exact T_street (by omega) hJ
  · exact T_person (by omega) hJ
  · exact T_stock hJ
  · exact T_would (by omega) hJ
  · exact T_distance hJ
  · exact T_seems (by omega) hJ
  · exact T_dipped hJ
  · exact T_cousins (by omega) hJ
  · exact T_when (by omega) hJ
  · exact T_sits (by omega) hJ
  · exact T_way (by omega) hJ
  · exact T_step (by omega) hJ
  · exact T_sums (by omega) hJ
  · exact T_tones (by omega) hJ
  · exact T_fits (by omega) hJ
  · exact T_look (by omega) hJ
  · exact T_match (by omega) hJ
  · exact T_bride (by omega) hJ
  · exact T_enough (by omega) hJ
  · exact T_level (by omega) hJ
  · exact T_night (by omega) hJ
  · exact T_guilds (by omega) hJ
  · exact T_follows (by omega) hJ
  · exact T_ahead (by omega) hJ
  · exact T_ages (by omega) hJ
  · exact T_span (by omega) hJ
  · exact T_image (by omega) hJ
  · exact T_restore (by omega) hJ
  · exact T_status hJ
  · exact T_count hJ
theorem z_pure_ok : z_pure := by
  obtain ⟨D, D2, h1, h2⟩ := start_J (N := 60000) (by decide)
  exact ⟨60000, J, D, D2, h1, h2, every_call (by decide)⟩
