/-! ===== methods, and the words that their instructions ask of the tables (by program) ===== -/
/-- a class of the world, with its words -/
def z_cl (ci : Nat) (C : String) (T : u_T) (N : Nat) : Prop := vwCl[ci]? = some (C, T, N) ∧ ∀ w ∈ u_ws C T N, w ∈ z_gw
theorem z_sub_p1 {w : Cond} (i : Nat) (h : (k2_sels lw_privs_1)[i]? = some w) (hg : goodWord w = true) : w ∈ z_gw := List.mem_filter.mpr ⟨by
  have h1 := List.mem_of_getElem? h
  unfold lw_tbl lw_privs k2_sels at *
  simp only [List.map_append, List.mem_append]
  simp only [h1, true_or, or_true], hg⟩
theorem z_sub_p2 {w : Cond} (i : Nat) (h : (k2_sels lw_privs_2)[i]? = some w) (hg : goodWord w = true) : w ∈ z_gw := List.mem_filter.mpr ⟨by
  have h1 := List.mem_of_getElem? h
  unfold lw_tbl lw_privs k2_sels at *
  simp only [List.map_append, List.mem_append]
  simp only [h1, true_or, or_true], hg⟩
theorem z_sub_p3 {w : Cond} (i : Nat) (h : (k2_sels lw_privs_3)[i]? = some w) (hg : goodWord w = true) : w ∈ z_gw := List.mem_filter.mpr ⟨by
  have h1 := List.mem_of_getElem? h
  unfold lw_tbl lw_privs k2_sels at *
  simp only [List.map_append, List.mem_append]
  simp only [h1, true_or, or_true], hg⟩
theorem z_sub_p4 {w : Cond} (i : Nat) (h : (k2_sels lw_privs_4)[i]? = some w) (hg : goodWord w = true) : w ∈ z_gw := List.mem_filter.mpr ⟨by
  have h1 := List.mem_of_getElem? h
  unfold lw_tbl lw_privs k2_sels at *
  simp only [List.map_append, List.mem_append]
  simp only [h1, true_or, or_true], hg⟩
theorem z_sub_p5 {w : Cond} (i : Nat) (h : (k2_sels lw_privs_5)[i]? = some w) (hg : goodWord w = true) : w ∈ z_gw := List.mem_filter.mpr ⟨by
  have h1 := List.mem_of_getElem? h
  unfold lw_tbl lw_privs k2_sels at *
  simp only [List.map_append, List.mem_append]
  simp only [h1, true_or, or_true], hg⟩
theorem z_sub_p6 {w : Cond} (i : Nat) (h : (k2_sels lw_privs_6)[i]? = some w) (hg : goodWord w = true) : w ∈ z_gw := List.mem_filter.mpr ⟨by
  have h1 := List.mem_of_getElem? h
  unfold lw_tbl lw_privs k2_sels at *
  simp only [List.map_append, List.mem_append]
  simp only [h1, true_or, or_true], hg⟩
theorem z_sub_p7 {w : Cond} (i : Nat) (h : (k2_sels lw_privs_7)[i]? = some w) (hg : goodWord w = true) : w ∈ z_gw := List.mem_filter.mpr ⟨by
  have h1 := List.mem_of_getElem? h
  unfold lw_tbl lw_privs k2_sels at *
  simp only [List.map_append, List.mem_append]
  simp only [h1, true_or, or_true], hg⟩
theorem z_sub_t1 {w : Cond} (i : Nat) (h : tables_1_1[i]? = some w) : w ∈ lw_tbl := by
  have h1 := List.mem_of_getElem? h
  unfold lw_tbl tables_1
  simp only [List.mem_append]
  simp only [h1, true_or, or_true]
theorem z_sub_t2 {w : Cond} (i : Nat) (h : tables_1_2[i]? = some w) : w ∈ lw_tbl := by
  have h1 := List.mem_of_getElem? h
  unfold lw_tbl tables_1
  simp only [List.mem_append]
  simp only [h1, true_or, or_true]
theorem z_sub_t3 {w : Cond} (i : Nat) (h : tables_1_3[i]? = some w) : w ∈ lw_tbl := by
  have h1 := List.mem_of_getElem? h
  unfold lw_tbl tables_1
  simp only [List.mem_append]
  simp only [h1, true_or, or_true]
theorem z_sub_t4 {w : Cond} (i : Nat) (h : tables_1_4[i]? = some w) : w ∈ lw_tbl := by
  have h1 := List.mem_of_getElem? h
  unfold lw_tbl tables_1
  simp only [List.mem_append]
  simp only [h1, true_or, or_true]
theorem z_sub_t5 {w : Cond} (i : Nat) (h : tables_1_5[i]? = some w) : w ∈ lw_tbl := by
  have h1 := List.mem_of_getElem? h
  unfold lw_tbl tables_1
  simp only [List.mem_append]
  simp only [h1, true_or, or_true]
theorem z_sub_t6 {w : Cond} (i : Nat) (h : tables_1_6[i]? = some w) : w ∈ lw_tbl := by
  have h1 := List.mem_of_getElem? h
  unfold lw_tbl tables_1
  simp only [List.mem_append]
  simp only [h1, true_or, or_true]
theorem z_sub_t7 {w : Cond} (i : Nat) (h : tables_1_7[i]? = some w) : w ∈ lw_tbl := by
  have h1 := List.mem_of_getElem? h
  unfold lw_tbl tables_1
  simp only [List.mem_append]
  simp only [h1, true_or, or_true]
theorem z_sub_t8 {w : Cond} (i : Nat) (h : tables_1_8[i]? = some w) : w ∈ lw_tbl := by
  have h1 := List.mem_of_getElem? h
  unfold lw_tbl tables_1
  simp only [List.mem_append]
  simp only [h1, true_or, or_true]
theorem z_sub_t9 {w : Cond} (i : Nat) (h : tables_1_9[i]? = some w) : w ∈ lw_tbl := by
  have h1 := List.mem_of_getElem? h
  unfold lw_tbl tables_1
  simp only [List.mem_append]
  simp only [h1, true_or, or_true]
abbrev M_X10_init : z_M := (yX10_init, cX10_init, 1, none, [])
theorem kc_X10_init : z_code M_X10_init ∈ z_gw := List.mem_filter.mpr ⟨z_sub_t1 28 rfl, rfl⟩
abbrev M_X10_feed : z_M := (yX10_feed, cX10_feed, 6, some .int, [])
theorem kc_X10_feed : z_code M_X10_feed ∈ z_gw := List.mem_filter.mpr ⟨z_sub_t2 94 rfl, rfl⟩
abbrev M_X10_city : z_M := (yX10_city, cX10_city, 3, some .int, [])
theorem kc_X10_city : z_code M_X10_city ∈ z_gw := List.mem_filter.mpr ⟨z_sub_t2 190 rfl, rfl⟩
abbrev M_X10_law : z_M := (yX10_law, cX10_law, 2, some .int, [])
theorem kc_X10_law : z_code M_X10_law ∈ z_gw := List.mem_filter.mpr ⟨z_sub_t3 173 rfl, rfl⟩
abbrev M_X10_work : z_M := (yX10_work, cX10_work, 2, some .int, [])
theorem kc_X10_work : z_code M_X10_work ∈ z_gw := List.mem_filter.mpr ⟨z_sub_t3 221 rfl, rfl⟩
abbrev M_X10_book : z_M := (yX10_book, cX10_book, 2, some .int, [])
theorem kc_X10_book : z_code M_X10_book ∈ z_gw := List.mem_filter.mpr ⟨z_sub_t4 105 rfl, rfl⟩
abbrev M_X10_fault : z_M := (yX10_fault, cX10_fault, 1, some .int, [])
theorem kc_X10_fault : z_code M_X10_fault ∈ z_gw := List.mem_filter.mpr ⟨z_sub_t2 109 rfl, rfl⟩
abbrev M_X10_undo : z_M := (yX10_undo, cX10_undo, 1, some .int, [])
theorem kc_X10_undo : z_code M_X10_undo ∈ z_gw := List.mem_filter.mpr ⟨z_sub_t2 113 rfl, rfl⟩
abbrev M_X10_told : z_M := (yX10_told, cX10_told, 2, some .int, [])
theorem kc_X10_told : z_code M_X10_told ∈ z_gw := List.mem_filter.mpr ⟨z_sub_t4 124 rfl, rfl⟩
abbrev M_X10_street : z_M := (yX10_street, cX10_street, 3, some .int, [])
theorem kc_X10_street : z_code M_X10_street ∈ z_gw := List.mem_filter.mpr ⟨z_sub_t4 185 rfl, rfl⟩
abbrev M_X10_person : z_M := (yX10_person, cX10_person, 3, some .int, [])
theorem kc_X10_person : z_code M_X10_person ∈ z_gw := List.mem_filter.mpr ⟨z_sub_t4 225 rfl, rfl⟩
abbrev M_X10_stock : z_M := (yX10_stock, cX10_stock, 2, some .int, [])
theorem kc_X10_stock : z_code M_X10_stock ∈ z_gw := List.mem_filter.mpr ⟨z_sub_t4 236 rfl, rfl⟩
abbrev M_X10_would : z_M := (yX10_would, cX10_would, 7, some .boolean, [])
theorem kc_X10_would : z_code M_X10_would ∈ z_gw := List.mem_filter.mpr ⟨z_sub_t5 7 rfl, rfl⟩
abbrev M_X10_distance : z_M := (yX10_distance, cX10_distance, 3, some .int, [])
theorem kc_X10_distance : z_code M_X10_distance ∈ z_gw := List.mem_filter.mpr ⟨z_sub_t5 17 rfl, rfl⟩
abbrev M_X10_seems : z_M := (yX10_seems, cX10_seems, 2, some .int, [])
theorem kc_X10_seems : z_code M_X10_seems ∈ z_gw := List.mem_filter.mpr ⟨z_sub_t5 25 rfl, rfl⟩
abbrev M_X10_dipped : z_M := (yX10_dipped, cX10_dipped, 3, some .int, [])
theorem kc_X10_dipped : z_code M_X10_dipped ∈ z_gw := List.mem_filter.mpr ⟨z_sub_t5 32 rfl, rfl⟩
abbrev M_X10_cousins : z_M := (yX10_cousins, cX10_cousins, 1, some .int, [])
theorem kc_X10_cousins : z_code M_X10_cousins ∈ z_gw := List.mem_filter.mpr ⟨z_sub_t2 132 rfl, rfl⟩
abbrev M_X10_when : z_M := (yX10_when, cX10_when, 4, some .int, [])
theorem kc_X10_when : z_code M_X10_when ∈ z_gw := List.mem_filter.mpr ⟨z_sub_t5 40 rfl, rfl⟩
abbrev M_X10_sits : z_M := (yX10_sits, cX10_sits, 5, some .int, [])
theorem kc_X10_sits : z_code M_X10_sits ∈ z_gw := List.mem_filter.mpr ⟨z_sub_t5 52 rfl, rfl⟩
abbrev M_X10_way : z_M := (yX10_way, cX10_way, 3, some .int, [])
theorem kc_X10_way : z_code M_X10_way ∈ z_gw := List.mem_filter.mpr ⟨z_sub_t5 59 rfl, rfl⟩
abbrev M_X10_step : z_M := (yX10_step, cX10_step, 4, some .int, [])
theorem kc_X10_step : z_code M_X10_step ∈ z_gw := List.mem_filter.mpr ⟨z_sub_t5 78 rfl, rfl⟩
abbrev M_X10_sums : z_M := (yX10_sums, cX10_sums, 3, some .int, [])
theorem kc_X10_sums : z_code M_X10_sums ∈ z_gw := List.mem_filter.mpr ⟨z_sub_t5 94 rfl, rfl⟩
abbrev M_X10_tones : z_M := (yX10_tones, cX10_tones, 2, some .int, [])
theorem kc_X10_tones : z_code M_X10_tones ∈ z_gw := List.mem_filter.mpr ⟨z_sub_t5 121 rfl, rfl⟩
abbrev M_X10_fits : z_M := (yX10_fits, cX10_fits, 2, some .int, [])
theorem kc_X10_fits : z_code M_X10_fits ∈ z_gw := List.mem_filter.mpr ⟨z_sub_t5 132 rfl, rfl⟩
abbrev M_X10_look : z_M := (yX10_look, cX10_look, 6, some .int, [])
theorem kc_X10_look : z_code M_X10_look ∈ z_gw := List.mem_filter.mpr ⟨z_sub_t5 153 rfl, rfl⟩
abbrev M_X10_match : z_M := (yX10_match, cX10_match, 2, some .int, [])
theorem kc_X10_match : z_code M_X10_match ∈ z_gw := List.mem_filter.mpr ⟨z_sub_t5 173 rfl, rfl⟩
abbrev M_X10_bride : z_M := (yX10_bride, cX10_bride, 2, some .int, [])
theorem kc_X10_bride : z_code M_X10_bride ∈ z_gw := List.mem_filter.mpr ⟨z_sub_t5 228 rfl, rfl⟩
abbrev M_X10_enough : z_M := (yX10_enough, cX10_enough, 3, some .int, [])
theorem kc_X10_enough : z_code M_X10_enough ∈ z_gw := List.mem_filter.mpr ⟨z_sub_t5 236 rfl, rfl⟩
abbrev M_X10_level : z_M := (yX10_level, cX10_level, 4, some .int, [])
theorem kc_X10_level : z_code M_X10_level ∈ z_gw := List.mem_filter.mpr ⟨z_sub_t6 7 rfl, rfl⟩
abbrev M_X10_night : z_M := (yX10_night, cX10_night, 9, some .long, [])
theorem kc_X10_night : z_code M_X10_night ∈ z_gw := List.mem_filter.mpr ⟨z_sub_t6 14 rfl, rfl⟩
abbrev M_X10_guilds : z_M := (yX10_guilds, cX10_guilds, 7, some .int, [])
theorem kc_X10_guilds : z_code M_X10_guilds ∈ z_gw := List.mem_filter.mpr ⟨z_sub_t6 34 rfl, rfl⟩
abbrev M_X10_follows : z_M := (yX10_follows, cX10_follows, 3, some .int, [])
theorem kc_X10_follows : z_code M_X10_follows ∈ z_gw := List.mem_filter.mpr ⟨z_sub_t6 57 rfl, rfl⟩
abbrev M_X10_ahead : z_M := (yX10_ahead, cX10_ahead, 4, some .int, [])
theorem kc_X10_ahead : z_code M_X10_ahead ∈ z_gw := List.mem_filter.mpr ⟨z_sub_t6 64 rfl, rfl⟩
abbrev M_X10_ages : z_M := (yX10_ages, cX10_ages, 5, some .int, [])
theorem kc_X10_ages : z_code M_X10_ages ∈ z_gw := List.mem_filter.mpr ⟨z_sub_t6 76 rfl, rfl⟩
abbrev M_X10_span : z_M := (yX10_span, cX10_span, 11, some .int, [])
theorem kc_X10_span : z_code M_X10_span ∈ z_gw := List.mem_filter.mpr ⟨z_sub_t6 96 rfl, rfl⟩
abbrev M_X10_image : z_M := (yX10_image, cX10_image, 1, some .int, [])
theorem kc_X10_image : z_code M_X10_image ∈ z_gw := List.mem_filter.mpr ⟨z_sub_t2 155 rfl, rfl⟩
abbrev M_X10_restore : z_M := (yX10_restore, cX10_restore, 1, some .int, [])
theorem kc_X10_restore : z_code M_X10_restore ∈ z_gw := List.mem_filter.mpr ⟨z_sub_t2 169 rfl, rfl⟩
abbrev M_X10_status : z_M := (yX10_status, cX10_status, 2, some .int, [])
theorem kc_X10_status : z_code M_X10_status ∈ z_gw := List.mem_filter.mpr ⟨z_sub_t2 178 rfl, rfl⟩
abbrev M_X10_count : z_M := (yX10_count, cX10_count, 2, some .int, [])
theorem kc_X10_count : z_code M_X10_count ∈ z_gw := List.mem_filter.mpr ⟨z_sub_t2 182 rfl, rfl⟩
abbrev M_X10_demand : z_M := (yX10_demand, cX10_demand, 2, none, [])
theorem kc_X10_demand : z_code M_X10_demand ∈ z_gw := List.mem_filter.mpr ⟨z_sub_t2 198 rfl, rfl⟩
abbrev M_X10_demandThere : z_M := (yX10_demandThere, cX10_demandThere, 2, none, [])
theorem kc_X10_demandThere : z_code M_X10_demandThere ∈ z_gw := List.mem_filter.mpr ⟨z_sub_t4 193 rfl, rfl⟩
abbrev M_X10_isSeated : z_M := (yX10_isSeated, cX10_isSeated, 6, some .boolean, [])
theorem kc_X10_isSeated : z_code M_X10_isSeated ∈ z_gw := List.mem_filter.mpr ⟨z_sub_t4 133 rfl, rfl⟩
abbrev M_X10_seated : z_M := (yX10_seated, cX10_seated, 4, some .int, [])
theorem kc_X10_seated : z_code M_X10_seated ∈ z_gw := List.mem_filter.mpr ⟨z_sub_t4 129 rfl, rfl⟩
abbrev M_X10_seeming : z_M := (yX10_seeming, cX10_seeming, 4, some .int, [])
theorem kc_X10_seeming : z_code M_X10_seeming ∈ z_gw := List.mem_filter.mpr ⟨z_sub_t4 213 rfl, rfl⟩
abbrev M_X10_suffices : z_M := (yX10_suffices, cX10_suffices, 6, some .boolean, [])
theorem kc_X10_suffices : z_code M_X10_suffices ∈ z_gw := List.mem_filter.mpr ⟨z_sub_t6 0 rfl, rfl⟩
abbrev M_X10_preferring : z_M := (yX10_preferring, cX10_preferring, 6, some .int, [])
theorem kc_X10_preferring : z_code M_X10_preferring ∈ z_gw := List.mem_filter.mpr ⟨z_sub_t6 42 rfl, rfl⟩
abbrev M_X10_countGoers : z_M := (yX10_countGoers, cX10_countGoers, 4, none, [])
theorem kc_X10_countGoers : z_code M_X10_countGoers ∈ z_gw := List.mem_filter.mpr ⟨z_sub_t6 38 rfl, rfl⟩
abbrev M_X10_goersTo : z_M := (yX10_goersTo, cX10_goersTo, 3, some .int, [])
theorem kc_X10_goersTo : z_code M_X10_goersTo ∈ z_gw := List.mem_filter.mpr ⟨z_sub_t6 50 rfl, rfl⟩
abbrev M_X10_restsAt : z_M := (yX10_restsAt, cX10_restsAt, 4, some .boolean, [])
theorem kc_X10_restsAt : z_code M_X10_restsAt ∈ z_gw := List.mem_filter.mpr ⟨z_sub_t6 46 rfl, rfl⟩
abbrev M_X10_mostRight : z_M := (yX10_mostRight, cX10_mostRight, 6, some .long, [])
theorem kc_X10_mostRight : z_code M_X10_mostRight ∈ z_gw := List.mem_filter.mpr ⟨z_sub_t6 17 rfl, rfl⟩
abbrev M_X10_power : z_M := (yX10_power, cX10_power, 5, some .long, [])
theorem kc_X10_power : z_code M_X10_power ∈ z_gw := List.mem_filter.mpr ⟨z_sub_t6 26 rfl, rfl⟩
abbrev M_X10_at : z_M := (yX10_at, cX10_at, 2, some .int, [])
theorem kc_X10_at : z_code M_X10_at ∈ z_gw := List.mem_filter.mpr ⟨z_sub_t2 127 rfl, rfl⟩
abbrev M_X10_put : z_M := (yX10_put, cX10_put, 3, none, [])
theorem kc_X10_put : z_code M_X10_put ∈ z_gw := List.mem_filter.mpr ⟨z_sub_t2 105 rfl, rfl⟩
abbrev M_X10_copy : z_M := (yX10_copy, cX10_copy, 6, none, [])
theorem kc_X10_copy : z_code M_X10_copy ∈ z_gw := List.mem_filter.mpr ⟨z_sub_t2 124 rfl, rfl⟩
abbrev M_X10_fill : z_M := (yX10_fill, cX10_fill, 3, none, [])
theorem kc_X10_fill : z_code M_X10_fill ∈ z_gw := List.mem_filter.mpr ⟨z_sub_t3 147 rfl, rfl⟩
abbrev M_X10_isDye : z_M := (yX10_isDye, cX10_isDye, 1, some .boolean, [])
theorem kc_X10_isDye : z_code M_X10_isDye ∈ z_gw := List.mem_filter.mpr ⟨z_sub_t4 239 rfl, rfl⟩
abbrev M_X10_isShade : z_M := (yX10_isShade, cX10_isShade, 1, some .boolean, [])
theorem kc_X10_isShade : z_code M_X10_isShade ∈ z_gw := List.mem_filter.mpr ⟨z_sub_t5 10 rfl, rfl⟩
abbrev M_X10_unitOf : z_M := (yX10_unitOf, cX10_unitOf, 1, some .int, [])
theorem kc_X10_unitOf : z_code M_X10_unitOf ∈ z_gw := List.mem_filter.mpr ⟨z_sub_t2 151 rfl, rfl⟩
abbrev M_X10_partOf : z_M := (yX10_partOf, cX10_partOf, 2, some .int, [])
theorem kc_X10_partOf : z_code M_X10_partOf ∈ z_gw := List.mem_filter.mpr ⟨z_sub_t2 148 rfl, rfl⟩
abbrev M_X10_darkness : z_M := (yX10_darkness, cX10_darkness, 1, some .int, [])
theorem kc_X10_darkness : z_code M_X10_darkness ∈ z_gw := List.mem_filter.mpr ⟨z_sub_t4 155 rfl, rfl⟩
abbrev M_X10_apart : z_M := (yX10_apart, cX10_apart, 4, some .int, [])
theorem kc_X10_apart : z_code M_X10_apart ∈ z_gw := List.mem_filter.mpr ⟨z_sub_t4 78 rfl, rfl⟩
abbrev M_X10_deeper : z_M := (yX10_deeper, cX10_deeper, 5, some .int, [])
theorem kc_X10_deeper : z_code M_X10_deeper ∈ z_gw := List.mem_filter.mpr ⟨z_sub_t4 44 rfl, rfl⟩
abbrev M_X10_paler : z_M := (yX10_paler, cX10_paler, 2, some .int, [])
theorem kc_X10_paler : z_code M_X10_paler ∈ z_gw := List.mem_filter.mpr ⟨z_sub_t4 62 rfl, rfl⟩
abbrev M_X10_holds : z_M := (yX10_holds, cX10_holds, 2, some .boolean, [])
theorem kc_X10_holds : z_code M_X10_holds ∈ z_gw := List.mem_filter.mpr ⟨z_sub_t5 102 rfl, rfl⟩
abbrev M_X10_isDigit : z_M := (yX10_isDigit, cX10_isDigit, 1, some .boolean, [])
theorem kc_X10_isDigit : z_code M_X10_isDigit ∈ z_gw := List.mem_filter.mpr ⟨z_sub_t3 124 rfl, rfl⟩
abbrev M_X10_isLetter : z_M := (yX10_isLetter, cX10_isLetter, 1, some .boolean, [])
theorem kc_X10_isLetter : z_code M_X10_isLetter ∈ z_gw := List.mem_filter.mpr ⟨z_sub_t3 109 rfl, rfl⟩
abbrev M_X11_thrown : z_M := (yX11_thrown, cX11_thrown, 1, some .int, [])
theorem kc_X11_thrown : z_code M_X11_thrown ∈ z_gw := List.mem_filter.mpr ⟨z_sub_t6 101 rfl, rfl⟩
abbrev M_X11_may : z_M := (yX11_may, cX11_may, 4, some .boolean, [])
theorem kc_X11_may : z_code M_X11_may ∈ z_gw := List.mem_filter.mpr ⟨z_sub_t7 61 rfl, rfl⟩
abbrev M_X11_within : z_M := (yX11_within, cX11_within, 3, some .boolean, [])
theorem kc_X11_within : z_code M_X11_within ∈ z_gw := List.mem_filter.mpr ⟨z_sub_t8 21 rfl, rfl⟩
abbrev M_X11_init : z_M := (yX11_init, cX11_init, 1, none, [])
theorem kc_X11_init : z_code M_X11_init ∈ z_gw := List.mem_filter.mpr ⟨z_sub_t6 106 rfl, rfl⟩
abbrev M_X11_feed : z_M := (yX11_feed, cX11_feed, 8, some .int, [])
theorem kc_X11_feed : z_code M_X11_feed ∈ z_gw := List.mem_filter.mpr ⟨z_sub_t7 49 rfl, rfl⟩
abbrev M_X11_fine : z_M := (yX11_fine, cX11_fine, 1, some .boolean, [])
theorem kc_X11_fine : z_code M_X11_fine ∈ z_gw := List.mem_filter.mpr ⟨z_sub_t7 69 rfl, rfl⟩
abbrev M_X11_wrong : z_M := (yX11_wrong, cX11_wrong, 3, none, [])
theorem kc_X11_wrong : z_code M_X11_wrong ∈ z_gw := List.mem_filter.mpr ⟨z_sub_t7 100 rfl, rfl⟩
abbrev M_X11_here : z_M := (yX11_here, cX11_here, 1, some .int, [])
theorem kc_X11_here : z_code M_X11_here ∈ z_gw := List.mem_filter.mpr ⟨z_sub_t7 77 rfl, rfl⟩
abbrev M_X11_isSmall : z_M := (yX11_isSmall, cX11_isSmall, 1, some .boolean, [])
theorem kc_X11_isSmall : z_code M_X11_isSmall ∈ z_gw := List.mem_filter.mpr ⟨z_sub_t7 84 rfl, rfl⟩
abbrev M_X11_isDigit : z_M := (yX11_isDigit, cX11_isDigit, 1, some .boolean, [])
theorem kc_X11_isDigit : z_code M_X11_isDigit ∈ z_gw := List.mem_filter.mpr ⟨z_sub_t7 115 rfl, rfl⟩
abbrev M_X11_word : z_M := (yX11_word, cX11_word, 4, some .int, [])
theorem kc_X11_word : z_code M_X11_word ∈ z_gw := List.mem_filter.mpr ⟨z_sub_t7 81 rfl, rfl⟩
abbrev M_X11_of : z_M := (yX11_of, cX11_of, 3, some .int, [])
theorem kc_X11_of : z_code M_X11_of ∈ z_gw := List.mem_filter.mpr ⟨z_sub_t7 91 rfl, rfl⟩
abbrev M_X11_pass : z_M := (yX11_pass, cX11_pass, 1, none, [])
theorem kc_X11_pass : z_code M_X11_pass ∈ z_gw := List.mem_filter.mpr ⟨z_sub_t7 104 rfl, rfl⟩
abbrev M_X11_readNumber : z_M := (yX11_readNumber, cX11_readNumber, 6, some .int, [])
theorem kc_X11_readNumber : z_code M_X11_readNumber ∈ z_gw := List.mem_filter.mpr ⟨z_sub_t7 112 rfl, rfl⟩
abbrev M_X11_sign : z_M := (yX11_sign, cX11_sign, 2, none, [])
theorem kc_X11_sign : z_code M_X11_sign ∈ z_gw := List.mem_filter.mpr ⟨z_sub_t7 119 rfl, rfl⟩
abbrev M_X11_isMore : z_M := (yX11_isMore, cX11_isMore, 1, some .boolean, [])
theorem kc_X11_isMore : z_code M_X11_isMore ∈ z_gw := List.mem_filter.mpr ⟨z_sub_t7 73 rfl, rfl⟩
abbrev M_X11_begins : z_M := (yX11_begins, cX11_begins, 2, none, [])
theorem kc_X11_begins : z_code M_X11_begins ∈ z_gw := List.mem_filter.mpr ⟨z_sub_t7 65 rfl, rfl⟩
abbrev M_X11_result : z_M := (yX11_result, cX11_result, 2, some .int, [])
theorem kc_X11_result : z_code M_X11_result ∈ z_gw := List.mem_filter.mpr ⟨z_sub_t7 123 rfl, rfl⟩
abbrev M_X11_fault : z_M := (yX11_fault, cX11_fault, 1, some .int, [])
theorem kc_X11_fault : z_code M_X11_fault ∈ z_gw := List.mem_filter.mpr ⟨z_sub_t7 53 rfl, rfl⟩
abbrev M_X11_copies : z_M := (yX11_copies, cX11_copies, 5, none, [])
theorem kc_X11_copies : z_code M_X11_copies ∈ z_gw := List.mem_filter.mpr ⟨z_sub_t6 119 rfl, rfl⟩
abbrev M_X11_clears : z_M := (yX11_clears, cX11_clears, 2, none, [])
theorem kc_X11_clears : z_code M_X11_clears ∈ z_gw := List.mem_filter.mpr ⟨z_sub_t6 111 rfl, rfl⟩
abbrev M_X11_sets : z_M := (yX11_sets, cX11_sets, 2, none, [])
theorem kc_X11_sets : z_code M_X11_sets ∈ z_gw := List.mem_filter.mpr ⟨z_sub_t6 115 rfl, rfl⟩
abbrev M_X11_isRow : z_M := (yX11_isRow, cX11_isRow, 1, some .boolean, [])
theorem kc_X11_isRow : z_code M_X11_isRow ∈ z_gw := List.mem_filter.mpr ⟨z_sub_t7 87 rfl, rfl⟩
abbrev M_X11_readRow : z_M := (yX11_readRow, cX11_readRow, 4, none, [])
theorem kc_X11_readRow : z_code M_X11_readRow ∈ z_gw := List.mem_filter.mpr ⟨z_sub_t7 108 rfl, rfl⟩
abbrev M_X11_city : z_M := (yX11_city, cX11_city, 4, some .int, [])
theorem kc_X11_city : z_code M_X11_city ∈ z_gw := List.mem_filter.mpr ⟨z_sub_t7 57 rfl, rfl⟩
abbrev M_X11_emit : z_M := (yX11_emit, cX11_emit, 3, none, [])
theorem kc_X11_emit : z_code M_X11_emit ∈ z_gw := List.mem_filter.mpr ⟨z_sub_t7 147 rfl, rfl⟩
abbrev M_X11_opensOne : z_M := (yX11_opensOne, cX11_opensOne, 2, none, [])
theorem kc_X11_opensOne : z_code M_X11_opensOne ∈ z_gw := List.mem_filter.mpr ⟨z_sub_t7 143 rfl, rfl⟩
abbrev M_X11_readSum : z_M := (yX11_readSum, cX11_readSum, 2, none, [])
theorem kc_X11_readSum : z_code M_X11_readSum ∈ z_gw := List.mem_filter.mpr ⟨z_sub_t7 131 rfl, rfl⟩
abbrev M_X11_readProduct : z_M := (yX11_readProduct, cX11_readProduct, 2, none, [])
theorem kc_X11_readProduct : z_code M_X11_readProduct ∈ z_gw := List.mem_filter.mpr ⟨z_sub_t7 135 rfl, rfl⟩
abbrev M_X11_readTwo : z_M := (yX11_readTwo, cX11_readTwo, 3, none, [])
theorem kc_X11_readTwo : z_code M_X11_readTwo ∈ z_gw := List.mem_filter.mpr ⟨z_sub_t7 152 rfl, rfl⟩
abbrev M_X11_factHere : z_M := (yX11_factHere, cX11_factHere, 2, some .int, [])
theorem kc_X11_factHere : z_code M_X11_factHere ∈ z_gw := List.mem_filter.mpr ⟨z_sub_t7 157 rfl, rfl⟩
abbrev M_X11_readUnit : z_M := (yX11_readUnit, cX11_readUnit, 2, none, [])
theorem kc_X11_readUnit : z_code M_X11_readUnit ∈ z_gw := List.mem_filter.mpr ⟨z_sub_t7 139 rfl, rfl⟩
abbrev M_X11_law : z_M := (yX11_law, cX11_law, 3, some .int, [])
theorem kc_X11_law : z_code M_X11_law ∈ z_gw := List.mem_filter.mpr ⟨z_sub_t7 127 rfl, rfl⟩
abbrev M_X11_valueNow : z_M := (yX11_valueNow, cX11_valueNow, 4, some .int, [])
theorem kc_X11_valueNow : z_code M_X11_valueNow ∈ z_gw := List.mem_filter.mpr ⟨z_sub_t8 49 rfl, rfl⟩
abbrev M_X11_both : z_M := (yX11_both, cX11_both, 3, some .int, [])
theorem kc_X11_both : z_code M_X11_both ∈ z_gw := List.mem_filter.mpr ⟨z_sub_t8 52 rfl, rfl⟩
abbrev M_X11_sitsNow : z_M := (yX11_sitsNow, cX11_sitsNow, 1, some .boolean, [])
theorem kc_X11_sitsNow : z_code M_X11_sitsNow ∈ z_gw := List.mem_filter.mpr ⟨z_sub_t8 45 rfl, rfl⟩
abbrev M_X11_tellsStep : z_M := (yX11_tellsStep, cX11_tellsStep, 4, none, [])
theorem kc_X11_tellsStep : z_code M_X11_tellsStep ∈ z_gw := List.mem_filter.mpr ⟨z_sub_t7 179 rfl, rfl⟩
abbrev M_X11_readOne : z_M := (yX11_readOne, cX11_readOne, 1, some .int, [])
theorem kc_X11_readOne : z_code M_X11_readOne ∈ z_gw := List.mem_filter.mpr ⟨z_sub_t7 185 rfl, rfl⟩
abbrev M_X11_readMarriage : z_M := (yX11_readMarriage, cX11_readMarriage, 4, none, [])
theorem kc_X11_readMarriage : z_code M_X11_readMarriage ∈ z_gw := List.mem_filter.mpr ⟨z_sub_t7 191 rfl, rfl⟩
abbrev M_X11_readStep : z_M := (yX11_readStep, cX11_readStep, 4, none, [])
theorem kc_X11_readStep : z_code M_X11_readStep ∈ z_gw := List.mem_filter.mpr ⟨z_sub_t7 174 rfl, rfl⟩
abbrev M_X11_work : z_M := (yX11_work, cX11_work, 4, some .int, [])
theorem kc_X11_work : z_code M_X11_work ∈ z_gw := List.mem_filter.mpr ⟨z_sub_t7 170 rfl, rfl⟩
abbrev M_X11_goesSteps : z_M := (yX11_goesSteps, cX11_goesSteps, 6, none, [])
theorem kc_X11_goesSteps : z_code M_X11_goesSteps ∈ z_gw := List.mem_filter.mpr ⟨z_sub_t7 200 rfl, rfl⟩
abbrev M_X11_take : z_M := (yX11_take, cX11_take, 1, none, [])
theorem kc_X11_take : z_code M_X11_take ∈ z_gw := List.mem_filter.mpr ⟨z_sub_t7 196 rfl, rfl⟩
abbrev M_X11_dyeOf : z_M := (yX11_dyeOf, cX11_dyeOf, 2, some .int, [])
theorem kc_X11_dyeOf : z_code M_X11_dyeOf ∈ z_gw := List.mem_filter.mpr ⟨z_sub_t7 219 rfl, rfl⟩
abbrev M_X11_shadeOf : z_M := (yX11_shadeOf, cX11_shadeOf, 2, some .int, [])
theorem kc_X11_shadeOf : z_code M_X11_shadeOf ∈ z_gw := List.mem_filter.mpr ⟨z_sub_t7 212 rfl, rfl⟩
abbrev M_X11_shades : z_M := (yX11_shades, cX11_shades, 4, none, [])
theorem kc_X11_shades : z_code M_X11_shades ∈ z_gw := List.mem_filter.mpr ⟨z_sub_t7 223 rfl, rfl⟩
abbrev M_X11_vatOf : z_M := (yX11_vatOf, cX11_vatOf, 2, some .int, [])
theorem kc_X11_vatOf : z_code M_X11_vatOf ∈ z_gw := List.mem_filter.mpr ⟨z_sub_t8 37 rfl, rfl⟩
abbrev M_X11_apart : z_M := (yX11_apart, cX11_apart, 5, some .int, [])
theorem kc_X11_apart : z_code M_X11_apart ∈ z_gw := List.mem_filter.mpr ⟨z_sub_t8 2 rfl, rfl⟩
abbrev M_X11_seemsOf : z_M := (yX11_seemsOf, cX11_seemsOf, 4, some .int, [])
theorem kc_X11_seemsOf : z_code M_X11_seemsOf ∈ z_gw := List.mem_filter.mpr ⟨z_sub_t8 33 rfl, rfl⟩
abbrev M_X11_dippedIn : z_M := (yX11_dippedIn, cX11_dippedIn, 6, some .int, [])
theorem kc_X11_dippedIn : z_code M_X11_dippedIn ∈ z_gw := List.mem_filter.mpr ⟨z_sub_t7 216 rfl, rfl⟩
abbrev M_X11_sitsBy : z_M := (yX11_sitsBy, cX11_sitsBy, 7, some .boolean, [])
theorem kc_X11_sitsBy : z_code M_X11_sitsBy ∈ z_gw := List.mem_filter.mpr ⟨z_sub_t8 41 rfl, rfl⟩
abbrev M_X11_isSitting : z_M := (yX11_isSitting, cX11_isSitting, 3, some .boolean, [])
theorem kc_X11_isSitting : z_code M_X11_isSitting ∈ z_gw := List.mem_filter.mpr ⟨z_sub_t8 29 rfl, rfl⟩
abbrev M_X11_sitting : z_M := (yX11_sitting, cX11_sitting, 3, some .int, [])
theorem kc_X11_sitting : z_code M_X11_sitting ∈ z_gw := List.mem_filter.mpr ⟨z_sub_t8 25 rfl, rfl⟩
abbrev M_X11_unlikeShades : z_M := (yX11_unlikeShades, cX11_unlikeShades, 5, some .int, [])
theorem kc_X11_unlikeShades : z_code M_X11_unlikeShades ∈ z_gw := List.mem_filter.mpr ⟨z_sub_t8 60 rfl, rfl⟩
abbrev M_X11_dips : z_M := (yX11_dips, cX11_dips, 5, some .boolean, [])
theorem kc_X11_dips : z_code M_X11_dips ∈ z_gw := List.mem_filter.mpr ⟨z_sub_t7 208 rfl, rfl⟩
abbrev M_X11_washes : z_M := (yX11_washes, cX11_washes, 3, some .boolean, [])
theorem kc_X11_washes : z_code M_X11_washes ∈ z_gw := List.mem_filter.mpr ⟨z_sub_t7 227 rfl, rfl⟩
abbrev M_X11_meanShade : z_M := (yX11_meanShade, cX11_meanShade, 6, some .int, [])
theorem kc_X11_meanShade : z_code M_X11_meanShade ∈ z_gw := List.mem_filter.mpr ⟨z_sub_t7 235 rfl, rfl⟩
abbrev M_X11_rains : z_M := (yX11_rains, cX11_rains, 3, some .boolean, [])
theorem kc_X11_rains : z_code M_X11_rains ∈ z_gw := List.mem_filter.mpr ⟨z_sub_t7 231 rfl, rfl⟩
abbrev M_X11_weds : z_M := (yX11_weds, cX11_weds, 3, some .boolean, [])
theorem kc_X11_weds : z_code M_X11_weds ∈ z_gw := List.mem_filter.mpr ⟨z_sub_t7 239 rfl, rfl⟩
abbrev M_X11_goes : z_M := (yX11_goes, cX11_goes, 4, some .boolean, [])
theorem kc_X11_goes : z_code M_X11_goes ∈ z_gw := List.mem_filter.mpr ⟨z_sub_t7 204 rfl, rfl⟩
abbrev M_X11_passes : z_M := (yX11_passes, cX11_passes, 4, none, [])
theorem kc_X11_passes : z_code M_X11_passes ∈ z_gw := List.mem_filter.mpr ⟨z_sub_t8 6 rfl, rfl⟩
abbrev M_X11_book : z_M := (yX11_book, cX11_book, 6, some .int, [])
theorem kc_X11_book : z_code M_X11_book ∈ z_gw := List.mem_filter.mpr ⟨z_sub_t8 10 rfl, rfl⟩
abbrev M_X11_undo : z_M := (yX11_undo, cX11_undo, 2, some .int, [])
theorem kc_X11_undo : z_code M_X11_undo ∈ z_gw := List.mem_filter.mpr ⟨z_sub_t8 14 rfl, rfl⟩
abbrev M_X11_many : z_M := (yX11_many, cX11_many, 5, some .int, [])
theorem kc_X11_many : z_code M_X11_many ∈ z_gw := List.mem_filter.mpr ⟨z_sub_t8 56 rfl, rfl⟩
abbrev M_X11_told : z_M := (yX11_told, cX11_told, 2, some .int, [])
theorem kc_X11_told : z_code M_X11_told ∈ z_gw := List.mem_filter.mpr ⟨z_sub_t8 18 rfl, rfl⟩
abbrev M_X11_isStreet : z_M := (yX11_isStreet, cX11_isStreet, 3, some .boolean, [])
theorem kc_X11_isStreet : z_code M_X11_isStreet ∈ z_gw := List.mem_filter.mpr ⟨z_sub_t8 68 rfl, rfl⟩
abbrev M_X11_isPerson : z_M := (yX11_isPerson, cX11_isPerson, 3, some .boolean, [])
theorem kc_X11_isPerson : z_code M_X11_isPerson ∈ z_gw := List.mem_filter.mpr ⟨z_sub_t8 76 rfl, rfl⟩
abbrev M_X11_street : z_M := (yX11_street, cX11_street, 5, some .int, [])
theorem kc_X11_street : z_code M_X11_street ∈ z_gw := List.mem_filter.mpr ⟨z_sub_t8 64 rfl, rfl⟩
abbrev M_X11_person : z_M := (yX11_person, cX11_person, 3, some .int, [])
theorem kc_X11_person : z_code M_X11_person ∈ z_gw := List.mem_filter.mpr ⟨z_sub_t8 72 rfl, rfl⟩
abbrev M_X11_isDye : z_M := (yX11_isDye, cX11_isDye, 1, some .boolean, [])
theorem kc_X11_isDye : z_code M_X11_isDye ∈ z_gw := List.mem_filter.mpr ⟨z_sub_t8 83 rfl, rfl⟩
abbrev M_X11_isShade : z_M := (yX11_isShade, cX11_isShade, 1, some .boolean, [])
theorem kc_X11_isShade : z_code M_X11_isShade ∈ z_gw := List.mem_filter.mpr ⟨z_sub_t8 90 rfl, rfl⟩
abbrev M_X11_stock : z_M := (yX11_stock, cX11_stock, 2, some .int, [])
theorem kc_X11_stock : z_code M_X11_stock ∈ z_gw := List.mem_filter.mpr ⟨z_sub_t8 80 rfl, rfl⟩
abbrev M_X11_would : z_M := (yX11_would, cX11_would, 7, some .boolean, [])
theorem kc_X11_would : z_code M_X11_would ∈ z_gw := List.mem_filter.mpr ⟨z_sub_t8 87 rfl, rfl⟩
abbrev M_X11_distance : z_M := (yX11_distance, cX11_distance, 3, some .int, [])
theorem kc_X11_distance : z_code M_X11_distance ∈ z_gw := List.mem_filter.mpr ⟨z_sub_t8 94 rfl, rfl⟩
abbrev M_X11_seems : z_M := (yX11_seems, cX11_seems, 2, some .int, [])
theorem kc_X11_seems : z_code M_X11_seems ∈ z_gw := List.mem_filter.mpr ⟨z_sub_t8 98 rfl, rfl⟩
abbrev M_X11_dipped : z_M := (yX11_dipped, cX11_dipped, 3, some .int, [])
theorem kc_X11_dipped : z_code M_X11_dipped ∈ z_gw := List.mem_filter.mpr ⟨z_sub_t8 102 rfl, rfl⟩
abbrev M_X11_cousins : z_M := (yX11_cousins, cX11_cousins, 1, some .int, [])
theorem kc_X11_cousins : z_code M_X11_cousins ∈ z_gw := List.mem_filter.mpr ⟨z_sub_t8 106 rfl, rfl⟩
abbrev M_X11_when : z_M := (yX11_when, cX11_when, 4, some .int, [])
theorem kc_X11_when : z_code M_X11_when ∈ z_gw := List.mem_filter.mpr ⟨z_sub_t8 110 rfl, rfl⟩
abbrev M_X11_sits : z_M := (yX11_sits, cX11_sits, 5, some .int, [])
theorem kc_X11_sits : z_code M_X11_sits ∈ z_gw := List.mem_filter.mpr ⟨z_sub_t8 114 rfl, rfl⟩
abbrev M_X11_layTo : z_M := (yX11_layTo, cX11_layTo, 6, none, [])
theorem kc_X11_layTo : z_code M_X11_layTo ∈ z_gw := List.mem_filter.mpr ⟨z_sub_t8 122 rfl, rfl⟩
abbrev M_X11_way : z_M := (yX11_way, cX11_way, 3, some .int, [])
theorem kc_X11_way : z_code M_X11_way ∈ z_gw := List.mem_filter.mpr ⟨z_sub_t8 118 rfl, rfl⟩
abbrev M_X11_step : z_M := (yX11_step, cX11_step, 7, some .int, [])
theorem kc_X11_step : z_code M_X11_step ∈ z_gw := List.mem_filter.mpr ⟨z_sub_t8 126 rfl, rfl⟩
abbrev M_X11_sumsOn : z_M := (yX11_sumsOn, cX11_sumsOn, 8, none, [])
theorem kc_X11_sumsOn : z_code M_X11_sumsOn ∈ z_gw := List.mem_filter.mpr ⟨z_sub_t8 134 rfl, rfl⟩
abbrev M_X11_sums : z_M := (yX11_sums, cX11_sums, 3, some .int, [])
theorem kc_X11_sums : z_code M_X11_sums ∈ z_gw := List.mem_filter.mpr ⟨z_sub_t8 130 rfl, rfl⟩
abbrev M_X11_tones : z_M := (yX11_tones, cX11_tones, 6, some .int, [])
theorem kc_X11_tones : z_code M_X11_tones ∈ z_gw := List.mem_filter.mpr ⟨z_sub_t8 138 rfl, rfl⟩
abbrev M_X11_hasOf : z_M := (yX11_hasOf, cX11_hasOf, 3, some .int, [])
theorem kc_X11_hasOf : z_code M_X11_hasOf ∈ z_gw := List.mem_filter.mpr ⟨z_sub_t8 150 rfl, rfl⟩
abbrev M_X11_mayBeTheirs : z_M := (yX11_mayBeTheirs, cX11_mayBeTheirs, 4, some .boolean, [])
theorem kc_X11_mayBeTheirs : z_code M_X11_mayBeTheirs ∈ z_gw := List.mem_filter.mpr ⟨z_sub_t8 146 rfl, rfl⟩
abbrev M_X11_fits : z_M := (yX11_fits, cX11_fits, 6, some .int, [])
theorem kc_X11_fits : z_code M_X11_fits ∈ z_gw := List.mem_filter.mpr ⟨z_sub_t8 142 rfl, rfl⟩
abbrev M_X11_leftBy : z_M := (yX11_leftBy, cX11_leftBy, 6, some .int, [])
theorem kc_X11_leftBy : z_code M_X11_leftBy ∈ z_gw := List.mem_filter.mpr ⟨z_sub_t8 158 rfl, rfl⟩
abbrev M_X11_look : z_M := (yX11_look, cX11_look, 7, some .int, [])
theorem kc_X11_look : z_code M_X11_look ∈ z_gw := List.mem_filter.mpr ⟨z_sub_t8 154 rfl, rfl⟩
abbrev M_X11_mayMatch : z_M := (yX11_mayMatch, cX11_mayMatch, 3, some .boolean, [])
theorem kc_X11_mayMatch : z_code M_X11_mayMatch ∈ z_gw := List.mem_filter.mpr ⟨z_sub_t8 173 rfl, rfl⟩
abbrev M_X11_worthOf : z_M := (yX11_worthOf, cX11_worthOf, 3, some .int, [])
theorem kc_X11_worthOf : z_code M_X11_worthOf ∈ z_gw := List.mem_filter.mpr ⟨z_sub_t8 177 rfl, rfl⟩
abbrev M_X11_firstOut : z_M := (yX11_firstOut, cX11_firstOut, 2, some .int, [])
theorem kc_X11_firstOut : z_code M_X11_firstOut ∈ z_gw := List.mem_filter.mpr ⟨z_sub_t8 169 rfl, rfl⟩
abbrev M_X11_findMatch : z_M := (yX11_findMatch, cX11_findMatch, 7, none, [])
theorem kc_X11_findMatch : z_code M_X11_findMatch ∈ z_gw := List.mem_filter.mpr ⟨z_sub_t8 166 rfl, rfl⟩
abbrev M_X11_match : z_M := (yX11_match, cX11_match, 3, some .int, [])
theorem kc_X11_match : z_code M_X11_match ∈ z_gw := List.mem_filter.mpr ⟨z_sub_t8 162 rfl, rfl⟩
abbrev M_X11_bride : z_M := (yX11_bride, cX11_bride, 2, some .int, [])
theorem kc_X11_bride : z_code M_X11_bride ∈ z_gw := List.mem_filter.mpr ⟨z_sub_t8 181 rfl, rfl⟩
abbrev M_X11_needOf : z_M := (yX11_needOf, cX11_needOf, 5, some .int, [])
theorem kc_X11_needOf : z_code M_X11_needOf ∈ z_gw := List.mem_filter.mpr ⟨z_sub_t8 189 rfl, rfl⟩
abbrev M_X11_enough : z_M := (yX11_enough, cX11_enough, 3, some .int, [])
theorem kc_X11_enough : z_code M_X11_enough ∈ z_gw := List.mem_filter.mpr ⟨z_sub_t8 185 rfl, rfl⟩
abbrev M_X11_level : z_M := (yX11_level, cX11_level, 4, some .int, [])
theorem kc_X11_level : z_code M_X11_level ∈ z_gw := List.mem_filter.mpr ⟨z_sub_t8 193 rfl, rfl⟩
abbrev M_X11_least : z_M := (yX11_least, cX11_least, 11, some .long, [])
theorem kc_X11_least : z_code M_X11_least ∈ z_gw := List.mem_filter.mpr ⟨z_sub_t8 201 rfl, rfl⟩
abbrev M_X11_night : z_M := (yX11_night, cX11_night, 13, some .long, [])
theorem kc_X11_night : z_code M_X11_night ∈ z_gw := List.mem_filter.mpr ⟨z_sub_t8 197 rfl, rfl⟩
abbrev M_X11_followsOf : z_M := (yX11_followsOf, cX11_followsOf, 5, some .int, [])
theorem kc_X11_followsOf : z_code M_X11_followsOf ∈ z_gw := List.mem_filter.mpr ⟨z_sub_t8 213 rfl, rfl⟩
abbrev M_X11_isRest : z_M := (yX11_isRest, cX11_isRest, 4, some .boolean, [])
theorem kc_X11_isRest : z_code M_X11_isRest ∈ z_gw := List.mem_filter.mpr ⟨z_sub_t8 209 rfl, rfl⟩
abbrev M_X11_guilds : z_M := (yX11_guilds, cX11_guilds, 6, some .int, [])
theorem kc_X11_guilds : z_code M_X11_guilds ∈ z_gw := List.mem_filter.mpr ⟨z_sub_t8 205 rfl, rfl⟩
abbrev M_X11_follows : z_M := (yX11_follows, cX11_follows, 3, some .int, [])
theorem kc_X11_follows : z_code M_X11_follows ∈ z_gw := List.mem_filter.mpr ⟨z_sub_t8 217 rfl, rfl⟩
abbrev M_X11_ahead : z_M := (yX11_ahead, cX11_ahead, 5, some .int, [])
theorem kc_X11_ahead : z_code M_X11_ahead ∈ z_gw := List.mem_filter.mpr ⟨z_sub_t8 221 rfl, rfl⟩
abbrev M_X11_draws : z_M := (yX11_draws, cX11_draws, 2, some .int, [])
theorem kc_X11_draws : z_code M_X11_draws ∈ z_gw := List.mem_filter.mpr ⟨z_sub_t8 236 rfl, rfl⟩
abbrev M_X11_agesGo : z_M := (yX11_agesGo, cX11_agesGo, 6, none, [])
theorem kc_X11_agesGo : z_code M_X11_agesGo ∈ z_gw := List.mem_filter.mpr ⟨z_sub_t8 232 rfl, rfl⟩
abbrev M_X11_areAges : z_M := (yX11_areAges, cX11_areAges, 2, some .boolean, [])
theorem kc_X11_areAges : z_code M_X11_areAges ∈ z_gw := List.mem_filter.mpr ⟨z_sub_t8 228 rfl, rfl⟩
abbrev M_X11_ages : z_M := (yX11_ages, cX11_ages, 5, some .int, [])
theorem kc_X11_ages : z_code M_X11_ages ∈ z_gw := List.mem_filter.mpr ⟨z_sub_t8 225 rfl, rfl⟩
abbrev M_X11_span : z_M := (yX11_span, cX11_span, 11, some .int, [])
theorem kc_X11_span : z_code M_X11_span ∈ z_gw := List.mem_filter.mpr ⟨z_sub_t9 1 rfl, rfl⟩
abbrev M_X11_keepsRow : z_M := (yX11_keepsRow, cX11_keepsRow, 6, some .int, [])
theorem kc_X11_keepsRow : z_code M_X11_keepsRow ∈ z_gw := List.mem_filter.mpr ⟨z_sub_t9 13 rfl, rfl⟩
abbrev M_X11_keepsAll : z_M := (yX11_keepsAll, cX11_keepsAll, 4, none, [])
theorem kc_X11_keepsAll : z_code M_X11_keepsAll ∈ z_gw := List.mem_filter.mpr ⟨z_sub_t9 9 rfl, rfl⟩
abbrev M_X11_image : z_M := (yX11_image, cX11_image, 1, some .int, [])
theorem kc_X11_image : z_code M_X11_image ∈ z_gw := List.mem_filter.mpr ⟨z_sub_t9 5 rfl, rfl⟩
abbrev M_X11_restore : z_M := (yX11_restore, cX11_restore, 1, some .int, [])
theorem kc_X11_restore : z_code M_X11_restore ∈ z_gw := List.mem_filter.mpr ⟨z_sub_t9 17 rfl, rfl⟩
abbrev M_X11_status : z_M := (yX11_status, cX11_status, 2, some .int, [])
theorem kc_X11_status : z_code M_X11_status ∈ z_gw := List.mem_filter.mpr ⟨z_sub_t9 21 rfl, rfl⟩
abbrev M_X11_count : z_M := (yX11_count, cX11_count, 2, some .int, [])
theorem kc_X11_count : z_code M_X11_count ∈ z_gw := List.mem_filter.mpr ⟨z_sub_t9 25 rfl, rfl⟩
abbrev M_X0_init : z_M := (yX0_init, cX0_init, 1, none, [])
theorem kc_X0_init : z_code M_X0_init ∈ z_gw := List.mem_filter.mpr ⟨z_sub_t1 112 rfl, rfl⟩
abbrev M_X0_clear : z_M := (yX0_clear, cX0_clear, 1, none, [])
theorem kc_X0_clear : z_code M_X0_clear ∈ z_gw := List.mem_filter.mpr ⟨z_sub_t3 160 rfl, rfl⟩
abbrev M_X0_read : z_M := (yX0_read, cX0_read, 4, none, [])
theorem kc_X0_read : z_code M_X0_read ∈ z_gw := List.mem_filter.mpr ⟨z_sub_t4 109 rfl, rfl⟩
abbrev M_X0_tells : z_M := (yX0_tells, cX0_tells, 2, some .boolean, [])
theorem kc_X0_tells : z_code M_X0_tells ∈ z_gw := List.mem_filter.mpr ⟨z_sub_t5 157 rfl, rfl⟩
abbrev M_X0_mayBear : z_M := (yX0_mayBear, cX0_mayBear, 5, some .boolean, [])
theorem kc_X0_mayBear : z_code M_X0_mayBear ∈ z_gw := List.mem_filter.mpr ⟨z_sub_t5 141 rfl, rfl⟩
abbrev M_X0_allFits : z_M := (yX0_allFits, cX0_allFits, 6, some .int, [])
theorem kc_X0_allFits : z_code M_X0_allFits ∈ z_gw := List.mem_filter.mpr ⟨z_sub_t5 136 rfl, rfl⟩
abbrev M_X0_firstFit : z_M := (yX0_firstFit, cX0_firstFit, 5, some .int, [])
theorem kc_X0_firstFit : z_code M_X0_firstFit ∈ z_gw := List.mem_filter.mpr ⟨z_sub_t5 146 rfl, rfl⟩
abbrev M_X0_mostLeft : z_M := (yX0_mostLeft, cX0_mostLeft, 6, some .int, [])
theorem kc_X0_mostLeft : z_code M_X0_mostLeft ∈ z_gw := List.mem_filter.mpr ⟨z_sub_t5 161 rfl, rfl⟩
abbrev M_X0_left : z_M := (yX0_left, cX0_left, 11, some .int, [])
theorem kc_X0_left : z_code M_X0_left ∈ z_gw := List.mem_filter.mpr ⟨z_sub_t5 165 rfl, rfl⟩
abbrev M_X1_init : z_M := (yX1_init, cX1_init, 1, none, [])
theorem kc_X1_init : z_code M_X1_init ∈ z_gw := List.mem_filter.mpr ⟨z_sub_t2 4 rfl, rfl⟩
abbrev M_X1_read : z_M := (yX1_read, cX1_read, 3, none, [])
theorem kc_X1_read : z_code M_X1_read ∈ z_gw := List.mem_filter.mpr ⟨z_sub_t3 32 rfl, rfl⟩
abbrev M_X1_readClause : z_M := (yX1_readClause, cX1_readClause, 5, none, [])
theorem kc_X1_readClause : z_code M_X1_readClause ∈ z_gw := List.mem_filter.mpr ⟨z_sub_t3 48 rfl, rfl⟩
abbrev M_X1_readRest : z_M := (yX1_readRest, cX1_readRest, 5, none, [])
theorem kc_X1_readRest : z_code M_X1_readRest ∈ z_gw := List.mem_filter.mpr ⟨z_sub_t3 117 rfl, rfl⟩
abbrev M_X1_hasStreet : z_M := (yX1_hasStreet, cX1_hasStreet, 2, some .boolean, [])
theorem kc_X1_hasStreet : z_code M_X1_hasStreet ∈ z_gw := List.mem_filter.mpr ⟨z_sub_t4 189 rfl, rfl⟩
abbrev M_X1_hasPerson : z_M := (yX1_hasPerson, cX1_hasPerson, 2, some .boolean, [])
theorem kc_X1_hasPerson : z_code M_X1_hasPerson ∈ z_gw := List.mem_filter.mpr ⟨z_sub_t4 229 rfl, rfl⟩
abbrev M_X1_vatOf : z_M := (yX1_vatOf, cX1_vatOf, 2, some .int, [])
theorem kc_X1_vatOf : z_code M_X1_vatOf ∈ z_gw := List.mem_filter.mpr ⟨z_sub_t4 36 rfl, rfl⟩
abbrev M_X1_rankOf : z_M := (yX1_rankOf, cX1_rankOf, 2, some .int, [])
theorem kc_X1_rankOf : z_code M_X1_rankOf ∈ z_gw := List.mem_filter.mpr ⟨z_sub_t4 148 rfl, rfl⟩
abbrev M_X1_homeOf : z_M := (yX1_homeOf, cX1_homeOf, 2, some .int, [])
theorem kc_X1_homeOf : z_code M_X1_homeOf ∈ z_gw := List.mem_filter.mpr ⟨z_sub_t4 144 rfl, rfl⟩
abbrev M_X1_bornIn : z_M := (yX1_bornIn, cX1_bornIn, 4, some .int, [])
theorem kc_X1_bornIn : z_code M_X1_bornIn ∈ z_gw := List.mem_filter.mpr ⟨z_sub_t4 217 rfl, rfl⟩
abbrev M_X1_nearest : z_M := (yX1_nearest, cX1_nearest, 6, some .int, [])
theorem kc_X1_nearest : z_code M_X1_nearest ∈ z_gw := List.mem_filter.mpr ⟨z_sub_t4 138 rfl, rfl⟩
abbrev M_X2_init : z_M := (yX2_init, cX2_init, 1, none, [])
theorem kc_X2_init : z_code M_X2_init ∈ z_gw := List.mem_filter.mpr ⟨z_sub_t1 202 rfl, rfl⟩
abbrev M_X2_arrange : z_M := (yX2_arrange, cX2_arrange, 5, none, [])
theorem kc_X2_arrange : z_code M_X2_arrange ∈ z_gw := List.mem_filter.mpr ⟨z_sub_t5 177 rfl, rfl⟩
abbrev M_X2_partnerOf : z_M := (yX2_partnerOf, cX2_partnerOf, 2, some .int, [])
theorem kc_X2_partnerOf : z_code M_X2_partnerOf ∈ z_gw := List.mem_filter.mpr ⟨z_sub_t5 221 rfl, rfl⟩
abbrev M_X2_weighAll : z_M := (yX2_weighAll, cX2_weighAll, 5, none, [])
theorem kc_X2_weighAll : z_code M_X2_weighAll ∈ z_gw := List.mem_filter.mpr ⟨z_sub_t5 181 rfl, rfl⟩
abbrev M_X2_gainOf : z_M := (yX2_gainOf, cX2_gainOf, 6, some .int, [])
theorem kc_X2_gainOf : z_code M_X2_gainOf ∈ z_gw := List.mem_filter.mpr ⟨z_sub_t5 184 rfl, rfl⟩
abbrev M_X2_gain : z_M := (yX2_gain, cX2_gain, 3, some .int, [])
theorem kc_X2_gain : z_code M_X2_gain ∈ z_gw := List.mem_filter.mpr ⟨z_sub_t5 203 rfl, rfl⟩
abbrev M_X2_bestOf : z_M := (yX2_bestOf, cX2_bestOf, 7, some .int, [])
theorem kc_X2_bestOf : z_code M_X2_bestOf ∈ z_gw := List.mem_filter.mpr ⟨z_sub_t5 192 rfl, rfl⟩
abbrev M_X2_choose : z_M := (yX2_choose, cX2_choose, 6, none, [])
theorem kc_X2_choose : z_code M_X2_choose ∈ z_gw := List.mem_filter.mpr ⟨z_sub_t5 208 rfl, rfl⟩
abbrev M_X2_firstPartner : z_M := (yX2_firstPartner, cX2_firstPartner, 6, some .int, [])
theorem kc_X2_firstPartner : z_code M_X2_firstPartner ∈ z_gw := List.mem_filter.mpr ⟨z_sub_t5 213 rfl, rfl⟩
abbrev M_X2_sumUp : z_M := (yX2_sumUp, cX2_sumUp, 5, none, [])
theorem kc_X2_sumUp : z_code M_X2_sumUp ∈ z_gw := List.mem_filter.mpr ⟨z_sub_t5 217 rfl, rfl⟩
abbrev M_X2_leastIn : z_M := (yX2_leastIn, cX2_leastIn, 3, some .int, [])
theorem kc_X2_leastIn : z_code M_X2_leastIn ∈ z_gw := List.mem_filter.mpr ⟨z_sub_t5 195 rfl, rfl⟩
abbrev M_X2_isIn : z_M := (yX2_isIn, cX2_isIn, 2, some .boolean, [])
theorem kc_X2_isIn : z_code M_X2_isIn ∈ z_gw := List.mem_filter.mpr ⟨z_sub_t5 198 rfl, rfl⟩
abbrev M_X3_init : z_M := (yX3_init, cX3_init, 1, none, [])
theorem kc_X3_init : z_code M_X3_init ∈ z_gw := List.mem_filter.mpr ⟨z_sub_t1 226 rfl, rfl⟩
abbrev M_X3_live : z_M := (yX3_live, cX3_live, 9, none, [])
theorem kc_X3_live : z_code M_X3_live ∈ z_gw := List.mem_filter.mpr ⟨z_sub_t6 80 rfl, rfl⟩
abbrev M_X3_draw : z_M := (yX3_draw, cX3_draw, 2, some .int, [])
theorem kc_X3_draw : z_code M_X3_draw ∈ z_gw := List.mem_filter.mpr ⟨z_sub_t6 84 rfl, rfl⟩
abbrev M_X4_init : z_M := (yX4_init, cX4_init, 1, none, [])
theorem kc_X4_init : z_code M_X4_init ∈ z_gw := List.mem_filter.mpr ⟨z_sub_t1 165 rfl, rfl⟩
abbrev M_X4_clear : z_M := (yX4_clear, cX4_clear, 1, none, [])
theorem kc_X4_clear : z_code M_X4_clear ∈ z_gw := List.mem_filter.mpr ⟨z_sub_t3 165 rfl, rfl⟩
abbrev M_X4_remember : z_M := (yX4_remember, cX4_remember, 2, none, [])
theorem kc_X4_remember : z_code M_X4_remember ∈ z_gw := List.mem_filter.mpr ⟨z_sub_t4 15 rfl, rfl⟩
abbrev M_X4_takeBack : z_M := (yX4_takeBack, cX4_takeBack, 2, none, [])
theorem kc_X4_takeBack : z_code M_X4_takeBack ∈ z_gw := List.mem_filter.mpr ⟨z_sub_t2 117 rfl, rfl⟩
abbrev M_X4_keepImage : z_M := (yX4_keepImage, cX4_keepImage, 3, none, [])
theorem kc_X4_keepImage : z_code M_X4_keepImage ∈ z_gw := List.mem_filter.mpr ⟨z_sub_t2 159 rfl, rfl⟩
abbrev M_X4_bringBack : z_M := (yX4_bringBack, cX4_bringBack, 3, none, [])
theorem kc_X4_bringBack : z_code M_X4_bringBack ∈ z_gw := List.mem_filter.mpr ⟨z_sub_t2 173 rfl, rfl⟩
abbrev M_X5_init : z_M := (yX5_init, cX5_init, 1, none, [])
theorem kc_X5_init : z_code M_X5_init ∈ z_gw := List.mem_filter.mpr ⟨z_sub_t1 84 rfl, rfl⟩
abbrev M_X5_repeal : z_M := (yX5_repeal, cX5_repeal, 1, none, [])
theorem kc_X5_repeal : z_code M_X5_repeal ∈ z_gw := List.mem_filter.mpr ⟨z_sub_t3 156 rfl, rfl⟩
abbrev M_X5_read : z_M := (yX5_read, cX5_read, 2, none, [])
theorem kc_X5_read : z_code M_X5_read ∈ z_gw := List.mem_filter.mpr ⟨z_sub_t3 177 rfl, rfl⟩
abbrev M_X5_readSum : z_M := (yX5_readSum, cX5_readSum, 4, none, [])
theorem kc_X5_readSum : z_code M_X5_readSum ∈ z_gw := List.mem_filter.mpr ⟨z_sub_t3 181 rfl, rfl⟩
abbrev M_X5_readProduct : z_M := (yX5_readProduct, cX5_readProduct, 4, none, [])
theorem kc_X5_readProduct : z_code M_X5_readProduct ∈ z_gw := List.mem_filter.mpr ⟨z_sub_t3 185 rfl, rfl⟩
abbrev M_X5_readUnit : z_M := (yX5_readUnit, cX5_readUnit, 4, none, [])
theorem kc_X5_readUnit : z_code M_X5_readUnit ∈ z_gw := List.mem_filter.mpr ⟨z_sub_t3 189 rfl, rfl⟩
abbrev M_X5_readTwo : z_M := (yX5_readTwo, cX5_readTwo, 4, none, [])
theorem kc_X5_readTwo : z_code M_X5_readTwo ∈ z_gw := List.mem_filter.mpr ⟨z_sub_t3 212 rfl, rfl⟩
abbrev M_X5_isDeepest : z_M := (yX5_isDeepest, cX5_isDeepest, 2, some .boolean, [])
theorem kc_X5_isDeepest : z_code M_X5_isDeepest ∈ z_gw := List.mem_filter.mpr ⟨z_sub_t3 204 rfl, rfl⟩
abbrev M_X5_write : z_M := (yX5_write, cX5_write, 2, none, [])
theorem kc_X5_write : z_code M_X5_write ∈ z_gw := List.mem_filter.mpr ⟨z_sub_t3 196 rfl, rfl⟩
abbrev M_X5_seats : z_M := (yX5_seats, cX5_seats, 8, some .boolean, [])
theorem kc_X5_seats : z_code M_X5_seats ∈ z_gw := List.mem_filter.mpr ⟨z_sub_t4 152 rfl, rfl⟩
abbrev M_X5_worth : z_M := (yX5_worth, cX5_worth, 4, some .int, [])
theorem kc_X5_worth : z_code M_X5_worth ∈ z_gw := List.mem_filter.mpr ⟨z_sub_t4 160 rfl, rfl⟩
abbrev M_X5_joined : z_M := (yX5_joined, cX5_joined, 3, some .int, [])
theorem kc_X5_joined : z_code M_X5_joined ∈ z_gw := List.mem_filter.mpr ⟨z_sub_t4 164 rfl, rfl⟩
abbrev M_X6_init : z_M := (yX6_init, cX6_init, 1, none, [])
theorem kc_X6_init : z_code M_X6_init ∈ z_gw := List.mem_filter.mpr ⟨z_sub_t1 189 rfl, rfl⟩
abbrev M_X6_fewestDips : z_M := (yX6_fewestDips, cX6_fewestDips, 5, some .int, [])
theorem kc_X6_fewestDips : z_code M_X6_fewestDips ∈ z_gw := List.mem_filter.mpr ⟨z_sub_t5 63 rfl, rfl⟩
abbrev M_X6_dipsVia : z_M := (yX6_dipsVia, cX6_dipsVia, 8, some .int, [])
theorem kc_X6_dipsVia : z_code M_X6_dipsVia ∈ z_gw := List.mem_filter.mpr ⟨z_sub_t5 67 rfl, rfl⟩
abbrev M_X6_dipOnTheWay : z_M := (yX6_dipOnTheWay, cX6_dipOnTheWay, 8, some .int, [])
theorem kc_X6_dipOnTheWay : z_code M_X6_dipOnTheWay ∈ z_gw := List.mem_filter.mpr ⟨z_sub_t5 82 rfl, rfl⟩
abbrev M_X6_firstDip : z_M := (yX6_firstDip, cX6_firstDip, 6, some .int, [])
theorem kc_X6_firstDip : z_code M_X6_firstDip ∈ z_gw := List.mem_filter.mpr ⟨z_sub_t5 87 rfl, rfl⟩
abbrev M_X6_mixAll : z_M := (yX6_mixAll, cX6_mixAll, 5, none, [])
theorem kc_X6_mixAll : z_code M_X6_mixAll ∈ z_gw := List.mem_filter.mpr ⟨z_sub_t5 98 rfl, rfl⟩
abbrev M_X6_mixOnce : z_M := (yX6_mixOnce, cX6_mixOnce, 4, none, [])
theorem kc_X6_mixOnce : z_code M_X6_mixOnce ∈ z_gw := List.mem_filter.mpr ⟨z_sub_t5 106 rfl, rfl⟩
abbrev M_X6_mixesOf : z_M := (yX6_mixesOf, cX6_mixesOf, 2, some .int, [])
theorem kc_X6_mixesOf : z_code M_X6_mixesOf ∈ z_gw := List.mem_filter.mpr ⟨z_sub_t5 110 rfl, rfl⟩
abbrev M_X6_dipsOf : z_M := (yX6_dipsOf, cX6_dipsOf, 2, some .int, [])
theorem kc_X6_dipsOf : z_code M_X6_dipsOf ∈ z_gw := List.mem_filter.mpr ⟨z_sub_t5 114 rfl, rfl⟩
abbrev M_X6_reachable : z_M := (yX6_reachable, cX6_reachable, 6, some .int, [])
theorem kc_X6_reachable : z_code M_X6_reachable ∈ z_gw := List.mem_filter.mpr ⟨z_sub_t5 125 rfl, rfl⟩
abbrev M_X7_init : z_M := (yX7_init, cX7_init, 1, none, [])
theorem kc_X7_init : z_code M_X7_init ∈ z_gw := List.mem_filter.mpr ⟨z_sub_t1 129 rfl, rfl⟩
abbrev M_X7_read : z_M := (yX7_read, cX7_read, 4, none, [])
theorem kc_X7_read : z_code M_X7_read ∈ z_gw := List.mem_filter.mpr ⟨z_sub_t3 225 rfl, rfl⟩
abbrev M_X7_readStep : z_M := (yX7_readStep, cX7_readStep, 6, none, [])
theorem kc_X7_readStep : z_code M_X7_readStep ∈ z_gw := List.mem_filter.mpr ⟨z_sub_t4 3 rfl, rfl⟩
abbrev M_X7_readAgain : z_M := (yX7_readAgain, cX7_readAgain, 3, none, [])
theorem kc_X7_readAgain : z_code M_X7_readAgain ∈ z_gw := List.mem_filter.mpr ⟨z_sub_t4 9 rfl, rfl⟩
abbrev M_X7_close : z_M := (yX7_close, cX7_close, 2, none, [])
theorem kc_X7_close : z_code M_X7_close ∈ z_gw := List.mem_filter.mpr ⟨z_sub_t3 231 rfl, rfl⟩
abbrev M_X7_write : z_M := (yX7_write, cX7_write, 4, none, [])
theorem kc_X7_write : z_code M_X7_write ∈ z_gw := List.mem_filter.mpr ⟨z_sub_t3 237 rfl, rfl⟩
abbrev M_X7_carryOut : z_M := (yX7_carryOut, cX7_carryOut, 7, none, [])
theorem kc_X7_carryOut : z_code M_X7_carryOut ∈ z_gw := List.mem_filter.mpr ⟨z_sub_t4 19 rfl, rfl⟩
abbrev M_X7_afterAgain : z_M := (yX7_afterAgain, cX7_afterAgain, 3, some .int, [])
theorem kc_X7_afterAgain : z_code M_X7_afterAgain ∈ z_gw := List.mem_filter.mpr ⟨z_sub_t4 28 rfl, rfl⟩
abbrev M_X7_afterTurn : z_M := (yX7_afterTurn, cX7_afterTurn, 3, some .int, [])
theorem kc_X7_afterTurn : z_code M_X7_afterTurn ∈ z_gw := List.mem_filter.mpr ⟨z_sub_t4 24 rfl, rfl⟩
abbrev M_X7_note : z_M := (yX7_note, cX7_note, 2, none, [])
theorem kc_X7_note : z_code M_X7_note ∈ z_gw := List.mem_filter.mpr ⟨z_sub_t4 98 rfl, rfl⟩
abbrev M_X7_tried : z_M := (yX7_tried, cX7_tried, 6, some .boolean, [])
theorem kc_X7_tried : z_code M_X7_tried ∈ z_gw := List.mem_filter.mpr ⟨z_sub_t4 32 rfl, rfl⟩
abbrev M_X7_lived : z_M := (yX7_lived, cX7_lived, 2, some .boolean, [])
theorem kc_X7_lived : z_code M_X7_lived ∈ z_gw := List.mem_filter.mpr ⟨z_sub_t4 84 rfl, rfl⟩
abbrev M_X8_init : z_M := (yX8_init, cX8_init, 1, none, [])
theorem kc_X8_init : z_code M_X8_init ∈ z_gw := List.mem_filter.mpr ⟨z_sub_t1 36 rfl, rfl⟩
abbrev M_X8_hasRoom : z_M := (yX8_hasRoom, cX8_hasRoom, 1, some .boolean, [])
theorem kc_X8_hasRoom : z_code M_X8_hasRoom ∈ z_gw := List.mem_filter.mpr ⟨z_sub_t2 98 rfl, rfl⟩
abbrev M_X8_add : z_M := (yX8_add, cX8_add, 3, none, [])
theorem kc_X8_add : z_code M_X8_add ∈ z_gw := List.mem_filter.mpr ⟨z_sub_t2 102 rfl, rfl⟩
abbrev M_X8_has : z_M := (yX8_has, cX8_has, 3, some .boolean, [])
theorem kc_X8_has : z_code M_X8_has ∈ z_gw := List.mem_filter.mpr ⟨z_sub_t2 194 rfl, rfl⟩
abbrev M_X8_open : z_M := (yX8_open, cX8_open, 2, none, [])
theorem kc_X8_open : z_code M_X8_open ∈ z_gw := List.mem_filter.mpr ⟨z_sub_t3 24 rfl, rfl⟩
abbrev M_X8_failed : z_M := (yX8_failed, cX8_failed, 1, some .boolean, [])
theorem kc_X8_failed : z_code M_X8_failed ∈ z_gw := List.mem_filter.mpr ⟨z_sub_t3 36 rfl, rfl⟩
abbrev M_X8_verdict : z_M := (yX8_verdict, cX8_verdict, 1, some .int, [])
theorem kc_X8_verdict : z_code M_X8_verdict ∈ z_gw := List.mem_filter.mpr ⟨z_sub_t3 140 rfl, rfl⟩
abbrev M_X8_next : z_M := (yX8_next, cX8_next, 1, some .int, [])
theorem kc_X8_next : z_code M_X8_next ∈ z_gw := List.mem_filter.mpr ⟨z_sub_t3 40 rfl, rfl⟩
abbrev M_X8_fail : z_M := (yX8_fail, cX8_fail, 3, none, [])
theorem kc_X8_fail : z_code M_X8_fail ∈ z_gw := List.mem_filter.mpr ⟨z_sub_t3 113 rfl, rfl⟩
abbrev M_X8_takesSign : z_M := (yX8_takesSign, cX8_takesSign, 2, some .boolean, [])
theorem kc_X8_takesSign : z_code M_X8_takesSign ∈ z_gw := List.mem_filter.mpr ⟨z_sub_t3 201 rfl, rfl⟩
abbrev M_X8_needSign : z_M := (yX8_needSign, cX8_needSign, 2, none, [])
theorem kc_X8_needSign : z_code M_X8_needSign ∈ z_gw := List.mem_filter.mpr ⟨z_sub_t3 135 rfl, rfl⟩
abbrev M_X8_takesWordOf : z_M := (yX8_takesWordOf, cX8_takesWordOf, 5, some .int, [])
theorem kc_X8_takesWordOf : z_code M_X8_takesWordOf ∈ z_gw := List.mem_filter.mpr ⟨z_sub_t3 53 rfl, rfl⟩
abbrev M_X8_comesNext : z_M := (yX8_comesNext, cX8_comesNext, 5, some .boolean, [])
theorem kc_X8_comesNext : z_code M_X8_comesNext ∈ z_gw := List.mem_filter.mpr ⟨z_sub_t3 105 rfl, rfl⟩
abbrev M_X8_needNumber : z_M := (yX8_needNumber, cX8_needNumber, 4, some .int, [])
theorem kc_X8_needNumber : z_code M_X8_needNumber ∈ z_gw := List.mem_filter.mpr ⟨z_sub_t3 121 rfl, rfl⟩
abbrev M_X8_pass : z_M := (yX8_pass, cX8_pass, 2, none, [])
theorem kc_X8_pass : z_code M_X8_pass ∈ z_gw := List.mem_filter.mpr ⟨z_sub_t3 28 rfl, rfl⟩
abbrev M_X8_byteAt : z_M := (yX8_byteAt, cX8_byteAt, 2, some .int, [])
theorem kc_X8_byteAt : z_code M_X8_byteAt ∈ z_gw := List.mem_filter.mpr ⟨z_sub_t3 44 rfl, rfl⟩
abbrev M_X9_init : z_M := (yX9_init, cX9_init, 2, none, [])
theorem kc_X9_init : z_code M_X9_init ∈ z_gw := List.mem_filter.mpr ⟨z_sub_t1 74 rfl, rfl⟩
abbrev M_X9_settle : z_M := (yX9_settle, cX9_settle, 3, none, [])
theorem kc_X9_settle : z_code M_X9_settle ∈ z_gw := List.mem_filter.mpr ⟨z_sub_t3 144 rfl, rfl⟩
abbrev M_X9_copyFrom : z_M := (yX9_copyFrom, cX9_copyFrom, 2, none, [])
theorem kc_X9_copyFrom : z_code M_X9_copyFrom ∈ z_gw := List.mem_filter.mpr ⟨z_sub_t5 44 rfl, rfl⟩
abbrev M_X9_saveTo : z_M := (yX9_saveTo, cX9_saveTo, 3, none, [])
theorem kc_X9_saveTo : z_code M_X9_saveTo ∈ z_gw := List.mem_filter.mpr ⟨z_sub_t2 163 rfl, rfl⟩
abbrev M_X9_loadFrom : z_M := (yX9_loadFrom, cX9_loadFrom, 3, none, [])
theorem kc_X9_loadFrom : z_code M_X9_loadFrom ∈ z_gw := List.mem_filter.mpr ⟨z_sub_t2 121 rfl, rfl⟩
abbrev M_X9_has : z_M := (yX9_has, cX9_has, 3, some .int, [])
theorem kc_X9_has : z_code M_X9_has ∈ z_gw := List.mem_filter.mpr ⟨z_sub_t2 144 rfl, rfl⟩
abbrev M_X9_set : z_M := (yX9_set, cX9_set, 4, none, [])
theorem kc_X9_set : z_code M_X9_set ∈ z_gw := List.mem_filter.mpr ⟨z_sub_t3 151 rfl, rfl⟩
abbrev M_X9_stored : z_M := (yX9_stored, cX9_stored, 2, some .int, [])
theorem kc_X9_stored : z_code M_X9_stored ∈ z_gw := List.mem_filter.mpr ⟨z_sub_t4 55 rfl, rfl⟩
abbrev M_X9_year : z_M := (yX9_year, cX9_year, 1, some .int, [])
theorem kc_X9_year : z_code M_X9_year ∈ z_gw := List.mem_filter.mpr ⟨z_sub_t4 88 rfl, rfl⟩
abbrev M_X9_dip : z_M := (yX9_dip, cX9_dip, 6, some .boolean, [])
theorem kc_X9_dip : z_code M_X9_dip ∈ z_gw := List.mem_filter.mpr ⟨z_sub_t4 41 rfl, rfl⟩
abbrev M_X9_affords : z_M := (yX9_affords, cX9_affords, 3, some .boolean, [])
theorem kc_X9_affords : z_code M_X9_affords ∈ z_gw := List.mem_filter.mpr ⟨z_sub_t4 51 rfl, rfl⟩
abbrev M_X9_wash : z_M := (yX9_wash, cX9_wash, 4, some .boolean, [])
theorem kc_X9_wash : z_code M_X9_wash ∈ z_gw := List.mem_filter.mpr ⟨z_sub_t4 59 rfl, rfl⟩
abbrev M_X9_salt : z_M := (yX9_salt, cX9_salt, 2, some .boolean, [])
theorem kc_X9_salt : z_code M_X9_salt ∈ z_gw := List.mem_filter.mpr ⟨z_sub_t4 66 rfl, rfl⟩
abbrev M_X9_rain : z_M := (yX9_rain, cX9_rain, 4, some .boolean, [])
theorem kc_X9_rain : z_code M_X9_rain ∈ z_gw := List.mem_filter.mpr ⟨z_sub_t4 70 rfl, rfl⟩
abbrev M_X9_rainShade : z_M := (yX9_rainShade, cX9_rainShade, 7, some .int, [])
theorem kc_X9_rainShade : z_code M_X9_rainShade ∈ z_gw := List.mem_filter.mpr ⟨z_sub_t2 136 rfl, rfl⟩
abbrev M_X9_marry : z_M := (yX9_marry, cX9_marry, 3, some .boolean, [])
theorem kc_X9_marry : z_code M_X9_marry ∈ z_gw := List.mem_filter.mpr ⟨z_sub_t4 75 rfl, rfl⟩
abbrev M_X9_passYear : z_M := (yX9_passYear, cX9_passYear, 5, none, [])
theorem kc_X9_passYear : z_code M_X9_passYear ∈ z_gw := List.mem_filter.mpr ⟨z_sub_t4 92 rfl, rfl⟩
abbrev M_X9_unsalted : z_M := (yX9_unsalted, cX9_unsalted, 4, some .int, [])
theorem kc_X9_unsalted : z_code M_X9_unsalted ∈ z_gw := List.mem_filter.mpr ⟨z_sub_t2 140 rfl, rfl⟩
abbrev M_X9_married : z_M := (yX9_married, cX9_married, 4, some .int, [])
theorem kc_X9_married : z_code M_X9_married ∈ z_gw := List.mem_filter.mpr ⟨z_sub_t4 172 rfl, rfl⟩
abbrev M_X9_allDyes : z_M := (yX9_allDyes, cX9_allDyes, 4, some .int, [])
theorem kc_X9_allDyes : z_code M_X9_allDyes ∈ z_gw := List.mem_filter.mpr ⟨z_sub_t6 68 rfl, rfl⟩
abbrev M_X9_unlikeShades : z_M := (yX9_unlikeShades, cX9_unlikeShades, 6, some .int, [])
theorem kc_X9_unlikeShades : z_code M_X9_unlikeShades ∈ z_gw := List.mem_filter.mpr ⟨z_sub_t4 177 rfl, rfl⟩
abbrev M_L_city : z_M := (yL_city, cL_city, 4, some .int, [(0, 9, 12, 13)])
theorem kc_L_city : z_code M_L_city ∈ z_gw := List.mem_filter.mpr ⟨z_sub_t2 185 rfl, rfl⟩
abbrev M_L_law : z_M := (yL_law, cL_law, 4, some .int, [(0, 9, 12, 13)])
theorem kc_L_law : z_code M_L_law ∈ z_gw := List.mem_filter.mpr ⟨z_sub_t3 169 rfl, rfl⟩
abbrev M_L_work : z_M := (yL_work, cL_work, 4, some .int, [(0, 9, 12, 13)])
theorem kc_L_work : z_code M_L_work ∈ z_gw := List.mem_filter.mpr ⟨z_sub_t3 217 rfl, rfl⟩
abbrev M_L_book : z_M := (yL_book, cL_book, 4, some .int, [(0, 9, 12, 13)])
theorem kc_L_book : z_code M_L_book ∈ z_gw := List.mem_filter.mpr ⟨z_sub_t4 101 rfl, rfl⟩
abbrev M_L_told : z_M := (yL_told, cL_told, 4, some .int, [(0, 9, 12, 13)])
theorem kc_L_told : z_code M_L_told ∈ z_gw := List.mem_filter.mpr ⟨z_sub_t4 120 rfl, rfl⟩
abbrev M_L_street : z_M := (yL_street, cL_street, 5, some .int, [(0, 10, 13, 31), (0, 10, 17, 13)])
theorem kc_L_street : z_code M_L_street ∈ z_gw := List.mem_filter.mpr ⟨z_sub_t4 180 rfl, rfl⟩
abbrev M_L_person : z_M := (yL_person, cL_person, 5, some .int, [(0, 10, 13, 31), (0, 10, 17, 13)])
theorem kc_L_person : z_code M_L_person ∈ z_gw := List.mem_filter.mpr ⟨z_sub_t4 221 rfl, rfl⟩
abbrev M_L_stock : z_M := (yL_stock, cL_stock, 4, some .int, [(0, 9, 12, 31)])
theorem kc_L_stock : z_code M_L_stock ∈ z_gw := List.mem_filter.mpr ⟨z_sub_t4 232 rfl, rfl⟩
abbrev M_L_would : z_M := (yL_would, cL_would, 9, some .int, [(0, 25, 28, 13)])
theorem kc_L_would : z_code M_L_would ∈ z_gw := List.mem_filter.mpr ⟨z_sub_t5 3 rfl, rfl⟩
abbrev M_L_distance : z_M := (yL_distance, cL_distance, 5, some .int, [(0, 10, 13, 13)])
theorem kc_L_distance : z_code M_L_distance ∈ z_gw := List.mem_filter.mpr ⟨z_sub_t5 13 rfl, rfl⟩
abbrev M_L_seems : z_M := (yL_seems, cL_seems, 4, some .int, [(0, 9, 12, 13)])
theorem kc_L_seems : z_code M_L_seems ∈ z_gw := List.mem_filter.mpr ⟨z_sub_t5 21 rfl, rfl⟩
abbrev M_L_dipped : z_M := (yL_dipped, cL_dipped, 5, some .int, [(0, 10, 13, 31), (0, 10, 17, 13)])
theorem kc_L_dipped : z_code M_L_dipped ∈ z_gw := List.mem_filter.mpr ⟨z_sub_t5 28 rfl, rfl⟩
abbrev M_L_when : z_M := (yL_when, cL_when, 5, some .int, [(0, 10, 13, 31), (0, 10, 17, 13)])
theorem kc_L_when : z_code M_L_when ∈ z_gw := List.mem_filter.mpr ⟨z_sub_t5 36 rfl, rfl⟩
abbrev M_L_sits : z_M := (yL_sits, cL_sits, 5, some .int, [(0, 10, 13, 31), (0, 10, 17, 13)])
theorem kc_L_sits : z_code M_L_sits ∈ z_gw := List.mem_filter.mpr ⟨z_sub_t5 48 rfl, rfl⟩
abbrev M_L_way : z_M := (yL_way, cL_way, 5, some .int, [(0, 10, 13, 13)])
theorem kc_L_way : z_code M_L_way ∈ z_gw := List.mem_filter.mpr ⟨z_sub_t5 55 rfl, rfl⟩
abbrev M_L_step : z_M := (yL_step, cL_step, 6, some .int, [(0, 12, 15, 13)])
theorem kc_L_step : z_code M_L_step ∈ z_gw := List.mem_filter.mpr ⟨z_sub_t5 74 rfl, rfl⟩
abbrev M_L_sums : z_M := (yL_sums, cL_sums, 5, some .int, [(0, 10, 13, 13)])
theorem kc_L_sums : z_code M_L_sums ∈ z_gw := List.mem_filter.mpr ⟨z_sub_t5 90 rfl, rfl⟩
abbrev M_L_tones : z_M := (yL_tones, cL_tones, 4, some .int, [(0, 9, 12, 13)])
theorem kc_L_tones : z_code M_L_tones ∈ z_gw := List.mem_filter.mpr ⟨z_sub_t5 117 rfl, rfl⟩
abbrev M_L_fits : z_M := (yL_fits, cL_fits, 4, some .int, [(0, 9, 12, 13)])
theorem kc_L_fits : z_code M_L_fits ∈ z_gw := List.mem_filter.mpr ⟨z_sub_t5 128 rfl, rfl⟩
abbrev M_L_look : z_M := (yL_look, cL_look, 4, some .int, [(0, 9, 12, 13)])
theorem kc_L_look : z_code M_L_look ∈ z_gw := List.mem_filter.mpr ⟨z_sub_t5 149 rfl, rfl⟩
abbrev M_L_match : z_M := (yL_match, cL_match, 4, some .int, [(0, 9, 12, 13)])
theorem kc_L_match : z_code M_L_match ∈ z_gw := List.mem_filter.mpr ⟨z_sub_t5 169 rfl, rfl⟩
abbrev M_L_bride : z_M := (yL_bride, cL_bride, 4, some .int, [(0, 9, 12, 31)])
theorem kc_L_bride : z_code M_L_bride ∈ z_gw := List.mem_filter.mpr ⟨z_sub_t5 224 rfl, rfl⟩
abbrev M_L_enough : z_M := (yL_enough, cL_enough, 4, some .int, [(0, 9, 12, 13)])
theorem kc_L_enough : z_code M_L_enough ∈ z_gw := List.mem_filter.mpr ⟨z_sub_t5 232 rfl, rfl⟩
abbrev M_L_level : z_M := (yL_level, cL_level, 5, some .int, [(0, 10, 13, 31), (0, 10, 17, 13)])
theorem kc_L_level : z_code M_L_level ∈ z_gw := List.mem_filter.mpr ⟨z_sub_t6 3 rfl, rfl⟩
abbrev M_L_night : z_M := (yL_night, cL_night, 6, some .int, [(0, 11, 14, 13)])
theorem kc_L_night : z_code M_L_night ∈ z_gw := List.mem_filter.mpr ⟨z_sub_t6 10 rfl, rfl⟩
abbrev M_L_guilds : z_M := (yL_guilds, cL_guilds, 4, some .int, [(0, 9, 12, 13)])
theorem kc_L_guilds : z_code M_L_guilds ∈ z_gw := List.mem_filter.mpr ⟨z_sub_t6 30 rfl, rfl⟩
abbrev M_L_follows : z_M := (yL_follows, cL_follows, 5, some .int, [(0, 10, 13, 31)])
theorem kc_L_follows : z_code M_L_follows ∈ z_gw := List.mem_filter.mpr ⟨z_sub_t6 53 rfl, rfl⟩
abbrev M_L_ahead : z_M := (yL_ahead, cL_ahead, 5, some .int, [(0, 10, 13, 13)])
theorem kc_L_ahead : z_code M_L_ahead ∈ z_gw := List.mem_filter.mpr ⟨z_sub_t6 60 rfl, rfl⟩
abbrev M_L_ages : z_M := (yL_ages, cL_ages, 7, some .int, [(0, 14, 17, 13)])
theorem kc_L_ages : z_code M_L_ages ∈ z_gw := List.mem_filter.mpr ⟨z_sub_t6 72 rfl, rfl⟩
abbrev M_L_span : z_M := (yL_span, cL_span, 8, some .int, [(0, 16, 19, 13)])
theorem kc_L_span : z_code M_L_span ∈ z_gw := List.mem_filter.mpr ⟨z_sub_t6 92 rfl, rfl⟩
abbrev M_L_law_ : z_M := (yL_law_, cL_law_, 8, some .boolean, [])
abbrev M_J6_bitCount_0f7a4 : z_M := (yJ6_bitCount_0f7a4, cJ6_bitCount_0f7a4, 1, some .int, [])
theorem kc_J6_bitCount_0f7a4 : z_code M_J6_bitCount_0f7a4 ∈ z_gw := List.mem_filter.mpr ⟨z_sub_t6 20 rfl, rfl⟩
theorem kz_226 : Cond.laysFinal RX0 "DyeStreets$Book" "values" "[I" ∈ z_gw := List.mem_filter.mpr ⟨z_sub_t1 118 rfl, rfl⟩
theorem kz_228 : Cond.laysFinal RX0 "DyeStreets$Book" "draft" "[I" ∈ z_gw := List.mem_filter.mpr ⟨z_sub_t1 120 rfl, rfl⟩
theorem kz_230 : Cond.lays RX0 "DyeStreets$Book" "lines" "I" ∈ z_gw := List.mem_filter.mpr ⟨z_sub_t1 122 rfl, rfl⟩
theorem kl_0 : z_cl 0 RX0 TX0 3 := ⟨rfl, List.forall_mem_cons.mpr ⟨kz_226, List.forall_mem_cons.mpr ⟨kz_228, List.forall_mem_cons.mpr ⟨kz_230, fun _ h => absurd h List.not_mem_nil⟩⟩⟩⟩
theorem kz_376 : Cond.laysFinal RX1 "DyeStreets$City" "vats" "[I" ∈ z_gw := List.mem_filter.mpr ⟨z_sub_t2 28 rfl, rfl⟩
theorem kz_378 : Cond.laysFinal RX1 "DyeStreets$City" "ranks" "[I" ∈ z_gw := List.mem_filter.mpr ⟨z_sub_t2 30 rfl, rfl⟩
theorem kz_380 : Cond.laysFinal RX1 "DyeStreets$City" "homes" "[I" ∈ z_gw := List.mem_filter.mpr ⟨z_sub_t2 32 rfl, rfl⟩
theorem kz_382 : Cond.laysFinal RX1 "DyeStreets$City" "firstAges" "[I" ∈ z_gw := List.mem_filter.mpr ⟨z_sub_t2 34 rfl, rfl⟩
theorem kz_384 : Cond.laysFinal RX1 "DyeStreets$City" "firstStocks" "[I" ∈ z_gw := List.mem_filter.mpr ⟨z_sub_t2 36 rfl, rfl⟩
theorem kz_386 : Cond.lays RX1 "DyeStreets$City" "streets" "I" ∈ z_gw := List.mem_filter.mpr ⟨z_sub_t2 38 rfl, rfl⟩
theorem kz_388 : Cond.lays RX1 "DyeStreets$City" "people" "I" ∈ z_gw := List.mem_filter.mpr ⟨z_sub_t2 40 rfl, rfl⟩
theorem kz_390 : Cond.lays RX1 "DyeStreets$City" "river" "I" ∈ z_gw := List.mem_filter.mpr ⟨z_sub_t2 42 rfl, rfl⟩
theorem kl_1 : z_cl 1 RX1 TX1 8 := ⟨rfl, List.forall_mem_cons.mpr ⟨kz_376, List.forall_mem_cons.mpr ⟨kz_378, List.forall_mem_cons.mpr ⟨kz_380, List.forall_mem_cons.mpr ⟨kz_382, List.forall_mem_cons.mpr ⟨kz_384, List.forall_mem_cons.mpr ⟨kz_386, List.forall_mem_cons.mpr ⟨kz_388, List.forall_mem_cons.mpr ⟨kz_390, fun _ h => absurd h List.not_mem_nil⟩⟩⟩⟩⟩⟩⟩⟩⟩
theorem kz_319 : Cond.laysFinal RX2 "DyeStreets$Couples" "best" "[I" ∈ z_gw := List.mem_filter.mpr ⟨z_sub_t1 211 rfl, rfl⟩
theorem kz_321 : Cond.laysFinal RX2 "DyeStreets$Couples" "gains" "[I" ∈ z_gw := List.mem_filter.mpr ⟨z_sub_t1 213 rfl, rfl⟩
theorem kz_323 : Cond.laysFinal RX2 "DyeStreets$Couples" "partners" "[I" ∈ z_gw := List.mem_filter.mpr ⟨z_sub_t1 215 rfl, rfl⟩
theorem kz_325 : Cond.lays RX2 "DyeStreets$Couples" "pairs" "I" ∈ z_gw := List.mem_filter.mpr ⟨z_sub_t1 217 rfl, rfl⟩
theorem kz_327 : Cond.lays RX2 "DyeStreets$Couples" "distances" "I" ∈ z_gw := List.mem_filter.mpr ⟨z_sub_t1 219 rfl, rfl⟩
theorem kl_2 : z_cl 2 RX2 TX2 5 := ⟨rfl, List.forall_mem_cons.mpr ⟨kz_319, List.forall_mem_cons.mpr ⟨kz_321, List.forall_mem_cons.mpr ⟨kz_323, List.forall_mem_cons.mpr ⟨kz_325, List.forall_mem_cons.mpr ⟨kz_327, fun _ h => absurd h List.not_mem_nil⟩⟩⟩⟩⟩⟩
theorem kz_341 : Cond.lays RX3 "DyeStreets$Fate" "seed" "I" ∈ z_gw := List.mem_filter.mpr ⟨z_sub_t1 233 rfl, rfl⟩
theorem kz_343 : Cond.lays RX3 "DyeStreets$Fate" "dips" "I" ∈ z_gw := List.mem_filter.mpr ⟨z_sub_t1 235 rfl, rfl⟩
theorem kz_345 : Cond.lays RX3 "DyeStreets$Fate" "rains" "I" ∈ z_gw := List.mem_filter.mpr ⟨z_sub_t1 237 rfl, rfl⟩
theorem kl_3 : z_cl 3 RX3 TX3 3 := ⟨rfl, List.forall_mem_cons.mpr ⟨kz_341, List.forall_mem_cons.mpr ⟨kz_343, List.forall_mem_cons.mpr ⟨kz_345, fun _ h => absurd h List.not_mem_nil⟩⟩⟩⟩
theorem kz_282 : Cond.laysFinal RX4 "DyeStreets$History" "past" "[I" ∈ z_gw := List.mem_filter.mpr ⟨z_sub_t1 174 rfl, rfl⟩
theorem kz_284 : Cond.laysFinal RX4 "DyeStreets$History" "pictures" "[I" ∈ z_gw := List.mem_filter.mpr ⟨z_sub_t1 176 rfl, rfl⟩
theorem kz_286 : Cond.laysFinal RX4 "DyeStreets$History" "pictureWorks" "[I" ∈ z_gw := List.mem_filter.mpr ⟨z_sub_t1 178 rfl, rfl⟩
theorem kz_288 : Cond.lays RX4 "DyeStreets$History" "works" "I" ∈ z_gw := List.mem_filter.mpr ⟨z_sub_t1 180 rfl, rfl⟩
theorem kz_290 : Cond.lays RX4 "DyeStreets$History" "images" "I" ∈ z_gw := List.mem_filter.mpr ⟨z_sub_t1 182 rfl, rfl⟩
theorem kl_4 : z_cl 4 RX4 TX4 5 := ⟨rfl, List.forall_mem_cons.mpr ⟨kz_282, List.forall_mem_cons.mpr ⟨kz_284, List.forall_mem_cons.mpr ⟨kz_286, List.forall_mem_cons.mpr ⟨kz_288, List.forall_mem_cons.mpr ⟨kz_290, fun _ h => absurd h List.not_mem_nil⟩⟩⟩⟩⟩⟩
theorem kz_201 : Cond.laysFinal RX5 "DyeStreets$Law" "code" "[I" ∈ z_gw := List.mem_filter.mpr ⟨z_sub_t1 93 rfl, rfl⟩
theorem kz_203 : Cond.laysFinal RX5 "DyeStreets$Law" "draft" "[I" ∈ z_gw := List.mem_filter.mpr ⟨z_sub_t1 95 rfl, rfl⟩
theorem kz_205 : Cond.laysFinal RX5 "DyeStreets$Law" "pile" "[I" ∈ z_gw := List.mem_filter.mpr ⟨z_sub_t1 97 rfl, rfl⟩
theorem kz_207 : Cond.laysFinal RX5 "DyeStreets$Law" "facts" "[I" ∈ z_gw := List.mem_filter.mpr ⟨z_sub_t1 99 rfl, rfl⟩
theorem kz_209 : Cond.lays RX5 "DyeStreets$Law" "entries" "I" ∈ z_gw := List.mem_filter.mpr ⟨z_sub_t1 101 rfl, rfl⟩
theorem kz_211 : Cond.lays RX5 "DyeStreets$Law" "drafted" "I" ∈ z_gw := List.mem_filter.mpr ⟨z_sub_t1 103 rfl, rfl⟩
theorem kz_213 : Cond.lays RX5 "DyeStreets$Law" "given" "Z" ∈ z_gw := List.mem_filter.mpr ⟨z_sub_t1 105 rfl, rfl⟩
theorem kl_5 : z_cl 5 RX5 TX5 7 := ⟨rfl, List.forall_mem_cons.mpr ⟨kz_201, List.forall_mem_cons.mpr ⟨kz_203, List.forall_mem_cons.mpr ⟨kz_205, List.forall_mem_cons.mpr ⟨kz_207, List.forall_mem_cons.mpr ⟨kz_209, List.forall_mem_cons.mpr ⟨kz_211, List.forall_mem_cons.mpr ⟨kz_213, fun _ h => absurd h List.not_mem_nil⟩⟩⟩⟩⟩⟩⟩⟩
theorem kz_301 : Cond.laysFinal RX6 "DyeStreets$Palette" "dips" "[I" ∈ z_gw := List.mem_filter.mpr ⟨z_sub_t1 193 rfl, rfl⟩
theorem kz_303 : Cond.laysFinal RX6 "DyeStreets$Palette" "mixes" "[I" ∈ z_gw := List.mem_filter.mpr ⟨z_sub_t1 195 rfl, rfl⟩
theorem kl_6 : z_cl 6 RX6 TX6 2 := ⟨rfl, List.forall_mem_cons.mpr ⟨kz_301, List.forall_mem_cons.mpr ⟨kz_303, fun _ h => absurd h List.not_mem_nil⟩⟩⟩
theorem kz_250 : Cond.laysFinal RX7 "DyeStreets$Plan" "kinds" "[I" ∈ z_gw := List.mem_filter.mpr ⟨z_sub_t1 142 rfl, rfl⟩
theorem kz_252 : Cond.laysFinal RX7 "DyeStreets$Plan" "firsts" "[I" ∈ z_gw := List.mem_filter.mpr ⟨z_sub_t1 144 rfl, rfl⟩
theorem kz_254 : Cond.laysFinal RX7 "DyeStreets$Plan" "seconds" "[I" ∈ z_gw := List.mem_filter.mpr ⟨z_sub_t1 146 rfl, rfl⟩
theorem kz_256 : Cond.laysFinal RX7 "DyeStreets$Plan" "opened" "[I" ∈ z_gw := List.mem_filter.mpr ⟨z_sub_t1 148 rfl, rfl⟩
theorem kz_258 : Cond.laysFinal RX7 "DyeStreets$Plan" "turns" "[I" ∈ z_gw := List.mem_filter.mpr ⟨z_sub_t1 150 rfl, rfl⟩
theorem kz_260 : Cond.lays RX7 "DyeStreets$Plan" "entries" "I" ∈ z_gw := List.mem_filter.mpr ⟨z_sub_t1 152 rfl, rfl⟩
theorem kz_262 : Cond.lays RX7 "DyeStreets$Plan" "open" "I" ∈ z_gw := List.mem_filter.mpr ⟨z_sub_t1 154 rfl, rfl⟩
theorem kz_264 : Cond.lays RX7 "DyeStreets$Plan" "done" "I" ∈ z_gw := List.mem_filter.mpr ⟨z_sub_t1 156 rfl, rfl⟩
theorem kz_266 : Cond.lays RX7 "DyeStreets$Plan" "refused" "I" ∈ z_gw := List.mem_filter.mpr ⟨z_sub_t1 158 rfl, rfl⟩
theorem kl_7 : z_cl 7 RX7 TX7 9 := ⟨rfl, List.forall_mem_cons.mpr ⟨kz_250, List.forall_mem_cons.mpr ⟨kz_252, List.forall_mem_cons.mpr ⟨kz_254, List.forall_mem_cons.mpr ⟨kz_256, List.forall_mem_cons.mpr ⟨kz_258, List.forall_mem_cons.mpr ⟨kz_260, List.forall_mem_cons.mpr ⟨kz_262, List.forall_mem_cons.mpr ⟨kz_264, List.forall_mem_cons.mpr ⟨kz_266, fun _ h => absurd h List.not_mem_nil⟩⟩⟩⟩⟩⟩⟩⟩⟩⟩
theorem kz_162 : Cond.laysFinal RX8 "DyeStreets$Text" "tape" "[I" ∈ z_gw := List.mem_filter.mpr ⟨z_sub_t1 54 rfl, rfl⟩
theorem kz_164 : Cond.lays RX8 "DyeStreets$Text" "fed" "I" ∈ z_gw := List.mem_filter.mpr ⟨z_sub_t1 56 rfl, rfl⟩
theorem kz_166 : Cond.lays RX8 "DyeStreets$Text" "length" "I" ∈ z_gw := List.mem_filter.mpr ⟨z_sub_t1 58 rfl, rfl⟩
theorem kz_168 : Cond.lays RX8 "DyeStreets$Text" "here" "I" ∈ z_gw := List.mem_filter.mpr ⟨z_sub_t1 60 rfl, rfl⟩
theorem kz_170 : Cond.lays RX8 "DyeStreets$Text" "mark" "I" ∈ z_gw := List.mem_filter.mpr ⟨z_sub_t1 62 rfl, rfl⟩
theorem kz_172 : Cond.lays RX8 "DyeStreets$Text" "kind" "I" ∈ z_gw := List.mem_filter.mpr ⟨z_sub_t1 64 rfl, rfl⟩
theorem kz_174 : Cond.lays RX8 "DyeStreets$Text" "place" "I" ∈ z_gw := List.mem_filter.mpr ⟨z_sub_t1 66 rfl, rfl⟩
theorem kl_8 : z_cl 8 RX8 TX8 7 := ⟨rfl, List.forall_mem_cons.mpr ⟨kz_162, List.forall_mem_cons.mpr ⟨kz_164, List.forall_mem_cons.mpr ⟨kz_166, List.forall_mem_cons.mpr ⟨kz_168, List.forall_mem_cons.mpr ⟨kz_170, List.forall_mem_cons.mpr ⟨kz_172, List.forall_mem_cons.mpr ⟨kz_174, fun _ h => absurd h List.not_mem_nil⟩⟩⟩⟩⟩⟩⟩⟩
theorem kz_185 : Cond.laysFinal RX9 "DyeStreets$Town" "cells" "[I" ∈ z_gw := List.mem_filter.mpr ⟨z_sub_t1 77 rfl, rfl⟩
theorem kl_9 : z_cl 9 RX9 TX9 1 := ⟨rfl, List.forall_mem_cons.mpr ⟨kz_185, fun _ h => absurd h List.not_mem_nil⟩⟩
theorem kz_408 : Cond.laysFinal RX10 "DyeStreets" "text" "LDyeStreets$Text;" ∈ z_gw := List.mem_filter.mpr ⟨z_sub_t2 60 rfl, rfl⟩
theorem kz_410 : Cond.laysFinal RX10 "DyeStreets" "town" "LDyeStreets$Town;" ∈ z_gw := List.mem_filter.mpr ⟨z_sub_t2 62 rfl, rfl⟩
theorem kz_412 : Cond.laysFinal RX10 "DyeStreets" "thought" "LDyeStreets$Town;" ∈ z_gw := List.mem_filter.mpr ⟨z_sub_t2 64 rfl, rfl⟩
theorem kz_414 : Cond.laysFinal RX10 "DyeStreets" "law" "LDyeStreets$Law;" ∈ z_gw := List.mem_filter.mpr ⟨z_sub_t2 66 rfl, rfl⟩
theorem kz_416 : Cond.laysFinal RX10 "DyeStreets" "book" "LDyeStreets$Book;" ∈ z_gw := List.mem_filter.mpr ⟨z_sub_t2 68 rfl, rfl⟩
theorem kz_418 : Cond.laysFinal RX10 "DyeStreets" "plan" "LDyeStreets$Plan;" ∈ z_gw := List.mem_filter.mpr ⟨z_sub_t2 70 rfl, rfl⟩
theorem kz_420 : Cond.laysFinal RX10 "DyeStreets" "history" "LDyeStreets$History;" ∈ z_gw := List.mem_filter.mpr ⟨z_sub_t2 72 rfl, rfl⟩
theorem kz_422 : Cond.laysFinal RX10 "DyeStreets" "palette" "LDyeStreets$Palette;" ∈ z_gw := List.mem_filter.mpr ⟨z_sub_t2 74 rfl, rfl⟩
theorem kz_424 : Cond.laysFinal RX10 "DyeStreets" "couples" "LDyeStreets$Couples;" ∈ z_gw := List.mem_filter.mpr ⟨z_sub_t2 76 rfl, rfl⟩
theorem kz_426 : Cond.laysFinal RX10 "DyeStreets" "fate" "LDyeStreets$Fate;" ∈ z_gw := List.mem_filter.mpr ⟨z_sub_t2 78 rfl, rfl⟩
theorem kz_428 : Cond.laysFinal RX10 "DyeStreets" "goers" "[I" ∈ z_gw := List.mem_filter.mpr ⟨z_sub_t2 80 rfl, rfl⟩
theorem kz_430 : Cond.lays RX10 "DyeStreets" "city" "LDyeStreets$City;" ∈ z_gw := List.mem_filter.mpr ⟨z_sub_t2 82 rfl, rfl⟩
theorem kz_432 : Cond.lays RX10 "DyeStreets" "refusedSteps" "I" ∈ z_gw := List.mem_filter.mpr ⟨z_sub_t2 84 rfl, rfl⟩
theorem kz_434 : Cond.lays RX10 "DyeStreets" "missingCalls" "I" ∈ z_gw := List.mem_filter.mpr ⟨z_sub_t2 86 rfl, rfl⟩
theorem kz_436 : Cond.lays RX10 "DyeStreets" "illegalCalls" "I" ∈ z_gw := List.mem_filter.mpr ⟨z_sub_t2 88 rfl, rfl⟩
theorem kl_10 : z_cl 10 RX10 TX10 15 := ⟨rfl, List.forall_mem_cons.mpr ⟨kz_408, List.forall_mem_cons.mpr ⟨kz_410, List.forall_mem_cons.mpr ⟨kz_412, List.forall_mem_cons.mpr ⟨kz_414, List.forall_mem_cons.mpr ⟨kz_416, List.forall_mem_cons.mpr ⟨kz_418, List.forall_mem_cons.mpr ⟨kz_420, List.forall_mem_cons.mpr ⟨kz_422, List.forall_mem_cons.mpr ⟨kz_424, List.forall_mem_cons.mpr ⟨kz_426, List.forall_mem_cons.mpr ⟨kz_428, List.forall_mem_cons.mpr ⟨kz_430, List.forall_mem_cons.mpr ⟨kz_432, List.forall_mem_cons.mpr ⟨kz_434, List.forall_mem_cons.mpr ⟨kz_436, fun _ h => absurd h List.not_mem_nil⟩⟩⟩⟩⟩⟩⟩⟩⟩⟩⟩⟩⟩⟩⟩⟩
theorem kz_1483 : Cond.lays RX11 "DyeStreetsModel" "thrown" "I" ∈ z_gw := List.mem_filter.mpr ⟨z_sub_t6 175 rfl, rfl⟩
theorem kz_1485 : Cond.laysFinal RX11 "DyeStreetsModel" "refused" "[I" ∈ z_gw := List.mem_filter.mpr ⟨z_sub_t6 177 rfl, rfl⟩
theorem kz_1487 : Cond.lays RX11 "DyeStreetsModel" "taped" "I" ∈ z_gw := List.mem_filter.mpr ⟨z_sub_t6 179 rfl, rfl⟩
theorem kz_1489 : Cond.lays RX11 "DyeStreetsModel" "size" "I" ∈ z_gw := List.mem_filter.mpr ⟨z_sub_t6 181 rfl, rfl⟩
theorem kz_1491 : Cond.lays RX11 "DyeStreetsModel" "at" "I" ∈ z_gw := List.mem_filter.mpr ⟨z_sub_t6 183 rfl, rfl⟩
theorem kz_1493 : Cond.lays RX11 "DyeStreetsModel" "bad" "I" ∈ z_gw := List.mem_filter.mpr ⟨z_sub_t6 185 rfl, rfl⟩
theorem kz_1495 : Cond.lays RX11 "DyeStreetsModel" "badKind" "I" ∈ z_gw := List.mem_filter.mpr ⟨z_sub_t6 187 rfl, rfl⟩
theorem kz_1497 : Cond.lays RX11 "DyeStreetsModel" "opens" "I" ∈ z_gw := List.mem_filter.mpr ⟨z_sub_t6 189 rfl, rfl⟩
theorem kz_1499 : Cond.lays RX11 "DyeStreetsModel" "faultAt" "I" ∈ z_gw := List.mem_filter.mpr ⟨z_sub_t6 191 rfl, rfl⟩
theorem kz_1501 : Cond.laysFinal RX11 "DyeStreetsModel" "tape" "[I" ∈ z_gw := List.mem_filter.mpr ⟨z_sub_t6 193 rfl, rfl⟩
theorem kz_1503 : Cond.laysFinal RX11 "DyeStreetsModel" "newStreet" "[I" ∈ z_gw := List.mem_filter.mpr ⟨z_sub_t6 195 rfl, rfl⟩
theorem kz_1505 : Cond.laysFinal RX11 "DyeStreetsModel" "newBirth" "[I" ∈ z_gw := List.mem_filter.mpr ⟨z_sub_t6 197 rfl, rfl⟩
theorem kz_1507 : Cond.laysFinal RX11 "DyeStreetsModel" "newAge" "[I" ∈ z_gw := List.mem_filter.mpr ⟨z_sub_t6 199 rfl, rfl⟩
theorem kz_1509 : Cond.laysFinal RX11 "DyeStreetsModel" "newStock" "[I" ∈ z_gw := List.mem_filter.mpr ⟨z_sub_t6 201 rfl, rfl⟩
theorem kz_1511 : Cond.laysFinal RX11 "DyeStreetsModel" "street" "[I" ∈ z_gw := List.mem_filter.mpr ⟨z_sub_t6 203 rfl, rfl⟩
theorem kz_1513 : Cond.laysFinal RX11 "DyeStreetsModel" "birth" "[I" ∈ z_gw := List.mem_filter.mpr ⟨z_sub_t6 205 rfl, rfl⟩
theorem kz_1515 : Cond.lays RX11 "DyeStreetsModel" "newStreets" "I" ∈ z_gw := List.mem_filter.mpr ⟨z_sub_t6 207 rfl, rfl⟩
theorem kz_1517 : Cond.lays RX11 "DyeStreetsModel" "newPersons" "I" ∈ z_gw := List.mem_filter.mpr ⟨z_sub_t6 209 rfl, rfl⟩
theorem kz_1519 : Cond.lays RX11 "DyeStreetsModel" "newRiver" "I" ∈ z_gw := List.mem_filter.mpr ⟨z_sub_t6 211 rfl, rfl⟩
theorem kz_1521 : Cond.lays RX11 "DyeStreetsModel" "streets" "I" ∈ z_gw := List.mem_filter.mpr ⟨z_sub_t6 213 rfl, rfl⟩
theorem kz_1523 : Cond.lays RX11 "DyeStreetsModel" "persons" "I" ∈ z_gw := List.mem_filter.mpr ⟨z_sub_t6 215 rfl, rfl⟩
theorem kz_1525 : Cond.lays RX11 "DyeStreetsModel" "river" "I" ∈ z_gw := List.mem_filter.mpr ⟨z_sub_t6 217 rfl, rfl⟩
theorem kz_1527 : Cond.laysFinal RX11 "DyeStreetsModel" "newCode" "[I" ∈ z_gw := List.mem_filter.mpr ⟨z_sub_t6 219 rfl, rfl⟩
theorem kz_1529 : Cond.laysFinal RX11 "DyeStreetsModel" "newOf" "[I" ∈ z_gw := List.mem_filter.mpr ⟨z_sub_t6 221 rfl, rfl⟩
theorem kz_1531 : Cond.laysFinal RX11 "DyeStreetsModel" "code" "[I" ∈ z_gw := List.mem_filter.mpr ⟨z_sub_t6 223 rfl, rfl⟩
theorem kz_1533 : Cond.laysFinal RX11 "DyeStreetsModel" "ofCode" "[I" ∈ z_gw := List.mem_filter.mpr ⟨z_sub_t6 225 rfl, rfl⟩
theorem kz_1535 : Cond.laysFinal RX11 "DyeStreetsModel" "stack" "[I" ∈ z_gw := List.mem_filter.mpr ⟨z_sub_t6 227 rfl, rfl⟩
theorem kz_1537 : Cond.lays RX11 "DyeStreetsModel" "newCodes" "I" ∈ z_gw := List.mem_filter.mpr ⟨z_sub_t6 229 rfl, rfl⟩
theorem kz_1539 : Cond.lays RX11 "DyeStreetsModel" "codes" "I" ∈ z_gw := List.mem_filter.mpr ⟨z_sub_t6 231 rfl, rfl⟩
theorem kz_1541 : Cond.laysFinal RX11 "DyeStreetsModel" "facts" "[I" ∈ z_gw := List.mem_filter.mpr ⟨z_sub_t6 233 rfl, rfl⟩
theorem kz_1543 : Cond.laysFinal RX11 "DyeStreetsModel" "newStep" "[I" ∈ z_gw := List.mem_filter.mpr ⟨z_sub_t6 235 rfl, rfl⟩
theorem kz_1545 : Cond.laysFinal RX11 "DyeStreetsModel" "step" "[I" ∈ z_gw := List.mem_filter.mpr ⟨z_sub_t6 237 rfl, rfl⟩
theorem kz_1547 : Cond.lays RX11 "DyeStreetsModel" "newSteps" "I" ∈ z_gw := List.mem_filter.mpr ⟨z_sub_t6 239 rfl, rfl⟩
theorem kz_1549 : Cond.lays RX11 "DyeStreetsModel" "works" "I" ∈ z_gw := List.mem_filter.mpr ⟨z_sub_t7 1 rfl, rfl⟩
theorem kz_1551 : Cond.lays RX11 "DyeStreetsModel" "refusedSteps" "I" ∈ z_gw := List.mem_filter.mpr ⟨z_sub_t7 3 rfl, rfl⟩
theorem kz_1553 : Cond.lays RX11 "DyeStreetsModel" "begun" "I" ∈ z_gw := List.mem_filter.mpr ⟨z_sub_t7 5 rfl, rfl⟩
theorem kz_1555 : Cond.lays RX11 "DyeStreetsModel" "done" "I" ∈ z_gw := List.mem_filter.mpr ⟨z_sub_t7 7 rfl, rfl⟩
theorem kz_1557 : Cond.lays RX11 "DyeStreetsModel" "refusedNow" "I" ∈ z_gw := List.mem_filter.mpr ⟨z_sub_t7 9 rfl, rfl⟩
theorem kz_1559 : Cond.laysFinal RX11 "DyeStreetsModel" "now" "[I" ∈ z_gw := List.mem_filter.mpr ⟨z_sub_t7 11 rfl, rfl⟩
theorem kz_1561 : Cond.laysFinal RX11 "DyeStreetsModel" "s" "[I" ∈ z_gw := List.mem_filter.mpr ⟨z_sub_t7 13 rfl, rfl⟩
theorem kz_1563 : Cond.laysFinal RX11 "DyeStreetsModel" "past" "[I" ∈ z_gw := List.mem_filter.mpr ⟨z_sub_t7 15 rfl, rfl⟩
theorem kz_1565 : Cond.laysFinal RX11 "DyeStreetsModel" "newBook" "[I" ∈ z_gw := List.mem_filter.mpr ⟨z_sub_t7 17 rfl, rfl⟩
theorem kz_1567 : Cond.laysFinal RX11 "DyeStreetsModel" "book" "[I" ∈ z_gw := List.mem_filter.mpr ⟨z_sub_t7 19 rfl, rfl⟩
theorem kz_1569 : Cond.lays RX11 "DyeStreetsModel" "lines" "I" ∈ z_gw := List.mem_filter.mpr ⟨z_sub_t7 21 rfl, rfl⟩
theorem kz_1571 : Cond.laysFinal RX11 "DyeStreetsModel" "leftTo" "[I" ∈ z_gw := List.mem_filter.mpr ⟨z_sub_t7 23 rfl, rfl⟩
theorem kz_1573 : Cond.laysFinal RX11 "DyeStreetsModel" "queue" "[I" ∈ z_gw := List.mem_filter.mpr ⟨z_sub_t7 25 rfl, rfl⟩
theorem kz_1575 : Cond.lays RX11 "DyeStreetsModel" "sumMany" "I" ∈ z_gw := List.mem_filter.mpr ⟨z_sub_t7 27 rfl, rfl⟩
theorem kz_1577 : Cond.lays RX11 "DyeStreetsModel" "sumLeast" "I" ∈ z_gw := List.mem_filter.mpr ⟨z_sub_t7 29 rfl, rfl⟩
theorem kz_1579 : Cond.laysFinal RX11 "DyeStreetsModel" "bestOn" "[I" ∈ z_gw := List.mem_filter.mpr ⟨z_sub_t7 31 rfl, rfl⟩
theorem kz_1581 : Cond.laysFinal RX11 "DyeStreetsModel" "bridal" "[I" ∈ z_gw := List.mem_filter.mpr ⟨z_sub_t7 33 rfl, rfl⟩
theorem kz_1583 : Cond.lays RX11 "DyeStreetsModel" "seedNow" "I" ∈ z_gw := List.mem_filter.mpr ⟨z_sub_t7 35 rfl, rfl⟩
theorem kz_1585 : Cond.lays RX11 "DyeStreetsModel" "dipsDone" "I" ∈ z_gw := List.mem_filter.mpr ⟨z_sub_t7 37 rfl, rfl⟩
theorem kz_1587 : Cond.lays RX11 "DyeStreetsModel" "rainsDone" "I" ∈ z_gw := List.mem_filter.mpr ⟨z_sub_t7 39 rfl, rfl⟩
theorem kz_1589 : Cond.laysFinal RX11 "DyeStreetsModel" "image" "[I" ∈ z_gw := List.mem_filter.mpr ⟨z_sub_t7 41 rfl, rfl⟩
theorem kz_1591 : Cond.lays RX11 "DyeStreetsModel" "images" "I" ∈ z_gw := List.mem_filter.mpr ⟨z_sub_t7 43 rfl, rfl⟩
theorem kl_11 : z_cl 11 RX11 TX11 55 := ⟨rfl, List.forall_mem_cons.mpr ⟨kz_1483, List.forall_mem_cons.mpr ⟨kz_1485, List.forall_mem_cons.mpr ⟨kz_1487, List.forall_mem_cons.mpr ⟨kz_1489, List.forall_mem_cons.mpr ⟨kz_1491, List.forall_mem_cons.mpr ⟨kz_1493, List.forall_mem_cons.mpr ⟨kz_1495, List.forall_mem_cons.mpr ⟨kz_1497, List.forall_mem_cons.mpr ⟨kz_1499, List.forall_mem_cons.mpr ⟨kz_1501, List.forall_mem_cons.mpr ⟨kz_1503, List.forall_mem_cons.mpr ⟨kz_1505, List.forall_mem_cons.mpr ⟨kz_1507, List.forall_mem_cons.mpr ⟨kz_1509, List.forall_mem_cons.mpr ⟨kz_1511, List.forall_mem_cons.mpr ⟨kz_1513, List.forall_mem_cons.mpr ⟨kz_1515, List.forall_mem_cons.mpr ⟨kz_1517, List.forall_mem_cons.mpr ⟨kz_1519, List.forall_mem_cons.mpr ⟨kz_1521, List.forall_mem_cons.mpr ⟨kz_1523, List.forall_mem_cons.mpr ⟨kz_1525, List.forall_mem_cons.mpr ⟨kz_1527, List.forall_mem_cons.mpr ⟨kz_1529, List.forall_mem_cons.mpr ⟨kz_1531, List.forall_mem_cons.mpr ⟨kz_1533, List.forall_mem_cons.mpr ⟨kz_1535, List.forall_mem_cons.mpr ⟨kz_1537, List.forall_mem_cons.mpr ⟨kz_1539, List.forall_mem_cons.mpr ⟨kz_1541, List.forall_mem_cons.mpr ⟨kz_1543, List.forall_mem_cons.mpr ⟨kz_1545, List.forall_mem_cons.mpr ⟨kz_1547, List.forall_mem_cons.mpr ⟨kz_1549, List.forall_mem_cons.mpr ⟨kz_1551, List.forall_mem_cons.mpr ⟨kz_1553, List.forall_mem_cons.mpr ⟨kz_1555, List.forall_mem_cons.mpr ⟨kz_1557, List.forall_mem_cons.mpr ⟨kz_1559, List.forall_mem_cons.mpr ⟨kz_1561, List.forall_mem_cons.mpr ⟨kz_1563, List.forall_mem_cons.mpr ⟨kz_1565, List.forall_mem_cons.mpr ⟨kz_1567, List.forall_mem_cons.mpr ⟨kz_1569, List.forall_mem_cons.mpr ⟨kz_1571, List.forall_mem_cons.mpr ⟨kz_1573, List.forall_mem_cons.mpr ⟨kz_1575, List.forall_mem_cons.mpr ⟨kz_1577, List.forall_mem_cons.mpr ⟨kz_1579, List.forall_mem_cons.mpr ⟨kz_1581, List.forall_mem_cons.mpr ⟨kz_1583, List.forall_mem_cons.mpr ⟨kz_1585, List.forall_mem_cons.mpr ⟨kz_1587, List.forall_mem_cons.mpr ⟨kz_1589, List.forall_mem_cons.mpr ⟨kz_1591, fun _ h => absurd h List.not_mem_nil⟩⟩⟩⟩⟩⟩⟩⟩⟩⟩⟩⟩⟩⟩⟩⟩⟩⟩⟩⟩⟩⟩⟩⟩⟩⟩⟩⟩⟩⟩⟩⟩⟩⟩⟩⟩⟩⟩⟩⟩⟩⟩⟩⟩⟩⟩⟩⟩⟩⟩⟩⟩⟩⟩⟩⟩
theorem kz_137 : Cond.methodLink RX10 3 objectInit ∈ z_gw := List.mem_filter.mpr ⟨z_sub_t1 29 rfl, rfl⟩
theorem kz_138 : Cond.instanceMethod objectInit ∈ z_gw := List.mem_filter.mpr ⟨z_sub_t1 30 rfl, rfl⟩
theorem kz_139 : Cond.code objectInit ⟨#[0xb1]⟩ 1 none ∈ z_gw := List.mem_filter.mpr ⟨z_sub_t1 31 rfl, rfl⟩
theorem ko_X10_3 : ∀ w ∈ [Cond.methodLink RX10 3 objectInit, .instanceMethod objectInit, .code objectInit ⟨#[0xb1]⟩ 1 none], w ∈ z_gw := List.forall_mem_cons.mpr ⟨kz_137, List.forall_mem_cons.mpr ⟨kz_138, List.forall_mem_cons.mpr ⟨kz_139, fun _ h => absurd h List.not_mem_nil⟩⟩⟩
theorem kz_140 : Cond.classLink RX10 9 RX8 ∈ z_gw := List.mem_filter.mpr ⟨z_sub_t1 32 rfl, rfl⟩
theorem kz_141 : Cond.instantiable RX8 7 ∈ z_gw := List.mem_filter.mpr ⟨z_sub_t1 33 rfl, rfl⟩
theorem kz_110 : Cond.initialized RX8 ∈ z_gw := List.mem_filter.mpr ⟨z_sub_t1 2 rfl, rfl⟩
theorem kw_X10_9 : ∀ w ∈ [Cond.classLink RX10 9 RX8, .instantiable RX8 7, .initialized RX8], w ∈ z_gw := List.forall_mem_cons.mpr ⟨kz_140, List.forall_mem_cons.mpr ⟨kz_141, List.forall_mem_cons.mpr ⟨kz_110, fun _ h => absurd h List.not_mem_nil⟩⟩⟩
theorem kz_143 : Cond.instanceMethod yX8_init ∈ z_gw := List.mem_filter.mpr ⟨z_sub_t1 35 rfl, rfl⟩
theorem kk_X10_11 : ∀ w ∈ [Cond.instanceMethod yX8_init, .initialized RX8, z_code M_X8_init], w ∈ z_gw := List.forall_mem_cons.mpr ⟨kz_143, List.forall_mem_cons.mpr ⟨kz_110, List.forall_mem_cons.mpr ⟨kc_X8_init, fun _ h => absurd h List.not_mem_nil⟩⟩⟩
theorem kz_142 : Cond.methodLinkNest RX10 11 yX8_init "DyeStreets" ∈ z_nw := List.mem_filter.mpr ⟨z_sub_t1 34 rfl, rfl⟩
theorem kn_X10_11 : Cond.methodLinkNest RX10 11 yX8_init "DyeStreets" ∈ z_nw := kz_142
theorem kz_393 : Cond.fieldLink RX10 12 RX10 "text" "LDyeStreets$Text;" ∈ z_gw := List.mem_filter.mpr ⟨z_sub_t2 45 rfl, rfl⟩
theorem kf_X10_12 : Cond.fieldLink RX10 12 RX10 "text" "LDyeStreets$Text;" ∈ z_gw := kz_393
theorem kz_178 : Cond.classLink RX10 16 RX9 ∈ z_gw := List.mem_filter.mpr ⟨z_sub_t1 70 rfl, rfl⟩
theorem kz_179 : Cond.instantiable RX9 1 ∈ z_gw := List.mem_filter.mpr ⟨z_sub_t1 71 rfl, rfl⟩
theorem kz_111 : Cond.initialized RX9 ∈ z_gw := List.mem_filter.mpr ⟨z_sub_t1 3 rfl, rfl⟩
theorem kw_X10_16 : ∀ w ∈ [Cond.classLink RX10 16 RX9, .instantiable RX9 1, .initialized RX9], w ∈ z_gw := List.forall_mem_cons.mpr ⟨kz_178, List.forall_mem_cons.mpr ⟨kz_179, List.forall_mem_cons.mpr ⟨kz_111, fun _ h => absurd h List.not_mem_nil⟩⟩⟩
theorem kz_180 : Cond.methodLink RX10 18 yX9_init ∈ z_gw := List.mem_filter.mpr ⟨z_sub_t1 72 rfl, rfl⟩
theorem kz_181 : Cond.instanceMethod yX9_init ∈ z_gw := List.mem_filter.mpr ⟨z_sub_t1 73 rfl, rfl⟩
theorem kk_X10_18 : ∀ w ∈ [Cond.methodLink RX10 18 yX9_init, .instanceMethod yX9_init, .initialized RX9, z_code M_X9_init], w ∈ z_gw := List.forall_mem_cons.mpr ⟨kz_180, List.forall_mem_cons.mpr ⟨kz_181, List.forall_mem_cons.mpr ⟨kz_111, List.forall_mem_cons.mpr ⟨kc_X9_init, fun _ h => absurd h List.not_mem_nil⟩⟩⟩⟩
theorem kz_394 : Cond.fieldLink RX10 19 RX10 "town" "LDyeStreets$Town;" ∈ z_gw := List.mem_filter.mpr ⟨z_sub_t2 46 rfl, rfl⟩
theorem kf_X10_19 : Cond.fieldLink RX10 19 RX10 "town" "LDyeStreets$Town;" ∈ z_gw := kz_394
theorem kz_395 : Cond.fieldLink RX10 23 RX10 "thought" "LDyeStreets$Town;" ∈ z_gw := List.mem_filter.mpr ⟨z_sub_t2 47 rfl, rfl⟩
theorem kf_X10_23 : Cond.fieldLink RX10 23 RX10 "thought" "LDyeStreets$Town;" ∈ z_gw := kz_395
theorem kz_188 : Cond.classLink RX10 26 RX5 ∈ z_gw := List.mem_filter.mpr ⟨z_sub_t1 80 rfl, rfl⟩
theorem kz_189 : Cond.instantiable RX5 7 ∈ z_gw := List.mem_filter.mpr ⟨z_sub_t1 81 rfl, rfl⟩
theorem kz_112 : Cond.initialized RX5 ∈ z_gw := List.mem_filter.mpr ⟨z_sub_t1 4 rfl, rfl⟩
theorem kw_X10_26 : ∀ w ∈ [Cond.classLink RX10 26 RX5, .instantiable RX5 7, .initialized RX5], w ∈ z_gw := List.forall_mem_cons.mpr ⟨kz_188, List.forall_mem_cons.mpr ⟨kz_189, List.forall_mem_cons.mpr ⟨kz_112, fun _ h => absurd h List.not_mem_nil⟩⟩⟩
theorem kz_191 : Cond.instanceMethod yX5_init ∈ z_gw := List.mem_filter.mpr ⟨z_sub_t1 83 rfl, rfl⟩
theorem kk_X10_28 : ∀ w ∈ [Cond.instanceMethod yX5_init, .initialized RX5, z_code M_X5_init], w ∈ z_gw := List.forall_mem_cons.mpr ⟨kz_191, List.forall_mem_cons.mpr ⟨kz_112, List.forall_mem_cons.mpr ⟨kc_X5_init, fun _ h => absurd h List.not_mem_nil⟩⟩⟩
theorem kz_190 : Cond.methodLinkNest RX10 28 yX5_init "DyeStreets" ∈ z_nw := List.mem_filter.mpr ⟨z_sub_t1 82 rfl, rfl⟩
theorem kn_X10_28 : Cond.methodLinkNest RX10 28 yX5_init "DyeStreets" ∈ z_nw := kz_190
theorem kz_396 : Cond.fieldLink RX10 29 RX10 "law" "LDyeStreets$Law;" ∈ z_gw := List.mem_filter.mpr ⟨z_sub_t2 48 rfl, rfl⟩
theorem kf_X10_29 : Cond.fieldLink RX10 29 RX10 "law" "LDyeStreets$Law;" ∈ z_gw := kz_396
theorem kz_216 : Cond.classLink RX10 33 RX0 ∈ z_gw := List.mem_filter.mpr ⟨z_sub_t1 108 rfl, rfl⟩
theorem kz_217 : Cond.instantiable RX0 3 ∈ z_gw := List.mem_filter.mpr ⟨z_sub_t1 109 rfl, rfl⟩
theorem kz_113 : Cond.initialized RX0 ∈ z_gw := List.mem_filter.mpr ⟨z_sub_t1 5 rfl, rfl⟩
theorem kw_X10_33 : ∀ w ∈ [Cond.classLink RX10 33 RX0, .instantiable RX0 3, .initialized RX0], w ∈ z_gw := List.forall_mem_cons.mpr ⟨kz_216, List.forall_mem_cons.mpr ⟨kz_217, List.forall_mem_cons.mpr ⟨kz_113, fun _ h => absurd h List.not_mem_nil⟩⟩⟩
theorem kz_219 : Cond.instanceMethod yX0_init ∈ z_gw := List.mem_filter.mpr ⟨z_sub_t1 111 rfl, rfl⟩
theorem kk_X10_35 : ∀ w ∈ [Cond.instanceMethod yX0_init, .initialized RX0, z_code M_X0_init], w ∈ z_gw := List.forall_mem_cons.mpr ⟨kz_219, List.forall_mem_cons.mpr ⟨kz_113, List.forall_mem_cons.mpr ⟨kc_X0_init, fun _ h => absurd h List.not_mem_nil⟩⟩⟩
theorem kz_218 : Cond.methodLinkNest RX10 35 yX0_init "DyeStreets" ∈ z_nw := List.mem_filter.mpr ⟨z_sub_t1 110 rfl, rfl⟩
theorem kn_X10_35 : Cond.methodLinkNest RX10 35 yX0_init "DyeStreets" ∈ z_nw := kz_218
theorem kz_397 : Cond.fieldLink RX10 36 RX10 "book" "LDyeStreets$Book;" ∈ z_gw := List.mem_filter.mpr ⟨z_sub_t2 49 rfl, rfl⟩
theorem kf_X10_36 : Cond.fieldLink RX10 36 RX10 "book" "LDyeStreets$Book;" ∈ z_gw := kz_397
theorem kz_233 : Cond.classLink RX10 40 RX7 ∈ z_gw := List.mem_filter.mpr ⟨z_sub_t1 125 rfl, rfl⟩
theorem kz_234 : Cond.instantiable RX7 9 ∈ z_gw := List.mem_filter.mpr ⟨z_sub_t1 126 rfl, rfl⟩
theorem kz_114 : Cond.initialized RX7 ∈ z_gw := List.mem_filter.mpr ⟨z_sub_t1 6 rfl, rfl⟩
theorem kw_X10_40 : ∀ w ∈ [Cond.classLink RX10 40 RX7, .instantiable RX7 9, .initialized RX7], w ∈ z_gw := List.forall_mem_cons.mpr ⟨kz_233, List.forall_mem_cons.mpr ⟨kz_234, List.forall_mem_cons.mpr ⟨kz_114, fun _ h => absurd h List.not_mem_nil⟩⟩⟩
theorem kz_236 : Cond.instanceMethod yX7_init ∈ z_gw := List.mem_filter.mpr ⟨z_sub_t1 128 rfl, rfl⟩
theorem kk_X10_42 : ∀ w ∈ [Cond.instanceMethod yX7_init, .initialized RX7, z_code M_X7_init], w ∈ z_gw := List.forall_mem_cons.mpr ⟨kz_236, List.forall_mem_cons.mpr ⟨kz_114, List.forall_mem_cons.mpr ⟨kc_X7_init, fun _ h => absurd h List.not_mem_nil⟩⟩⟩
theorem kz_235 : Cond.methodLinkNest RX10 42 yX7_init "DyeStreets" ∈ z_nw := List.mem_filter.mpr ⟨z_sub_t1 127 rfl, rfl⟩
theorem kn_X10_42 : Cond.methodLinkNest RX10 42 yX7_init "DyeStreets" ∈ z_nw := kz_235
theorem kz_398 : Cond.fieldLink RX10 43 RX10 "plan" "LDyeStreets$Plan;" ∈ z_gw := List.mem_filter.mpr ⟨z_sub_t2 50 rfl, rfl⟩
theorem kf_X10_43 : Cond.fieldLink RX10 43 RX10 "plan" "LDyeStreets$Plan;" ∈ z_gw := kz_398
theorem kz_269 : Cond.classLink RX10 47 RX4 ∈ z_gw := List.mem_filter.mpr ⟨z_sub_t1 161 rfl, rfl⟩
theorem kz_270 : Cond.instantiable RX4 5 ∈ z_gw := List.mem_filter.mpr ⟨z_sub_t1 162 rfl, rfl⟩
theorem kz_115 : Cond.initialized RX4 ∈ z_gw := List.mem_filter.mpr ⟨z_sub_t1 7 rfl, rfl⟩
theorem kw_X10_47 : ∀ w ∈ [Cond.classLink RX10 47 RX4, .instantiable RX4 5, .initialized RX4], w ∈ z_gw := List.forall_mem_cons.mpr ⟨kz_269, List.forall_mem_cons.mpr ⟨kz_270, List.forall_mem_cons.mpr ⟨kz_115, fun _ h => absurd h List.not_mem_nil⟩⟩⟩
theorem kz_272 : Cond.instanceMethod yX4_init ∈ z_gw := List.mem_filter.mpr ⟨z_sub_t1 164 rfl, rfl⟩
theorem kk_X10_49 : ∀ w ∈ [Cond.instanceMethod yX4_init, .initialized RX4, z_code M_X4_init], w ∈ z_gw := List.forall_mem_cons.mpr ⟨kz_272, List.forall_mem_cons.mpr ⟨kz_115, List.forall_mem_cons.mpr ⟨kc_X4_init, fun _ h => absurd h List.not_mem_nil⟩⟩⟩
theorem kz_271 : Cond.methodLinkNest RX10 49 yX4_init "DyeStreets" ∈ z_nw := List.mem_filter.mpr ⟨z_sub_t1 163 rfl, rfl⟩
theorem kn_X10_49 : Cond.methodLinkNest RX10 49 yX4_init "DyeStreets" ∈ z_nw := kz_271
theorem kz_399 : Cond.fieldLink RX10 50 RX10 "history" "LDyeStreets$History;" ∈ z_gw := List.mem_filter.mpr ⟨z_sub_t2 51 rfl, rfl⟩
theorem kf_X10_50 : Cond.fieldLink RX10 50 RX10 "history" "LDyeStreets$History;" ∈ z_gw := kz_399
theorem kz_293 : Cond.classLink RX10 54 RX6 ∈ z_gw := List.mem_filter.mpr ⟨z_sub_t1 185 rfl, rfl⟩
theorem kz_294 : Cond.instantiable RX6 2 ∈ z_gw := List.mem_filter.mpr ⟨z_sub_t1 186 rfl, rfl⟩
theorem kz_116 : Cond.initialized RX6 ∈ z_gw := List.mem_filter.mpr ⟨z_sub_t1 8 rfl, rfl⟩
theorem kw_X10_54 : ∀ w ∈ [Cond.classLink RX10 54 RX6, .instantiable RX6 2, .initialized RX6], w ∈ z_gw := List.forall_mem_cons.mpr ⟨kz_293, List.forall_mem_cons.mpr ⟨kz_294, List.forall_mem_cons.mpr ⟨kz_116, fun _ h => absurd h List.not_mem_nil⟩⟩⟩
theorem kz_296 : Cond.instanceMethod yX6_init ∈ z_gw := List.mem_filter.mpr ⟨z_sub_t1 188 rfl, rfl⟩
theorem kk_X10_56 : ∀ w ∈ [Cond.instanceMethod yX6_init, .initialized RX6, z_code M_X6_init], w ∈ z_gw := List.forall_mem_cons.mpr ⟨kz_296, List.forall_mem_cons.mpr ⟨kz_116, List.forall_mem_cons.mpr ⟨kc_X6_init, fun _ h => absurd h List.not_mem_nil⟩⟩⟩
theorem kz_295 : Cond.methodLinkNest RX10 56 yX6_init "DyeStreets" ∈ z_nw := List.mem_filter.mpr ⟨z_sub_t1 187 rfl, rfl⟩
theorem kn_X10_56 : Cond.methodLinkNest RX10 56 yX6_init "DyeStreets" ∈ z_nw := kz_295
theorem kz_400 : Cond.fieldLink RX10 57 RX10 "palette" "LDyeStreets$Palette;" ∈ z_gw := List.mem_filter.mpr ⟨z_sub_t2 52 rfl, rfl⟩
theorem kf_X10_57 : Cond.fieldLink RX10 57 RX10 "palette" "LDyeStreets$Palette;" ∈ z_gw := kz_400
theorem kz_306 : Cond.classLink RX10 61 RX2 ∈ z_gw := List.mem_filter.mpr ⟨z_sub_t1 198 rfl, rfl⟩
theorem kz_307 : Cond.instantiable RX2 5 ∈ z_gw := List.mem_filter.mpr ⟨z_sub_t1 199 rfl, rfl⟩
theorem kz_117 : Cond.initialized RX2 ∈ z_gw := List.mem_filter.mpr ⟨z_sub_t1 9 rfl, rfl⟩
theorem kw_X10_61 : ∀ w ∈ [Cond.classLink RX10 61 RX2, .instantiable RX2 5, .initialized RX2], w ∈ z_gw := List.forall_mem_cons.mpr ⟨kz_306, List.forall_mem_cons.mpr ⟨kz_307, List.forall_mem_cons.mpr ⟨kz_117, fun _ h => absurd h List.not_mem_nil⟩⟩⟩
theorem kz_309 : Cond.instanceMethod yX2_init ∈ z_gw := List.mem_filter.mpr ⟨z_sub_t1 201 rfl, rfl⟩
theorem kk_X10_63 : ∀ w ∈ [Cond.instanceMethod yX2_init, .initialized RX2, z_code M_X2_init], w ∈ z_gw := List.forall_mem_cons.mpr ⟨kz_309, List.forall_mem_cons.mpr ⟨kz_117, List.forall_mem_cons.mpr ⟨kc_X2_init, fun _ h => absurd h List.not_mem_nil⟩⟩⟩
theorem kz_308 : Cond.methodLinkNest RX10 63 yX2_init "DyeStreets" ∈ z_nw := List.mem_filter.mpr ⟨z_sub_t1 200 rfl, rfl⟩
theorem kn_X10_63 : Cond.methodLinkNest RX10 63 yX2_init "DyeStreets" ∈ z_nw := kz_308
theorem kz_401 : Cond.fieldLink RX10 64 RX10 "couples" "LDyeStreets$Couples;" ∈ z_gw := List.mem_filter.mpr ⟨z_sub_t2 53 rfl, rfl⟩
theorem kf_X10_64 : Cond.fieldLink RX10 64 RX10 "couples" "LDyeStreets$Couples;" ∈ z_gw := kz_401
theorem kz_330 : Cond.classLink RX10 68 RX3 ∈ z_gw := List.mem_filter.mpr ⟨z_sub_t1 222 rfl, rfl⟩
theorem kz_331 : Cond.instantiable RX3 3 ∈ z_gw := List.mem_filter.mpr ⟨z_sub_t1 223 rfl, rfl⟩
theorem kz_118 : Cond.initialized RX3 ∈ z_gw := List.mem_filter.mpr ⟨z_sub_t1 10 rfl, rfl⟩
theorem kw_X10_68 : ∀ w ∈ [Cond.classLink RX10 68 RX3, .instantiable RX3 3, .initialized RX3], w ∈ z_gw := List.forall_mem_cons.mpr ⟨kz_330, List.forall_mem_cons.mpr ⟨kz_331, List.forall_mem_cons.mpr ⟨kz_118, fun _ h => absurd h List.not_mem_nil⟩⟩⟩
theorem kz_333 : Cond.instanceMethod yX3_init ∈ z_gw := List.mem_filter.mpr ⟨z_sub_t1 225 rfl, rfl⟩
theorem kk_X10_70 : ∀ w ∈ [Cond.instanceMethod yX3_init, .initialized RX3, z_code M_X3_init], w ∈ z_gw := List.forall_mem_cons.mpr ⟨kz_333, List.forall_mem_cons.mpr ⟨kz_118, List.forall_mem_cons.mpr ⟨kc_X3_init, fun _ h => absurd h List.not_mem_nil⟩⟩⟩
theorem kz_332 : Cond.methodLinkNest RX10 70 yX3_init "DyeStreets" ∈ z_nw := List.mem_filter.mpr ⟨z_sub_t1 224 rfl, rfl⟩
theorem kn_X10_70 : Cond.methodLinkNest RX10 70 yX3_init "DyeStreets" ∈ z_nw := kz_332
theorem kz_402 : Cond.fieldLink RX10 71 RX10 "fate" "LDyeStreets$Fate;" ∈ z_gw := List.mem_filter.mpr ⟨z_sub_t2 54 rfl, rfl⟩
theorem kf_X10_71 : Cond.fieldLink RX10 71 RX10 "fate" "LDyeStreets$Fate;" ∈ z_gw := kz_402
theorem kz_403 : Cond.fieldLink RX10 75 RX10 "goers" "[I" ∈ z_gw := List.mem_filter.mpr ⟨z_sub_t2 55 rfl, rfl⟩
theorem kf_X10_75 : Cond.fieldLink RX10 75 RX10 "goers" "[I" ∈ z_gw := kz_403
theorem kz_348 : Cond.classLink RX10 79 RX1 ∈ z_gw := List.mem_filter.mpr ⟨z_sub_t2 0 rfl, rfl⟩
theorem kz_349 : Cond.instantiable RX1 8 ∈ z_gw := List.mem_filter.mpr ⟨z_sub_t2 1 rfl, rfl⟩
theorem kz_119 : Cond.initialized RX1 ∈ z_gw := List.mem_filter.mpr ⟨z_sub_t1 11 rfl, rfl⟩
theorem kw_X10_79 : ∀ w ∈ [Cond.classLink RX10 79 RX1, .instantiable RX1 8, .initialized RX1], w ∈ z_gw := List.forall_mem_cons.mpr ⟨kz_348, List.forall_mem_cons.mpr ⟨kz_349, List.forall_mem_cons.mpr ⟨kz_119, fun _ h => absurd h List.not_mem_nil⟩⟩⟩
theorem kz_351 : Cond.instanceMethod yX1_init ∈ z_gw := List.mem_filter.mpr ⟨z_sub_t2 3 rfl, rfl⟩
theorem kk_X10_81 : ∀ w ∈ [Cond.instanceMethod yX1_init, .initialized RX1, z_code M_X1_init], w ∈ z_gw := List.forall_mem_cons.mpr ⟨kz_351, List.forall_mem_cons.mpr ⟨kz_119, List.forall_mem_cons.mpr ⟨kc_X1_init, fun _ h => absurd h List.not_mem_nil⟩⟩⟩
theorem kz_350 : Cond.methodLinkNest RX10 81 yX1_init "DyeStreets" ∈ z_nw := List.mem_filter.mpr ⟨z_sub_t2 2 rfl, rfl⟩
theorem kn_X10_81 : Cond.methodLinkNest RX10 81 yX1_init "DyeStreets" ∈ z_nw := kz_350
theorem kz_404 : Cond.fieldLink RX10 82 RX10 "city" "LDyeStreets$City;" ∈ z_gw := List.mem_filter.mpr ⟨z_sub_t2 56 rfl, rfl⟩
theorem kf_X10_82 : Cond.fieldLink RX10 82 RX10 "city" "LDyeStreets$City;" ∈ z_gw := kz_404
theorem kz_443 : Cond.methodLink RX10 86 yX8_hasRoom ∈ z_gw := List.mem_filter.mpr ⟨z_sub_t2 95 rfl, rfl⟩
theorem kz_444 : Cond.instanceMethod yX8_hasRoom ∈ z_gw := List.mem_filter.mpr ⟨z_sub_t2 96 rfl, rfl⟩
theorem kz_445 : Cond.selects RX8 yX8_hasRoom yX8_hasRoom ∈ z_gw := List.mem_filter.mpr ⟨z_sub_t2 97 rfl, rfl⟩
theorem kk_X10_86 : ∀ w ∈ [Cond.methodLink RX10 86 yX8_hasRoom, .instanceMethod yX8_hasRoom, .selects RX8 yX8_hasRoom yX8_hasRoom, .initialized RX8, z_code M_X8_hasRoom], w ∈ z_gw := List.forall_mem_cons.mpr ⟨kz_443, List.forall_mem_cons.mpr ⟨kz_444, List.forall_mem_cons.mpr ⟨kz_445, List.forall_mem_cons.mpr ⟨kz_110, List.forall_mem_cons.mpr ⟨kc_X8_hasRoom, fun _ h => absurd h List.not_mem_nil⟩⟩⟩⟩⟩
theorem kz_447 : Cond.methodLink RX10 90 yX8_add ∈ z_gw := List.mem_filter.mpr ⟨z_sub_t2 99 rfl, rfl⟩
theorem kz_448 : Cond.instanceMethod yX8_add ∈ z_gw := List.mem_filter.mpr ⟨z_sub_t2 100 rfl, rfl⟩
theorem kz_449 : Cond.selects RX8 yX8_add yX8_add ∈ z_gw := List.mem_filter.mpr ⟨z_sub_t2 101 rfl, rfl⟩
theorem kk_X10_90 : ∀ w ∈ [Cond.methodLink RX10 90 yX8_add, .instanceMethod yX8_add, .selects RX8 yX8_add yX8_add, .initialized RX8, z_code M_X8_add], w ∈ z_gw := List.forall_mem_cons.mpr ⟨kz_447, List.forall_mem_cons.mpr ⟨kz_448, List.forall_mem_cons.mpr ⟨kz_449, List.forall_mem_cons.mpr ⟨kz_110, List.forall_mem_cons.mpr ⟨kc_X8_add, fun _ h => absurd h List.not_mem_nil⟩⟩⟩⟩⟩
theorem kz_148 : Cond.fieldLinkNest RX10 94 RX8 "fed" "I" "DyeStreets" ∈ z_nw := List.mem_filter.mpr ⟨z_sub_t1 40 rfl, rfl⟩
theorem kf_X10_94 : Cond.fieldLinkNest RX10 94 RX8 "fed" "I" "DyeStreets" ∈ z_nw := kz_148
theorem kz_539 : Cond.methodLink RX10 98 yX8_has ∈ z_gw := List.mem_filter.mpr ⟨z_sub_t2 191 rfl, rfl⟩
theorem kz_540 : Cond.instanceMethod yX8_has ∈ z_gw := List.mem_filter.mpr ⟨z_sub_t2 192 rfl, rfl⟩
theorem kz_541 : Cond.selects RX8 yX8_has yX8_has ∈ z_gw := List.mem_filter.mpr ⟨z_sub_t2 193 rfl, rfl⟩
theorem kk_X10_98 : ∀ w ∈ [Cond.methodLink RX10 98 yX8_has, .instanceMethod yX8_has, .selects RX8 yX8_has yX8_has, .initialized RX8, z_code M_X8_has], w ∈ z_gw := List.forall_mem_cons.mpr ⟨kz_539, List.forall_mem_cons.mpr ⟨kz_540, List.forall_mem_cons.mpr ⟨kz_541, List.forall_mem_cons.mpr ⟨kz_110, List.forall_mem_cons.mpr ⟨kc_X8_has, fun _ h => absurd h List.not_mem_nil⟩⟩⟩⟩⟩
theorem kz_543 : Cond.methodLink RX10 102 yX10_demand ∈ z_gw := List.mem_filter.mpr ⟨z_sub_t2 195 rfl, rfl⟩
theorem kz_545 : Cond.instanceMethod yX10_demand ∈ z_gw := List.mem_filter.mpr ⟨z_sub_t2 197 rfl, rfl⟩
theorem kz_0 : Cond.selects RX10 yX10_demand yX10_demand ∈ z_gw := z_sub_p1 0 rfl rfl
theorem kz_109 : Cond.initialized RX10 ∈ z_gw := List.mem_filter.mpr ⟨z_sub_t1 1 rfl, rfl⟩
theorem kk_X10_102 : ∀ w ∈ [Cond.methodLink RX10 102 yX10_demand, .instanceMethod yX10_demand, .selects RX10 yX10_demand yX10_demand, .initialized RX10, z_code M_X10_demand], w ∈ z_gw := List.forall_mem_cons.mpr ⟨kz_543, List.forall_mem_cons.mpr ⟨kz_545, List.forall_mem_cons.mpr ⟨kz_0, List.forall_mem_cons.mpr ⟨kz_109, List.forall_mem_cons.mpr ⟨kc_X10_demand, fun _ h => absurd h List.not_mem_nil⟩⟩⟩⟩⟩
theorem kz_609 : Cond.methodLink RX10 106 yX8_open ∈ z_gw := List.mem_filter.mpr ⟨z_sub_t3 21 rfl, rfl⟩
theorem kz_610 : Cond.instanceMethod yX8_open ∈ z_gw := List.mem_filter.mpr ⟨z_sub_t3 22 rfl, rfl⟩
theorem kz_611 : Cond.selects RX8 yX8_open yX8_open ∈ z_gw := List.mem_filter.mpr ⟨z_sub_t3 23 rfl, rfl⟩
theorem kk_X10_106 : ∀ w ∈ [Cond.methodLink RX10 106 yX8_open, .instanceMethod yX8_open, .selects RX8 yX8_open yX8_open, .initialized RX8, z_code M_X8_open], w ∈ z_gw := List.forall_mem_cons.mpr ⟨kz_609, List.forall_mem_cons.mpr ⟨kz_610, List.forall_mem_cons.mpr ⟨kz_611, List.forall_mem_cons.mpr ⟨kz_110, List.forall_mem_cons.mpr ⟨kc_X8_open, fun _ h => absurd h List.not_mem_nil⟩⟩⟩⟩⟩
theorem kz_617 : Cond.methodLink RX10 109 yX1_read ∈ z_gw := List.mem_filter.mpr ⟨z_sub_t3 29 rfl, rfl⟩
theorem kz_618 : Cond.instanceMethod yX1_read ∈ z_gw := List.mem_filter.mpr ⟨z_sub_t3 30 rfl, rfl⟩
theorem kz_619 : Cond.selects RX1 yX1_read yX1_read ∈ z_gw := List.mem_filter.mpr ⟨z_sub_t3 31 rfl, rfl⟩
theorem kk_X10_109 : ∀ w ∈ [Cond.methodLink RX10 109 yX1_read, .instanceMethod yX1_read, .selects RX1 yX1_read yX1_read, .initialized RX1, z_code M_X1_read], w ∈ z_gw := List.forall_mem_cons.mpr ⟨kz_617, List.forall_mem_cons.mpr ⟨kz_618, List.forall_mem_cons.mpr ⟨kz_619, List.forall_mem_cons.mpr ⟨kz_119, List.forall_mem_cons.mpr ⟨kc_X1_read, fun _ h => absurd h List.not_mem_nil⟩⟩⟩⟩⟩
theorem kz_724 : Cond.methodLink RX10 113 yX8_failed ∈ z_gw := List.mem_filter.mpr ⟨z_sub_t3 136 rfl, rfl⟩
theorem kz_622 : Cond.instanceMethod yX8_failed ∈ z_gw := List.mem_filter.mpr ⟨z_sub_t3 34 rfl, rfl⟩
theorem kz_623 : Cond.selects RX8 yX8_failed yX8_failed ∈ z_gw := List.mem_filter.mpr ⟨z_sub_t3 35 rfl, rfl⟩
theorem kk_X10_113 : ∀ w ∈ [Cond.methodLink RX10 113 yX8_failed, .instanceMethod yX8_failed, .selects RX8 yX8_failed yX8_failed, .initialized RX8, z_code M_X8_failed], w ∈ z_gw := List.forall_mem_cons.mpr ⟨kz_724, List.forall_mem_cons.mpr ⟨kz_622, List.forall_mem_cons.mpr ⟨kz_623, List.forall_mem_cons.mpr ⟨kz_110, List.forall_mem_cons.mpr ⟨kc_X8_failed, fun _ h => absurd h List.not_mem_nil⟩⟩⟩⟩⟩
theorem kz_725 : Cond.methodLink RX10 116 yX8_verdict ∈ z_gw := List.mem_filter.mpr ⟨z_sub_t3 137 rfl, rfl⟩
theorem kz_726 : Cond.instanceMethod yX8_verdict ∈ z_gw := List.mem_filter.mpr ⟨z_sub_t3 138 rfl, rfl⟩
theorem kz_727 : Cond.selects RX8 yX8_verdict yX8_verdict ∈ z_gw := List.mem_filter.mpr ⟨z_sub_t3 139 rfl, rfl⟩
theorem kk_X10_116 : ∀ w ∈ [Cond.methodLink RX10 116 yX8_verdict, .instanceMethod yX8_verdict, .selects RX8 yX8_verdict yX8_verdict, .initialized RX8, z_code M_X8_verdict], w ∈ z_gw := List.forall_mem_cons.mpr ⟨kz_725, List.forall_mem_cons.mpr ⟨kz_726, List.forall_mem_cons.mpr ⟨kz_727, List.forall_mem_cons.mpr ⟨kz_110, List.forall_mem_cons.mpr ⟨kc_X8_verdict, fun _ h => absurd h List.not_mem_nil⟩⟩⟩⟩⟩
theorem kz_729 : Cond.methodLink RX10 120 yX9_settle ∈ z_gw := List.mem_filter.mpr ⟨z_sub_t3 141 rfl, rfl⟩
theorem kz_730 : Cond.instanceMethod yX9_settle ∈ z_gw := List.mem_filter.mpr ⟨z_sub_t3 142 rfl, rfl⟩
theorem kz_731 : Cond.selects RX9 yX9_settle yX9_settle ∈ z_gw := List.mem_filter.mpr ⟨z_sub_t3 143 rfl, rfl⟩
theorem kk_X10_120 : ∀ w ∈ [Cond.methodLink RX10 120 yX9_settle, .instanceMethod yX9_settle, .selects RX9 yX9_settle yX9_settle, .initialized RX9, z_code M_X9_settle], w ∈ z_gw := List.forall_mem_cons.mpr ⟨kz_729, List.forall_mem_cons.mpr ⟨kz_730, List.forall_mem_cons.mpr ⟨kz_731, List.forall_mem_cons.mpr ⟨kz_111, List.forall_mem_cons.mpr ⟨kc_X9_settle, fun _ h => absurd h List.not_mem_nil⟩⟩⟩⟩⟩
theorem kz_741 : Cond.methodLink RX10 124 yX5_repeal ∈ z_gw := List.mem_filter.mpr ⟨z_sub_t3 153 rfl, rfl⟩
theorem kz_742 : Cond.instanceMethod yX5_repeal ∈ z_gw := List.mem_filter.mpr ⟨z_sub_t3 154 rfl, rfl⟩
theorem kz_743 : Cond.selects RX5 yX5_repeal yX5_repeal ∈ z_gw := List.mem_filter.mpr ⟨z_sub_t3 155 rfl, rfl⟩
theorem kk_X10_124 : ∀ w ∈ [Cond.methodLink RX10 124 yX5_repeal, .instanceMethod yX5_repeal, .selects RX5 yX5_repeal yX5_repeal, .initialized RX5, z_code M_X5_repeal], w ∈ z_gw := List.forall_mem_cons.mpr ⟨kz_741, List.forall_mem_cons.mpr ⟨kz_742, List.forall_mem_cons.mpr ⟨kz_743, List.forall_mem_cons.mpr ⟨kz_112, List.forall_mem_cons.mpr ⟨kc_X5_repeal, fun _ h => absurd h List.not_mem_nil⟩⟩⟩⟩⟩
theorem kz_745 : Cond.methodLink RX10 127 yX0_clear ∈ z_gw := List.mem_filter.mpr ⟨z_sub_t3 157 rfl, rfl⟩
theorem kz_746 : Cond.instanceMethod yX0_clear ∈ z_gw := List.mem_filter.mpr ⟨z_sub_t3 158 rfl, rfl⟩
theorem kz_747 : Cond.selects RX0 yX0_clear yX0_clear ∈ z_gw := List.mem_filter.mpr ⟨z_sub_t3 159 rfl, rfl⟩
theorem kk_X10_127 : ∀ w ∈ [Cond.methodLink RX10 127 yX0_clear, .instanceMethod yX0_clear, .selects RX0 yX0_clear yX0_clear, .initialized RX0, z_code M_X0_clear], w ∈ z_gw := List.forall_mem_cons.mpr ⟨kz_745, List.forall_mem_cons.mpr ⟨kz_746, List.forall_mem_cons.mpr ⟨kz_747, List.forall_mem_cons.mpr ⟨kz_113, List.forall_mem_cons.mpr ⟨kc_X0_clear, fun _ h => absurd h List.not_mem_nil⟩⟩⟩⟩⟩
theorem kz_750 : Cond.methodLink RX10 130 yX4_clear ∈ z_gw := List.mem_filter.mpr ⟨z_sub_t3 162 rfl, rfl⟩
theorem kz_751 : Cond.instanceMethod yX4_clear ∈ z_gw := List.mem_filter.mpr ⟨z_sub_t3 163 rfl, rfl⟩
theorem kz_752 : Cond.selects RX4 yX4_clear yX4_clear ∈ z_gw := List.mem_filter.mpr ⟨z_sub_t3 164 rfl, rfl⟩
theorem kk_X10_130 : ∀ w ∈ [Cond.methodLink RX10 130 yX4_clear, .instanceMethod yX4_clear, .selects RX4 yX4_clear yX4_clear, .initialized RX4, z_code M_X4_clear], w ∈ z_gw := List.forall_mem_cons.mpr ⟨kz_750, List.forall_mem_cons.mpr ⟨kz_751, List.forall_mem_cons.mpr ⟨kz_752, List.forall_mem_cons.mpr ⟨kz_115, List.forall_mem_cons.mpr ⟨kc_X4_clear, fun _ h => absurd h List.not_mem_nil⟩⟩⟩⟩⟩
theorem kz_405 : Cond.fieldLink RX10 131 RX10 "refusedSteps" "I" ∈ z_gw := List.mem_filter.mpr ⟨z_sub_t2 57 rfl, rfl⟩
theorem kf_X10_131 : Cond.fieldLink RX10 131 RX10 "refusedSteps" "I" ∈ z_gw := kz_405
theorem kz_371 : Cond.fieldLinkNest RX10 134 RX1 "people" "I" "DyeStreets" ∈ z_nw := List.mem_filter.mpr ⟨z_sub_t2 23 rfl, rfl⟩
theorem kf_X10_134 : Cond.fieldLinkNest RX10 134 RX1 "people" "I" "DyeStreets" ∈ z_nw := kz_371
theorem kz_762 : Cond.methodLink RX10 137 yX5_read ∈ z_gw := List.mem_filter.mpr ⟨z_sub_t3 174 rfl, rfl⟩
theorem kz_763 : Cond.instanceMethod yX5_read ∈ z_gw := List.mem_filter.mpr ⟨z_sub_t3 175 rfl, rfl⟩
theorem kz_764 : Cond.selects RX5 yX5_read yX5_read ∈ z_gw := List.mem_filter.mpr ⟨z_sub_t3 176 rfl, rfl⟩
theorem kk_X10_137 : ∀ w ∈ [Cond.methodLink RX10 137 yX5_read, .instanceMethod yX5_read, .selects RX5 yX5_read yX5_read, .initialized RX5, z_code M_X5_read], w ∈ z_gw := List.forall_mem_cons.mpr ⟨kz_762, List.forall_mem_cons.mpr ⟨kz_763, List.forall_mem_cons.mpr ⟨kz_764, List.forall_mem_cons.mpr ⟨kz_112, List.forall_mem_cons.mpr ⟨kc_X5_read, fun _ h => absurd h List.not_mem_nil⟩⟩⟩⟩⟩
theorem kz_279 : Cond.fieldLinkNest RX10 138 RX4 "works" "I" "DyeStreets" ∈ z_nw := List.mem_filter.mpr ⟨z_sub_t1 171 rfl, rfl⟩
theorem kf_X10_138 : Cond.fieldLinkNest RX10 138 RX4 "works" "I" "DyeStreets" ∈ z_nw := kz_279
theorem kz_810 : Cond.methodLink RX10 141 yX7_read ∈ z_gw := List.mem_filter.mpr ⟨z_sub_t3 222 rfl, rfl⟩
theorem kz_811 : Cond.instanceMethod yX7_read ∈ z_gw := List.mem_filter.mpr ⟨z_sub_t3 223 rfl, rfl⟩
theorem kz_812 : Cond.selects RX7 yX7_read yX7_read ∈ z_gw := List.mem_filter.mpr ⟨z_sub_t3 224 rfl, rfl⟩
theorem kk_X10_141 : ∀ w ∈ [Cond.methodLink RX10 141 yX7_read, .instanceMethod yX7_read, .selects RX7 yX7_read yX7_read, .initialized RX7, z_code M_X7_read], w ∈ z_gw := List.forall_mem_cons.mpr ⟨kz_810, List.forall_mem_cons.mpr ⟨kz_811, List.forall_mem_cons.mpr ⟨kz_812, List.forall_mem_cons.mpr ⟨kz_114, List.forall_mem_cons.mpr ⟨kc_X7_read, fun _ h => absurd h List.not_mem_nil⟩⟩⟩⟩⟩
theorem kz_840 : Cond.methodLink RX10 144 yX4_remember ∈ z_gw := List.mem_filter.mpr ⟨z_sub_t4 12 rfl, rfl⟩
theorem kz_841 : Cond.instanceMethod yX4_remember ∈ z_gw := List.mem_filter.mpr ⟨z_sub_t4 13 rfl, rfl⟩
theorem kz_842 : Cond.selects RX4 yX4_remember yX4_remember ∈ z_gw := List.mem_filter.mpr ⟨z_sub_t4 14 rfl, rfl⟩
theorem kk_X10_144 : ∀ w ∈ [Cond.methodLink RX10 144 yX4_remember, .instanceMethod yX4_remember, .selects RX4 yX4_remember yX4_remember, .initialized RX4, z_code M_X4_remember], w ∈ z_gw := List.forall_mem_cons.mpr ⟨kz_840, List.forall_mem_cons.mpr ⟨kz_841, List.forall_mem_cons.mpr ⟨kz_842, List.forall_mem_cons.mpr ⟨kz_115, List.forall_mem_cons.mpr ⟨kc_X4_remember, fun _ h => absurd h List.not_mem_nil⟩⟩⟩⟩⟩
theorem kz_844 : Cond.methodLink RX10 148 yX7_carryOut ∈ z_gw := List.mem_filter.mpr ⟨z_sub_t4 16 rfl, rfl⟩
theorem kz_845 : Cond.instanceMethod yX7_carryOut ∈ z_gw := List.mem_filter.mpr ⟨z_sub_t4 17 rfl, rfl⟩
theorem kz_846 : Cond.selects RX7 yX7_carryOut yX7_carryOut ∈ z_gw := List.mem_filter.mpr ⟨z_sub_t4 18 rfl, rfl⟩
theorem kk_X10_148 : ∀ w ∈ [Cond.methodLink RX10 148 yX7_carryOut, .instanceMethod yX7_carryOut, .selects RX7 yX7_carryOut yX7_carryOut, .initialized RX7, z_code M_X7_carryOut], w ∈ z_gw := List.forall_mem_cons.mpr ⟨kz_844, List.forall_mem_cons.mpr ⟨kz_845, List.forall_mem_cons.mpr ⟨kz_846, List.forall_mem_cons.mpr ⟨kz_114, List.forall_mem_cons.mpr ⟨kc_X7_carryOut, fun _ h => absurd h List.not_mem_nil⟩⟩⟩⟩⟩
theorem kz_248 : Cond.fieldLinkNest RX10 152 RX7 "refused" "I" "DyeStreets" ∈ z_nw := List.mem_filter.mpr ⟨z_sub_t1 140 rfl, rfl⟩
theorem kf_X10_152 : Cond.fieldLinkNest RX10 152 RX7 "refused" "I" "DyeStreets" ∈ z_nw := kz_248
theorem kz_246 : Cond.fieldLinkNest RX10 155 RX7 "done" "I" "DyeStreets" ∈ z_nw := List.mem_filter.mpr ⟨z_sub_t1 138 rfl, rfl⟩
theorem kf_X10_155 : Cond.fieldLinkNest RX10 155 RX7 "done" "I" "DyeStreets" ∈ z_nw := kz_246
theorem kz_934 : Cond.methodLink RX10 158 yX0_read ∈ z_gw := List.mem_filter.mpr ⟨z_sub_t4 106 rfl, rfl⟩
theorem kz_935 : Cond.instanceMethod yX0_read ∈ z_gw := List.mem_filter.mpr ⟨z_sub_t4 107 rfl, rfl⟩
theorem kz_936 : Cond.selects RX0 yX0_read yX0_read ∈ z_gw := List.mem_filter.mpr ⟨z_sub_t4 108 rfl, rfl⟩
theorem kk_X10_158 : ∀ w ∈ [Cond.methodLink RX10 158 yX0_read, .instanceMethod yX0_read, .selects RX0 yX0_read yX0_read, .initialized RX0, z_code M_X0_read], w ∈ z_gw := List.forall_mem_cons.mpr ⟨kz_934, List.forall_mem_cons.mpr ⟨kz_935, List.forall_mem_cons.mpr ⟨kz_936, List.forall_mem_cons.mpr ⟨kz_113, List.forall_mem_cons.mpr ⟨kc_X0_read, fun _ h => absurd h List.not_mem_nil⟩⟩⟩⟩⟩
theorem kz_225 : Cond.fieldLinkNest RX10 159 RX0 "lines" "I" "DyeStreets" ∈ z_nw := List.mem_filter.mpr ⟨z_sub_t1 117 rfl, rfl⟩
theorem kf_X10_159 : Cond.fieldLinkNest RX10 159 RX0 "lines" "I" "DyeStreets" ∈ z_nw := kz_225
theorem kz_161 : Cond.fieldLinkNest RX10 162 RX8 "place" "I" "DyeStreets" ∈ z_nw := List.mem_filter.mpr ⟨z_sub_t1 53 rfl, rfl⟩
theorem kf_X10_162 : Cond.fieldLinkNest RX10 162 RX8 "place" "I" "DyeStreets" ∈ z_nw := kz_161
theorem kz_462 : Cond.methodLink RX10 165 yX4_takeBack ∈ z_gw := List.mem_filter.mpr ⟨z_sub_t2 114 rfl, rfl⟩
theorem kz_463 : Cond.instanceMethod yX4_takeBack ∈ z_gw := List.mem_filter.mpr ⟨z_sub_t2 115 rfl, rfl⟩
theorem kz_464 : Cond.selects RX4 yX4_takeBack yX4_takeBack ∈ z_gw := List.mem_filter.mpr ⟨z_sub_t2 116 rfl, rfl⟩
theorem kk_X10_165 : ∀ w ∈ [Cond.methodLink RX10 165 yX4_takeBack, .instanceMethod yX4_takeBack, .selects RX4 yX4_takeBack yX4_takeBack, .initialized RX4, z_code M_X4_takeBack], w ∈ z_gw := List.forall_mem_cons.mpr ⟨kz_462, List.forall_mem_cons.mpr ⟨kz_463, List.forall_mem_cons.mpr ⟨kz_464, List.forall_mem_cons.mpr ⟨kz_115, List.forall_mem_cons.mpr ⟨kc_X4_takeBack, fun _ h => absurd h List.not_mem_nil⟩⟩⟩⟩⟩
theorem kz_365 : Cond.fieldLinkNest RX10 168 RX1 "streets" "I" "DyeStreets" ∈ z_nw := List.mem_filter.mpr ⟨z_sub_t2 17 rfl, rfl⟩
theorem kf_X10_168 : Cond.fieldLinkNest RX10 168 RX1 "streets" "I" "DyeStreets" ∈ z_nw := kz_365
theorem kz_953 : Cond.methodLink RX10 171 yX9_year ∈ z_gw := List.mem_filter.mpr ⟨z_sub_t4 125 rfl, rfl⟩
theorem kz_914 : Cond.instanceMethod yX9_year ∈ z_gw := List.mem_filter.mpr ⟨z_sub_t4 86 rfl, rfl⟩
theorem kz_915 : Cond.selects RX9 yX9_year yX9_year ∈ z_gw := List.mem_filter.mpr ⟨z_sub_t4 87 rfl, rfl⟩
theorem kk_X10_171 : ∀ w ∈ [Cond.methodLink RX10 171 yX9_year, .instanceMethod yX9_year, .selects RX9 yX9_year yX9_year, .initialized RX9, z_code M_X9_year], w ∈ z_gw := List.forall_mem_cons.mpr ⟨kz_953, List.forall_mem_cons.mpr ⟨kz_914, List.forall_mem_cons.mpr ⟨kz_915, List.forall_mem_cons.mpr ⟨kz_111, List.forall_mem_cons.mpr ⟨kc_X9_year, fun _ h => absurd h List.not_mem_nil⟩⟩⟩⟩⟩
theorem kz_954 : Cond.methodLink RX10 174 yX10_seated ∈ z_gw := List.mem_filter.mpr ⟨z_sub_t4 126 rfl, rfl⟩
theorem kz_956 : Cond.instanceMethod yX10_seated ∈ z_gw := List.mem_filter.mpr ⟨z_sub_t4 128 rfl, rfl⟩
theorem kz_22 : Cond.selects RX10 yX10_seated yX10_seated ∈ z_gw := z_sub_p2 6 rfl rfl
theorem kk_X10_174 : ∀ w ∈ [Cond.methodLink RX10 174 yX10_seated, .instanceMethod yX10_seated, .selects RX10 yX10_seated yX10_seated, .initialized RX10, z_code M_X10_seated], w ∈ z_gw := List.forall_mem_cons.mpr ⟨kz_954, List.forall_mem_cons.mpr ⟨kz_956, List.forall_mem_cons.mpr ⟨kz_22, List.forall_mem_cons.mpr ⟨kz_109, List.forall_mem_cons.mpr ⟨kc_X10_seated, fun _ h => absurd h List.not_mem_nil⟩⟩⟩⟩⟩
theorem kz_997 : Cond.methodLink RX10 178 yX9_married ∈ z_gw := List.mem_filter.mpr ⟨z_sub_t4 169 rfl, rfl⟩
theorem kz_998 : Cond.instanceMethod yX9_married ∈ z_gw := List.mem_filter.mpr ⟨z_sub_t4 170 rfl, rfl⟩
theorem kz_999 : Cond.selects RX9 yX9_married yX9_married ∈ z_gw := List.mem_filter.mpr ⟨z_sub_t4 171 rfl, rfl⟩
theorem kk_X10_178 : ∀ w ∈ [Cond.methodLink RX10 178 yX9_married, .instanceMethod yX9_married, .selects RX9 yX9_married yX9_married, .initialized RX9, z_code M_X9_married], w ∈ z_gw := List.forall_mem_cons.mpr ⟨kz_997, List.forall_mem_cons.mpr ⟨kz_998, List.forall_mem_cons.mpr ⟨kz_999, List.forall_mem_cons.mpr ⟨kz_111, List.forall_mem_cons.mpr ⟨kc_X9_married, fun _ h => absurd h List.not_mem_nil⟩⟩⟩⟩⟩
theorem kz_1001 : Cond.methodLink RX10 182 yX9_unsalted ∈ z_gw := List.mem_filter.mpr ⟨z_sub_t4 173 rfl, rfl⟩
theorem kz_486 : Cond.instanceMethod yX9_unsalted ∈ z_gw := List.mem_filter.mpr ⟨z_sub_t2 138 rfl, rfl⟩
theorem kz_487 : Cond.selects RX9 yX9_unsalted yX9_unsalted ∈ z_gw := List.mem_filter.mpr ⟨z_sub_t2 139 rfl, rfl⟩
theorem kk_X10_182 : ∀ w ∈ [Cond.methodLink RX10 182 yX9_unsalted, .instanceMethod yX9_unsalted, .selects RX9 yX9_unsalted yX9_unsalted, .initialized RX9, z_code M_X9_unsalted], w ∈ z_gw := List.forall_mem_cons.mpr ⟨kz_1001, List.forall_mem_cons.mpr ⟨kz_486, List.forall_mem_cons.mpr ⟨kz_487, List.forall_mem_cons.mpr ⟨kz_111, List.forall_mem_cons.mpr ⟨kc_X9_unsalted, fun _ h => absurd h List.not_mem_nil⟩⟩⟩⟩⟩
theorem kz_1002 : Cond.methodLink RX10 185 yX9_unlikeShades ∈ z_gw := List.mem_filter.mpr ⟨z_sub_t4 174 rfl, rfl⟩
theorem kz_1003 : Cond.instanceMethod yX9_unlikeShades ∈ z_gw := List.mem_filter.mpr ⟨z_sub_t4 175 rfl, rfl⟩
theorem kz_1004 : Cond.selects RX9 yX9_unlikeShades yX9_unlikeShades ∈ z_gw := List.mem_filter.mpr ⟨z_sub_t4 176 rfl, rfl⟩
theorem kk_X10_185 : ∀ w ∈ [Cond.methodLink RX10 185 yX9_unlikeShades, .instanceMethod yX9_unlikeShades, .selects RX9 yX9_unlikeShades yX9_unlikeShades, .initialized RX9, z_code M_X9_unlikeShades], w ∈ z_gw := List.forall_mem_cons.mpr ⟨kz_1002, List.forall_mem_cons.mpr ⟨kz_1003, List.forall_mem_cons.mpr ⟨kz_1004, List.forall_mem_cons.mpr ⟨kz_111, List.forall_mem_cons.mpr ⟨kc_X9_unlikeShades, fun _ h => absurd h List.not_mem_nil⟩⟩⟩⟩⟩
theorem kz_374 : Cond.fieldLinkNest RX10 188 RX1 "river" "I" "DyeStreets" ∈ z_nw := List.mem_filter.mpr ⟨z_sub_t2 26 rfl, rfl⟩
theorem kf_X10_188 : Cond.fieldLinkNest RX10 188 RX1 "river" "I" "DyeStreets" ∈ z_nw := kz_374
theorem kz_1014 : Cond.methodLink RX10 191 yX1_hasStreet ∈ z_gw := List.mem_filter.mpr ⟨z_sub_t4 186 rfl, rfl⟩
theorem kz_1015 : Cond.instanceMethod yX1_hasStreet ∈ z_gw := List.mem_filter.mpr ⟨z_sub_t4 187 rfl, rfl⟩
theorem kz_1016 : Cond.selects RX1 yX1_hasStreet yX1_hasStreet ∈ z_gw := List.mem_filter.mpr ⟨z_sub_t4 188 rfl, rfl⟩
theorem kk_X10_191 : ∀ w ∈ [Cond.methodLink RX10 191 yX1_hasStreet, .instanceMethod yX1_hasStreet, .selects RX1 yX1_hasStreet yX1_hasStreet, .initialized RX1, z_code M_X1_hasStreet], w ∈ z_gw := List.forall_mem_cons.mpr ⟨kz_1014, List.forall_mem_cons.mpr ⟨kz_1015, List.forall_mem_cons.mpr ⟨kz_1016, List.forall_mem_cons.mpr ⟨kz_119, List.forall_mem_cons.mpr ⟨kc_X1_hasStreet, fun _ h => absurd h List.not_mem_nil⟩⟩⟩⟩⟩
theorem kz_1018 : Cond.methodLink RX10 195 yX10_demandThere ∈ z_gw := List.mem_filter.mpr ⟨z_sub_t4 190 rfl, rfl⟩
theorem kz_1020 : Cond.instanceMethod yX10_demandThere ∈ z_gw := List.mem_filter.mpr ⟨z_sub_t4 192 rfl, rfl⟩
theorem kz_25 : Cond.selects RX10 yX10_demandThere yX10_demandThere ∈ z_gw := z_sub_p2 9 rfl rfl
theorem kk_X10_195 : ∀ w ∈ [Cond.methodLink RX10 195 yX10_demandThere, .instanceMethod yX10_demandThere, .selects RX10 yX10_demandThere yX10_demandThere, .initialized RX10, z_code M_X10_demandThere], w ∈ z_gw := List.forall_mem_cons.mpr ⟨kz_1018, List.forall_mem_cons.mpr ⟨kz_1020, List.forall_mem_cons.mpr ⟨kz_25, List.forall_mem_cons.mpr ⟨kz_109, List.forall_mem_cons.mpr ⟨kc_X10_demandThere, fun _ h => absurd h List.not_mem_nil⟩⟩⟩⟩⟩
theorem kz_1037 : Cond.methodLink RX10 198 yX1_vatOf ∈ z_gw := List.mem_filter.mpr ⟨z_sub_t4 209 rfl, rfl⟩
theorem kz_862 : Cond.instanceMethod yX1_vatOf ∈ z_gw := List.mem_filter.mpr ⟨z_sub_t4 34 rfl, rfl⟩
theorem kz_863 : Cond.selects RX1 yX1_vatOf yX1_vatOf ∈ z_gw := List.mem_filter.mpr ⟨z_sub_t4 35 rfl, rfl⟩
theorem kk_X10_198 : ∀ w ∈ [Cond.methodLink RX10 198 yX1_vatOf, .instanceMethod yX1_vatOf, .selects RX1 yX1_vatOf yX1_vatOf, .initialized RX1, z_code M_X1_vatOf], w ∈ z_gw := List.forall_mem_cons.mpr ⟨kz_1037, List.forall_mem_cons.mpr ⟨kz_862, List.forall_mem_cons.mpr ⟨kz_863, List.forall_mem_cons.mpr ⟨kz_119, List.forall_mem_cons.mpr ⟨kc_X1_vatOf, fun _ h => absurd h List.not_mem_nil⟩⟩⟩⟩⟩
theorem kz_973 : Cond.methodLink RX10 201 yX1_rankOf ∈ z_gw := List.mem_filter.mpr ⟨z_sub_t4 145 rfl, rfl⟩
theorem kz_974 : Cond.instanceMethod yX1_rankOf ∈ z_gw := List.mem_filter.mpr ⟨z_sub_t4 146 rfl, rfl⟩
theorem kz_975 : Cond.selects RX1 yX1_rankOf yX1_rankOf ∈ z_gw := List.mem_filter.mpr ⟨z_sub_t4 147 rfl, rfl⟩
theorem kk_X10_201 : ∀ w ∈ [Cond.methodLink RX10 201 yX1_rankOf, .instanceMethod yX1_rankOf, .selects RX1 yX1_rankOf yX1_rankOf, .initialized RX1, z_code M_X1_rankOf], w ∈ z_gw := List.forall_mem_cons.mpr ⟨kz_973, List.forall_mem_cons.mpr ⟨kz_974, List.forall_mem_cons.mpr ⟨kz_975, List.forall_mem_cons.mpr ⟨kz_119, List.forall_mem_cons.mpr ⟨kc_X1_rankOf, fun _ h => absurd h List.not_mem_nil⟩⟩⟩⟩⟩
theorem kz_1038 : Cond.methodLink RX10 204 yX10_seeming ∈ z_gw := List.mem_filter.mpr ⟨z_sub_t4 210 rfl, rfl⟩
theorem kz_1040 : Cond.instanceMethod yX10_seeming ∈ z_gw := List.mem_filter.mpr ⟨z_sub_t4 212 rfl, rfl⟩
theorem kz_26 : Cond.selects RX10 yX10_seeming yX10_seeming ∈ z_gw := z_sub_p2 10 rfl rfl
theorem kk_X10_204 : ∀ w ∈ [Cond.methodLink RX10 204 yX10_seeming, .instanceMethod yX10_seeming, .selects RX10 yX10_seeming yX10_seeming, .initialized RX10, z_code M_X10_seeming], w ∈ z_gw := List.forall_mem_cons.mpr ⟨kz_1038, List.forall_mem_cons.mpr ⟨kz_1040, List.forall_mem_cons.mpr ⟨kz_26, List.forall_mem_cons.mpr ⟨kz_109, List.forall_mem_cons.mpr ⟨kc_X10_seeming, fun _ h => absurd h List.not_mem_nil⟩⟩⟩⟩⟩
theorem kz_1042 : Cond.methodLink RX10 207 yX1_bornIn ∈ z_gw := List.mem_filter.mpr ⟨z_sub_t4 214 rfl, rfl⟩
theorem kz_1043 : Cond.instanceMethod yX1_bornIn ∈ z_gw := List.mem_filter.mpr ⟨z_sub_t4 215 rfl, rfl⟩
theorem kz_1044 : Cond.selects RX1 yX1_bornIn yX1_bornIn ∈ z_gw := List.mem_filter.mpr ⟨z_sub_t4 216 rfl, rfl⟩
theorem kk_X10_207 : ∀ w ∈ [Cond.methodLink RX10 207 yX1_bornIn, .instanceMethod yX1_bornIn, .selects RX1 yX1_bornIn yX1_bornIn, .initialized RX1, z_code M_X1_bornIn], w ∈ z_gw := List.forall_mem_cons.mpr ⟨kz_1042, List.forall_mem_cons.mpr ⟨kz_1043, List.forall_mem_cons.mpr ⟨kz_1044, List.forall_mem_cons.mpr ⟨kz_119, List.forall_mem_cons.mpr ⟨kc_X1_bornIn, fun _ h => absurd h List.not_mem_nil⟩⟩⟩⟩⟩
theorem kz_1054 : Cond.methodLink RX10 210 yX1_hasPerson ∈ z_gw := List.mem_filter.mpr ⟨z_sub_t4 226 rfl, rfl⟩
theorem kz_1055 : Cond.instanceMethod yX1_hasPerson ∈ z_gw := List.mem_filter.mpr ⟨z_sub_t4 227 rfl, rfl⟩
theorem kz_1056 : Cond.selects RX1 yX1_hasPerson yX1_hasPerson ∈ z_gw := List.mem_filter.mpr ⟨z_sub_t4 228 rfl, rfl⟩
theorem kk_X10_210 : ∀ w ∈ [Cond.methodLink RX10 210 yX1_hasPerson, .instanceMethod yX1_hasPerson, .selects RX1 yX1_hasPerson yX1_hasPerson, .initialized RX1, z_code M_X1_hasPerson], w ∈ z_gw := List.forall_mem_cons.mpr ⟨kz_1054, List.forall_mem_cons.mpr ⟨kz_1055, List.forall_mem_cons.mpr ⟨kz_1056, List.forall_mem_cons.mpr ⟨kz_119, List.forall_mem_cons.mpr ⟨kc_X1_hasPerson, fun _ h => absurd h List.not_mem_nil⟩⟩⟩⟩⟩
theorem kz_969 : Cond.methodLink RX10 213 yX1_homeOf ∈ z_gw := List.mem_filter.mpr ⟨z_sub_t4 141 rfl, rfl⟩
theorem kz_970 : Cond.instanceMethod yX1_homeOf ∈ z_gw := List.mem_filter.mpr ⟨z_sub_t4 142 rfl, rfl⟩
theorem kz_971 : Cond.selects RX1 yX1_homeOf yX1_homeOf ∈ z_gw := List.mem_filter.mpr ⟨z_sub_t4 143 rfl, rfl⟩
theorem kk_X10_213 : ∀ w ∈ [Cond.methodLink RX10 213 yX1_homeOf, .instanceMethod yX1_homeOf, .selects RX1 yX1_homeOf yX1_homeOf, .initialized RX1, z_code M_X1_homeOf], w ∈ z_gw := List.forall_mem_cons.mpr ⟨kz_969, List.forall_mem_cons.mpr ⟨kz_970, List.forall_mem_cons.mpr ⟨kz_971, List.forall_mem_cons.mpr ⟨kz_119, List.forall_mem_cons.mpr ⟨kc_X1_homeOf, fun _ h => absurd h List.not_mem_nil⟩⟩⟩⟩⟩
theorem kz_962 : Cond.methodLink RX10 216 yX9_has ∈ z_gw := List.mem_filter.mpr ⟨z_sub_t4 134 rfl, rfl⟩
theorem kz_490 : Cond.instanceMethod yX9_has ∈ z_gw := List.mem_filter.mpr ⟨z_sub_t2 142 rfl, rfl⟩
theorem kz_491 : Cond.selects RX9 yX9_has yX9_has ∈ z_gw := List.mem_filter.mpr ⟨z_sub_t2 143 rfl, rfl⟩
theorem kk_X10_216 : ∀ w ∈ [Cond.methodLink RX10 216 yX9_has, .instanceMethod yX9_has, .selects RX9 yX9_has yX9_has, .initialized RX9, z_code M_X9_has], w ∈ z_gw := List.forall_mem_cons.mpr ⟨kz_962, List.forall_mem_cons.mpr ⟨kz_490, List.forall_mem_cons.mpr ⟨kz_491, List.forall_mem_cons.mpr ⟨kz_111, List.forall_mem_cons.mpr ⟨kc_X9_has, fun _ h => absurd h List.not_mem_nil⟩⟩⟩⟩⟩
theorem kz_963 : Cond.methodLink RX10 219 yX1_nearest ∈ z_gw := List.mem_filter.mpr ⟨z_sub_t4 135 rfl, rfl⟩
theorem kz_964 : Cond.instanceMethod yX1_nearest ∈ z_gw := List.mem_filter.mpr ⟨z_sub_t4 136 rfl, rfl⟩
theorem kz_965 : Cond.selects RX1 yX1_nearest yX1_nearest ∈ z_gw := List.mem_filter.mpr ⟨z_sub_t4 137 rfl, rfl⟩
theorem kk_X10_219 : ∀ w ∈ [Cond.methodLink RX10 219 yX1_nearest, .instanceMethod yX1_nearest, .selects RX1 yX1_nearest yX1_nearest, .initialized RX1, z_code M_X1_nearest], w ∈ z_gw := List.forall_mem_cons.mpr ⟨kz_963, List.forall_mem_cons.mpr ⟨kz_964, List.forall_mem_cons.mpr ⟨kz_965, List.forall_mem_cons.mpr ⟨kz_119, List.forall_mem_cons.mpr ⟨kc_X1_nearest, fun _ h => absurd h List.not_mem_nil⟩⟩⟩⟩⟩
theorem kz_958 : Cond.methodLink RX10 222 yX10_isSeated ∈ z_gw := List.mem_filter.mpr ⟨z_sub_t4 130 rfl, rfl⟩
theorem kz_960 : Cond.instanceMethod yX10_isSeated ∈ z_gw := List.mem_filter.mpr ⟨z_sub_t4 132 rfl, rfl⟩
theorem kz_23 : Cond.selects RX10 yX10_isSeated yX10_isSeated ∈ z_gw := z_sub_p2 7 rfl rfl
theorem kk_X10_222 : ∀ w ∈ [Cond.methodLink RX10 222 yX10_isSeated, .instanceMethod yX10_isSeated, .selects RX10 yX10_isSeated yX10_isSeated, .initialized RX10, z_code M_X10_isSeated], w ∈ z_gw := List.forall_mem_cons.mpr ⟨kz_958, List.forall_mem_cons.mpr ⟨kz_960, List.forall_mem_cons.mpr ⟨kz_23, List.forall_mem_cons.mpr ⟨kz_109, List.forall_mem_cons.mpr ⟨kc_X10_isSeated, fun _ h => absurd h List.not_mem_nil⟩⟩⟩⟩⟩
theorem kz_1065 : Cond.methodLink RX10 226 yX10_isDye ∈ z_gw := List.mem_filter.mpr ⟨z_sub_t4 237 rfl, rfl⟩
theorem kz_1066 : Cond.static yX10_isDye ∈ z_gw := List.mem_filter.mpr ⟨z_sub_t4 238 rfl, rfl⟩
theorem kk_X10_226 : ∀ w ∈ [Cond.methodLink RX10 226 yX10_isDye, .static yX10_isDye, .initialized RX10, z_code M_X10_isDye], w ∈ z_gw := List.forall_mem_cons.mpr ⟨kz_1065, List.forall_mem_cons.mpr ⟨kz_1066, List.forall_mem_cons.mpr ⟨kz_109, List.forall_mem_cons.mpr ⟨kc_X10_isDye, fun _ h => absurd h List.not_mem_nil⟩⟩⟩⟩
theorem kz_1068 : Cond.methodLink RX10 229 yX9_stored ∈ z_gw := List.mem_filter.mpr ⟨z_sub_t5 0 rfl, rfl⟩
theorem kz_881 : Cond.instanceMethod yX9_stored ∈ z_gw := List.mem_filter.mpr ⟨z_sub_t4 53 rfl, rfl⟩
theorem kz_882 : Cond.selects RX9 yX9_stored yX9_stored ∈ z_gw := List.mem_filter.mpr ⟨z_sub_t4 54 rfl, rfl⟩
theorem kk_X10_229 : ∀ w ∈ [Cond.methodLink RX10 229 yX9_stored, .instanceMethod yX9_stored, .selects RX9 yX9_stored yX9_stored, .initialized RX9, z_code M_X9_stored], w ∈ z_gw := List.forall_mem_cons.mpr ⟨kz_1068, List.forall_mem_cons.mpr ⟨kz_881, List.forall_mem_cons.mpr ⟨kz_882, List.forall_mem_cons.mpr ⟨kz_111, List.forall_mem_cons.mpr ⟨kc_X9_stored, fun _ h => absurd h List.not_mem_nil⟩⟩⟩⟩⟩
theorem kz_1076 : Cond.methodLink RX10 232 yX10_isShade ∈ z_gw := List.mem_filter.mpr ⟨z_sub_t5 8 rfl, rfl⟩
theorem kz_1077 : Cond.static yX10_isShade ∈ z_gw := List.mem_filter.mpr ⟨z_sub_t5 9 rfl, rfl⟩
theorem kk_X10_232 : ∀ w ∈ [Cond.methodLink RX10 232 yX10_isShade, .static yX10_isShade, .initialized RX10, z_code M_X10_isShade], w ∈ z_gw := List.forall_mem_cons.mpr ⟨kz_1076, List.forall_mem_cons.mpr ⟨kz_1077, List.forall_mem_cons.mpr ⟨kz_109, List.forall_mem_cons.mpr ⟨kc_X10_isShade, fun _ h => absurd h List.not_mem_nil⟩⟩⟩⟩
theorem kz_977 : Cond.methodLink RX10 235 yX5_seats ∈ z_gw := List.mem_filter.mpr ⟨z_sub_t4 149 rfl, rfl⟩
theorem kz_978 : Cond.instanceMethod yX5_seats ∈ z_gw := List.mem_filter.mpr ⟨z_sub_t4 150 rfl, rfl⟩
theorem kz_979 : Cond.selects RX5 yX5_seats yX5_seats ∈ z_gw := List.mem_filter.mpr ⟨z_sub_t4 151 rfl, rfl⟩
theorem kk_X10_235 : ∀ w ∈ [Cond.methodLink RX10 235 yX5_seats, .instanceMethod yX5_seats, .selects RX5 yX5_seats yX5_seats, .initialized RX5, z_code M_X5_seats], w ∈ z_gw := List.forall_mem_cons.mpr ⟨kz_977, List.forall_mem_cons.mpr ⟨kz_978, List.forall_mem_cons.mpr ⟨kz_979, List.forall_mem_cons.mpr ⟨kz_112, List.forall_mem_cons.mpr ⟨kc_X5_seats, fun _ h => absurd h List.not_mem_nil⟩⟩⟩⟩⟩
theorem kz_1086 : Cond.methodLink RX10 239 yX10_apart ∈ z_gw := List.mem_filter.mpr ⟨z_sub_t5 18 rfl, rfl⟩
theorem kz_905 : Cond.static yX10_apart ∈ z_gw := List.mem_filter.mpr ⟨z_sub_t4 77 rfl, rfl⟩
theorem kk_X10_239 : ∀ w ∈ [Cond.methodLink RX10 239 yX10_apart, .static yX10_apart, .initialized RX10, z_code M_X10_apart], w ∈ z_gw := List.forall_mem_cons.mpr ⟨kz_1086, List.forall_mem_cons.mpr ⟨kz_905, List.forall_mem_cons.mpr ⟨kz_109, List.forall_mem_cons.mpr ⟨kc_X10_apart, fun _ h => absurd h List.not_mem_nil⟩⟩⟩⟩
theorem kz_1101 : Cond.methodLink RX10 242 yX10_deeper ∈ z_gw := List.mem_filter.mpr ⟨z_sub_t5 33 rfl, rfl⟩
theorem kz_871 : Cond.static yX10_deeper ∈ z_gw := List.mem_filter.mpr ⟨z_sub_t4 43 rfl, rfl⟩
theorem kk_X10_242 : ∀ w ∈ [Cond.methodLink RX10 242 yX10_deeper, .static yX10_deeper, .initialized RX10, z_code M_X10_deeper], w ∈ z_gw := List.forall_mem_cons.mpr ⟨kz_1101, List.forall_mem_cons.mpr ⟨kz_871, List.forall_mem_cons.mpr ⟨kz_109, List.forall_mem_cons.mpr ⟨kc_X10_deeper, fun _ h => absurd h List.not_mem_nil⟩⟩⟩⟩
theorem kz_481 : Cond.methodLink RX10 245 yX9_rainShade ∈ z_gw := List.mem_filter.mpr ⟨z_sub_t2 133 rfl, rfl⟩
theorem kz_482 : Cond.instanceMethod yX9_rainShade ∈ z_gw := List.mem_filter.mpr ⟨z_sub_t2 134 rfl, rfl⟩
theorem kz_483 : Cond.selects RX9 yX9_rainShade yX9_rainShade ∈ z_gw := List.mem_filter.mpr ⟨z_sub_t2 135 rfl, rfl⟩
theorem kk_X10_245 : ∀ w ∈ [Cond.methodLink RX10 245 yX9_rainShade, .instanceMethod yX9_rainShade, .selects RX9 yX9_rainShade yX9_rainShade, .initialized RX9, z_code M_X9_rainShade], w ∈ z_gw := List.forall_mem_cons.mpr ⟨kz_481, List.forall_mem_cons.mpr ⟨kz_482, List.forall_mem_cons.mpr ⟨kz_483, List.forall_mem_cons.mpr ⟨kz_111, List.forall_mem_cons.mpr ⟨kc_X9_rainShade, fun _ h => absurd h List.not_mem_nil⟩⟩⟩⟩⟩
theorem kz_1109 : Cond.methodLink RX10 248 yX9_copyFrom ∈ z_gw := List.mem_filter.mpr ⟨z_sub_t5 41 rfl, rfl⟩
theorem kz_1110 : Cond.instanceMethod yX9_copyFrom ∈ z_gw := List.mem_filter.mpr ⟨z_sub_t5 42 rfl, rfl⟩
theorem kz_1111 : Cond.selects RX9 yX9_copyFrom yX9_copyFrom ∈ z_gw := List.mem_filter.mpr ⟨z_sub_t5 43 rfl, rfl⟩
theorem kk_X10_248 : ∀ w ∈ [Cond.methodLink RX10 248 yX9_copyFrom, .instanceMethod yX9_copyFrom, .selects RX9 yX9_copyFrom yX9_copyFrom, .initialized RX9, z_code M_X9_copyFrom], w ∈ z_gw := List.forall_mem_cons.mpr ⟨kz_1109, List.forall_mem_cons.mpr ⟨kz_1110, List.forall_mem_cons.mpr ⟨kz_1111, List.forall_mem_cons.mpr ⟨kz_111, List.forall_mem_cons.mpr ⟨kc_X9_copyFrom, fun _ h => absurd h List.not_mem_nil⟩⟩⟩⟩⟩
theorem kz_1113 : Cond.methodLink RX10 251 yX9_passYear ∈ z_gw := List.mem_filter.mpr ⟨z_sub_t5 45 rfl, rfl⟩
theorem kz_918 : Cond.instanceMethod yX9_passYear ∈ z_gw := List.mem_filter.mpr ⟨z_sub_t4 90 rfl, rfl⟩
theorem kz_919 : Cond.selects RX9 yX9_passYear yX9_passYear ∈ z_gw := List.mem_filter.mpr ⟨z_sub_t4 91 rfl, rfl⟩
theorem kk_X10_251 : ∀ w ∈ [Cond.methodLink RX10 251 yX9_passYear, .instanceMethod yX9_passYear, .selects RX9 yX9_passYear yX9_passYear, .initialized RX9, z_code M_X9_passYear], w ∈ z_gw := List.forall_mem_cons.mpr ⟨kz_1113, List.forall_mem_cons.mpr ⟨kz_918, List.forall_mem_cons.mpr ⟨kz_919, List.forall_mem_cons.mpr ⟨kz_111, List.forall_mem_cons.mpr ⟨kc_X9_passYear, fun _ h => absurd h List.not_mem_nil⟩⟩⟩⟩⟩
theorem kz_1128 : Cond.methodLink RX10 255 yX6_fewestDips ∈ z_gw := List.mem_filter.mpr ⟨z_sub_t5 60 rfl, rfl⟩
theorem kz_1129 : Cond.instanceMethod yX6_fewestDips ∈ z_gw := List.mem_filter.mpr ⟨z_sub_t5 61 rfl, rfl⟩
theorem kz_1130 : Cond.selects RX6 yX6_fewestDips yX6_fewestDips ∈ z_gw := List.mem_filter.mpr ⟨z_sub_t5 62 rfl, rfl⟩
theorem kk_X10_255 : ∀ w ∈ [Cond.methodLink RX10 255 yX6_fewestDips, .instanceMethod yX6_fewestDips, .selects RX6 yX6_fewestDips yX6_fewestDips, .initialized RX6, z_code M_X6_fewestDips], w ∈ z_gw := List.forall_mem_cons.mpr ⟨kz_1128, List.forall_mem_cons.mpr ⟨kz_1129, List.forall_mem_cons.mpr ⟨kz_1130, List.forall_mem_cons.mpr ⟨kz_116, List.forall_mem_cons.mpr ⟨kc_X6_fewestDips, fun _ h => absurd h List.not_mem_nil⟩⟩⟩⟩⟩
theorem kz_1147 : Cond.methodLink RX10 259 yX6_dipOnTheWay ∈ z_gw := List.mem_filter.mpr ⟨z_sub_t5 79 rfl, rfl⟩
theorem kz_1148 : Cond.instanceMethod yX6_dipOnTheWay ∈ z_gw := List.mem_filter.mpr ⟨z_sub_t5 80 rfl, rfl⟩
theorem kz_1149 : Cond.selects RX6 yX6_dipOnTheWay yX6_dipOnTheWay ∈ z_gw := List.mem_filter.mpr ⟨z_sub_t5 81 rfl, rfl⟩
theorem kk_X10_259 : ∀ w ∈ [Cond.methodLink RX10 259 yX6_dipOnTheWay, .instanceMethod yX6_dipOnTheWay, .selects RX6 yX6_dipOnTheWay yX6_dipOnTheWay, .initialized RX6, z_code M_X6_dipOnTheWay], w ∈ z_gw := List.forall_mem_cons.mpr ⟨kz_1147, List.forall_mem_cons.mpr ⟨kz_1148, List.forall_mem_cons.mpr ⟨kz_1149, List.forall_mem_cons.mpr ⟨kz_116, List.forall_mem_cons.mpr ⟨kc_X6_dipOnTheWay, fun _ h => absurd h List.not_mem_nil⟩⟩⟩⟩⟩
theorem kz_1163 : Cond.methodLink RX10 263 yX6_mixAll ∈ z_gw := List.mem_filter.mpr ⟨z_sub_t5 95 rfl, rfl⟩
theorem kz_1164 : Cond.instanceMethod yX6_mixAll ∈ z_gw := List.mem_filter.mpr ⟨z_sub_t5 96 rfl, rfl⟩
theorem kz_1165 : Cond.selects RX6 yX6_mixAll yX6_mixAll ∈ z_gw := List.mem_filter.mpr ⟨z_sub_t5 97 rfl, rfl⟩
theorem kk_X10_263 : ∀ w ∈ [Cond.methodLink RX10 263 yX6_mixAll, .instanceMethod yX6_mixAll, .selects RX6 yX6_mixAll yX6_mixAll, .initialized RX6, z_code M_X6_mixAll], w ∈ z_gw := List.forall_mem_cons.mpr ⟨kz_1163, List.forall_mem_cons.mpr ⟨kz_1164, List.forall_mem_cons.mpr ⟨kz_1165, List.forall_mem_cons.mpr ⟨kz_116, List.forall_mem_cons.mpr ⟨kc_X6_mixAll, fun _ h => absurd h List.not_mem_nil⟩⟩⟩⟩⟩
theorem kz_1175 : Cond.methodLink RX10 266 yX6_mixesOf ∈ z_gw := List.mem_filter.mpr ⟨z_sub_t5 107 rfl, rfl⟩
theorem kz_1176 : Cond.instanceMethod yX6_mixesOf ∈ z_gw := List.mem_filter.mpr ⟨z_sub_t5 108 rfl, rfl⟩
theorem kz_1177 : Cond.selects RX6 yX6_mixesOf yX6_mixesOf ∈ z_gw := List.mem_filter.mpr ⟨z_sub_t5 109 rfl, rfl⟩
theorem kk_X10_266 : ∀ w ∈ [Cond.methodLink RX10 266 yX6_mixesOf, .instanceMethod yX6_mixesOf, .selects RX6 yX6_mixesOf yX6_mixesOf, .initialized RX6, z_code M_X6_mixesOf], w ∈ z_gw := List.forall_mem_cons.mpr ⟨kz_1175, List.forall_mem_cons.mpr ⟨kz_1176, List.forall_mem_cons.mpr ⟨kz_1177, List.forall_mem_cons.mpr ⟨kz_116, List.forall_mem_cons.mpr ⟨kc_X6_mixesOf, fun _ h => absurd h List.not_mem_nil⟩⟩⟩⟩⟩
theorem kz_1179 : Cond.methodLink RX10 269 yX6_dipsOf ∈ z_gw := List.mem_filter.mpr ⟨z_sub_t5 111 rfl, rfl⟩
theorem kz_1180 : Cond.instanceMethod yX6_dipsOf ∈ z_gw := List.mem_filter.mpr ⟨z_sub_t5 112 rfl, rfl⟩
theorem kz_1181 : Cond.selects RX6 yX6_dipsOf yX6_dipsOf ∈ z_gw := List.mem_filter.mpr ⟨z_sub_t5 113 rfl, rfl⟩
theorem kk_X10_269 : ∀ w ∈ [Cond.methodLink RX10 269 yX6_dipsOf, .instanceMethod yX6_dipsOf, .selects RX6 yX6_dipsOf yX6_dipsOf, .initialized RX6, z_code M_X6_dipsOf], w ∈ z_gw := List.forall_mem_cons.mpr ⟨kz_1179, List.forall_mem_cons.mpr ⟨kz_1180, List.forall_mem_cons.mpr ⟨kz_1181, List.forall_mem_cons.mpr ⟨kz_116, List.forall_mem_cons.mpr ⟨kc_X6_dipsOf, fun _ h => absurd h List.not_mem_nil⟩⟩⟩⟩⟩
theorem kz_1190 : Cond.methodLink RX10 272 yX6_reachable ∈ z_gw := List.mem_filter.mpr ⟨z_sub_t5 122 rfl, rfl⟩
theorem kz_1191 : Cond.instanceMethod yX6_reachable ∈ z_gw := List.mem_filter.mpr ⟨z_sub_t5 123 rfl, rfl⟩
theorem kz_1192 : Cond.selects RX6 yX6_reachable yX6_reachable ∈ z_gw := List.mem_filter.mpr ⟨z_sub_t5 124 rfl, rfl⟩
theorem kk_X10_272 : ∀ w ∈ [Cond.methodLink RX10 272 yX6_reachable, .instanceMethod yX6_reachable, .selects RX6 yX6_reachable yX6_reachable, .initialized RX6, z_code M_X6_reachable], w ∈ z_gw := List.forall_mem_cons.mpr ⟨kz_1190, List.forall_mem_cons.mpr ⟨kz_1191, List.forall_mem_cons.mpr ⟨kz_1192, List.forall_mem_cons.mpr ⟨kz_116, List.forall_mem_cons.mpr ⟨kc_X6_reachable, fun _ h => absurd h List.not_mem_nil⟩⟩⟩⟩⟩
theorem kz_1201 : Cond.methodLink RX10 276 yX0_allFits ∈ z_gw := List.mem_filter.mpr ⟨z_sub_t5 133 rfl, rfl⟩
theorem kz_1202 : Cond.instanceMethod yX0_allFits ∈ z_gw := List.mem_filter.mpr ⟨z_sub_t5 134 rfl, rfl⟩
theorem kz_1203 : Cond.selects RX0 yX0_allFits yX0_allFits ∈ z_gw := List.mem_filter.mpr ⟨z_sub_t5 135 rfl, rfl⟩
theorem kk_X10_276 : ∀ w ∈ [Cond.methodLink RX10 276 yX0_allFits, .instanceMethod yX0_allFits, .selects RX0 yX0_allFits yX0_allFits, .initialized RX0, z_code M_X0_allFits], w ∈ z_gw := List.forall_mem_cons.mpr ⟨kz_1201, List.forall_mem_cons.mpr ⟨kz_1202, List.forall_mem_cons.mpr ⟨kz_1203, List.forall_mem_cons.mpr ⟨kz_113, List.forall_mem_cons.mpr ⟨kc_X0_allFits, fun _ h => absurd h List.not_mem_nil⟩⟩⟩⟩⟩
theorem kz_1211 : Cond.methodLink RX10 280 yX0_firstFit ∈ z_gw := List.mem_filter.mpr ⟨z_sub_t5 143 rfl, rfl⟩
theorem kz_1212 : Cond.instanceMethod yX0_firstFit ∈ z_gw := List.mem_filter.mpr ⟨z_sub_t5 144 rfl, rfl⟩
theorem kz_1213 : Cond.selects RX0 yX0_firstFit yX0_firstFit ∈ z_gw := List.mem_filter.mpr ⟨z_sub_t5 145 rfl, rfl⟩
theorem kk_X10_280 : ∀ w ∈ [Cond.methodLink RX10 280 yX0_firstFit, .instanceMethod yX0_firstFit, .selects RX0 yX0_firstFit yX0_firstFit, .initialized RX0, z_code M_X0_firstFit], w ∈ z_gw := List.forall_mem_cons.mpr ⟨kz_1211, List.forall_mem_cons.mpr ⟨kz_1212, List.forall_mem_cons.mpr ⟨kz_1213, List.forall_mem_cons.mpr ⟨kz_113, List.forall_mem_cons.mpr ⟨kc_X0_firstFit, fun _ h => absurd h List.not_mem_nil⟩⟩⟩⟩⟩
theorem kz_1222 : Cond.methodLink RX10 283 yX0_tells ∈ z_gw := List.mem_filter.mpr ⟨z_sub_t5 154 rfl, rfl⟩
theorem kz_1223 : Cond.instanceMethod yX0_tells ∈ z_gw := List.mem_filter.mpr ⟨z_sub_t5 155 rfl, rfl⟩
theorem kz_1224 : Cond.selects RX0 yX0_tells yX0_tells ∈ z_gw := List.mem_filter.mpr ⟨z_sub_t5 156 rfl, rfl⟩
theorem kk_X10_283 : ∀ w ∈ [Cond.methodLink RX10 283 yX0_tells, .instanceMethod yX0_tells, .selects RX0 yX0_tells yX0_tells, .initialized RX0, z_code M_X0_tells], w ∈ z_gw := List.forall_mem_cons.mpr ⟨kz_1222, List.forall_mem_cons.mpr ⟨kz_1223, List.forall_mem_cons.mpr ⟨kz_1224, List.forall_mem_cons.mpr ⟨kz_113, List.forall_mem_cons.mpr ⟨kc_X0_tells, fun _ h => absurd h List.not_mem_nil⟩⟩⟩⟩⟩
theorem kz_1226 : Cond.methodLink RX10 286 yX0_mostLeft ∈ z_gw := List.mem_filter.mpr ⟨z_sub_t5 158 rfl, rfl⟩
theorem kz_1227 : Cond.instanceMethod yX0_mostLeft ∈ z_gw := List.mem_filter.mpr ⟨z_sub_t5 159 rfl, rfl⟩
theorem kz_1228 : Cond.selects RX0 yX0_mostLeft yX0_mostLeft ∈ z_gw := List.mem_filter.mpr ⟨z_sub_t5 160 rfl, rfl⟩
theorem kk_X10_286 : ∀ w ∈ [Cond.methodLink RX10 286 yX0_mostLeft, .instanceMethod yX0_mostLeft, .selects RX0 yX0_mostLeft yX0_mostLeft, .initialized RX0, z_code M_X0_mostLeft], w ∈ z_gw := List.forall_mem_cons.mpr ⟨kz_1226, List.forall_mem_cons.mpr ⟨kz_1227, List.forall_mem_cons.mpr ⟨kz_1228, List.forall_mem_cons.mpr ⟨kz_113, List.forall_mem_cons.mpr ⟨kc_X0_mostLeft, fun _ h => absurd h List.not_mem_nil⟩⟩⟩⟩⟩
theorem kz_1242 : Cond.methodLink RX10 290 yX2_arrange ∈ z_gw := List.mem_filter.mpr ⟨z_sub_t5 174 rfl, rfl⟩
theorem kz_1243 : Cond.instanceMethod yX2_arrange ∈ z_gw := List.mem_filter.mpr ⟨z_sub_t5 175 rfl, rfl⟩
theorem kz_1244 : Cond.selects RX2 yX2_arrange yX2_arrange ∈ z_gw := List.mem_filter.mpr ⟨z_sub_t5 176 rfl, rfl⟩
theorem kk_X10_290 : ∀ w ∈ [Cond.methodLink RX10 290 yX2_arrange, .instanceMethod yX2_arrange, .selects RX2 yX2_arrange yX2_arrange, .initialized RX2, z_code M_X2_arrange], w ∈ z_gw := List.forall_mem_cons.mpr ⟨kz_1242, List.forall_mem_cons.mpr ⟨kz_1243, List.forall_mem_cons.mpr ⟨kz_1244, List.forall_mem_cons.mpr ⟨kz_117, List.forall_mem_cons.mpr ⟨kc_X2_arrange, fun _ h => absurd h List.not_mem_nil⟩⟩⟩⟩⟩
theorem kz_316 : Cond.fieldLinkNest RX10 293 RX2 "pairs" "I" "DyeStreets" ∈ z_nw := List.mem_filter.mpr ⟨z_sub_t1 208 rfl, rfl⟩
theorem kf_X10_293 : Cond.fieldLinkNest RX10 293 RX2 "pairs" "I" "DyeStreets" ∈ z_nw := kz_316
theorem kz_318 : Cond.fieldLinkNest RX10 296 RX2 "distances" "I" "DyeStreets" ∈ z_nw := List.mem_filter.mpr ⟨z_sub_t1 210 rfl, rfl⟩
theorem kf_X10_296 : Cond.fieldLinkNest RX10 296 RX2 "distances" "I" "DyeStreets" ∈ z_nw := kz_318
theorem kz_1297 : Cond.methodLink RX10 299 yX2_partnerOf ∈ z_gw := List.mem_filter.mpr ⟨z_sub_t5 229 rfl, rfl⟩
theorem kz_1287 : Cond.instanceMethod yX2_partnerOf ∈ z_gw := List.mem_filter.mpr ⟨z_sub_t5 219 rfl, rfl⟩
theorem kz_1288 : Cond.selects RX2 yX2_partnerOf yX2_partnerOf ∈ z_gw := List.mem_filter.mpr ⟨z_sub_t5 220 rfl, rfl⟩
theorem kk_X10_299 : ∀ w ∈ [Cond.methodLink RX10 299 yX2_partnerOf, .instanceMethod yX2_partnerOf, .selects RX2 yX2_partnerOf yX2_partnerOf, .initialized RX2, z_code M_X2_partnerOf], w ∈ z_gw := List.forall_mem_cons.mpr ⟨kz_1297, List.forall_mem_cons.mpr ⟨kz_1287, List.forall_mem_cons.mpr ⟨kz_1288, List.forall_mem_cons.mpr ⟨kz_117, List.forall_mem_cons.mpr ⟨kc_X2_partnerOf, fun _ h => absurd h List.not_mem_nil⟩⟩⟩⟩⟩
theorem kz_1305 : Cond.methodLink RX10 302 yX10_suffices ∈ z_gw := List.mem_filter.mpr ⟨z_sub_t5 237 rfl, rfl⟩
theorem kz_1307 : Cond.instanceMethod yX10_suffices ∈ z_gw := List.mem_filter.mpr ⟨z_sub_t5 239 rfl, rfl⟩
theorem kz_38 : Cond.selects RX10 yX10_suffices yX10_suffices ∈ z_gw := z_sub_p3 6 rfl rfl
theorem kk_X10_302 : ∀ w ∈ [Cond.methodLink RX10 302 yX10_suffices, .instanceMethod yX10_suffices, .selects RX10 yX10_suffices yX10_suffices, .initialized RX10, z_code M_X10_suffices], w ∈ z_gw := List.forall_mem_cons.mpr ⟨kz_1305, List.forall_mem_cons.mpr ⟨kz_1307, List.forall_mem_cons.mpr ⟨kz_38, List.forall_mem_cons.mpr ⟨kz_109, List.forall_mem_cons.mpr ⟨kc_X10_suffices, fun _ h => absurd h List.not_mem_nil⟩⟩⟩⟩⟩
theorem kz_1323 : Cond.methodLink RX10 305 yX10_mostRight ∈ z_gw := List.mem_filter.mpr ⟨z_sub_t6 15 rfl, rfl⟩
theorem kz_1324 : Cond.static yX10_mostRight ∈ z_gw := List.mem_filter.mpr ⟨z_sub_t6 16 rfl, rfl⟩
theorem kk_X10_305 : ∀ w ∈ [Cond.methodLink RX10 305 yX10_mostRight, .static yX10_mostRight, .initialized RX10, z_code M_X10_mostRight], w ∈ z_gw := List.forall_mem_cons.mpr ⟨kz_1323, List.forall_mem_cons.mpr ⟨kz_1324, List.forall_mem_cons.mpr ⟨kz_109, List.forall_mem_cons.mpr ⟨kc_X10_mostRight, fun _ h => absurd h List.not_mem_nil⟩⟩⟩⟩
theorem kz_1332 : Cond.methodLink RX10 309 yX10_power ∈ z_gw := List.mem_filter.mpr ⟨z_sub_t6 24 rfl, rfl⟩
theorem kz_1333 : Cond.static yX10_power ∈ z_gw := List.mem_filter.mpr ⟨z_sub_t6 25 rfl, rfl⟩
theorem kk_X10_309 : ∀ w ∈ [Cond.methodLink RX10 309 yX10_power, .static yX10_power, .initialized RX10, z_code M_X10_power], w ∈ z_gw := List.forall_mem_cons.mpr ⟨kz_1332, List.forall_mem_cons.mpr ⟨kz_1333, List.forall_mem_cons.mpr ⟨kz_109, List.forall_mem_cons.mpr ⟨kc_X10_power, fun _ h => absurd h List.not_mem_nil⟩⟩⟩⟩
theorem kz_1335 : Cond.constantLong RX10 312 (2) ∈ z_gw := List.mem_filter.mpr ⟨z_sub_t6 27 rfl, rfl⟩
theorem kd_X10_312 : Cond.constantLong RX10 312 (2) ∈ z_gw := kz_1335
theorem kz_1343 : Cond.methodLink RX10 314 yX10_countGoers ∈ z_gw := List.mem_filter.mpr ⟨z_sub_t6 35 rfl, rfl⟩
theorem kz_1345 : Cond.instanceMethod yX10_countGoers ∈ z_gw := List.mem_filter.mpr ⟨z_sub_t6 37 rfl, rfl⟩
theorem kz_39 : Cond.selects RX10 yX10_countGoers yX10_countGoers ∈ z_gw := z_sub_p3 7 rfl rfl
theorem kk_X10_314 : ∀ w ∈ [Cond.methodLink RX10 314 yX10_countGoers, .instanceMethod yX10_countGoers, .selects RX10 yX10_countGoers yX10_countGoers, .initialized RX10, z_code M_X10_countGoers], w ∈ z_gw := List.forall_mem_cons.mpr ⟨kz_1343, List.forall_mem_cons.mpr ⟨kz_1345, List.forall_mem_cons.mpr ⟨kz_39, List.forall_mem_cons.mpr ⟨kz_109, List.forall_mem_cons.mpr ⟨kc_X10_countGoers, fun _ h => absurd h List.not_mem_nil⟩⟩⟩⟩⟩
theorem kz_1351 : Cond.methodLink RX10 317 yX10_restsAt ∈ z_gw := List.mem_filter.mpr ⟨z_sub_t6 43 rfl, rfl⟩
theorem kz_1353 : Cond.instanceMethod yX10_restsAt ∈ z_gw := List.mem_filter.mpr ⟨z_sub_t6 45 rfl, rfl⟩
theorem kz_41 : Cond.selects RX10 yX10_restsAt yX10_restsAt ∈ z_gw := z_sub_p3 9 rfl rfl
theorem kk_X10_317 : ∀ w ∈ [Cond.methodLink RX10 317 yX10_restsAt, .instanceMethod yX10_restsAt, .selects RX10 yX10_restsAt yX10_restsAt, .initialized RX10, z_code M_X10_restsAt], w ∈ z_gw := List.forall_mem_cons.mpr ⟨kz_1351, List.forall_mem_cons.mpr ⟨kz_1353, List.forall_mem_cons.mpr ⟨kz_41, List.forall_mem_cons.mpr ⟨kz_109, List.forall_mem_cons.mpr ⟨kc_X10_restsAt, fun _ h => absurd h List.not_mem_nil⟩⟩⟩⟩⟩
theorem kz_1355 : Cond.methodLink RX10 320 yX10_goersTo ∈ z_gw := List.mem_filter.mpr ⟨z_sub_t6 47 rfl, rfl⟩
theorem kz_1357 : Cond.instanceMethod yX10_goersTo ∈ z_gw := List.mem_filter.mpr ⟨z_sub_t6 49 rfl, rfl⟩
theorem kz_42 : Cond.selects RX10 yX10_goersTo yX10_goersTo ∈ z_gw := z_sub_p3 10 rfl rfl
theorem kk_X10_320 : ∀ w ∈ [Cond.methodLink RX10 320 yX10_goersTo, .instanceMethod yX10_goersTo, .selects RX10 yX10_goersTo yX10_goersTo, .initialized RX10, z_code M_X10_goersTo], w ∈ z_gw := List.forall_mem_cons.mpr ⟨kz_1355, List.forall_mem_cons.mpr ⟨kz_1357, List.forall_mem_cons.mpr ⟨kz_42, List.forall_mem_cons.mpr ⟨kz_109, List.forall_mem_cons.mpr ⟨kc_X10_goersTo, fun _ h => absurd h List.not_mem_nil⟩⟩⟩⟩⟩
theorem kz_1347 : Cond.methodLink RX10 323 yX10_preferring ∈ z_gw := List.mem_filter.mpr ⟨z_sub_t6 39 rfl, rfl⟩
theorem kz_1349 : Cond.instanceMethod yX10_preferring ∈ z_gw := List.mem_filter.mpr ⟨z_sub_t6 41 rfl, rfl⟩
theorem kz_40 : Cond.selects RX10 yX10_preferring yX10_preferring ∈ z_gw := z_sub_p3 8 rfl rfl
theorem kk_X10_323 : ∀ w ∈ [Cond.methodLink RX10 323 yX10_preferring, .instanceMethod yX10_preferring, .selects RX10 yX10_preferring yX10_preferring, .initialized RX10, z_code M_X10_preferring], w ∈ z_gw := List.forall_mem_cons.mpr ⟨kz_1347, List.forall_mem_cons.mpr ⟨kz_1349, List.forall_mem_cons.mpr ⟨kz_40, List.forall_mem_cons.mpr ⟨kz_109, List.forall_mem_cons.mpr ⟨kc_X10_preferring, fun _ h => absurd h List.not_mem_nil⟩⟩⟩⟩⟩
theorem kz_1373 : Cond.methodLink RX10 326 yX9_allDyes ∈ z_gw := List.mem_filter.mpr ⟨z_sub_t6 65 rfl, rfl⟩
theorem kz_1374 : Cond.instanceMethod yX9_allDyes ∈ z_gw := List.mem_filter.mpr ⟨z_sub_t6 66 rfl, rfl⟩
theorem kz_1375 : Cond.selects RX9 yX9_allDyes yX9_allDyes ∈ z_gw := List.mem_filter.mpr ⟨z_sub_t6 67 rfl, rfl⟩
theorem kk_X10_326 : ∀ w ∈ [Cond.methodLink RX10 326 yX9_allDyes, .instanceMethod yX9_allDyes, .selects RX9 yX9_allDyes yX9_allDyes, .initialized RX9, z_code M_X9_allDyes], w ∈ z_gw := List.forall_mem_cons.mpr ⟨kz_1373, List.forall_mem_cons.mpr ⟨kz_1374, List.forall_mem_cons.mpr ⟨kz_1375, List.forall_mem_cons.mpr ⟨kz_111, List.forall_mem_cons.mpr ⟨kc_X9_allDyes, fun _ h => absurd h List.not_mem_nil⟩⟩⟩⟩⟩
theorem kz_1385 : Cond.methodLink RX10 329 yX3_live ∈ z_gw := List.mem_filter.mpr ⟨z_sub_t6 77 rfl, rfl⟩
theorem kz_1386 : Cond.instanceMethod yX3_live ∈ z_gw := List.mem_filter.mpr ⟨z_sub_t6 78 rfl, rfl⟩
theorem kz_1387 : Cond.selects RX3 yX3_live yX3_live ∈ z_gw := List.mem_filter.mpr ⟨z_sub_t6 79 rfl, rfl⟩
theorem kk_X10_329 : ∀ w ∈ [Cond.methodLink RX10 329 yX3_live, .instanceMethod yX3_live, .selects RX3 yX3_live yX3_live, .initialized RX3, z_code M_X3_live], w ∈ z_gw := List.forall_mem_cons.mpr ⟨kz_1385, List.forall_mem_cons.mpr ⟨kz_1386, List.forall_mem_cons.mpr ⟨kz_1387, List.forall_mem_cons.mpr ⟨kz_118, List.forall_mem_cons.mpr ⟨kc_X3_live, fun _ h => absurd h List.not_mem_nil⟩⟩⟩⟩⟩
theorem kz_338 : Cond.fieldLinkNest RX10 333 RX3 "dips" "I" "DyeStreets" ∈ z_nw := List.mem_filter.mpr ⟨z_sub_t1 230 rfl, rfl⟩
theorem kf_X10_333 : Cond.fieldLinkNest RX10 333 RX3 "dips" "I" "DyeStreets" ∈ z_nw := kz_338
theorem kz_340 : Cond.fieldLinkNest RX10 336 RX3 "rains" "I" "DyeStreets" ∈ z_nw := List.mem_filter.mpr ⟨z_sub_t1 232 rfl, rfl⟩
theorem kf_X10_336 : Cond.fieldLinkNest RX10 336 RX3 "rains" "I" "DyeStreets" ∈ z_nw := kz_340
theorem kz_874 : Cond.methodLink RX10 339 Lib.Math.min.name ∈ z_gw := List.mem_filter.mpr ⟨z_sub_t4 46 rfl, rfl⟩
theorem kz_716 : Cond.static Lib.Math.min.name ∈ z_gw := List.mem_filter.mpr ⟨z_sub_t3 128 rfl, rfl⟩
theorem kz_129 : Cond.initialized "java/lang/Math" ∈ z_gw := List.mem_filter.mpr ⟨z_sub_t1 21 rfl, rfl⟩
theorem kz_717 : Cond.code Lib.Math.min.name Lib.Math.min.code 2 (some .int) ∈ z_gw := List.mem_filter.mpr ⟨z_sub_t3 129 rfl, rfl⟩
theorem km_X10_339 : ∀ w ∈ [Cond.methodLink RX10 339 Lib.Math.min.name, .static Lib.Math.min.name, .initialized "java/lang/Math", .code Lib.Math.min.name Lib.Math.min.code 2 (some .int)], w ∈ z_gw := List.forall_mem_cons.mpr ⟨kz_874, List.forall_mem_cons.mpr ⟨kz_716, List.forall_mem_cons.mpr ⟨kz_129, List.forall_mem_cons.mpr ⟨kz_717, fun _ h => absurd h List.not_mem_nil⟩⟩⟩⟩
theorem kz_1405 : Cond.methodLink RX10 344 Lib.Math.max.name ∈ z_gw := List.mem_filter.mpr ⟨z_sub_t6 97 rfl, rfl⟩
theorem kz_995 : Cond.static Lib.Math.max.name ∈ z_gw := List.mem_filter.mpr ⟨z_sub_t4 167 rfl, rfl⟩
theorem kz_996 : Cond.code Lib.Math.max.name Lib.Math.max.code 2 (some .int) ∈ z_gw := List.mem_filter.mpr ⟨z_sub_t4 168 rfl, rfl⟩
theorem km_X10_344 : ∀ w ∈ [Cond.methodLink RX10 344 Lib.Math.max.name, .static Lib.Math.max.name, .initialized "java/lang/Math", .code Lib.Math.max.name Lib.Math.max.code 2 (some .int)], w ∈ z_gw := List.forall_mem_cons.mpr ⟨kz_1405, List.forall_mem_cons.mpr ⟨kz_995, List.forall_mem_cons.mpr ⟨kz_129, List.forall_mem_cons.mpr ⟨kz_996, fun _ h => absurd h List.not_mem_nil⟩⟩⟩⟩
theorem kz_281 : Cond.fieldLinkNest RX10 347 RX4 "images" "I" "DyeStreets" ∈ z_nw := List.mem_filter.mpr ⟨z_sub_t1 173 rfl, rfl⟩
theorem kf_X10_347 : Cond.fieldLinkNest RX10 347 RX4 "images" "I" "DyeStreets" ∈ z_nw := kz_281
theorem kz_504 : Cond.methodLink RX10 350 yX4_keepImage ∈ z_gw := List.mem_filter.mpr ⟨z_sub_t2 156 rfl, rfl⟩
theorem kz_505 : Cond.instanceMethod yX4_keepImage ∈ z_gw := List.mem_filter.mpr ⟨z_sub_t2 157 rfl, rfl⟩
theorem kz_506 : Cond.selects RX4 yX4_keepImage yX4_keepImage ∈ z_gw := List.mem_filter.mpr ⟨z_sub_t2 158 rfl, rfl⟩
theorem kk_X10_350 : ∀ w ∈ [Cond.methodLink RX10 350 yX4_keepImage, .instanceMethod yX4_keepImage, .selects RX4 yX4_keepImage yX4_keepImage, .initialized RX4, z_code M_X4_keepImage], w ∈ z_gw := List.forall_mem_cons.mpr ⟨kz_504, List.forall_mem_cons.mpr ⟨kz_505, List.forall_mem_cons.mpr ⟨kz_506, List.forall_mem_cons.mpr ⟨kz_115, List.forall_mem_cons.mpr ⟨kc_X4_keepImage, fun _ h => absurd h List.not_mem_nil⟩⟩⟩⟩⟩
theorem kz_518 : Cond.methodLink RX10 353 yX4_bringBack ∈ z_gw := List.mem_filter.mpr ⟨z_sub_t2 170 rfl, rfl⟩
theorem kz_519 : Cond.instanceMethod yX4_bringBack ∈ z_gw := List.mem_filter.mpr ⟨z_sub_t2 171 rfl, rfl⟩
theorem kz_520 : Cond.selects RX4 yX4_bringBack yX4_bringBack ∈ z_gw := List.mem_filter.mpr ⟨z_sub_t2 172 rfl, rfl⟩
theorem kk_X10_353 : ∀ w ∈ [Cond.methodLink RX10 353 yX4_bringBack, .instanceMethod yX4_bringBack, .selects RX4 yX4_bringBack yX4_bringBack, .initialized RX4, z_code M_X4_bringBack], w ∈ z_gw := List.forall_mem_cons.mpr ⟨kz_518, List.forall_mem_cons.mpr ⟨kz_519, List.forall_mem_cons.mpr ⟨kz_520, List.forall_mem_cons.mpr ⟨kz_115, List.forall_mem_cons.mpr ⟨kc_X4_bringBack, fun _ h => absurd h List.not_mem_nil⟩⟩⟩⟩⟩
theorem kz_406 : Cond.fieldLink RX10 356 RX10 "missingCalls" "I" ∈ z_gw := List.mem_filter.mpr ⟨z_sub_t2 58 rfl, rfl⟩
theorem kf_X10_356 : Cond.fieldLink RX10 356 RX10 "missingCalls" "I" ∈ z_gw := kz_406
theorem kz_407 : Cond.fieldLink RX10 359 RX10 "illegalCalls" "I" ∈ z_gw := List.mem_filter.mpr ⟨z_sub_t2 59 rfl, rfl⟩
theorem kf_X10_359 : Cond.fieldLink RX10 359 RX10 "illegalCalls" "I" ∈ z_gw := kz_407
theorem kz_873 : Cond.methodLink RX10 368 yX10_partOf ∈ z_gw := List.mem_filter.mpr ⟨z_sub_t4 45 rfl, rfl⟩
theorem kz_495 : Cond.static yX10_partOf ∈ z_gw := List.mem_filter.mpr ⟨z_sub_t2 147 rfl, rfl⟩
theorem kk_X10_368 : ∀ w ∈ [Cond.methodLink RX10 368 yX10_partOf, .static yX10_partOf, .initialized RX10, z_code M_X10_partOf], w ∈ z_gw := List.forall_mem_cons.mpr ⟨kz_873, List.forall_mem_cons.mpr ⟨kz_495, List.forall_mem_cons.mpr ⟨kz_109, List.forall_mem_cons.mpr ⟨kc_X10_partOf, fun _ h => absurd h List.not_mem_nil⟩⟩⟩⟩
theorem kz_476 : Cond.methodLink RX10 371 yX10_put ∈ z_gw := List.mem_filter.mpr ⟨z_sub_t2 128 rfl, rfl⟩
theorem kz_452 : Cond.static yX10_put ∈ z_gw := List.mem_filter.mpr ⟨z_sub_t2 104 rfl, rfl⟩
theorem kk_X10_371 : ∀ w ∈ [Cond.methodLink RX10 371 yX10_put, .static yX10_put, .initialized RX10, z_code M_X10_put], w ∈ z_gw := List.forall_mem_cons.mpr ⟨kz_476, List.forall_mem_cons.mpr ⟨kz_452, List.forall_mem_cons.mpr ⟨kz_109, List.forall_mem_cons.mpr ⟨kc_X10_put, fun _ h => absurd h List.not_mem_nil⟩⟩⟩⟩
theorem kz_473 : Cond.methodLink RX10 375 yX10_at ∈ z_gw := List.mem_filter.mpr ⟨z_sub_t2 125 rfl, rfl⟩
theorem kz_474 : Cond.static yX10_at ∈ z_gw := List.mem_filter.mpr ⟨z_sub_t2 126 rfl, rfl⟩
theorem kk_X10_375 : ∀ w ∈ [Cond.methodLink RX10 375 yX10_at, .static yX10_at, .initialized RX10, z_code M_X10_at], w ∈ z_gw := List.forall_mem_cons.mpr ⟨kz_473, List.forall_mem_cons.mpr ⟨kz_474, List.forall_mem_cons.mpr ⟨kz_109, List.forall_mem_cons.mpr ⟨kc_X10_at, fun _ h => absurd h List.not_mem_nil⟩⟩⟩⟩
theorem kz_1326 : Cond.methodLink RX10 379 yJ6_bitCount_0f7a4 ∈ z_gw := List.mem_filter.mpr ⟨z_sub_t6 18 rfl, rfl⟩
theorem kz_1327 : Cond.static yJ6_bitCount_0f7a4 ∈ z_gw := List.mem_filter.mpr ⟨z_sub_t6 19 rfl, rfl⟩
theorem kz_131 : Cond.initialized RJ6 ∈ z_gw := List.mem_filter.mpr ⟨z_sub_t1 23 rfl, rfl⟩
theorem kk_X10_379 : ∀ w ∈ [Cond.methodLink RX10 379 yJ6_bitCount_0f7a4, .static yJ6_bitCount_0f7a4, .initialized RJ6, z_code M_J6_bitCount_0f7a4], w ∈ z_gw := List.forall_mem_cons.mpr ⟨kz_1326, List.forall_mem_cons.mpr ⟨kz_1327, List.forall_mem_cons.mpr ⟨kz_131, List.forall_mem_cons.mpr ⟨kc_J6_bitCount_0f7a4, fun _ h => absurd h List.not_mem_nil⟩⟩⟩⟩
theorem kz_907 : Cond.methodLink RX10 384 Lib.Math.abs.name ∈ z_gw := List.mem_filter.mpr ⟨z_sub_t4 79 rfl, rfl⟩
theorem kz_908 : Cond.static Lib.Math.abs.name ∈ z_gw := List.mem_filter.mpr ⟨z_sub_t4 80 rfl, rfl⟩
theorem kz_909 : Cond.code Lib.Math.abs.name Lib.Math.abs.code 1 (some .int) ∈ z_gw := List.mem_filter.mpr ⟨z_sub_t4 81 rfl, rfl⟩
theorem km_X10_384 : ∀ w ∈ [Cond.methodLink RX10 384 Lib.Math.abs.name, .static Lib.Math.abs.name, .initialized "java/lang/Math", .code Lib.Math.abs.name Lib.Math.abs.code 1 (some .int)], w ∈ z_gw := List.forall_mem_cons.mpr ⟨kz_907, List.forall_mem_cons.mpr ⟨kz_908, List.forall_mem_cons.mpr ⟨kz_129, List.forall_mem_cons.mpr ⟨kz_909, fun _ h => absurd h List.not_mem_nil⟩⟩⟩⟩
theorem kz_875 : Cond.methodLink RX10 387 yX10_unitOf ∈ z_gw := List.mem_filter.mpr ⟨z_sub_t4 47 rfl, rfl⟩
theorem kz_498 : Cond.static yX10_unitOf ∈ z_gw := List.mem_filter.mpr ⟨z_sub_t2 150 rfl, rfl⟩
theorem kk_X10_387 : ∀ w ∈ [Cond.methodLink RX10 387 yX10_unitOf, .static yX10_unitOf, .initialized RX10, z_code M_X10_unitOf], w ∈ z_gw := List.forall_mem_cons.mpr ⟨kz_875, List.forall_mem_cons.mpr ⟨kz_498, List.forall_mem_cons.mpr ⟨kz_109, List.forall_mem_cons.mpr ⟨kc_X10_unitOf, fun _ h => absurd h List.not_mem_nil⟩⟩⟩⟩
theorem kz_1428 : Cond.fieldLink RX11 3 RX11 "thrown" "I" ∈ z_gw := List.mem_filter.mpr ⟨z_sub_t6 120 rfl, rfl⟩
theorem kf_X11_3 : Cond.fieldLink RX11 3 RX11 "thrown" "I" ∈ z_gw := kz_1428
theorem kz_1429 : Cond.fieldLink RX11 7 RX11 "refused" "[I" ∈ z_gw := List.mem_filter.mpr ⟨z_sub_t6 121 rfl, rfl⟩
theorem kf_X11_7 : Cond.fieldLink RX11 7 RX11 "refused" "[I" ∈ z_gw := kz_1429
theorem kz_1415 : Cond.methodLink RX11 11 objectInit ∈ z_gw := List.mem_filter.mpr ⟨z_sub_t6 107 rfl, rfl⟩
theorem ko_X11_11 : ∀ w ∈ [Cond.methodLink RX11 11 objectInit, .instanceMethod objectInit, .code objectInit ⟨#[0xb1]⟩ 1 none], w ∈ z_gw := List.forall_mem_cons.mpr ⟨kz_1415, List.forall_mem_cons.mpr ⟨kz_138, List.forall_mem_cons.mpr ⟨kz_139, fun _ h => absurd h List.not_mem_nil⟩⟩⟩
theorem kz_1436 : Cond.fieldLink RX11 17 RX11 "faultAt" "I" ∈ z_gw := List.mem_filter.mpr ⟨z_sub_t6 128 rfl, rfl⟩
theorem kf_X11_17 : Cond.fieldLink RX11 17 RX11 "faultAt" "I" ∈ z_gw := kz_1436
theorem kz_1437 : Cond.fieldLink RX11 20 RX11 "tape" "[I" ∈ z_gw := List.mem_filter.mpr ⟨z_sub_t6 129 rfl, rfl⟩
theorem kf_X11_20 : Cond.fieldLink RX11 20 RX11 "tape" "[I" ∈ z_gw := kz_1437
theorem kz_1438 : Cond.fieldLink RX11 23 RX11 "newStreet" "[I" ∈ z_gw := List.mem_filter.mpr ⟨z_sub_t6 130 rfl, rfl⟩
theorem kf_X11_23 : Cond.fieldLink RX11 23 RX11 "newStreet" "[I" ∈ z_gw := kz_1438
theorem kz_1439 : Cond.fieldLink RX11 26 RX11 "newBirth" "[I" ∈ z_gw := List.mem_filter.mpr ⟨z_sub_t6 131 rfl, rfl⟩
theorem kf_X11_26 : Cond.fieldLink RX11 26 RX11 "newBirth" "[I" ∈ z_gw := kz_1439
theorem kz_1440 : Cond.fieldLink RX11 29 RX11 "newAge" "[I" ∈ z_gw := List.mem_filter.mpr ⟨z_sub_t6 132 rfl, rfl⟩
theorem kf_X11_29 : Cond.fieldLink RX11 29 RX11 "newAge" "[I" ∈ z_gw := kz_1440
theorem kz_1441 : Cond.fieldLink RX11 32 RX11 "newStock" "[I" ∈ z_gw := List.mem_filter.mpr ⟨z_sub_t6 133 rfl, rfl⟩
theorem kf_X11_32 : Cond.fieldLink RX11 32 RX11 "newStock" "[I" ∈ z_gw := kz_1441
theorem kz_1442 : Cond.fieldLink RX11 35 RX11 "street" "[I" ∈ z_gw := List.mem_filter.mpr ⟨z_sub_t6 134 rfl, rfl⟩
theorem kf_X11_35 : Cond.fieldLink RX11 35 RX11 "street" "[I" ∈ z_gw := kz_1442
theorem kz_1443 : Cond.fieldLink RX11 38 RX11 "birth" "[I" ∈ z_gw := List.mem_filter.mpr ⟨z_sub_t6 135 rfl, rfl⟩
theorem kf_X11_38 : Cond.fieldLink RX11 38 RX11 "birth" "[I" ∈ z_gw := kz_1443
theorem kz_1450 : Cond.fieldLink RX11 41 RX11 "newCode" "[I" ∈ z_gw := List.mem_filter.mpr ⟨z_sub_t6 142 rfl, rfl⟩
theorem kf_X11_41 : Cond.fieldLink RX11 41 RX11 "newCode" "[I" ∈ z_gw := kz_1450
theorem kz_1451 : Cond.fieldLink RX11 44 RX11 "newOf" "[I" ∈ z_gw := List.mem_filter.mpr ⟨z_sub_t6 143 rfl, rfl⟩
theorem kf_X11_44 : Cond.fieldLink RX11 44 RX11 "newOf" "[I" ∈ z_gw := kz_1451
theorem kz_1452 : Cond.fieldLink RX11 47 RX11 "code" "[I" ∈ z_gw := List.mem_filter.mpr ⟨z_sub_t6 144 rfl, rfl⟩
theorem kf_X11_47 : Cond.fieldLink RX11 47 RX11 "code" "[I" ∈ z_gw := kz_1452
theorem kz_1453 : Cond.fieldLink RX11 50 RX11 "ofCode" "[I" ∈ z_gw := List.mem_filter.mpr ⟨z_sub_t6 145 rfl, rfl⟩
theorem kf_X11_50 : Cond.fieldLink RX11 50 RX11 "ofCode" "[I" ∈ z_gw := kz_1453
theorem kz_1454 : Cond.fieldLink RX11 53 RX11 "stack" "[I" ∈ z_gw := List.mem_filter.mpr ⟨z_sub_t6 146 rfl, rfl⟩
theorem kf_X11_53 : Cond.fieldLink RX11 53 RX11 "stack" "[I" ∈ z_gw := kz_1454
theorem kz_1457 : Cond.fieldLink RX11 56 RX11 "facts" "[I" ∈ z_gw := List.mem_filter.mpr ⟨z_sub_t6 149 rfl, rfl⟩
theorem kf_X11_56 : Cond.fieldLink RX11 56 RX11 "facts" "[I" ∈ z_gw := kz_1457
theorem kz_1458 : Cond.fieldLink RX11 59 RX11 "newStep" "[I" ∈ z_gw := List.mem_filter.mpr ⟨z_sub_t6 150 rfl, rfl⟩
theorem kf_X11_59 : Cond.fieldLink RX11 59 RX11 "newStep" "[I" ∈ z_gw := kz_1458
theorem kz_1459 : Cond.fieldLink RX11 62 RX11 "step" "[I" ∈ z_gw := List.mem_filter.mpr ⟨z_sub_t6 151 rfl, rfl⟩
theorem kf_X11_62 : Cond.fieldLink RX11 62 RX11 "step" "[I" ∈ z_gw := kz_1459
theorem kz_1466 : Cond.fieldLink RX11 65 RX11 "now" "[I" ∈ z_gw := List.mem_filter.mpr ⟨z_sub_t6 158 rfl, rfl⟩
theorem kf_X11_65 : Cond.fieldLink RX11 65 RX11 "now" "[I" ∈ z_gw := kz_1466
theorem kz_1467 : Cond.fieldLink RX11 68 RX11 "s" "[I" ∈ z_gw := List.mem_filter.mpr ⟨z_sub_t6 159 rfl, rfl⟩
theorem kf_X11_68 : Cond.fieldLink RX11 68 RX11 "s" "[I" ∈ z_gw := kz_1467
theorem kz_1468 : Cond.fieldLink RX11 71 RX11 "past" "[I" ∈ z_gw := List.mem_filter.mpr ⟨z_sub_t6 160 rfl, rfl⟩
theorem kf_X11_71 : Cond.fieldLink RX11 71 RX11 "past" "[I" ∈ z_gw := kz_1468
theorem kz_1469 : Cond.fieldLink RX11 74 RX11 "newBook" "[I" ∈ z_gw := List.mem_filter.mpr ⟨z_sub_t6 161 rfl, rfl⟩
theorem kf_X11_74 : Cond.fieldLink RX11 74 RX11 "newBook" "[I" ∈ z_gw := kz_1469
theorem kz_1470 : Cond.fieldLink RX11 77 RX11 "book" "[I" ∈ z_gw := List.mem_filter.mpr ⟨z_sub_t6 162 rfl, rfl⟩
theorem kf_X11_77 : Cond.fieldLink RX11 77 RX11 "book" "[I" ∈ z_gw := kz_1470
theorem kz_1472 : Cond.fieldLink RX11 80 RX11 "leftTo" "[I" ∈ z_gw := List.mem_filter.mpr ⟨z_sub_t6 164 rfl, rfl⟩
theorem kf_X11_80 : Cond.fieldLink RX11 80 RX11 "leftTo" "[I" ∈ z_gw := kz_1472
theorem kz_1473 : Cond.fieldLink RX11 83 RX11 "queue" "[I" ∈ z_gw := List.mem_filter.mpr ⟨z_sub_t6 165 rfl, rfl⟩
theorem kf_X11_83 : Cond.fieldLink RX11 83 RX11 "queue" "[I" ∈ z_gw := kz_1473
theorem kz_1476 : Cond.fieldLink RX11 86 RX11 "bestOn" "[I" ∈ z_gw := List.mem_filter.mpr ⟨z_sub_t6 168 rfl, rfl⟩
theorem kf_X11_86 : Cond.fieldLink RX11 86 RX11 "bestOn" "[I" ∈ z_gw := kz_1476
theorem kz_1477 : Cond.fieldLink RX11 89 RX11 "bridal" "[I" ∈ z_gw := List.mem_filter.mpr ⟨z_sub_t6 169 rfl, rfl⟩
theorem kf_X11_89 : Cond.fieldLink RX11 89 RX11 "bridal" "[I" ∈ z_gw := kz_1477
theorem kz_1481 : Cond.fieldLink RX11 92 RX11 "image" "[I" ∈ z_gw := List.mem_filter.mpr ⟨z_sub_t6 173 rfl, rfl⟩
theorem kf_X11_92 : Cond.fieldLink RX11 92 RX11 "image" "[I" ∈ z_gw := kz_1481
theorem kz_1416 : Cond.methodLink RX11 95 yX11_clears ∈ z_gw := List.mem_filter.mpr ⟨z_sub_t6 108 rfl, rfl⟩
theorem kz_1418 : Cond.instanceMethod yX11_clears ∈ z_gw := List.mem_filter.mpr ⟨z_sub_t6 110 rfl, rfl⟩
theorem kz_44 : Cond.selects RX11 yX11_clears yX11_clears ∈ z_gw := z_sub_p3 12 rfl rfl
theorem kz_120 : Cond.initialized RX11 ∈ z_gw := List.mem_filter.mpr ⟨z_sub_t1 12 rfl, rfl⟩
theorem kk_X11_95 : ∀ w ∈ [Cond.methodLink RX11 95 yX11_clears, .instanceMethod yX11_clears, .selects RX11 yX11_clears yX11_clears, .initialized RX11, z_code M_X11_clears], w ∈ z_gw := List.forall_mem_cons.mpr ⟨kz_1416, List.forall_mem_cons.mpr ⟨kz_1418, List.forall_mem_cons.mpr ⟨kz_44, List.forall_mem_cons.mpr ⟨kz_120, List.forall_mem_cons.mpr ⟨kc_X11_clears, fun _ h => absurd h List.not_mem_nil⟩⟩⟩⟩⟩
theorem kz_1420 : Cond.methodLink RX11 98 yX11_sets ∈ z_gw := List.mem_filter.mpr ⟨z_sub_t6 112 rfl, rfl⟩
theorem kz_1422 : Cond.instanceMethod yX11_sets ∈ z_gw := List.mem_filter.mpr ⟨z_sub_t6 114 rfl, rfl⟩
theorem kz_45 : Cond.selects RX11 yX11_sets yX11_sets ∈ z_gw := z_sub_p3 13 rfl rfl
theorem kk_X11_98 : ∀ w ∈ [Cond.methodLink RX11 98 yX11_sets, .instanceMethod yX11_sets, .selects RX11 yX11_sets yX11_sets, .initialized RX11, z_code M_X11_sets], w ∈ z_gw := List.forall_mem_cons.mpr ⟨kz_1420, List.forall_mem_cons.mpr ⟨kz_1422, List.forall_mem_cons.mpr ⟨kz_45, List.forall_mem_cons.mpr ⟨kz_120, List.forall_mem_cons.mpr ⟨kc_X11_sets, fun _ h => absurd h List.not_mem_nil⟩⟩⟩⟩⟩
theorem kz_1430 : Cond.fieldLink RX11 101 RX11 "taped" "I" ∈ z_gw := List.mem_filter.mpr ⟨z_sub_t6 122 rfl, rfl⟩
theorem kf_X11_101 : Cond.fieldLink RX11 101 RX11 "taped" "I" ∈ z_gw := kz_1430
theorem kz_1433 : Cond.fieldLink RX11 104 RX11 "bad" "I" ∈ z_gw := List.mem_filter.mpr ⟨z_sub_t6 125 rfl, rfl⟩
theorem kf_X11_104 : Cond.fieldLink RX11 104 RX11 "bad" "I" ∈ z_gw := kz_1433
theorem kz_1434 : Cond.fieldLink RX11 107 RX11 "badKind" "I" ∈ z_gw := List.mem_filter.mpr ⟨z_sub_t6 126 rfl, rfl⟩
theorem kf_X11_107 : Cond.fieldLink RX11 107 RX11 "badKind" "I" ∈ z_gw := kz_1434
theorem kz_1432 : Cond.fieldLink RX11 110 RX11 "at" "I" ∈ z_gw := List.mem_filter.mpr ⟨z_sub_t6 124 rfl, rfl⟩
theorem kf_X11_110 : Cond.fieldLink RX11 110 RX11 "at" "I" ∈ z_gw := kz_1432
theorem kz_1431 : Cond.fieldLink RX11 113 RX11 "size" "I" ∈ z_gw := List.mem_filter.mpr ⟨z_sub_t6 123 rfl, rfl⟩
theorem kf_X11_113 : Cond.fieldLink RX11 113 RX11 "size" "I" ∈ z_gw := kz_1431
theorem kz_1622 : Cond.methodLink RX11 116 yX11_here ∈ z_gw := List.mem_filter.mpr ⟨z_sub_t7 74 rfl, rfl⟩
theorem kz_1624 : Cond.instanceMethod yX11_here ∈ z_gw := List.mem_filter.mpr ⟨z_sub_t7 76 rfl, rfl⟩
theorem kz_51 : Cond.selects RX11 yX11_here yX11_here ∈ z_gw := z_sub_p4 3 rfl rfl
theorem kk_X11_116 : ∀ w ∈ [Cond.methodLink RX11 116 yX11_here, .instanceMethod yX11_here, .selects RX11 yX11_here yX11_here, .initialized RX11, z_code M_X11_here], w ∈ z_gw := List.forall_mem_cons.mpr ⟨kz_1622, List.forall_mem_cons.mpr ⟨kz_1624, List.forall_mem_cons.mpr ⟨kz_51, List.forall_mem_cons.mpr ⟨kz_120, List.forall_mem_cons.mpr ⟨kc_X11_here, fun _ h => absurd h List.not_mem_nil⟩⟩⟩⟩⟩
theorem kz_1630 : Cond.methodLink RX11 120 yX11_isSmall ∈ z_gw := List.mem_filter.mpr ⟨z_sub_t7 82 rfl, rfl⟩
theorem kz_1631 : Cond.static yX11_isSmall ∈ z_gw := List.mem_filter.mpr ⟨z_sub_t7 83 rfl, rfl⟩
theorem kk_X11_120 : ∀ w ∈ [Cond.methodLink RX11 120 yX11_isSmall, .static yX11_isSmall, .initialized RX11, z_code M_X11_isSmall], w ∈ z_gw := List.forall_mem_cons.mpr ⟨kz_1630, List.forall_mem_cons.mpr ⟨kz_1631, List.forall_mem_cons.mpr ⟨kz_120, List.forall_mem_cons.mpr ⟨kc_X11_isSmall, fun _ h => absurd h List.not_mem_nil⟩⟩⟩⟩
theorem kz_1614 : Cond.methodLink RX11 133 yX11_fine ∈ z_gw := List.mem_filter.mpr ⟨z_sub_t7 66 rfl, rfl⟩
theorem kz_1616 : Cond.instanceMethod yX11_fine ∈ z_gw := List.mem_filter.mpr ⟨z_sub_t7 68 rfl, rfl⟩
theorem kz_49 : Cond.selects RX11 yX11_fine yX11_fine ∈ z_gw := z_sub_p4 1 rfl rfl
theorem kk_X11_133 : ∀ w ∈ [Cond.methodLink RX11 133 yX11_fine, .instanceMethod yX11_fine, .selects RX11 yX11_fine yX11_fine, .initialized RX11, z_code M_X11_fine], w ∈ z_gw := List.forall_mem_cons.mpr ⟨kz_1614, List.forall_mem_cons.mpr ⟨kz_1616, List.forall_mem_cons.mpr ⟨kz_49, List.forall_mem_cons.mpr ⟨kz_120, List.forall_mem_cons.mpr ⟨kc_X11_fine, fun _ h => absurd h List.not_mem_nil⟩⟩⟩⟩⟩
theorem kz_1661 : Cond.methodLink RX11 137 yX11_isDigit ∈ z_gw := List.mem_filter.mpr ⟨z_sub_t7 113 rfl, rfl⟩
theorem kz_1662 : Cond.static yX11_isDigit ∈ z_gw := List.mem_filter.mpr ⟨z_sub_t7 114 rfl, rfl⟩
theorem kk_X11_137 : ∀ w ∈ [Cond.methodLink RX11 137 yX11_isDigit, .static yX11_isDigit, .initialized RX11, z_code M_X11_isDigit], w ∈ z_gw := List.forall_mem_cons.mpr ⟨kz_1661, List.forall_mem_cons.mpr ⟨kz_1662, List.forall_mem_cons.mpr ⟨kz_120, List.forall_mem_cons.mpr ⟨kc_X11_isDigit, fun _ h => absurd h List.not_mem_nil⟩⟩⟩⟩
theorem kz_1645 : Cond.methodLink RX11 140 yX11_wrong ∈ z_gw := List.mem_filter.mpr ⟨z_sub_t7 97 rfl, rfl⟩
theorem kz_1647 : Cond.instanceMethod yX11_wrong ∈ z_gw := List.mem_filter.mpr ⟨z_sub_t7 99 rfl, rfl⟩
theorem kz_53 : Cond.selects RX11 yX11_wrong yX11_wrong ∈ z_gw := z_sub_p4 5 rfl rfl
theorem kk_X11_140 : ∀ w ∈ [Cond.methodLink RX11 140 yX11_wrong, .instanceMethod yX11_wrong, .selects RX11 yX11_wrong yX11_wrong, .initialized RX11, z_code M_X11_wrong], w ∈ z_gw := List.forall_mem_cons.mpr ⟨kz_1645, List.forall_mem_cons.mpr ⟨kz_1647, List.forall_mem_cons.mpr ⟨kz_53, List.forall_mem_cons.mpr ⟨kz_120, List.forall_mem_cons.mpr ⟨kc_X11_wrong, fun _ h => absurd h List.not_mem_nil⟩⟩⟩⟩⟩
theorem kz_1435 : Cond.fieldLink RX11 144 RX11 "opens" "I" ∈ z_gw := List.mem_filter.mpr ⟨z_sub_t6 127 rfl, rfl⟩
theorem kf_X11_144 : Cond.fieldLink RX11 144 RX11 "opens" "I" ∈ z_gw := kz_1435
theorem kz_1444 : Cond.fieldLink RX11 147 RX11 "newStreets" "I" ∈ z_gw := List.mem_filter.mpr ⟨z_sub_t6 136 rfl, rfl⟩
theorem kf_X11_147 : Cond.fieldLink RX11 147 RX11 "newStreets" "I" ∈ z_gw := kz_1444
theorem kz_1445 : Cond.fieldLink RX11 150 RX11 "newPersons" "I" ∈ z_gw := List.mem_filter.mpr ⟨z_sub_t6 137 rfl, rfl⟩
theorem kf_X11_150 : Cond.fieldLink RX11 150 RX11 "newPersons" "I" ∈ z_gw := kz_1445
theorem kz_1446 : Cond.fieldLink RX11 153 RX11 "newRiver" "I" ∈ z_gw := List.mem_filter.mpr ⟨z_sub_t6 138 rfl, rfl⟩
theorem kf_X11_153 : Cond.fieldLink RX11 153 RX11 "newRiver" "I" ∈ z_gw := kz_1446
theorem kz_1447 : Cond.fieldLink RX11 156 RX11 "streets" "I" ∈ z_gw := List.mem_filter.mpr ⟨z_sub_t6 139 rfl, rfl⟩
theorem kf_X11_156 : Cond.fieldLink RX11 156 RX11 "streets" "I" ∈ z_gw := kz_1447
theorem kz_1448 : Cond.fieldLink RX11 159 RX11 "persons" "I" ∈ z_gw := List.mem_filter.mpr ⟨z_sub_t6 140 rfl, rfl⟩
theorem kf_X11_159 : Cond.fieldLink RX11 159 RX11 "persons" "I" ∈ z_gw := kz_1448
theorem kz_1449 : Cond.fieldLink RX11 162 RX11 "river" "I" ∈ z_gw := List.mem_filter.mpr ⟨z_sub_t6 141 rfl, rfl⟩
theorem kf_X11_162 : Cond.fieldLink RX11 162 RX11 "river" "I" ∈ z_gw := kz_1449
theorem kz_1424 : Cond.methodLink RX11 165 yX11_copies ∈ z_gw := List.mem_filter.mpr ⟨z_sub_t6 116 rfl, rfl⟩
theorem kz_1426 : Cond.instanceMethod yX11_copies ∈ z_gw := List.mem_filter.mpr ⟨z_sub_t6 118 rfl, rfl⟩
theorem kz_46 : Cond.selects RX11 yX11_copies yX11_copies ∈ z_gw := z_sub_p3 14 rfl rfl
theorem kk_X11_165 : ∀ w ∈ [Cond.methodLink RX11 165 yX11_copies, .instanceMethod yX11_copies, .selects RX11 yX11_copies yX11_copies, .initialized RX11, z_code M_X11_copies], w ∈ z_gw := List.forall_mem_cons.mpr ⟨kz_1424, List.forall_mem_cons.mpr ⟨kz_1426, List.forall_mem_cons.mpr ⟨kz_46, List.forall_mem_cons.mpr ⟨kz_120, List.forall_mem_cons.mpr ⟨kc_X11_copies, fun _ h => absurd h List.not_mem_nil⟩⟩⟩⟩⟩
theorem kz_1456 : Cond.fieldLink RX11 169 RX11 "codes" "I" ∈ z_gw := List.mem_filter.mpr ⟨z_sub_t6 148 rfl, rfl⟩
theorem kf_X11_169 : Cond.fieldLink RX11 169 RX11 "codes" "I" ∈ z_gw := kz_1456
theorem kz_1471 : Cond.fieldLink RX11 172 RX11 "lines" "I" ∈ z_gw := List.mem_filter.mpr ⟨z_sub_t6 163 rfl, rfl⟩
theorem kf_X11_172 : Cond.fieldLink RX11 172 RX11 "lines" "I" ∈ z_gw := kz_1471
theorem kz_1461 : Cond.fieldLink RX11 175 RX11 "works" "I" ∈ z_gw := List.mem_filter.mpr ⟨z_sub_t6 153 rfl, rfl⟩
theorem kf_X11_175 : Cond.fieldLink RX11 175 RX11 "works" "I" ∈ z_gw := kz_1461
theorem kz_1482 : Cond.fieldLink RX11 178 RX11 "images" "I" ∈ z_gw := List.mem_filter.mpr ⟨z_sub_t6 174 rfl, rfl⟩
theorem kf_X11_178 : Cond.fieldLink RX11 178 RX11 "images" "I" ∈ z_gw := kz_1482
theorem kz_1462 : Cond.fieldLink RX11 181 RX11 "refusedSteps" "I" ∈ z_gw := List.mem_filter.mpr ⟨z_sub_t6 154 rfl, rfl⟩
theorem kf_X11_181 : Cond.fieldLink RX11 181 RX11 "refusedSteps" "I" ∈ z_gw := kz_1462
theorem kz_1637 : Cond.methodLink RX11 185 yX11_of ∈ z_gw := List.mem_filter.mpr ⟨z_sub_t7 89 rfl, rfl⟩
theorem kz_1638 : Cond.static yX11_of ∈ z_gw := List.mem_filter.mpr ⟨z_sub_t7 90 rfl, rfl⟩
theorem kk_X11_185 : ∀ w ∈ [Cond.methodLink RX11 185 yX11_of, .static yX11_of, .initialized RX11, z_code M_X11_of], w ∈ z_gw := List.forall_mem_cons.mpr ⟨kz_1637, List.forall_mem_cons.mpr ⟨kz_1638, List.forall_mem_cons.mpr ⟨kz_120, List.forall_mem_cons.mpr ⟨kc_X11_of, fun _ h => absurd h List.not_mem_nil⟩⟩⟩⟩
theorem kz_1657 : Cond.methodLink RX11 194 yX11_readNumber ∈ z_gw := List.mem_filter.mpr ⟨z_sub_t7 109 rfl, rfl⟩
theorem kz_1659 : Cond.instanceMethod yX11_readNumber ∈ z_gw := List.mem_filter.mpr ⟨z_sub_t7 111 rfl, rfl⟩
theorem kz_56 : Cond.selects RX11 yX11_readNumber yX11_readNumber ∈ z_gw := z_sub_p4 8 rfl rfl
theorem kk_X11_194 : ∀ w ∈ [Cond.methodLink RX11 194 yX11_readNumber, .instanceMethod yX11_readNumber, .selects RX11 yX11_readNumber yX11_readNumber, .initialized RX11, z_code M_X11_readNumber], w ∈ z_gw := List.forall_mem_cons.mpr ⟨kz_1657, List.forall_mem_cons.mpr ⟨kz_1659, List.forall_mem_cons.mpr ⟨kz_56, List.forall_mem_cons.mpr ⟨kz_120, List.forall_mem_cons.mpr ⟨kc_X11_readNumber, fun _ h => absurd h List.not_mem_nil⟩⟩⟩⟩⟩
theorem kz_1606 : Cond.methodLink RX11 198 yX11_may ∈ z_gw := List.mem_filter.mpr ⟨z_sub_t7 58 rfl, rfl⟩
theorem kz_1608 : Cond.instanceMethod yX11_may ∈ z_gw := List.mem_filter.mpr ⟨z_sub_t7 60 rfl, rfl⟩
theorem kz_47 : Cond.selects RX11 yX11_may yX11_may ∈ z_gw := z_sub_p3 15 rfl rfl
theorem kk_X11_198 : ∀ w ∈ [Cond.methodLink RX11 198 yX11_may, .instanceMethod yX11_may, .selects RX11 yX11_may yX11_may, .initialized RX11, z_code M_X11_may], w ∈ z_gw := List.forall_mem_cons.mpr ⟨kz_1606, List.forall_mem_cons.mpr ⟨kz_1608, List.forall_mem_cons.mpr ⟨kz_47, List.forall_mem_cons.mpr ⟨kz_120, List.forall_mem_cons.mpr ⟨kc_X11_may, fun _ h => absurd h List.not_mem_nil⟩⟩⟩⟩⟩
theorem kz_1610 : Cond.methodLink RX11 202 yX11_begins ∈ z_gw := List.mem_filter.mpr ⟨z_sub_t7 62 rfl, rfl⟩
theorem kz_1612 : Cond.instanceMethod yX11_begins ∈ z_gw := List.mem_filter.mpr ⟨z_sub_t7 64 rfl, rfl⟩
theorem kz_48 : Cond.selects RX11 yX11_begins yX11_begins ∈ z_gw := z_sub_p4 0 rfl rfl
theorem kk_X11_202 : ∀ w ∈ [Cond.methodLink RX11 202 yX11_begins, .instanceMethod yX11_begins, .selects RX11 yX11_begins yX11_begins, .initialized RX11, z_code M_X11_begins], w ∈ z_gw := List.forall_mem_cons.mpr ⟨kz_1610, List.forall_mem_cons.mpr ⟨kz_1612, List.forall_mem_cons.mpr ⟨kz_48, List.forall_mem_cons.mpr ⟨kz_120, List.forall_mem_cons.mpr ⟨kc_X11_begins, fun _ h => absurd h List.not_mem_nil⟩⟩⟩⟩⟩
theorem kz_1618 : Cond.methodLink RX11 206 yX11_isMore ∈ z_gw := List.mem_filter.mpr ⟨z_sub_t7 70 rfl, rfl⟩
theorem kz_1620 : Cond.instanceMethod yX11_isMore ∈ z_gw := List.mem_filter.mpr ⟨z_sub_t7 72 rfl, rfl⟩
theorem kz_50 : Cond.selects RX11 yX11_isMore yX11_isMore ∈ z_gw := z_sub_p4 2 rfl rfl
theorem kk_X11_206 : ∀ w ∈ [Cond.methodLink RX11 206 yX11_isMore, .instanceMethod yX11_isMore, .selects RX11 yX11_isMore yX11_isMore, .initialized RX11, z_code M_X11_isMore], w ∈ z_gw := List.forall_mem_cons.mpr ⟨kz_1618, List.forall_mem_cons.mpr ⟨kz_1620, List.forall_mem_cons.mpr ⟨kz_50, List.forall_mem_cons.mpr ⟨kz_120, List.forall_mem_cons.mpr ⟨kc_X11_isMore, fun _ h => absurd h List.not_mem_nil⟩⟩⟩⟩⟩
theorem kz_1626 : Cond.methodLink RX11 209 yX11_word ∈ z_gw := List.mem_filter.mpr ⟨z_sub_t7 78 rfl, rfl⟩
theorem kz_1628 : Cond.instanceMethod yX11_word ∈ z_gw := List.mem_filter.mpr ⟨z_sub_t7 80 rfl, rfl⟩
theorem kz_52 : Cond.selects RX11 yX11_word yX11_word ∈ z_gw := z_sub_p4 4 rfl rfl
theorem kk_X11_209 : ∀ w ∈ [Cond.methodLink RX11 209 yX11_word, .instanceMethod yX11_word, .selects RX11 yX11_word yX11_word, .initialized RX11, z_code M_X11_word], w ∈ z_gw := List.forall_mem_cons.mpr ⟨kz_1626, List.forall_mem_cons.mpr ⟨kz_1628, List.forall_mem_cons.mpr ⟨kz_52, List.forall_mem_cons.mpr ⟨kz_120, List.forall_mem_cons.mpr ⟨kc_X11_word, fun _ h => absurd h List.not_mem_nil⟩⟩⟩⟩⟩
theorem kz_1633 : Cond.methodLink RX11 212 yX11_isRow ∈ z_gw := List.mem_filter.mpr ⟨z_sub_t7 85 rfl, rfl⟩
theorem kz_1634 : Cond.static yX11_isRow ∈ z_gw := List.mem_filter.mpr ⟨z_sub_t7 86 rfl, rfl⟩
theorem kk_X11_212 : ∀ w ∈ [Cond.methodLink RX11 212 yX11_isRow, .static yX11_isRow, .initialized RX11, z_code M_X11_isRow], w ∈ z_gw := List.forall_mem_cons.mpr ⟨kz_1633, List.forall_mem_cons.mpr ⟨kz_1634, List.forall_mem_cons.mpr ⟨kz_120, List.forall_mem_cons.mpr ⟨kc_X11_isRow, fun _ h => absurd h List.not_mem_nil⟩⟩⟩⟩
theorem kz_1649 : Cond.methodLink RX11 215 yX11_pass ∈ z_gw := List.mem_filter.mpr ⟨z_sub_t7 101 rfl, rfl⟩
theorem kz_1651 : Cond.instanceMethod yX11_pass ∈ z_gw := List.mem_filter.mpr ⟨z_sub_t7 103 rfl, rfl⟩
theorem kz_54 : Cond.selects RX11 yX11_pass yX11_pass ∈ z_gw := z_sub_p4 6 rfl rfl
theorem kk_X11_215 : ∀ w ∈ [Cond.methodLink RX11 215 yX11_pass, .instanceMethod yX11_pass, .selects RX11 yX11_pass yX11_pass, .initialized RX11, z_code M_X11_pass], w ∈ z_gw := List.forall_mem_cons.mpr ⟨kz_1649, List.forall_mem_cons.mpr ⟨kz_1651, List.forall_mem_cons.mpr ⟨kz_54, List.forall_mem_cons.mpr ⟨kz_120, List.forall_mem_cons.mpr ⟨kc_X11_pass, fun _ h => absurd h List.not_mem_nil⟩⟩⟩⟩⟩
theorem kz_1653 : Cond.methodLink RX11 218 yX11_readRow ∈ z_gw := List.mem_filter.mpr ⟨z_sub_t7 105 rfl, rfl⟩
theorem kz_1655 : Cond.instanceMethod yX11_readRow ∈ z_gw := List.mem_filter.mpr ⟨z_sub_t7 107 rfl, rfl⟩
theorem kz_55 : Cond.selects RX11 yX11_readRow yX11_readRow ∈ z_gw := z_sub_p4 7 rfl rfl
theorem kk_X11_218 : ∀ w ∈ [Cond.methodLink RX11 218 yX11_readRow, .instanceMethod yX11_readRow, .selects RX11 yX11_readRow yX11_readRow, .initialized RX11, z_code M_X11_readRow], w ∈ z_gw := List.forall_mem_cons.mpr ⟨kz_1653, List.forall_mem_cons.mpr ⟨kz_1655, List.forall_mem_cons.mpr ⟨kz_55, List.forall_mem_cons.mpr ⟨kz_120, List.forall_mem_cons.mpr ⟨kc_X11_readRow, fun _ h => absurd h List.not_mem_nil⟩⟩⟩⟩⟩
theorem kz_1664 : Cond.methodLink RX11 221 yX11_sign ∈ z_gw := List.mem_filter.mpr ⟨z_sub_t7 116 rfl, rfl⟩
theorem kz_1666 : Cond.instanceMethod yX11_sign ∈ z_gw := List.mem_filter.mpr ⟨z_sub_t7 118 rfl, rfl⟩
theorem kz_57 : Cond.selects RX11 yX11_sign yX11_sign ∈ z_gw := z_sub_p4 9 rfl rfl
theorem kk_X11_221 : ∀ w ∈ [Cond.methodLink RX11 221 yX11_sign, .instanceMethod yX11_sign, .selects RX11 yX11_sign yX11_sign, .initialized RX11, z_code M_X11_sign], w ∈ z_gw := List.forall_mem_cons.mpr ⟨kz_1664, List.forall_mem_cons.mpr ⟨kz_1666, List.forall_mem_cons.mpr ⟨kz_57, List.forall_mem_cons.mpr ⟨kz_120, List.forall_mem_cons.mpr ⟨kc_X11_sign, fun _ h => absurd h List.not_mem_nil⟩⟩⟩⟩⟩
theorem kz_1668 : Cond.methodLink RX11 224 yX11_result ∈ z_gw := List.mem_filter.mpr ⟨z_sub_t7 120 rfl, rfl⟩
theorem kz_1670 : Cond.instanceMethod yX11_result ∈ z_gw := List.mem_filter.mpr ⟨z_sub_t7 122 rfl, rfl⟩
theorem kz_58 : Cond.selects RX11 yX11_result yX11_result ∈ z_gw := z_sub_p4 10 rfl rfl
theorem kk_X11_224 : ∀ w ∈ [Cond.methodLink RX11 224 yX11_result, .instanceMethod yX11_result, .selects RX11 yX11_result yX11_result, .initialized RX11, z_code M_X11_result], w ∈ z_gw := List.forall_mem_cons.mpr ⟨kz_1668, List.forall_mem_cons.mpr ⟨kz_1670, List.forall_mem_cons.mpr ⟨kz_58, List.forall_mem_cons.mpr ⟨kz_120, List.forall_mem_cons.mpr ⟨kc_X11_result, fun _ h => absurd h List.not_mem_nil⟩⟩⟩⟩⟩
theorem kz_1455 : Cond.fieldLink RX11 228 RX11 "newCodes" "I" ∈ z_gw := List.mem_filter.mpr ⟨z_sub_t6 147 rfl, rfl⟩
theorem kf_X11_228 : Cond.fieldLink RX11 228 RX11 "newCodes" "I" ∈ z_gw := kz_1455
theorem kz_1680 : Cond.methodLink RX11 231 yX11_readProduct ∈ z_gw := List.mem_filter.mpr ⟨z_sub_t7 132 rfl, rfl⟩
theorem kz_1682 : Cond.instanceMethod yX11_readProduct ∈ z_gw := List.mem_filter.mpr ⟨z_sub_t7 134 rfl, rfl⟩
theorem kz_60 : Cond.selects RX11 yX11_readProduct yX11_readProduct ∈ z_gw := z_sub_p4 12 rfl rfl
theorem kk_X11_231 : ∀ w ∈ [Cond.methodLink RX11 231 yX11_readProduct, .instanceMethod yX11_readProduct, .selects RX11 yX11_readProduct yX11_readProduct, .initialized RX11, z_code M_X11_readProduct], w ∈ z_gw := List.forall_mem_cons.mpr ⟨kz_1680, List.forall_mem_cons.mpr ⟨kz_1682, List.forall_mem_cons.mpr ⟨kz_60, List.forall_mem_cons.mpr ⟨kz_120, List.forall_mem_cons.mpr ⟨kc_X11_readProduct, fun _ h => absurd h List.not_mem_nil⟩⟩⟩⟩⟩
theorem kz_1692 : Cond.methodLink RX11 234 yX11_emit ∈ z_gw := List.mem_filter.mpr ⟨z_sub_t7 144 rfl, rfl⟩
theorem kz_1694 : Cond.instanceMethod yX11_emit ∈ z_gw := List.mem_filter.mpr ⟨z_sub_t7 146 rfl, rfl⟩
theorem kz_63 : Cond.selects RX11 yX11_emit yX11_emit ∈ z_gw := z_sub_p4 15 rfl rfl
theorem kk_X11_234 : ∀ w ∈ [Cond.methodLink RX11 234 yX11_emit, .instanceMethod yX11_emit, .selects RX11 yX11_emit yX11_emit, .initialized RX11, z_code M_X11_emit], w ∈ z_gw := List.forall_mem_cons.mpr ⟨kz_1692, List.forall_mem_cons.mpr ⟨kz_1694, List.forall_mem_cons.mpr ⟨kz_63, List.forall_mem_cons.mpr ⟨kz_120, List.forall_mem_cons.mpr ⟨kc_X11_emit, fun _ h => absurd h List.not_mem_nil⟩⟩⟩⟩⟩
theorem kz_1684 : Cond.methodLink RX11 237 yX11_readUnit ∈ z_gw := List.mem_filter.mpr ⟨z_sub_t7 136 rfl, rfl⟩
theorem kz_1686 : Cond.instanceMethod yX11_readUnit ∈ z_gw := List.mem_filter.mpr ⟨z_sub_t7 138 rfl, rfl⟩
theorem kz_61 : Cond.selects RX11 yX11_readUnit yX11_readUnit ∈ z_gw := z_sub_p4 13 rfl rfl
theorem kk_X11_237 : ∀ w ∈ [Cond.methodLink RX11 237 yX11_readUnit, .instanceMethod yX11_readUnit, .selects RX11 yX11_readUnit yX11_readUnit, .initialized RX11, z_code M_X11_readUnit], w ∈ z_gw := List.forall_mem_cons.mpr ⟨kz_1684, List.forall_mem_cons.mpr ⟨kz_1686, List.forall_mem_cons.mpr ⟨kz_61, List.forall_mem_cons.mpr ⟨kz_120, List.forall_mem_cons.mpr ⟨kc_X11_readUnit, fun _ h => absurd h List.not_mem_nil⟩⟩⟩⟩⟩
theorem kz_1688 : Cond.methodLink RX11 240 yX11_opensOne ∈ z_gw := List.mem_filter.mpr ⟨z_sub_t7 140 rfl, rfl⟩
theorem kz_1690 : Cond.instanceMethod yX11_opensOne ∈ z_gw := List.mem_filter.mpr ⟨z_sub_t7 142 rfl, rfl⟩
theorem kz_62 : Cond.selects RX11 yX11_opensOne yX11_opensOne ∈ z_gw := z_sub_p4 14 rfl rfl
theorem kk_X11_240 : ∀ w ∈ [Cond.methodLink RX11 240 yX11_opensOne, .instanceMethod yX11_opensOne, .selects RX11 yX11_opensOne yX11_opensOne, .initialized RX11, z_code M_X11_opensOne], w ∈ z_gw := List.forall_mem_cons.mpr ⟨kz_1688, List.forall_mem_cons.mpr ⟨kz_1690, List.forall_mem_cons.mpr ⟨kz_62, List.forall_mem_cons.mpr ⟨kz_120, List.forall_mem_cons.mpr ⟨kc_X11_opensOne, fun _ h => absurd h List.not_mem_nil⟩⟩⟩⟩⟩
theorem kz_1676 : Cond.methodLink RX11 243 yX11_readSum ∈ z_gw := List.mem_filter.mpr ⟨z_sub_t7 128 rfl, rfl⟩
theorem kz_1678 : Cond.instanceMethod yX11_readSum ∈ z_gw := List.mem_filter.mpr ⟨z_sub_t7 130 rfl, rfl⟩
theorem kz_59 : Cond.selects RX11 yX11_readSum yX11_readSum ∈ z_gw := z_sub_p4 11 rfl rfl
theorem kk_X11_243 : ∀ w ∈ [Cond.methodLink RX11 243 yX11_readSum, .instanceMethod yX11_readSum, .selects RX11 yX11_readSum yX11_readSum, .initialized RX11, z_code M_X11_readSum], w ∈ z_gw := List.forall_mem_cons.mpr ⟨kz_1676, List.forall_mem_cons.mpr ⟨kz_1678, List.forall_mem_cons.mpr ⟨kz_59, List.forall_mem_cons.mpr ⟨kz_120, List.forall_mem_cons.mpr ⟨kc_X11_readSum, fun _ h => absurd h List.not_mem_nil⟩⟩⟩⟩⟩
theorem kz_1697 : Cond.methodLink RX11 265 yX11_readTwo ∈ z_gw := List.mem_filter.mpr ⟨z_sub_t7 149 rfl, rfl⟩
theorem kz_1699 : Cond.instanceMethod yX11_readTwo ∈ z_gw := List.mem_filter.mpr ⟨z_sub_t7 151 rfl, rfl⟩
theorem kz_64 : Cond.selects RX11 yX11_readTwo yX11_readTwo ∈ z_gw := z_sub_p5 0 rfl rfl
theorem kk_X11_265 : ∀ w ∈ [Cond.methodLink RX11 265 yX11_readTwo, .instanceMethod yX11_readTwo, .selects RX11 yX11_readTwo yX11_readTwo, .initialized RX11, z_code M_X11_readTwo], w ∈ z_gw := List.forall_mem_cons.mpr ⟨kz_1697, List.forall_mem_cons.mpr ⟨kz_1699, List.forall_mem_cons.mpr ⟨kz_64, List.forall_mem_cons.mpr ⟨kz_120, List.forall_mem_cons.mpr ⟨kc_X11_readTwo, fun _ h => absurd h List.not_mem_nil⟩⟩⟩⟩⟩
theorem kz_1702 : Cond.methodLink RX11 270 yX11_factHere ∈ z_gw := List.mem_filter.mpr ⟨z_sub_t7 154 rfl, rfl⟩
theorem kz_1704 : Cond.instanceMethod yX11_factHere ∈ z_gw := List.mem_filter.mpr ⟨z_sub_t7 156 rfl, rfl⟩
theorem kz_65 : Cond.selects RX11 yX11_factHere yX11_factHere ∈ z_gw := z_sub_p5 1 rfl rfl
theorem kk_X11_270 : ∀ w ∈ [Cond.methodLink RX11 270 yX11_factHere, .instanceMethod yX11_factHere, .selects RX11 yX11_factHere yX11_factHere, .initialized RX11, z_code M_X11_factHere], w ∈ z_gw := List.forall_mem_cons.mpr ⟨kz_1702, List.forall_mem_cons.mpr ⟨kz_1704, List.forall_mem_cons.mpr ⟨kz_65, List.forall_mem_cons.mpr ⟨kz_120, List.forall_mem_cons.mpr ⟨kc_X11_factHere, fun _ h => absurd h List.not_mem_nil⟩⟩⟩⟩⟩
theorem kz_1838 : Cond.methodLink RX11 273 yX11_both ∈ z_gw := List.mem_filter.mpr ⟨z_sub_t8 50 rfl, rfl⟩
theorem kz_1839 : Cond.static yX11_both ∈ z_gw := List.mem_filter.mpr ⟨z_sub_t8 51 rfl, rfl⟩
theorem kk_X11_273 : ∀ w ∈ [Cond.methodLink RX11 273 yX11_both, .static yX11_both, .initialized RX11, z_code M_X11_both], w ∈ z_gw := List.forall_mem_cons.mpr ⟨kz_1838, List.forall_mem_cons.mpr ⟨kz_1839, List.forall_mem_cons.mpr ⟨kz_120, List.forall_mem_cons.mpr ⟨kc_X11_both, fun _ h => absurd h List.not_mem_nil⟩⟩⟩⟩
theorem kz_1834 : Cond.methodLink RX11 277 yX11_valueNow ∈ z_gw := List.mem_filter.mpr ⟨z_sub_t8 46 rfl, rfl⟩
theorem kz_1836 : Cond.instanceMethod yX11_valueNow ∈ z_gw := List.mem_filter.mpr ⟨z_sub_t8 48 rfl, rfl⟩
theorem kz_88 : Cond.selects RX11 yX11_valueNow yX11_valueNow ∈ z_gw := z_sub_p6 8 rfl rfl
theorem kk_X11_277 : ∀ w ∈ [Cond.methodLink RX11 277 yX11_valueNow, .instanceMethod yX11_valueNow, .selects RX11 yX11_valueNow yX11_valueNow, .initialized RX11, z_code M_X11_valueNow], w ∈ z_gw := List.forall_mem_cons.mpr ⟨kz_1834, List.forall_mem_cons.mpr ⟨kz_1836, List.forall_mem_cons.mpr ⟨kz_88, List.forall_mem_cons.mpr ⟨kz_120, List.forall_mem_cons.mpr ⟨kc_X11_valueNow, fun _ h => absurd h List.not_mem_nil⟩⟩⟩⟩⟩
theorem kz_1460 : Cond.fieldLink RX11 280 RX11 "newSteps" "I" ∈ z_gw := List.mem_filter.mpr ⟨z_sub_t6 152 rfl, rfl⟩
theorem kf_X11_280 : Cond.fieldLink RX11 280 RX11 "newSteps" "I" ∈ z_gw := kz_1460
theorem kz_1730 : Cond.methodLink RX11 283 yX11_readOne ∈ z_gw := List.mem_filter.mpr ⟨z_sub_t7 182 rfl, rfl⟩
theorem kz_1732 : Cond.instanceMethod yX11_readOne ∈ z_gw := List.mem_filter.mpr ⟨z_sub_t7 184 rfl, rfl⟩
theorem kz_68 : Cond.selects RX11 yX11_readOne yX11_readOne ∈ z_gw := z_sub_p5 4 rfl rfl
theorem kk_X11_283 : ∀ w ∈ [Cond.methodLink RX11 283 yX11_readOne, .instanceMethod yX11_readOne, .selects RX11 yX11_readOne yX11_readOne, .initialized RX11, z_code M_X11_readOne], w ∈ z_gw := List.forall_mem_cons.mpr ⟨kz_1730, List.forall_mem_cons.mpr ⟨kz_1732, List.forall_mem_cons.mpr ⟨kz_68, List.forall_mem_cons.mpr ⟨kz_120, List.forall_mem_cons.mpr ⟨kc_X11_readOne, fun _ h => absurd h List.not_mem_nil⟩⟩⟩⟩⟩
theorem kz_1724 : Cond.methodLink RX11 286 yX11_tellsStep ∈ z_gw := List.mem_filter.mpr ⟨z_sub_t7 176 rfl, rfl⟩
theorem kz_1726 : Cond.instanceMethod yX11_tellsStep ∈ z_gw := List.mem_filter.mpr ⟨z_sub_t7 178 rfl, rfl⟩
theorem kz_67 : Cond.selects RX11 yX11_tellsStep yX11_tellsStep ∈ z_gw := z_sub_p5 3 rfl rfl
theorem kk_X11_286 : ∀ w ∈ [Cond.methodLink RX11 286 yX11_tellsStep, .instanceMethod yX11_tellsStep, .selects RX11 yX11_tellsStep yX11_tellsStep, .initialized RX11, z_code M_X11_tellsStep], w ∈ z_gw := List.forall_mem_cons.mpr ⟨kz_1724, List.forall_mem_cons.mpr ⟨kz_1726, List.forall_mem_cons.mpr ⟨kz_67, List.forall_mem_cons.mpr ⟨kz_120, List.forall_mem_cons.mpr ⟨kc_X11_tellsStep, fun _ h => absurd h List.not_mem_nil⟩⟩⟩⟩⟩
theorem kz_1736 : Cond.methodLink RX11 300 yX11_readMarriage ∈ z_gw := List.mem_filter.mpr ⟨z_sub_t7 188 rfl, rfl⟩
theorem kz_1738 : Cond.instanceMethod yX11_readMarriage ∈ z_gw := List.mem_filter.mpr ⟨z_sub_t7 190 rfl, rfl⟩
theorem kz_69 : Cond.selects RX11 yX11_readMarriage yX11_readMarriage ∈ z_gw := z_sub_p5 5 rfl rfl
theorem kk_X11_300 : ∀ w ∈ [Cond.methodLink RX11 300 yX11_readMarriage, .instanceMethod yX11_readMarriage, .selects RX11 yX11_readMarriage yX11_readMarriage, .initialized RX11, z_code M_X11_readMarriage], w ∈ z_gw := List.forall_mem_cons.mpr ⟨kz_1736, List.forall_mem_cons.mpr ⟨kz_1738, List.forall_mem_cons.mpr ⟨kz_69, List.forall_mem_cons.mpr ⟨kz_120, List.forall_mem_cons.mpr ⟨kc_X11_readMarriage, fun _ h => absurd h List.not_mem_nil⟩⟩⟩⟩⟩
theorem kz_1719 : Cond.methodLink RX11 305 yX11_readStep ∈ z_gw := List.mem_filter.mpr ⟨z_sub_t7 171 rfl, rfl⟩
theorem kz_1721 : Cond.instanceMethod yX11_readStep ∈ z_gw := List.mem_filter.mpr ⟨z_sub_t7 173 rfl, rfl⟩
theorem kz_66 : Cond.selects RX11 yX11_readStep yX11_readStep ∈ z_gw := z_sub_p5 2 rfl rfl
theorem kk_X11_305 : ∀ w ∈ [Cond.methodLink RX11 305 yX11_readStep, .instanceMethod yX11_readStep, .selects RX11 yX11_readStep yX11_readStep, .initialized RX11, z_code M_X11_readStep], w ∈ z_gw := List.forall_mem_cons.mpr ⟨kz_1719, List.forall_mem_cons.mpr ⟨kz_1721, List.forall_mem_cons.mpr ⟨kz_66, List.forall_mem_cons.mpr ⟨kz_120, List.forall_mem_cons.mpr ⟨kc_X11_readStep, fun _ h => absurd h List.not_mem_nil⟩⟩⟩⟩⟩
theorem kz_1741 : Cond.methodLink RX11 308 yX11_take ∈ z_gw := List.mem_filter.mpr ⟨z_sub_t7 193 rfl, rfl⟩
theorem kz_1743 : Cond.instanceMethod yX11_take ∈ z_gw := List.mem_filter.mpr ⟨z_sub_t7 195 rfl, rfl⟩
theorem kz_70 : Cond.selects RX11 yX11_take yX11_take ∈ z_gw := z_sub_p5 6 rfl rfl
theorem kk_X11_308 : ∀ w ∈ [Cond.methodLink RX11 308 yX11_take, .instanceMethod yX11_take, .selects RX11 yX11_take yX11_take, .initialized RX11, z_code M_X11_take], w ∈ z_gw := List.forall_mem_cons.mpr ⟨kz_1741, List.forall_mem_cons.mpr ⟨kz_1743, List.forall_mem_cons.mpr ⟨kz_70, List.forall_mem_cons.mpr ⟨kz_120, List.forall_mem_cons.mpr ⟨kc_X11_take, fun _ h => absurd h List.not_mem_nil⟩⟩⟩⟩⟩
theorem kz_1463 : Cond.fieldLink RX11 311 RX11 "begun" "I" ∈ z_gw := List.mem_filter.mpr ⟨z_sub_t6 155 rfl, rfl⟩
theorem kf_X11_311 : Cond.fieldLink RX11 311 RX11 "begun" "I" ∈ z_gw := kz_1463
theorem kz_1464 : Cond.fieldLink RX11 314 RX11 "done" "I" ∈ z_gw := List.mem_filter.mpr ⟨z_sub_t6 156 rfl, rfl⟩
theorem kf_X11_314 : Cond.fieldLink RX11 314 RX11 "done" "I" ∈ z_gw := kz_1464
theorem kz_1465 : Cond.fieldLink RX11 317 RX11 "refusedNow" "I" ∈ z_gw := List.mem_filter.mpr ⟨z_sub_t6 157 rfl, rfl⟩
theorem kf_X11_317 : Cond.fieldLink RX11 317 RX11 "refusedNow" "I" ∈ z_gw := kz_1465
theorem kz_1745 : Cond.methodLink RX11 320 yX11_goesSteps ∈ z_gw := List.mem_filter.mpr ⟨z_sub_t7 197 rfl, rfl⟩
theorem kz_1747 : Cond.instanceMethod yX11_goesSteps ∈ z_gw := List.mem_filter.mpr ⟨z_sub_t7 199 rfl, rfl⟩
theorem kz_71 : Cond.selects RX11 yX11_goesSteps yX11_goesSteps ∈ z_gw := z_sub_p5 7 rfl rfl
theorem kk_X11_320 : ∀ w ∈ [Cond.methodLink RX11 320 yX11_goesSteps, .instanceMethod yX11_goesSteps, .selects RX11 yX11_goesSteps yX11_goesSteps, .initialized RX11, z_code M_X11_goesSteps], w ∈ z_gw := List.forall_mem_cons.mpr ⟨kz_1745, List.forall_mem_cons.mpr ⟨kz_1747, List.forall_mem_cons.mpr ⟨kz_71, List.forall_mem_cons.mpr ⟨kz_120, List.forall_mem_cons.mpr ⟨kc_X11_goesSteps, fun _ h => absurd h List.not_mem_nil⟩⟩⟩⟩⟩
theorem kz_1749 : Cond.methodLink RX11 323 yX11_goes ∈ z_gw := List.mem_filter.mpr ⟨z_sub_t7 201 rfl, rfl⟩
theorem kz_1751 : Cond.instanceMethod yX11_goes ∈ z_gw := List.mem_filter.mpr ⟨z_sub_t7 203 rfl, rfl⟩
theorem kz_72 : Cond.selects RX11 yX11_goes yX11_goes ∈ z_gw := z_sub_p5 8 rfl rfl
theorem kk_X11_323 : ∀ w ∈ [Cond.methodLink RX11 323 yX11_goes, .instanceMethod yX11_goes, .selects RX11 yX11_goes yX11_goes, .initialized RX11, z_code M_X11_goes], w ∈ z_gw := List.forall_mem_cons.mpr ⟨kz_1749, List.forall_mem_cons.mpr ⟨kz_1751, List.forall_mem_cons.mpr ⟨kz_72, List.forall_mem_cons.mpr ⟨kz_120, List.forall_mem_cons.mpr ⟨kc_X11_goes, fun _ h => absurd h List.not_mem_nil⟩⟩⟩⟩⟩
theorem kz_1765 : Cond.methodLink RX11 327 yX11_dyeOf ∈ z_gw := List.mem_filter.mpr ⟨z_sub_t7 217 rfl, rfl⟩
theorem kz_1766 : Cond.static yX11_dyeOf ∈ z_gw := List.mem_filter.mpr ⟨z_sub_t7 218 rfl, rfl⟩
theorem kk_X11_327 : ∀ w ∈ [Cond.methodLink RX11 327 yX11_dyeOf, .static yX11_dyeOf, .initialized RX11, z_code M_X11_dyeOf], w ∈ z_gw := List.forall_mem_cons.mpr ⟨kz_1765, List.forall_mem_cons.mpr ⟨kz_1766, List.forall_mem_cons.mpr ⟨kz_120, List.forall_mem_cons.mpr ⟨kc_X11_dyeOf, fun _ h => absurd h List.not_mem_nil⟩⟩⟩⟩
theorem kz_1822 : Cond.methodLink RX11 330 yX11_vatOf ∈ z_gw := List.mem_filter.mpr ⟨z_sub_t8 34 rfl, rfl⟩
theorem kz_1824 : Cond.instanceMethod yX11_vatOf ∈ z_gw := List.mem_filter.mpr ⟨z_sub_t8 36 rfl, rfl⟩
theorem kz_85 : Cond.selects RX11 yX11_vatOf yX11_vatOf ∈ z_gw := z_sub_p6 5 rfl rfl
theorem kk_X11_330 : ∀ w ∈ [Cond.methodLink RX11 330 yX11_vatOf, .instanceMethod yX11_vatOf, .selects RX11 yX11_vatOf yX11_vatOf, .initialized RX11, z_code M_X11_vatOf], w ∈ z_gw := List.forall_mem_cons.mpr ⟨kz_1822, List.forall_mem_cons.mpr ⟨kz_1824, List.forall_mem_cons.mpr ⟨kz_85, List.forall_mem_cons.mpr ⟨kz_120, List.forall_mem_cons.mpr ⟨kc_X11_vatOf, fun _ h => absurd h List.not_mem_nil⟩⟩⟩⟩⟩
theorem kz_1788 : Cond.methodLink RX11 333 yX11_apart ∈ z_gw := List.mem_filter.mpr ⟨z_sub_t8 0 rfl, rfl⟩
theorem kz_1789 : Cond.static yX11_apart ∈ z_gw := List.mem_filter.mpr ⟨z_sub_t8 1 rfl, rfl⟩
theorem kk_X11_333 : ∀ w ∈ [Cond.methodLink RX11 333 yX11_apart, .static yX11_apart, .initialized RX11, z_code M_X11_apart], w ∈ z_gw := List.forall_mem_cons.mpr ⟨kz_1788, List.forall_mem_cons.mpr ⟨kz_1789, List.forall_mem_cons.mpr ⟨kz_120, List.forall_mem_cons.mpr ⟨kc_X11_apart, fun _ h => absurd h List.not_mem_nil⟩⟩⟩⟩
theorem kz_1830 : Cond.methodLink RX11 336 yX11_sitsNow ∈ z_gw := List.mem_filter.mpr ⟨z_sub_t8 42 rfl, rfl⟩
theorem kz_1832 : Cond.instanceMethod yX11_sitsNow ∈ z_gw := List.mem_filter.mpr ⟨z_sub_t8 44 rfl, rfl⟩
theorem kz_87 : Cond.selects RX11 yX11_sitsNow yX11_sitsNow ∈ z_gw := z_sub_p6 7 rfl rfl
theorem kk_X11_336 : ∀ w ∈ [Cond.methodLink RX11 336 yX11_sitsNow, .instanceMethod yX11_sitsNow, .selects RX11 yX11_sitsNow yX11_sitsNow, .initialized RX11, z_code M_X11_sitsNow], w ∈ z_gw := List.forall_mem_cons.mpr ⟨kz_1830, List.forall_mem_cons.mpr ⟨kz_1832, List.forall_mem_cons.mpr ⟨kz_87, List.forall_mem_cons.mpr ⟨kz_120, List.forall_mem_cons.mpr ⟨kc_X11_sitsNow, fun _ h => absurd h List.not_mem_nil⟩⟩⟩⟩⟩
theorem kz_1757 : Cond.methodLink RX11 339 yX11_shadeOf ∈ z_gw := List.mem_filter.mpr ⟨z_sub_t7 209 rfl, rfl⟩
theorem kz_1759 : Cond.instanceMethod yX11_shadeOf ∈ z_gw := List.mem_filter.mpr ⟨z_sub_t7 211 rfl, rfl⟩
theorem kz_74 : Cond.selects RX11 yX11_shadeOf yX11_shadeOf ∈ z_gw := z_sub_p5 10 rfl rfl
theorem kk_X11_339 : ∀ w ∈ [Cond.methodLink RX11 339 yX11_shadeOf, .instanceMethod yX11_shadeOf, .selects RX11 yX11_shadeOf yX11_shadeOf, .initialized RX11, z_code M_X11_shadeOf], w ∈ z_gw := List.forall_mem_cons.mpr ⟨kz_1757, List.forall_mem_cons.mpr ⟨kz_1759, List.forall_mem_cons.mpr ⟨kz_74, List.forall_mem_cons.mpr ⟨kz_120, List.forall_mem_cons.mpr ⟨kc_X11_shadeOf, fun _ h => absurd h List.not_mem_nil⟩⟩⟩⟩⟩
theorem kz_1818 : Cond.methodLink RX11 342 yX11_seemsOf ∈ z_gw := List.mem_filter.mpr ⟨z_sub_t8 30 rfl, rfl⟩
theorem kz_1820 : Cond.instanceMethod yX11_seemsOf ∈ z_gw := List.mem_filter.mpr ⟨z_sub_t8 32 rfl, rfl⟩
theorem kz_84 : Cond.selects RX11 yX11_seemsOf yX11_seemsOf ∈ z_gw := z_sub_p6 4 rfl rfl
theorem kk_X11_342 : ∀ w ∈ [Cond.methodLink RX11 342 yX11_seemsOf, .instanceMethod yX11_seemsOf, .selects RX11 yX11_seemsOf yX11_seemsOf, .initialized RX11, z_code M_X11_seemsOf], w ∈ z_gw := List.forall_mem_cons.mpr ⟨kz_1818, List.forall_mem_cons.mpr ⟨kz_1820, List.forall_mem_cons.mpr ⟨kz_84, List.forall_mem_cons.mpr ⟨kz_120, List.forall_mem_cons.mpr ⟨kc_X11_seemsOf, fun _ h => absurd h List.not_mem_nil⟩⟩⟩⟩⟩
theorem kz_1826 : Cond.methodLink RX11 345 yX11_sitsBy ∈ z_gw := List.mem_filter.mpr ⟨z_sub_t8 38 rfl, rfl⟩
theorem kz_1828 : Cond.instanceMethod yX11_sitsBy ∈ z_gw := List.mem_filter.mpr ⟨z_sub_t8 40 rfl, rfl⟩
theorem kz_86 : Cond.selects RX11 yX11_sitsBy yX11_sitsBy ∈ z_gw := z_sub_p6 6 rfl rfl
theorem kk_X11_345 : ∀ w ∈ [Cond.methodLink RX11 345 yX11_sitsBy, .instanceMethod yX11_sitsBy, .selects RX11 yX11_sitsBy yX11_sitsBy, .initialized RX11, z_code M_X11_sitsBy], w ∈ z_gw := List.forall_mem_cons.mpr ⟨kz_1826, List.forall_mem_cons.mpr ⟨kz_1828, List.forall_mem_cons.mpr ⟨kz_86, List.forall_mem_cons.mpr ⟨kz_120, List.forall_mem_cons.mpr ⟨kc_X11_sitsBy, fun _ h => absurd h List.not_mem_nil⟩⟩⟩⟩⟩
theorem kz_1814 : Cond.methodLink RX11 349 yX11_isSitting ∈ z_gw := List.mem_filter.mpr ⟨z_sub_t8 26 rfl, rfl⟩
theorem kz_1816 : Cond.instanceMethod yX11_isSitting ∈ z_gw := List.mem_filter.mpr ⟨z_sub_t8 28 rfl, rfl⟩
theorem kz_83 : Cond.selects RX11 yX11_isSitting yX11_isSitting ∈ z_gw := z_sub_p6 3 rfl rfl
theorem kk_X11_349 : ∀ w ∈ [Cond.methodLink RX11 349 yX11_isSitting, .instanceMethod yX11_isSitting, .selects RX11 yX11_isSitting yX11_isSitting, .initialized RX11, z_code M_X11_isSitting], w ∈ z_gw := List.forall_mem_cons.mpr ⟨kz_1814, List.forall_mem_cons.mpr ⟨kz_1816, List.forall_mem_cons.mpr ⟨kz_83, List.forall_mem_cons.mpr ⟨kz_120, List.forall_mem_cons.mpr ⟨kc_X11_isSitting, fun _ h => absurd h List.not_mem_nil⟩⟩⟩⟩⟩
theorem kz_1761 : Cond.methodLink RX11 352 yX11_dippedIn ∈ z_gw := List.mem_filter.mpr ⟨z_sub_t7 213 rfl, rfl⟩
theorem kz_1763 : Cond.instanceMethod yX11_dippedIn ∈ z_gw := List.mem_filter.mpr ⟨z_sub_t7 215 rfl, rfl⟩
theorem kz_75 : Cond.selects RX11 yX11_dippedIn yX11_dippedIn ∈ z_gw := z_sub_p5 11 rfl rfl
theorem kk_X11_352 : ∀ w ∈ [Cond.methodLink RX11 352 yX11_dippedIn, .instanceMethod yX11_dippedIn, .selects RX11 yX11_dippedIn yX11_dippedIn, .initialized RX11, z_code M_X11_dippedIn], w ∈ z_gw := List.forall_mem_cons.mpr ⟨kz_1761, List.forall_mem_cons.mpr ⟨kz_1763, List.forall_mem_cons.mpr ⟨kz_75, List.forall_mem_cons.mpr ⟨kz_120, List.forall_mem_cons.mpr ⟨kc_X11_dippedIn, fun _ h => absurd h List.not_mem_nil⟩⟩⟩⟩⟩
theorem kz_1768 : Cond.methodLink RX11 355 yX11_shades ∈ z_gw := List.mem_filter.mpr ⟨z_sub_t7 220 rfl, rfl⟩
theorem kz_1770 : Cond.instanceMethod yX11_shades ∈ z_gw := List.mem_filter.mpr ⟨z_sub_t7 222 rfl, rfl⟩
theorem kz_76 : Cond.selects RX11 yX11_shades yX11_shades ∈ z_gw := z_sub_p5 12 rfl rfl
theorem kk_X11_355 : ∀ w ∈ [Cond.methodLink RX11 355 yX11_shades, .instanceMethod yX11_shades, .selects RX11 yX11_shades yX11_shades, .initialized RX11, z_code M_X11_shades], w ∈ z_gw := List.forall_mem_cons.mpr ⟨kz_1768, List.forall_mem_cons.mpr ⟨kz_1770, List.forall_mem_cons.mpr ⟨kz_76, List.forall_mem_cons.mpr ⟨kz_120, List.forall_mem_cons.mpr ⟨kc_X11_shades, fun _ h => absurd h List.not_mem_nil⟩⟩⟩⟩⟩
theorem kz_1780 : Cond.methodLink RX11 358 yX11_meanShade ∈ z_gw := List.mem_filter.mpr ⟨z_sub_t7 232 rfl, rfl⟩
theorem kz_1782 : Cond.instanceMethod yX11_meanShade ∈ z_gw := List.mem_filter.mpr ⟨z_sub_t7 234 rfl, rfl⟩
theorem kz_79 : Cond.selects RX11 yX11_meanShade yX11_meanShade ∈ z_gw := z_sub_p5 15 rfl rfl
theorem kk_X11_358 : ∀ w ∈ [Cond.methodLink RX11 358 yX11_meanShade, .instanceMethod yX11_meanShade, .selects RX11 yX11_meanShade yX11_meanShade, .initialized RX11, z_code M_X11_meanShade], w ∈ z_gw := List.forall_mem_cons.mpr ⟨kz_1780, List.forall_mem_cons.mpr ⟨kz_1782, List.forall_mem_cons.mpr ⟨kz_79, List.forall_mem_cons.mpr ⟨kz_120, List.forall_mem_cons.mpr ⟨kc_X11_meanShade, fun _ h => absurd h List.not_mem_nil⟩⟩⟩⟩⟩
theorem kz_1753 : Cond.methodLink RX11 361 yX11_dips ∈ z_gw := List.mem_filter.mpr ⟨z_sub_t7 205 rfl, rfl⟩
theorem kz_1755 : Cond.instanceMethod yX11_dips ∈ z_gw := List.mem_filter.mpr ⟨z_sub_t7 207 rfl, rfl⟩
theorem kz_73 : Cond.selects RX11 yX11_dips yX11_dips ∈ z_gw := z_sub_p5 9 rfl rfl
theorem kk_X11_361 : ∀ w ∈ [Cond.methodLink RX11 361 yX11_dips, .instanceMethod yX11_dips, .selects RX11 yX11_dips yX11_dips, .initialized RX11, z_code M_X11_dips], w ∈ z_gw := List.forall_mem_cons.mpr ⟨kz_1753, List.forall_mem_cons.mpr ⟨kz_1755, List.forall_mem_cons.mpr ⟨kz_73, List.forall_mem_cons.mpr ⟨kz_120, List.forall_mem_cons.mpr ⟨kc_X11_dips, fun _ h => absurd h List.not_mem_nil⟩⟩⟩⟩⟩
theorem kz_1772 : Cond.methodLink RX11 364 yX11_washes ∈ z_gw := List.mem_filter.mpr ⟨z_sub_t7 224 rfl, rfl⟩
theorem kz_1774 : Cond.instanceMethod yX11_washes ∈ z_gw := List.mem_filter.mpr ⟨z_sub_t7 226 rfl, rfl⟩
theorem kz_77 : Cond.selects RX11 yX11_washes yX11_washes ∈ z_gw := z_sub_p5 13 rfl rfl
theorem kk_X11_364 : ∀ w ∈ [Cond.methodLink RX11 364 yX11_washes, .instanceMethod yX11_washes, .selects RX11 yX11_washes yX11_washes, .initialized RX11, z_code M_X11_washes], w ∈ z_gw := List.forall_mem_cons.mpr ⟨kz_1772, List.forall_mem_cons.mpr ⟨kz_1774, List.forall_mem_cons.mpr ⟨kz_77, List.forall_mem_cons.mpr ⟨kz_120, List.forall_mem_cons.mpr ⟨kc_X11_washes, fun _ h => absurd h List.not_mem_nil⟩⟩⟩⟩⟩
theorem kz_1776 : Cond.methodLink RX11 367 yX11_rains ∈ z_gw := List.mem_filter.mpr ⟨z_sub_t7 228 rfl, rfl⟩
theorem kz_1778 : Cond.instanceMethod yX11_rains ∈ z_gw := List.mem_filter.mpr ⟨z_sub_t7 230 rfl, rfl⟩
theorem kz_78 : Cond.selects RX11 yX11_rains yX11_rains ∈ z_gw := z_sub_p5 14 rfl rfl
theorem kk_X11_367 : ∀ w ∈ [Cond.methodLink RX11 367 yX11_rains, .instanceMethod yX11_rains, .selects RX11 yX11_rains yX11_rains, .initialized RX11, z_code M_X11_rains], w ∈ z_gw := List.forall_mem_cons.mpr ⟨kz_1776, List.forall_mem_cons.mpr ⟨kz_1778, List.forall_mem_cons.mpr ⟨kz_78, List.forall_mem_cons.mpr ⟨kz_120, List.forall_mem_cons.mpr ⟨kc_X11_rains, fun _ h => absurd h List.not_mem_nil⟩⟩⟩⟩⟩
theorem kz_1784 : Cond.methodLink RX11 370 yX11_weds ∈ z_gw := List.mem_filter.mpr ⟨z_sub_t7 236 rfl, rfl⟩
theorem kz_1786 : Cond.instanceMethod yX11_weds ∈ z_gw := List.mem_filter.mpr ⟨z_sub_t7 238 rfl, rfl⟩
theorem kz_80 : Cond.selects RX11 yX11_weds yX11_weds ∈ z_gw := z_sub_p6 0 rfl rfl
theorem kk_X11_370 : ∀ w ∈ [Cond.methodLink RX11 370 yX11_weds, .instanceMethod yX11_weds, .selects RX11 yX11_weds yX11_weds, .initialized RX11, z_code M_X11_weds], w ∈ z_gw := List.forall_mem_cons.mpr ⟨kz_1784, List.forall_mem_cons.mpr ⟨kz_1786, List.forall_mem_cons.mpr ⟨kz_80, List.forall_mem_cons.mpr ⟨kz_120, List.forall_mem_cons.mpr ⟨kc_X11_weds, fun _ h => absurd h List.not_mem_nil⟩⟩⟩⟩⟩
theorem kz_1791 : Cond.methodLink RX11 373 yX11_passes ∈ z_gw := List.mem_filter.mpr ⟨z_sub_t8 3 rfl, rfl⟩
theorem kz_1793 : Cond.instanceMethod yX11_passes ∈ z_gw := List.mem_filter.mpr ⟨z_sub_t8 5 rfl, rfl⟩
theorem kz_81 : Cond.selects RX11 yX11_passes yX11_passes ∈ z_gw := z_sub_p6 1 rfl rfl
theorem kk_X11_373 : ∀ w ∈ [Cond.methodLink RX11 373 yX11_passes, .instanceMethod yX11_passes, .selects RX11 yX11_passes yX11_passes, .initialized RX11, z_code M_X11_passes], w ∈ z_gw := List.forall_mem_cons.mpr ⟨kz_1791, List.forall_mem_cons.mpr ⟨kz_1793, List.forall_mem_cons.mpr ⟨kz_81, List.forall_mem_cons.mpr ⟨kz_120, List.forall_mem_cons.mpr ⟨kc_X11_passes, fun _ h => absurd h List.not_mem_nil⟩⟩⟩⟩⟩
theorem kz_1807 : Cond.methodLink RX11 376 yX11_within ∈ z_gw := List.mem_filter.mpr ⟨z_sub_t8 19 rfl, rfl⟩
theorem kz_1808 : Cond.static yX11_within ∈ z_gw := List.mem_filter.mpr ⟨z_sub_t8 20 rfl, rfl⟩
theorem kk_X11_376 : ∀ w ∈ [Cond.methodLink RX11 376 yX11_within, .static yX11_within, .initialized RX11, z_code M_X11_within], w ∈ z_gw := List.forall_mem_cons.mpr ⟨kz_1807, List.forall_mem_cons.mpr ⟨kz_1808, List.forall_mem_cons.mpr ⟨kz_120, List.forall_mem_cons.mpr ⟨kc_X11_within, fun _ h => absurd h List.not_mem_nil⟩⟩⟩⟩
theorem kz_1810 : Cond.methodLink RX11 379 yX11_sitting ∈ z_gw := List.mem_filter.mpr ⟨z_sub_t8 22 rfl, rfl⟩
theorem kz_1812 : Cond.instanceMethod yX11_sitting ∈ z_gw := List.mem_filter.mpr ⟨z_sub_t8 24 rfl, rfl⟩
theorem kz_82 : Cond.selects RX11 yX11_sitting yX11_sitting ∈ z_gw := z_sub_p6 2 rfl rfl
theorem kk_X11_379 : ∀ w ∈ [Cond.methodLink RX11 379 yX11_sitting, .instanceMethod yX11_sitting, .selects RX11 yX11_sitting yX11_sitting, .initialized RX11, z_code M_X11_sitting], w ∈ z_gw := List.forall_mem_cons.mpr ⟨kz_1810, List.forall_mem_cons.mpr ⟨kz_1812, List.forall_mem_cons.mpr ⟨kz_82, List.forall_mem_cons.mpr ⟨kz_120, List.forall_mem_cons.mpr ⟨kc_X11_sitting, fun _ h => absurd h List.not_mem_nil⟩⟩⟩⟩⟩
theorem kz_1841 : Cond.methodLink RX11 382 yX11_many ∈ z_gw := List.mem_filter.mpr ⟨z_sub_t8 53 rfl, rfl⟩
theorem kz_1843 : Cond.instanceMethod yX11_many ∈ z_gw := List.mem_filter.mpr ⟨z_sub_t8 55 rfl, rfl⟩
theorem kz_89 : Cond.selects RX11 yX11_many yX11_many ∈ z_gw := z_sub_p6 9 rfl rfl
theorem kk_X11_382 : ∀ w ∈ [Cond.methodLink RX11 382 yX11_many, .instanceMethod yX11_many, .selects RX11 yX11_many yX11_many, .initialized RX11, z_code M_X11_many], w ∈ z_gw := List.forall_mem_cons.mpr ⟨kz_1841, List.forall_mem_cons.mpr ⟨kz_1843, List.forall_mem_cons.mpr ⟨kz_89, List.forall_mem_cons.mpr ⟨kz_120, List.forall_mem_cons.mpr ⟨kc_X11_many, fun _ h => absurd h List.not_mem_nil⟩⟩⟩⟩⟩
theorem kz_1845 : Cond.methodLink RX11 385 yX11_unlikeShades ∈ z_gw := List.mem_filter.mpr ⟨z_sub_t8 57 rfl, rfl⟩
theorem kz_1847 : Cond.instanceMethod yX11_unlikeShades ∈ z_gw := List.mem_filter.mpr ⟨z_sub_t8 59 rfl, rfl⟩
theorem kz_90 : Cond.selects RX11 yX11_unlikeShades yX11_unlikeShades ∈ z_gw := z_sub_p6 10 rfl rfl
theorem kk_X11_385 : ∀ w ∈ [Cond.methodLink RX11 385 yX11_unlikeShades, .instanceMethod yX11_unlikeShades, .selects RX11 yX11_unlikeShades yX11_unlikeShades, .initialized RX11, z_code M_X11_unlikeShades], w ∈ z_gw := List.forall_mem_cons.mpr ⟨kz_1845, List.forall_mem_cons.mpr ⟨kz_1847, List.forall_mem_cons.mpr ⟨kz_90, List.forall_mem_cons.mpr ⟨kz_120, List.forall_mem_cons.mpr ⟨kc_X11_unlikeShades, fun _ h => absurd h List.not_mem_nil⟩⟩⟩⟩⟩
theorem kz_1853 : Cond.methodLink RX11 388 yX11_isStreet ∈ z_gw := List.mem_filter.mpr ⟨z_sub_t8 65 rfl, rfl⟩
theorem kz_1855 : Cond.instanceMethod yX11_isStreet ∈ z_gw := List.mem_filter.mpr ⟨z_sub_t8 67 rfl, rfl⟩
theorem kz_91 : Cond.selects RX11 yX11_isStreet yX11_isStreet ∈ z_gw := z_sub_p6 11 rfl rfl
theorem kk_X11_388 : ∀ w ∈ [Cond.methodLink RX11 388 yX11_isStreet, .instanceMethod yX11_isStreet, .selects RX11 yX11_isStreet yX11_isStreet, .initialized RX11, z_code M_X11_isStreet], w ∈ z_gw := List.forall_mem_cons.mpr ⟨kz_1853, List.forall_mem_cons.mpr ⟨kz_1855, List.forall_mem_cons.mpr ⟨kz_91, List.forall_mem_cons.mpr ⟨kz_120, List.forall_mem_cons.mpr ⟨kc_X11_isStreet, fun _ h => absurd h List.not_mem_nil⟩⟩⟩⟩⟩
theorem kz_1861 : Cond.methodLink RX11 391 yX11_isPerson ∈ z_gw := List.mem_filter.mpr ⟨z_sub_t8 73 rfl, rfl⟩
theorem kz_1863 : Cond.instanceMethod yX11_isPerson ∈ z_gw := List.mem_filter.mpr ⟨z_sub_t8 75 rfl, rfl⟩
theorem kz_92 : Cond.selects RX11 yX11_isPerson yX11_isPerson ∈ z_gw := z_sub_p6 12 rfl rfl
theorem kk_X11_391 : ∀ w ∈ [Cond.methodLink RX11 391 yX11_isPerson, .instanceMethod yX11_isPerson, .selects RX11 yX11_isPerson yX11_isPerson, .initialized RX11, z_code M_X11_isPerson], w ∈ z_gw := List.forall_mem_cons.mpr ⟨kz_1861, List.forall_mem_cons.mpr ⟨kz_1863, List.forall_mem_cons.mpr ⟨kz_92, List.forall_mem_cons.mpr ⟨kz_120, List.forall_mem_cons.mpr ⟨kc_X11_isPerson, fun _ h => absurd h List.not_mem_nil⟩⟩⟩⟩⟩
theorem kz_1869 : Cond.methodLink RX11 394 yX11_isDye ∈ z_gw := List.mem_filter.mpr ⟨z_sub_t8 81 rfl, rfl⟩
theorem kz_1870 : Cond.static yX11_isDye ∈ z_gw := List.mem_filter.mpr ⟨z_sub_t8 82 rfl, rfl⟩
theorem kk_X11_394 : ∀ w ∈ [Cond.methodLink RX11 394 yX11_isDye, .static yX11_isDye, .initialized RX11, z_code M_X11_isDye], w ∈ z_gw := List.forall_mem_cons.mpr ⟨kz_1869, List.forall_mem_cons.mpr ⟨kz_1870, List.forall_mem_cons.mpr ⟨kz_120, List.forall_mem_cons.mpr ⟨kc_X11_isDye, fun _ h => absurd h List.not_mem_nil⟩⟩⟩⟩
theorem kz_1876 : Cond.methodLink RX11 397 yX11_isShade ∈ z_gw := List.mem_filter.mpr ⟨z_sub_t8 88 rfl, rfl⟩
theorem kz_1877 : Cond.static yX11_isShade ∈ z_gw := List.mem_filter.mpr ⟨z_sub_t8 89 rfl, rfl⟩
theorem kk_X11_397 : ∀ w ∈ [Cond.methodLink RX11 397 yX11_isShade, .static yX11_isShade, .initialized RX11, z_code M_X11_isShade], w ∈ z_gw := List.forall_mem_cons.mpr ⟨kz_1876, List.forall_mem_cons.mpr ⟨kz_1877, List.forall_mem_cons.mpr ⟨kz_120, List.forall_mem_cons.mpr ⟨kc_X11_isShade, fun _ h => absurd h List.not_mem_nil⟩⟩⟩⟩
theorem kz_1907 : Cond.methodLink RX11 400 yX11_layTo ∈ z_gw := List.mem_filter.mpr ⟨z_sub_t8 119 rfl, rfl⟩
theorem kz_1909 : Cond.instanceMethod yX11_layTo ∈ z_gw := List.mem_filter.mpr ⟨z_sub_t8 121 rfl, rfl⟩
theorem kz_93 : Cond.selects RX11 yX11_layTo yX11_layTo ∈ z_gw := z_sub_p6 13 rfl rfl
theorem kk_X11_400 : ∀ w ∈ [Cond.methodLink RX11 400 yX11_layTo, .instanceMethod yX11_layTo, .selects RX11 yX11_layTo yX11_layTo, .initialized RX11, z_code M_X11_layTo], w ∈ z_gw := List.forall_mem_cons.mpr ⟨kz_1907, List.forall_mem_cons.mpr ⟨kz_1909, List.forall_mem_cons.mpr ⟨kz_93, List.forall_mem_cons.mpr ⟨kz_120, List.forall_mem_cons.mpr ⟨kc_X11_layTo, fun _ h => absurd h List.not_mem_nil⟩⟩⟩⟩⟩
theorem kz_1474 : Cond.fieldLink RX11 403 RX11 "sumMany" "I" ∈ z_gw := List.mem_filter.mpr ⟨z_sub_t6 166 rfl, rfl⟩
theorem kf_X11_403 : Cond.fieldLink RX11 403 RX11 "sumMany" "I" ∈ z_gw := kz_1474
theorem kz_1475 : Cond.fieldLink RX11 406 RX11 "sumLeast" "I" ∈ z_gw := List.mem_filter.mpr ⟨z_sub_t6 167 rfl, rfl⟩
theorem kf_X11_406 : Cond.fieldLink RX11 406 RX11 "sumLeast" "I" ∈ z_gw := kz_1475
theorem kz_1919 : Cond.methodLink RX11 409 yX11_sumsOn ∈ z_gw := List.mem_filter.mpr ⟨z_sub_t8 131 rfl, rfl⟩
theorem kz_1921 : Cond.instanceMethod yX11_sumsOn ∈ z_gw := List.mem_filter.mpr ⟨z_sub_t8 133 rfl, rfl⟩
theorem kz_94 : Cond.selects RX11 yX11_sumsOn yX11_sumsOn ∈ z_gw := z_sub_p6 14 rfl rfl
theorem kk_X11_409 : ∀ w ∈ [Cond.methodLink RX11 409 yX11_sumsOn, .instanceMethod yX11_sumsOn, .selects RX11 yX11_sumsOn yX11_sumsOn, .initialized RX11, z_code M_X11_sumsOn], w ∈ z_gw := List.forall_mem_cons.mpr ⟨kz_1919, List.forall_mem_cons.mpr ⟨kz_1921, List.forall_mem_cons.mpr ⟨kz_94, List.forall_mem_cons.mpr ⟨kz_120, List.forall_mem_cons.mpr ⟨kc_X11_sumsOn, fun _ h => absurd h List.not_mem_nil⟩⟩⟩⟩⟩
theorem kz_1935 : Cond.methodLink RX11 413 yX11_hasOf ∈ z_gw := List.mem_filter.mpr ⟨z_sub_t8 147 rfl, rfl⟩
theorem kz_1937 : Cond.instanceMethod yX11_hasOf ∈ z_gw := List.mem_filter.mpr ⟨z_sub_t8 149 rfl, rfl⟩
theorem kz_96 : Cond.selects RX11 yX11_hasOf yX11_hasOf ∈ z_gw := z_sub_p7 0 rfl rfl
theorem kk_X11_413 : ∀ w ∈ [Cond.methodLink RX11 413 yX11_hasOf, .instanceMethod yX11_hasOf, .selects RX11 yX11_hasOf yX11_hasOf, .initialized RX11, z_code M_X11_hasOf], w ∈ z_gw := List.forall_mem_cons.mpr ⟨kz_1935, List.forall_mem_cons.mpr ⟨kz_1937, List.forall_mem_cons.mpr ⟨kz_96, List.forall_mem_cons.mpr ⟨kz_120, List.forall_mem_cons.mpr ⟨kc_X11_hasOf, fun _ h => absurd h List.not_mem_nil⟩⟩⟩⟩⟩
theorem kz_1931 : Cond.methodLink RX11 416 yX11_mayBeTheirs ∈ z_gw := List.mem_filter.mpr ⟨z_sub_t8 143 rfl, rfl⟩
theorem kz_1933 : Cond.instanceMethod yX11_mayBeTheirs ∈ z_gw := List.mem_filter.mpr ⟨z_sub_t8 145 rfl, rfl⟩
theorem kz_95 : Cond.selects RX11 yX11_mayBeTheirs yX11_mayBeTheirs ∈ z_gw := z_sub_p6 15 rfl rfl
theorem kk_X11_416 : ∀ w ∈ [Cond.methodLink RX11 416 yX11_mayBeTheirs, .instanceMethod yX11_mayBeTheirs, .selects RX11 yX11_mayBeTheirs yX11_mayBeTheirs, .initialized RX11, z_code M_X11_mayBeTheirs], w ∈ z_gw := List.forall_mem_cons.mpr ⟨kz_1931, List.forall_mem_cons.mpr ⟨kz_1933, List.forall_mem_cons.mpr ⟨kz_95, List.forall_mem_cons.mpr ⟨kz_120, List.forall_mem_cons.mpr ⟨kc_X11_mayBeTheirs, fun _ h => absurd h List.not_mem_nil⟩⟩⟩⟩⟩
theorem kz_1943 : Cond.methodLink RX11 419 yX11_leftBy ∈ z_gw := List.mem_filter.mpr ⟨z_sub_t8 155 rfl, rfl⟩
theorem kz_1945 : Cond.instanceMethod yX11_leftBy ∈ z_gw := List.mem_filter.mpr ⟨z_sub_t8 157 rfl, rfl⟩
theorem kz_97 : Cond.selects RX11 yX11_leftBy yX11_leftBy ∈ z_gw := z_sub_p7 1 rfl rfl
theorem kk_X11_419 : ∀ w ∈ [Cond.methodLink RX11 419 yX11_leftBy, .instanceMethod yX11_leftBy, .selects RX11 yX11_leftBy yX11_leftBy, .initialized RX11, z_code M_X11_leftBy], w ∈ z_gw := List.forall_mem_cons.mpr ⟨kz_1943, List.forall_mem_cons.mpr ⟨kz_1945, List.forall_mem_cons.mpr ⟨kz_97, List.forall_mem_cons.mpr ⟨kz_120, List.forall_mem_cons.mpr ⟨kc_X11_leftBy, fun _ h => absurd h List.not_mem_nil⟩⟩⟩⟩⟩
theorem kz_1955 : Cond.methodLink RX11 422 yX11_firstOut ∈ z_gw := List.mem_filter.mpr ⟨z_sub_t8 167 rfl, rfl⟩
theorem kz_1956 : Cond.static yX11_firstOut ∈ z_gw := List.mem_filter.mpr ⟨z_sub_t8 168 rfl, rfl⟩
theorem kk_X11_422 : ∀ w ∈ [Cond.methodLink RX11 422 yX11_firstOut, .static yX11_firstOut, .initialized RX11, z_code M_X11_firstOut], w ∈ z_gw := List.forall_mem_cons.mpr ⟨kz_1955, List.forall_mem_cons.mpr ⟨kz_1956, List.forall_mem_cons.mpr ⟨kz_120, List.forall_mem_cons.mpr ⟨kc_X11_firstOut, fun _ h => absurd h List.not_mem_nil⟩⟩⟩⟩
theorem kz_1958 : Cond.methodLink RX11 425 yX11_mayMatch ∈ z_gw := List.mem_filter.mpr ⟨z_sub_t8 170 rfl, rfl⟩
theorem kz_1960 : Cond.instanceMethod yX11_mayMatch ∈ z_gw := List.mem_filter.mpr ⟨z_sub_t8 172 rfl, rfl⟩
theorem kz_99 : Cond.selects RX11 yX11_mayMatch yX11_mayMatch ∈ z_gw := z_sub_p7 3 rfl rfl
theorem kk_X11_425 : ∀ w ∈ [Cond.methodLink RX11 425 yX11_mayMatch, .instanceMethod yX11_mayMatch, .selects RX11 yX11_mayMatch yX11_mayMatch, .initialized RX11, z_code M_X11_mayMatch], w ∈ z_gw := List.forall_mem_cons.mpr ⟨kz_1958, List.forall_mem_cons.mpr ⟨kz_1960, List.forall_mem_cons.mpr ⟨kz_99, List.forall_mem_cons.mpr ⟨kz_120, List.forall_mem_cons.mpr ⟨kc_X11_mayMatch, fun _ h => absurd h List.not_mem_nil⟩⟩⟩⟩⟩
theorem kz_1962 : Cond.methodLink RX11 428 yX11_worthOf ∈ z_gw := List.mem_filter.mpr ⟨z_sub_t8 174 rfl, rfl⟩
theorem kz_1964 : Cond.instanceMethod yX11_worthOf ∈ z_gw := List.mem_filter.mpr ⟨z_sub_t8 176 rfl, rfl⟩
theorem kz_100 : Cond.selects RX11 yX11_worthOf yX11_worthOf ∈ z_gw := z_sub_p7 4 rfl rfl
theorem kk_X11_428 : ∀ w ∈ [Cond.methodLink RX11 428 yX11_worthOf, .instanceMethod yX11_worthOf, .selects RX11 yX11_worthOf yX11_worthOf, .initialized RX11, z_code M_X11_worthOf], w ∈ z_gw := List.forall_mem_cons.mpr ⟨kz_1962, List.forall_mem_cons.mpr ⟨kz_1964, List.forall_mem_cons.mpr ⟨kz_100, List.forall_mem_cons.mpr ⟨kz_120, List.forall_mem_cons.mpr ⟨kc_X11_worthOf, fun _ h => absurd h List.not_mem_nil⟩⟩⟩⟩⟩
theorem kz_1951 : Cond.methodLink RX11 431 yX11_findMatch ∈ z_gw := List.mem_filter.mpr ⟨z_sub_t8 163 rfl, rfl⟩
theorem kz_1953 : Cond.instanceMethod yX11_findMatch ∈ z_gw := List.mem_filter.mpr ⟨z_sub_t8 165 rfl, rfl⟩
theorem kz_98 : Cond.selects RX11 yX11_findMatch yX11_findMatch ∈ z_gw := z_sub_p7 2 rfl rfl
theorem kk_X11_431 : ∀ w ∈ [Cond.methodLink RX11 431 yX11_findMatch, .instanceMethod yX11_findMatch, .selects RX11 yX11_findMatch yX11_findMatch, .initialized RX11, z_code M_X11_findMatch], w ∈ z_gw := List.forall_mem_cons.mpr ⟨kz_1951, List.forall_mem_cons.mpr ⟨kz_1953, List.forall_mem_cons.mpr ⟨kz_98, List.forall_mem_cons.mpr ⟨kz_120, List.forall_mem_cons.mpr ⟨kc_X11_findMatch, fun _ h => absurd h List.not_mem_nil⟩⟩⟩⟩⟩
theorem kz_1974 : Cond.methodLink RX11 434 yX11_needOf ∈ z_gw := List.mem_filter.mpr ⟨z_sub_t8 186 rfl, rfl⟩
theorem kz_1976 : Cond.instanceMethod yX11_needOf ∈ z_gw := List.mem_filter.mpr ⟨z_sub_t8 188 rfl, rfl⟩
theorem kz_101 : Cond.selects RX11 yX11_needOf yX11_needOf ∈ z_gw := z_sub_p7 5 rfl rfl
theorem kk_X11_434 : ∀ w ∈ [Cond.methodLink RX11 434 yX11_needOf, .instanceMethod yX11_needOf, .selects RX11 yX11_needOf yX11_needOf, .initialized RX11, z_code M_X11_needOf], w ∈ z_gw := List.forall_mem_cons.mpr ⟨kz_1974, List.forall_mem_cons.mpr ⟨kz_1976, List.forall_mem_cons.mpr ⟨kz_101, List.forall_mem_cons.mpr ⟨kz_120, List.forall_mem_cons.mpr ⟨kc_X11_needOf, fun _ h => absurd h List.not_mem_nil⟩⟩⟩⟩⟩
theorem kz_1986 : Cond.constantLong RX11 437 (16) ∈ z_gw := List.mem_filter.mpr ⟨z_sub_t8 198 rfl, rfl⟩
theorem kd_X11_437 : Cond.constantLong RX11 437 (16) ∈ z_gw := kz_1986
theorem kz_1987 : Cond.methodLink RX11 439 yX11_least ∈ z_gw := List.mem_filter.mpr ⟨z_sub_t8 199 rfl, rfl⟩
theorem kz_1988 : Cond.static yX11_least ∈ z_gw := List.mem_filter.mpr ⟨z_sub_t8 200 rfl, rfl⟩
theorem kk_X11_439 : ∀ w ∈ [Cond.methodLink RX11 439 yX11_least, .static yX11_least, .initialized RX11, z_code M_X11_least], w ∈ z_gw := List.forall_mem_cons.mpr ⟨kz_1987, List.forall_mem_cons.mpr ⟨kz_1988, List.forall_mem_cons.mpr ⟨kz_120, List.forall_mem_cons.mpr ⟨kc_X11_least, fun _ h => absurd h List.not_mem_nil⟩⟩⟩⟩
theorem kz_1998 : Cond.methodLink RX11 442 yX11_followsOf ∈ z_gw := List.mem_filter.mpr ⟨z_sub_t8 210 rfl, rfl⟩
theorem kz_2000 : Cond.instanceMethod yX11_followsOf ∈ z_gw := List.mem_filter.mpr ⟨z_sub_t8 212 rfl, rfl⟩
theorem kz_103 : Cond.selects RX11 yX11_followsOf yX11_followsOf ∈ z_gw := z_sub_p7 7 rfl rfl
theorem kk_X11_442 : ∀ w ∈ [Cond.methodLink RX11 442 yX11_followsOf, .instanceMethod yX11_followsOf, .selects RX11 yX11_followsOf yX11_followsOf, .initialized RX11, z_code M_X11_followsOf], w ∈ z_gw := List.forall_mem_cons.mpr ⟨kz_1998, List.forall_mem_cons.mpr ⟨kz_2000, List.forall_mem_cons.mpr ⟨kz_103, List.forall_mem_cons.mpr ⟨kz_120, List.forall_mem_cons.mpr ⟨kc_X11_followsOf, fun _ h => absurd h List.not_mem_nil⟩⟩⟩⟩⟩
theorem kz_1994 : Cond.methodLink RX11 445 yX11_isRest ∈ z_gw := List.mem_filter.mpr ⟨z_sub_t8 206 rfl, rfl⟩
theorem kz_1996 : Cond.instanceMethod yX11_isRest ∈ z_gw := List.mem_filter.mpr ⟨z_sub_t8 208 rfl, rfl⟩
theorem kz_102 : Cond.selects RX11 yX11_isRest yX11_isRest ∈ z_gw := z_sub_p7 6 rfl rfl
theorem kk_X11_445 : ∀ w ∈ [Cond.methodLink RX11 445 yX11_isRest, .instanceMethod yX11_isRest, .selects RX11 yX11_isRest yX11_isRest, .initialized RX11, z_code M_X11_isRest], w ∈ z_gw := List.forall_mem_cons.mpr ⟨kz_1994, List.forall_mem_cons.mpr ⟨kz_1996, List.forall_mem_cons.mpr ⟨kz_102, List.forall_mem_cons.mpr ⟨kz_120, List.forall_mem_cons.mpr ⟨kc_X11_isRest, fun _ h => absurd h List.not_mem_nil⟩⟩⟩⟩⟩
theorem kz_1478 : Cond.fieldLink RX11 448 RX11 "seedNow" "I" ∈ z_gw := List.mem_filter.mpr ⟨z_sub_t6 170 rfl, rfl⟩
theorem kf_X11_448 : Cond.fieldLink RX11 448 RX11 "seedNow" "I" ∈ z_gw := kz_1478
theorem kz_2025 : Cond.constant RX11 451 (1103515245) ∈ z_gw := List.mem_filter.mpr ⟨z_sub_t8 237 rfl, rfl⟩
theorem kd_X11_451 : Cond.constant RX11 451 (1103515245) ∈ z_gw := kz_2025
theorem kz_1479 : Cond.fieldLink RX11 452 RX11 "dipsDone" "I" ∈ z_gw := List.mem_filter.mpr ⟨z_sub_t6 171 rfl, rfl⟩
theorem kf_X11_452 : Cond.fieldLink RX11 452 RX11 "dipsDone" "I" ∈ z_gw := kz_1479
theorem kz_1480 : Cond.fieldLink RX11 455 RX11 "rainsDone" "I" ∈ z_gw := List.mem_filter.mpr ⟨z_sub_t6 172 rfl, rfl⟩
theorem kf_X11_455 : Cond.fieldLink RX11 455 RX11 "rainsDone" "I" ∈ z_gw := kz_1480
theorem kz_2021 : Cond.methodLink RX11 458 yX11_draws ∈ z_gw := List.mem_filter.mpr ⟨z_sub_t8 233 rfl, rfl⟩
theorem kz_2023 : Cond.instanceMethod yX11_draws ∈ z_gw := List.mem_filter.mpr ⟨z_sub_t8 235 rfl, rfl⟩
theorem kz_105 : Cond.selects RX11 yX11_draws yX11_draws ∈ z_gw := z_sub_p7 9 rfl rfl
theorem kk_X11_458 : ∀ w ∈ [Cond.methodLink RX11 458 yX11_draws, .instanceMethod yX11_draws, .selects RX11 yX11_draws yX11_draws, .initialized RX11, z_code M_X11_draws], w ∈ z_gw := List.forall_mem_cons.mpr ⟨kz_2021, List.forall_mem_cons.mpr ⟨kz_2023, List.forall_mem_cons.mpr ⟨kz_105, List.forall_mem_cons.mpr ⟨kz_120, List.forall_mem_cons.mpr ⟨kc_X11_draws, fun _ h => absurd h List.not_mem_nil⟩⟩⟩⟩⟩
theorem kz_2014 : Cond.methodLink RX11 461 yX11_areAges ∈ z_gw := List.mem_filter.mpr ⟨z_sub_t8 226 rfl, rfl⟩
theorem kz_2015 : Cond.static yX11_areAges ∈ z_gw := List.mem_filter.mpr ⟨z_sub_t8 227 rfl, rfl⟩
theorem kk_X11_461 : ∀ w ∈ [Cond.methodLink RX11 461 yX11_areAges, .static yX11_areAges, .initialized RX11, z_code M_X11_areAges], w ∈ z_gw := List.forall_mem_cons.mpr ⟨kz_2014, List.forall_mem_cons.mpr ⟨kz_2015, List.forall_mem_cons.mpr ⟨kz_120, List.forall_mem_cons.mpr ⟨kc_X11_areAges, fun _ h => absurd h List.not_mem_nil⟩⟩⟩⟩
theorem kz_2017 : Cond.methodLink RX11 464 yX11_agesGo ∈ z_gw := List.mem_filter.mpr ⟨z_sub_t8 229 rfl, rfl⟩
theorem kz_2019 : Cond.instanceMethod yX11_agesGo ∈ z_gw := List.mem_filter.mpr ⟨z_sub_t8 231 rfl, rfl⟩
theorem kz_104 : Cond.selects RX11 yX11_agesGo yX11_agesGo ∈ z_gw := z_sub_p7 8 rfl rfl
theorem kk_X11_464 : ∀ w ∈ [Cond.methodLink RX11 464 yX11_agesGo, .instanceMethod yX11_agesGo, .selects RX11 yX11_agesGo yX11_agesGo, .initialized RX11, z_code M_X11_agesGo], w ∈ z_gw := List.forall_mem_cons.mpr ⟨kz_2017, List.forall_mem_cons.mpr ⟨kz_2019, List.forall_mem_cons.mpr ⟨kz_104, List.forall_mem_cons.mpr ⟨kz_120, List.forall_mem_cons.mpr ⟨kc_X11_agesGo, fun _ h => absurd h List.not_mem_nil⟩⟩⟩⟩⟩
theorem kz_2038 : Cond.methodLink RX11 467 yX11_keepsRow ∈ z_gw := List.mem_filter.mpr ⟨z_sub_t9 10 rfl, rfl⟩
theorem kz_2040 : Cond.instanceMethod yX11_keepsRow ∈ z_gw := List.mem_filter.mpr ⟨z_sub_t9 12 rfl, rfl⟩
theorem kz_107 : Cond.selects RX11 yX11_keepsRow yX11_keepsRow ∈ z_gw := z_sub_p7 11 rfl rfl
theorem kk_X11_467 : ∀ w ∈ [Cond.methodLink RX11 467 yX11_keepsRow, .instanceMethod yX11_keepsRow, .selects RX11 yX11_keepsRow yX11_keepsRow, .initialized RX11, z_code M_X11_keepsRow], w ∈ z_gw := List.forall_mem_cons.mpr ⟨kz_2038, List.forall_mem_cons.mpr ⟨kz_2040, List.forall_mem_cons.mpr ⟨kz_107, List.forall_mem_cons.mpr ⟨kz_120, List.forall_mem_cons.mpr ⟨kc_X11_keepsRow, fun _ h => absurd h List.not_mem_nil⟩⟩⟩⟩⟩
theorem kz_2034 : Cond.methodLink RX11 471 yX11_keepsAll ∈ z_gw := List.mem_filter.mpr ⟨z_sub_t9 6 rfl, rfl⟩
theorem kz_2036 : Cond.instanceMethod yX11_keepsAll ∈ z_gw := List.mem_filter.mpr ⟨z_sub_t9 8 rfl, rfl⟩
theorem kz_106 : Cond.selects RX11 yX11_keepsAll yX11_keepsAll ∈ z_gw := z_sub_p7 10 rfl rfl
theorem kk_X11_471 : ∀ w ∈ [Cond.methodLink RX11 471 yX11_keepsAll, .instanceMethod yX11_keepsAll, .selects RX11 yX11_keepsAll yX11_keepsAll, .initialized RX11, z_code M_X11_keepsAll], w ∈ z_gw := List.forall_mem_cons.mpr ⟨kz_2034, List.forall_mem_cons.mpr ⟨kz_2036, List.forall_mem_cons.mpr ⟨kz_106, List.forall_mem_cons.mpr ⟨kz_120, List.forall_mem_cons.mpr ⟨kc_X11_keepsAll, fun _ h => absurd h List.not_mem_nil⟩⟩⟩⟩⟩
theorem kz_221 : Cond.methodLink RX0 3 objectInit ∈ z_gw := List.mem_filter.mpr ⟨z_sub_t1 113 rfl, rfl⟩
theorem ko_X0_3 : ∀ w ∈ [Cond.methodLink RX0 3 objectInit, .instanceMethod objectInit, .code objectInit ⟨#[0xb1]⟩ 1 none], w ∈ z_gw := List.forall_mem_cons.mpr ⟨kz_221, List.forall_mem_cons.mpr ⟨kz_138, List.forall_mem_cons.mpr ⟨kz_139, fun _ h => absurd h List.not_mem_nil⟩⟩⟩
theorem kz_222 : Cond.fieldLink RX0 9 RX0 "values" "[I" ∈ z_gw := List.mem_filter.mpr ⟨z_sub_t1 114 rfl, rfl⟩
theorem kf_X0_9 : Cond.fieldLink RX0 9 RX0 "values" "[I" ∈ z_gw := kz_222
theorem kz_223 : Cond.fieldLink RX0 15 RX0 "draft" "[I" ∈ z_gw := List.mem_filter.mpr ⟨z_sub_t1 115 rfl, rfl⟩
theorem kf_X0_15 : Cond.fieldLink RX0 15 RX0 "draft" "[I" ∈ z_gw := kz_223
theorem kz_734 : Cond.static yX10_fill ∈ z_gw := List.mem_filter.mpr ⟨z_sub_t3 146 rfl, rfl⟩
theorem kk_X0_18 : ∀ w ∈ [Cond.static yX10_fill, .initialized RX10, z_code M_X10_fill], w ∈ z_gw := List.forall_mem_cons.mpr ⟨kz_734, List.forall_mem_cons.mpr ⟨kz_109, List.forall_mem_cons.mpr ⟨kc_X10_fill, fun _ h => absurd h List.not_mem_nil⟩⟩⟩
theorem kz_749 : Cond.methodLinkNest RX0 18 yX10_fill "DyeStreets" ∈ z_nw := List.mem_filter.mpr ⟨z_sub_t3 161 rfl, rfl⟩
theorem kn_X0_18 : Cond.methodLinkNest RX0 18 yX10_fill "DyeStreets" ∈ z_nw := kz_749
theorem kz_224 : Cond.fieldLink RX0 22 RX0 "lines" "I" ∈ z_gw := List.mem_filter.mpr ⟨z_sub_t1 116 rfl, rfl⟩
theorem kf_X0_22 : Cond.fieldLink RX0 22 RX0 "lines" "I" ∈ z_gw := kz_224
theorem kz_938 : Cond.methodLink RX0 26 yX8_failed ∈ z_gw := List.mem_filter.mpr ⟨z_sub_t4 110 rfl, rfl⟩
theorem kk_X0_26 : ∀ w ∈ [Cond.methodLink RX0 26 yX8_failed, .instanceMethod yX8_failed, .selects RX8 yX8_failed yX8_failed, .initialized RX8, z_code M_X8_failed], w ∈ z_gw := List.forall_mem_cons.mpr ⟨kz_938, List.forall_mem_cons.mpr ⟨kz_622, List.forall_mem_cons.mpr ⟨kz_623, List.forall_mem_cons.mpr ⟨kz_110, List.forall_mem_cons.mpr ⟨kc_X8_failed, fun _ h => absurd h List.not_mem_nil⟩⟩⟩⟩⟩
theorem kz_939 : Cond.methodLink RX0 32 yX8_next ∈ z_gw := List.mem_filter.mpr ⟨z_sub_t4 111 rfl, rfl⟩
theorem kz_626 : Cond.instanceMethod yX8_next ∈ z_gw := List.mem_filter.mpr ⟨z_sub_t3 38 rfl, rfl⟩
theorem kz_627 : Cond.selects RX8 yX8_next yX8_next ∈ z_gw := List.mem_filter.mpr ⟨z_sub_t3 39 rfl, rfl⟩
theorem kk_X0_32 : ∀ w ∈ [Cond.methodLink RX0 32 yX8_next, .instanceMethod yX8_next, .selects RX8 yX8_next yX8_next, .initialized RX8, z_code M_X8_next], w ∈ z_gw := List.forall_mem_cons.mpr ⟨kz_939, List.forall_mem_cons.mpr ⟨kz_626, List.forall_mem_cons.mpr ⟨kz_627, List.forall_mem_cons.mpr ⟨kz_110, List.forall_mem_cons.mpr ⟨kc_X8_next, fun _ h => absurd h List.not_mem_nil⟩⟩⟩⟩⟩
theorem kz_940 : Cond.methodLink RX0 36 yX8_needNumber ∈ z_gw := List.mem_filter.mpr ⟨z_sub_t4 112 rfl, rfl⟩
theorem kz_707 : Cond.instanceMethod yX8_needNumber ∈ z_gw := List.mem_filter.mpr ⟨z_sub_t3 119 rfl, rfl⟩
theorem kz_708 : Cond.selects RX8 yX8_needNumber yX8_needNumber ∈ z_gw := List.mem_filter.mpr ⟨z_sub_t3 120 rfl, rfl⟩
theorem kk_X0_36 : ∀ w ∈ [Cond.methodLink RX0 36 yX8_needNumber, .instanceMethod yX8_needNumber, .selects RX8 yX8_needNumber yX8_needNumber, .initialized RX8, z_code M_X8_needNumber], w ∈ z_gw := List.forall_mem_cons.mpr ⟨kz_940, List.forall_mem_cons.mpr ⟨kz_707, List.forall_mem_cons.mpr ⟨kz_708, List.forall_mem_cons.mpr ⟨kz_110, List.forall_mem_cons.mpr ⟨kc_X8_needNumber, fun _ h => absurd h List.not_mem_nil⟩⟩⟩⟩⟩
theorem kk_X0_40 : ∀ w ∈ [Cond.static yX10_at, .initialized RX10, z_code M_X10_at], w ∈ z_gw := List.forall_mem_cons.mpr ⟨kz_474, List.forall_mem_cons.mpr ⟨kz_109, List.forall_mem_cons.mpr ⟨kc_X10_at, fun _ h => absurd h List.not_mem_nil⟩⟩⟩
theorem kz_941 : Cond.methodLinkNest RX0 40 yX10_at "DyeStreets" ∈ z_nw := List.mem_filter.mpr ⟨z_sub_t4 113 rfl, rfl⟩
theorem kn_X0_40 : Cond.methodLinkNest RX0 40 yX10_at "DyeStreets" ∈ z_nw := kz_941
theorem kz_154 : Cond.fieldLinkNest RX0 44 RX8 "mark" "I" "DyeStreets" ∈ z_nw := List.mem_filter.mpr ⟨z_sub_t1 46 rfl, rfl⟩
theorem kf_X0_44 : Cond.fieldLinkNest RX0 44 RX8 "mark" "I" "DyeStreets" ∈ z_nw := kz_154
theorem kz_942 : Cond.methodLink RX0 47 yX8_fail ∈ z_gw := List.mem_filter.mpr ⟨z_sub_t4 114 rfl, rfl⟩
theorem kz_699 : Cond.instanceMethod yX8_fail ∈ z_gw := List.mem_filter.mpr ⟨z_sub_t3 111 rfl, rfl⟩
theorem kz_700 : Cond.selects RX8 yX8_fail yX8_fail ∈ z_gw := List.mem_filter.mpr ⟨z_sub_t3 112 rfl, rfl⟩
theorem kk_X0_47 : ∀ w ∈ [Cond.methodLink RX0 47 yX8_fail, .instanceMethod yX8_fail, .selects RX8 yX8_fail yX8_fail, .initialized RX8, z_code M_X8_fail], w ∈ z_gw := List.forall_mem_cons.mpr ⟨kz_942, List.forall_mem_cons.mpr ⟨kz_699, List.forall_mem_cons.mpr ⟨kz_700, List.forall_mem_cons.mpr ⟨kz_110, List.forall_mem_cons.mpr ⟨kc_X8_fail, fun _ h => absurd h List.not_mem_nil⟩⟩⟩⟩⟩
theorem kk_X0_51 : ∀ w ∈ [Cond.static yX10_put, .initialized RX10, z_code M_X10_put], w ∈ z_gw := List.forall_mem_cons.mpr ⟨kz_452, List.forall_mem_cons.mpr ⟨kz_109, List.forall_mem_cons.mpr ⟨kc_X10_put, fun _ h => absurd h List.not_mem_nil⟩⟩⟩
theorem kz_943 : Cond.methodLinkNest RX0 51 yX10_put "DyeStreets" ∈ z_nw := List.mem_filter.mpr ⟨z_sub_t4 115 rfl, rfl⟩
theorem kn_X0_51 : Cond.methodLinkNest RX0 51 yX10_put "DyeStreets" ∈ z_nw := kz_943
theorem kz_944 : Cond.methodLink RX0 55 yX8_needSign ∈ z_gw := List.mem_filter.mpr ⟨z_sub_t4 116 rfl, rfl⟩
theorem kz_721 : Cond.instanceMethod yX8_needSign ∈ z_gw := List.mem_filter.mpr ⟨z_sub_t3 133 rfl, rfl⟩
theorem kz_722 : Cond.selects RX8 yX8_needSign yX8_needSign ∈ z_gw := List.mem_filter.mpr ⟨z_sub_t3 134 rfl, rfl⟩
theorem kk_X0_55 : ∀ w ∈ [Cond.methodLink RX0 55 yX8_needSign, .instanceMethod yX8_needSign, .selects RX8 yX8_needSign yX8_needSign, .initialized RX8, z_code M_X8_needSign], w ∈ z_gw := List.forall_mem_cons.mpr ⟨kz_944, List.forall_mem_cons.mpr ⟨kz_721, List.forall_mem_cons.mpr ⟨kz_722, List.forall_mem_cons.mpr ⟨kz_110, List.forall_mem_cons.mpr ⟨kc_X8_needSign, fun _ h => absurd h List.not_mem_nil⟩⟩⟩⟩⟩
theorem kz_471 : Cond.static yX10_copy ∈ z_gw := List.mem_filter.mpr ⟨z_sub_t2 123 rfl, rfl⟩
theorem kk_X0_59 : ∀ w ∈ [Cond.static yX10_copy, .initialized RX10, z_code M_X10_copy], w ∈ z_gw := List.forall_mem_cons.mpr ⟨kz_471, List.forall_mem_cons.mpr ⟨kz_109, List.forall_mem_cons.mpr ⟨kc_X10_copy, fun _ h => absurd h List.not_mem_nil⟩⟩⟩
theorem kz_945 : Cond.methodLinkNest RX0 59 yX10_copy "DyeStreets" ∈ z_nw := List.mem_filter.mpr ⟨z_sub_t4 117 rfl, rfl⟩
theorem kn_X0_59 : Cond.methodLinkNest RX0 59 yX10_copy "DyeStreets" ∈ z_nw := kz_945
theorem kk_X0_63 : ∀ w ∈ [Cond.static yX10_partOf, .initialized RX10, z_code M_X10_partOf], w ∈ z_gw := List.forall_mem_cons.mpr ⟨kz_495, List.forall_mem_cons.mpr ⟨kz_109, List.forall_mem_cons.mpr ⟨kc_X10_partOf, fun _ h => absurd h List.not_mem_nil⟩⟩⟩
theorem kz_1210 : Cond.methodLinkNest RX0 63 yX10_partOf "DyeStreets" ∈ z_nw := List.mem_filter.mpr ⟨z_sub_t5 142 rfl, rfl⟩
theorem kn_X0_63 : Cond.methodLinkNest RX0 63 yX10_partOf "DyeStreets" ∈ z_nw := kz_1210
theorem kz_1205 : Cond.methodLink RX0 67 yX9_has ∈ z_gw := List.mem_filter.mpr ⟨z_sub_t5 137 rfl, rfl⟩
theorem kk_X0_67 : ∀ w ∈ [Cond.methodLink RX0 67 yX9_has, .instanceMethod yX9_has, .selects RX9 yX9_has yX9_has, .initialized RX9, z_code M_X9_has], w ∈ z_gw := List.forall_mem_cons.mpr ⟨kz_1205, List.forall_mem_cons.mpr ⟨kz_490, List.forall_mem_cons.mpr ⟨kz_491, List.forall_mem_cons.mpr ⟨kz_111, List.forall_mem_cons.mpr ⟨kc_X9_has, fun _ h => absurd h List.not_mem_nil⟩⟩⟩⟩⟩
theorem kz_1206 : Cond.methodLink RX0 72 yX0_mayBear ∈ z_gw := List.mem_filter.mpr ⟨z_sub_t5 138 rfl, rfl⟩
theorem kz_1208 : Cond.instanceMethod yX0_mayBear ∈ z_gw := List.mem_filter.mpr ⟨z_sub_t5 140 rfl, rfl⟩
theorem kz_30 : Cond.selects RX0 yX0_mayBear yX0_mayBear ∈ z_gw := z_sub_p2 14 rfl rfl
theorem kk_X0_72 : ∀ w ∈ [Cond.methodLink RX0 72 yX0_mayBear, .instanceMethod yX0_mayBear, .selects RX0 yX0_mayBear yX0_mayBear, .initialized RX0, z_code M_X0_mayBear], w ∈ z_gw := List.forall_mem_cons.mpr ⟨kz_1206, List.forall_mem_cons.mpr ⟨kz_1208, List.forall_mem_cons.mpr ⟨kz_30, List.forall_mem_cons.mpr ⟨kz_113, List.forall_mem_cons.mpr ⟨kc_X0_mayBear, fun _ h => absurd h List.not_mem_nil⟩⟩⟩⟩⟩
theorem kz_1230 : Cond.methodLink RX0 76 yX0_left ∈ z_gw := List.mem_filter.mpr ⟨z_sub_t5 162 rfl, rfl⟩
theorem kz_1232 : Cond.instanceMethod yX0_left ∈ z_gw := List.mem_filter.mpr ⟨z_sub_t5 164 rfl, rfl⟩
theorem kz_31 : Cond.selects RX0 yX0_left yX0_left ∈ z_gw := z_sub_p2 15 rfl rfl
theorem kk_X0_76 : ∀ w ∈ [Cond.methodLink RX0 76 yX0_left, .instanceMethod yX0_left, .selects RX0 yX0_left yX0_left, .initialized RX0, z_code M_X0_left], w ∈ z_gw := List.forall_mem_cons.mpr ⟨kz_1230, List.forall_mem_cons.mpr ⟨kz_1232, List.forall_mem_cons.mpr ⟨kz_31, List.forall_mem_cons.mpr ⟨kz_113, List.forall_mem_cons.mpr ⟨kc_X0_left, fun _ h => absurd h List.not_mem_nil⟩⟩⟩⟩⟩
theorem kz_1234 : Cond.methodLink RX0 80 Lib.Math.max.name ∈ z_gw := List.mem_filter.mpr ⟨z_sub_t5 166 rfl, rfl⟩
theorem km_X0_80 : ∀ w ∈ [Cond.methodLink RX0 80 Lib.Math.max.name, .static Lib.Math.max.name, .initialized "java/lang/Math", .code Lib.Math.max.name Lib.Math.max.code 2 (some .int)], w ∈ z_gw := List.forall_mem_cons.mpr ⟨kz_1234, List.forall_mem_cons.mpr ⟨kz_995, List.forall_mem_cons.mpr ⟨kz_129, List.forall_mem_cons.mpr ⟨kz_996, fun _ h => absurd h List.not_mem_nil⟩⟩⟩⟩
theorem kz_353 : Cond.methodLink RX1 3 objectInit ∈ z_gw := List.mem_filter.mpr ⟨z_sub_t2 5 rfl, rfl⟩
theorem ko_X1_3 : ∀ w ∈ [Cond.methodLink RX1 3 objectInit, .instanceMethod objectInit, .code objectInit ⟨#[0xb1]⟩ 1 none], w ∈ z_gw := List.forall_mem_cons.mpr ⟨kz_353, List.forall_mem_cons.mpr ⟨kz_138, List.forall_mem_cons.mpr ⟨kz_139, fun _ h => absurd h List.not_mem_nil⟩⟩⟩
theorem kz_354 : Cond.fieldLink RX1 9 RX1 "vats" "[I" ∈ z_gw := List.mem_filter.mpr ⟨z_sub_t2 6 rfl, rfl⟩
theorem kf_X1_9 : Cond.fieldLink RX1 9 RX1 "vats" "[I" ∈ z_gw := kz_354
theorem kz_355 : Cond.fieldLink RX1 15 RX1 "ranks" "[I" ∈ z_gw := List.mem_filter.mpr ⟨z_sub_t2 7 rfl, rfl⟩
theorem kf_X1_15 : Cond.fieldLink RX1 15 RX1 "ranks" "[I" ∈ z_gw := kz_355
theorem kz_356 : Cond.fieldLink RX1 18 RX1 "homes" "[I" ∈ z_gw := List.mem_filter.mpr ⟨z_sub_t2 8 rfl, rfl⟩
theorem kf_X1_18 : Cond.fieldLink RX1 18 RX1 "homes" "[I" ∈ z_gw := kz_356
theorem kz_357 : Cond.fieldLink RX1 21 RX1 "firstAges" "[I" ∈ z_gw := List.mem_filter.mpr ⟨z_sub_t2 9 rfl, rfl⟩
theorem kf_X1_21 : Cond.fieldLink RX1 21 RX1 "firstAges" "[I" ∈ z_gw := kz_357
theorem kz_359 : Cond.fieldLink RX1 24 RX1 "firstStocks" "[I" ∈ z_gw := List.mem_filter.mpr ⟨z_sub_t2 11 rfl, rfl⟩
theorem kf_X1_24 : Cond.fieldLink RX1 24 RX1 "firstStocks" "[I" ∈ z_gw := kz_359
theorem kz_372 : Cond.fieldLink RX1 27 RX1 "river" "I" ∈ z_gw := List.mem_filter.mpr ⟨z_sub_t2 24 rfl, rfl⟩
theorem kf_X1_27 : Cond.fieldLink RX1 27 RX1 "river" "I" ∈ z_gw := kz_372
theorem kz_621 : Cond.methodLink RX1 31 yX8_failed ∈ z_gw := List.mem_filter.mpr ⟨z_sub_t3 33 rfl, rfl⟩
theorem kk_X1_31 : ∀ w ∈ [Cond.methodLink RX1 31 yX8_failed, .instanceMethod yX8_failed, .selects RX8 yX8_failed yX8_failed, .initialized RX8, z_code M_X8_failed], w ∈ z_gw := List.forall_mem_cons.mpr ⟨kz_621, List.forall_mem_cons.mpr ⟨kz_622, List.forall_mem_cons.mpr ⟨kz_623, List.forall_mem_cons.mpr ⟨kz_110, List.forall_mem_cons.mpr ⟨kc_X8_failed, fun _ h => absurd h List.not_mem_nil⟩⟩⟩⟩⟩
theorem kz_625 : Cond.methodLink RX1 37 yX8_next ∈ z_gw := List.mem_filter.mpr ⟨z_sub_t3 37 rfl, rfl⟩
theorem kk_X1_37 : ∀ w ∈ [Cond.methodLink RX1 37 yX8_next, .instanceMethod yX8_next, .selects RX8 yX8_next yX8_next, .initialized RX8, z_code M_X8_next], w ∈ z_gw := List.forall_mem_cons.mpr ⟨kz_625, List.forall_mem_cons.mpr ⟨kz_626, List.forall_mem_cons.mpr ⟨kz_627, List.forall_mem_cons.mpr ⟨kz_110, List.forall_mem_cons.mpr ⟨kc_X8_next, fun _ h => absurd h List.not_mem_nil⟩⟩⟩⟩⟩
theorem kz_633 : Cond.methodLink RX1 41 yX1_readClause ∈ z_gw := List.mem_filter.mpr ⟨z_sub_t3 45 rfl, rfl⟩
theorem kz_635 : Cond.instanceMethod yX1_readClause ∈ z_gw := List.mem_filter.mpr ⟨z_sub_t3 47 rfl, rfl⟩
theorem kz_4 : Cond.selects RX1 yX1_readClause yX1_readClause ∈ z_gw := z_sub_p1 4 rfl rfl
theorem kk_X1_41 : ∀ w ∈ [Cond.methodLink RX1 41 yX1_readClause, .instanceMethod yX1_readClause, .selects RX1 yX1_readClause yX1_readClause, .initialized RX1, z_code M_X1_readClause], w ∈ z_gw := List.forall_mem_cons.mpr ⟨kz_633, List.forall_mem_cons.mpr ⟨kz_635, List.forall_mem_cons.mpr ⟨kz_4, List.forall_mem_cons.mpr ⟨kz_119, List.forall_mem_cons.mpr ⟨kc_X1_readClause, fun _ h => absurd h List.not_mem_nil⟩⟩⟩⟩⟩
theorem kz_720 : Cond.methodLink RX1 45 yX8_needSign ∈ z_gw := List.mem_filter.mpr ⟨z_sub_t3 132 rfl, rfl⟩
theorem kk_X1_45 : ∀ w ∈ [Cond.methodLink RX1 45 yX8_needSign, .instanceMethod yX8_needSign, .selects RX8 yX8_needSign yX8_needSign, .initialized RX8, z_code M_X8_needSign], w ∈ z_gw := List.forall_mem_cons.mpr ⟨kz_720, List.forall_mem_cons.mpr ⟨kz_721, List.forall_mem_cons.mpr ⟨kz_722, List.forall_mem_cons.mpr ⟨kz_110, List.forall_mem_cons.mpr ⟨kc_X8_needSign, fun _ h => absurd h List.not_mem_nil⟩⟩⟩⟩⟩
theorem kz_638 : Cond.methodLink RX1 51 yX8_takesWordOf ∈ z_gw := List.mem_filter.mpr ⟨z_sub_t3 50 rfl, rfl⟩
theorem kz_639 : Cond.instanceMethod yX8_takesWordOf ∈ z_gw := List.mem_filter.mpr ⟨z_sub_t3 51 rfl, rfl⟩
theorem kz_640 : Cond.selects RX8 yX8_takesWordOf yX8_takesWordOf ∈ z_gw := List.mem_filter.mpr ⟨z_sub_t3 52 rfl, rfl⟩
theorem kk_X1_51 : ∀ w ∈ [Cond.methodLink RX1 51 yX8_takesWordOf, .instanceMethod yX8_takesWordOf, .selects RX8 yX8_takesWordOf yX8_takesWordOf, .initialized RX8, z_code M_X8_takesWordOf], w ∈ z_gw := List.forall_mem_cons.mpr ⟨kz_638, List.forall_mem_cons.mpr ⟨kz_639, List.forall_mem_cons.mpr ⟨kz_640, List.forall_mem_cons.mpr ⟨kz_110, List.forall_mem_cons.mpr ⟨kc_X8_takesWordOf, fun _ h => absurd h List.not_mem_nil⟩⟩⟩⟩⟩
theorem kz_363 : Cond.fieldLink RX1 55 RX1 "streets" "I" ∈ z_gw := List.mem_filter.mpr ⟨z_sub_t2 15 rfl, rfl⟩
theorem kf_X1_55 : Cond.fieldLink RX1 55 RX1 "streets" "I" ∈ z_gw := kz_363
theorem kz_369 : Cond.fieldLink RX1 58 RX1 "people" "I" ∈ z_gw := List.mem_filter.mpr ⟨z_sub_t2 21 rfl, rfl⟩
theorem kf_X1_58 : Cond.fieldLink RX1 58 RX1 "people" "I" ∈ z_gw := kz_369
theorem kz_152 : Cond.fieldLinkNest RX1 61 RX8 "here" "I" "DyeStreets" ∈ z_nw := List.mem_filter.mpr ⟨z_sub_t1 44 rfl, rfl⟩
theorem kf_X1_61 : Cond.fieldLinkNest RX1 61 RX8 "here" "I" "DyeStreets" ∈ z_nw := kz_152
theorem kz_698 : Cond.methodLink RX1 64 yX8_fail ∈ z_gw := List.mem_filter.mpr ⟨z_sub_t3 110 rfl, rfl⟩
theorem kk_X1_64 : ∀ w ∈ [Cond.methodLink RX1 64 yX8_fail, .instanceMethod yX8_fail, .selects RX8 yX8_fail yX8_fail, .initialized RX8, z_code M_X8_fail], w ∈ z_gw := List.forall_mem_cons.mpr ⟨kz_698, List.forall_mem_cons.mpr ⟨kz_699, List.forall_mem_cons.mpr ⟨kz_700, List.forall_mem_cons.mpr ⟨kz_110, List.forall_mem_cons.mpr ⟨kc_X8_fail, fun _ h => absurd h List.not_mem_nil⟩⟩⟩⟩⟩
theorem kz_155 : Cond.fieldLinkNest RX1 68 RX8 "mark" "I" "DyeStreets" ∈ z_nw := List.mem_filter.mpr ⟨z_sub_t1 47 rfl, rfl⟩
theorem kf_X1_68 : Cond.fieldLinkNest RX1 68 RX8 "mark" "I" "DyeStreets" ∈ z_nw := kz_155
theorem kz_702 : Cond.methodLink RX1 71 yX1_readRest ∈ z_gw := List.mem_filter.mpr ⟨z_sub_t3 114 rfl, rfl⟩
theorem kz_704 : Cond.instanceMethod yX1_readRest ∈ z_gw := List.mem_filter.mpr ⟨z_sub_t3 116 rfl, rfl⟩
theorem kz_6 : Cond.selects RX1 yX1_readRest yX1_readRest ∈ z_gw := z_sub_p1 6 rfl rfl
theorem kk_X1_71 : ∀ w ∈ [Cond.methodLink RX1 71 yX1_readRest, .instanceMethod yX1_readRest, .selects RX1 yX1_readRest yX1_readRest, .initialized RX1, z_code M_X1_readRest], w ∈ z_gw := List.forall_mem_cons.mpr ⟨kz_702, List.forall_mem_cons.mpr ⟨kz_704, List.forall_mem_cons.mpr ⟨kz_6, List.forall_mem_cons.mpr ⟨kz_119, List.forall_mem_cons.mpr ⟨kc_X1_readRest, fun _ h => absurd h List.not_mem_nil⟩⟩⟩⟩⟩
theorem kz_706 : Cond.methodLink RX1 74 yX8_needNumber ∈ z_gw := List.mem_filter.mpr ⟨z_sub_t3 118 rfl, rfl⟩
theorem kk_X1_74 : ∀ w ∈ [Cond.methodLink RX1 74 yX8_needNumber, .instanceMethod yX8_needNumber, .selects RX8 yX8_needNumber yX8_needNumber, .initialized RX8, z_code M_X8_needNumber], w ∈ z_gw := List.forall_mem_cons.mpr ⟨kz_706, List.forall_mem_cons.mpr ⟨kz_707, List.forall_mem_cons.mpr ⟨kz_708, List.forall_mem_cons.mpr ⟨kz_110, List.forall_mem_cons.mpr ⟨kc_X8_needNumber, fun _ h => absurd h List.not_mem_nil⟩⟩⟩⟩⟩
theorem kk_X1_78 : ∀ w ∈ [Cond.static yX10_unitOf, .initialized RX10, z_code M_X10_unitOf], w ∈ z_gw := List.forall_mem_cons.mpr ⟨kz_498, List.forall_mem_cons.mpr ⟨kz_109, List.forall_mem_cons.mpr ⟨kc_X10_unitOf, fun _ h => absurd h List.not_mem_nil⟩⟩⟩
theorem kz_718 : Cond.methodLinkNest RX1 78 yX10_unitOf "DyeStreets" ∈ z_nw := List.mem_filter.mpr ⟨z_sub_t3 130 rfl, rfl⟩
theorem kn_X1_78 : Cond.methodLinkNest RX1 78 yX10_unitOf "DyeStreets" ∈ z_nw := kz_718
theorem kk_X1_81 : ∀ w ∈ [Cond.static yX10_put, .initialized RX10, z_code M_X10_put], w ∈ z_gw := List.forall_mem_cons.mpr ⟨kz_452, List.forall_mem_cons.mpr ⟨kz_109, List.forall_mem_cons.mpr ⟨kc_X10_put, fun _ h => absurd h List.not_mem_nil⟩⟩⟩
theorem kz_719 : Cond.methodLinkNest RX1 81 yX10_put "DyeStreets" ∈ z_nw := List.mem_filter.mpr ⟨z_sub_t3 131 rfl, rfl⟩
theorem kn_X1_81 : Cond.methodLinkNest RX1 81 yX10_put "DyeStreets" ∈ z_nw := kz_719
theorem kk_X1_85 : ∀ w ∈ [Cond.static yX10_at, .initialized RX10, z_code M_X10_at], w ∈ z_gw := List.forall_mem_cons.mpr ⟨kz_474, List.forall_mem_cons.mpr ⟨kz_109, List.forall_mem_cons.mpr ⟨kc_X10_at, fun _ h => absurd h List.not_mem_nil⟩⟩⟩
theorem kz_865 : Cond.methodLinkNest RX1 85 yX10_at "DyeStreets" ∈ z_nw := List.mem_filter.mpr ⟨z_sub_t4 37 rfl, rfl⟩
theorem kn_X1_85 : Cond.methodLinkNest RX1 85 yX10_at "DyeStreets" ∈ z_nw := kz_865
theorem kz_1046 : Cond.methodLink RX1 89 yX1_homeOf ∈ z_gw := List.mem_filter.mpr ⟨z_sub_t4 218 rfl, rfl⟩
theorem kk_X1_89 : ∀ w ∈ [Cond.methodLink RX1 89 yX1_homeOf, .instanceMethod yX1_homeOf, .selects RX1 yX1_homeOf yX1_homeOf, .initialized RX1, z_code M_X1_homeOf], w ∈ z_gw := List.forall_mem_cons.mpr ⟨kz_1046, List.forall_mem_cons.mpr ⟨kz_970, List.forall_mem_cons.mpr ⟨kz_971, List.forall_mem_cons.mpr ⟨kz_119, List.forall_mem_cons.mpr ⟨kc_X1_homeOf, fun _ h => absurd h List.not_mem_nil⟩⟩⟩⟩⟩
theorem kz_967 : Cond.methodLink RX1 92 yX1_vatOf ∈ z_gw := List.mem_filter.mpr ⟨z_sub_t4 139 rfl, rfl⟩
theorem kk_X1_92 : ∀ w ∈ [Cond.methodLink RX1 92 yX1_vatOf, .instanceMethod yX1_vatOf, .selects RX1 yX1_vatOf yX1_vatOf, .initialized RX1, z_code M_X1_vatOf], w ∈ z_gw := List.forall_mem_cons.mpr ⟨kz_967, List.forall_mem_cons.mpr ⟨kz_862, List.forall_mem_cons.mpr ⟨kz_863, List.forall_mem_cons.mpr ⟨kz_119, List.forall_mem_cons.mpr ⟨kc_X1_vatOf, fun _ h => absurd h List.not_mem_nil⟩⟩⟩⟩⟩
theorem kk_X1_95 : ∀ w ∈ [Cond.static yX10_apart, .initialized RX10, z_code M_X10_apart], w ∈ z_gw := List.forall_mem_cons.mpr ⟨kz_905, List.forall_mem_cons.mpr ⟨kz_109, List.forall_mem_cons.mpr ⟨kc_X10_apart, fun _ h => absurd h List.not_mem_nil⟩⟩⟩
theorem kz_968 : Cond.methodLinkNest RX1 95 yX10_apart "DyeStreets" ∈ z_nw := List.mem_filter.mpr ⟨z_sub_t4 140 rfl, rfl⟩
theorem kn_X1_95 : Cond.methodLinkNest RX1 95 yX10_apart "DyeStreets" ∈ z_nw := kz_968
theorem kz_311 : Cond.methodLink RX2 3 objectInit ∈ z_gw := List.mem_filter.mpr ⟨z_sub_t1 203 rfl, rfl⟩
theorem ko_X2_3 : ∀ w ∈ [Cond.methodLink RX2 3 objectInit, .instanceMethod objectInit, .code objectInit ⟨#[0xb1]⟩ 1 none], w ∈ z_gw := List.forall_mem_cons.mpr ⟨kz_311, List.forall_mem_cons.mpr ⟨kz_138, List.forall_mem_cons.mpr ⟨kz_139, fun _ h => absurd h List.not_mem_nil⟩⟩⟩
theorem kz_312 : Cond.fieldLink RX2 9 RX2 "best" "[I" ∈ z_gw := List.mem_filter.mpr ⟨z_sub_t1 204 rfl, rfl⟩
theorem kf_X2_9 : Cond.fieldLink RX2 9 RX2 "best" "[I" ∈ z_gw := kz_312
theorem kz_313 : Cond.fieldLink RX2 15 RX2 "gains" "[I" ∈ z_gw := List.mem_filter.mpr ⟨z_sub_t1 205 rfl, rfl⟩
theorem kf_X2_15 : Cond.fieldLink RX2 15 RX2 "gains" "[I" ∈ z_gw := kz_313
theorem kz_314 : Cond.fieldLink RX2 18 RX2 "partners" "[I" ∈ z_gw := List.mem_filter.mpr ⟨z_sub_t1 206 rfl, rfl⟩
theorem kf_X2_18 : Cond.fieldLink RX2 18 RX2 "partners" "[I" ∈ z_gw := kz_314
theorem kz_1246 : Cond.methodLink RX2 21 yX2_weighAll ∈ z_gw := List.mem_filter.mpr ⟨z_sub_t5 178 rfl, rfl⟩
theorem kz_1248 : Cond.instanceMethod yX2_weighAll ∈ z_gw := List.mem_filter.mpr ⟨z_sub_t5 180 rfl, rfl⟩
theorem kz_32 : Cond.selects RX2 yX2_weighAll yX2_weighAll ∈ z_gw := z_sub_p3 0 rfl rfl
theorem kk_X2_21 : ∀ w ∈ [Cond.methodLink RX2 21 yX2_weighAll, .instanceMethod yX2_weighAll, .selects RX2 yX2_weighAll yX2_weighAll, .initialized RX2, z_code M_X2_weighAll], w ∈ z_gw := List.forall_mem_cons.mpr ⟨kz_1246, List.forall_mem_cons.mpr ⟨kz_1248, List.forall_mem_cons.mpr ⟨kz_32, List.forall_mem_cons.mpr ⟨kz_117, List.forall_mem_cons.mpr ⟨kc_X2_weighAll, fun _ h => absurd h List.not_mem_nil⟩⟩⟩⟩⟩
theorem kz_366 : Cond.fieldLinkNest RX2 25 RX1 "people" "I" "DyeStreets" ∈ z_nw := List.mem_filter.mpr ⟨z_sub_t2 18 rfl, rfl⟩
theorem kf_X2_25 : Cond.fieldLinkNest RX2 25 RX1 "people" "I" "DyeStreets" ∈ z_nw := kz_366
theorem kz_1257 : Cond.methodLink RX2 31 yX2_bestOf ∈ z_gw := List.mem_filter.mpr ⟨z_sub_t5 189 rfl, rfl⟩
theorem kz_1259 : Cond.instanceMethod yX2_bestOf ∈ z_gw := List.mem_filter.mpr ⟨z_sub_t5 191 rfl, rfl⟩
theorem kz_33 : Cond.selects RX2 yX2_bestOf yX2_bestOf ∈ z_gw := z_sub_p3 1 rfl rfl
theorem kk_X2_31 : ∀ w ∈ [Cond.methodLink RX2 31 yX2_bestOf, .instanceMethod yX2_bestOf, .selects RX2 yX2_bestOf yX2_bestOf, .initialized RX2, z_code M_X2_bestOf], w ∈ z_gw := List.forall_mem_cons.mpr ⟨kz_1257, List.forall_mem_cons.mpr ⟨kz_1259, List.forall_mem_cons.mpr ⟨kz_33, List.forall_mem_cons.mpr ⟨kz_117, List.forall_mem_cons.mpr ⟨kc_X2_bestOf, fun _ h => absurd h List.not_mem_nil⟩⟩⟩⟩⟩
theorem kk_X2_35 : ∀ w ∈ [Cond.static yX10_put, .initialized RX10, z_code M_X10_put], w ∈ z_gw := List.forall_mem_cons.mpr ⟨kz_452, List.forall_mem_cons.mpr ⟨kz_109, List.forall_mem_cons.mpr ⟨kc_X10_put, fun _ h => absurd h List.not_mem_nil⟩⟩⟩
theorem kz_1256 : Cond.methodLinkNest RX2 35 yX10_put "DyeStreets" ∈ z_nw := List.mem_filter.mpr ⟨z_sub_t5 188 rfl, rfl⟩
theorem kn_X2_35 : Cond.methodLinkNest RX2 35 yX10_put "DyeStreets" ∈ z_nw := kz_1256
theorem kz_1273 : Cond.methodLink RX2 39 yX2_choose ∈ z_gw := List.mem_filter.mpr ⟨z_sub_t5 205 rfl, rfl⟩
theorem kz_1275 : Cond.instanceMethod yX2_choose ∈ z_gw := List.mem_filter.mpr ⟨z_sub_t5 207 rfl, rfl⟩
theorem kz_35 : Cond.selects RX2 yX2_choose yX2_choose ∈ z_gw := z_sub_p3 3 rfl rfl
theorem kk_X2_39 : ∀ w ∈ [Cond.methodLink RX2 39 yX2_choose, .instanceMethod yX2_choose, .selects RX2 yX2_choose yX2_choose, .initialized RX2, z_code M_X2_choose], w ∈ z_gw := List.forall_mem_cons.mpr ⟨kz_1273, List.forall_mem_cons.mpr ⟨kz_1275, List.forall_mem_cons.mpr ⟨kz_35, List.forall_mem_cons.mpr ⟨kz_117, List.forall_mem_cons.mpr ⟨kc_X2_choose, fun _ h => absurd h List.not_mem_nil⟩⟩⟩⟩⟩
theorem kz_1282 : Cond.methodLink RX2 43 yX2_sumUp ∈ z_gw := List.mem_filter.mpr ⟨z_sub_t5 214 rfl, rfl⟩
theorem kz_1284 : Cond.instanceMethod yX2_sumUp ∈ z_gw := List.mem_filter.mpr ⟨z_sub_t5 216 rfl, rfl⟩
theorem kz_37 : Cond.selects RX2 yX2_sumUp yX2_sumUp ∈ z_gw := z_sub_p3 5 rfl rfl
theorem kk_X2_43 : ∀ w ∈ [Cond.methodLink RX2 43 yX2_sumUp, .instanceMethod yX2_sumUp, .selects RX2 yX2_sumUp yX2_sumUp, .initialized RX2, z_code M_X2_sumUp], w ∈ z_gw := List.forall_mem_cons.mpr ⟨kz_1282, List.forall_mem_cons.mpr ⟨kz_1284, List.forall_mem_cons.mpr ⟨kz_37, List.forall_mem_cons.mpr ⟨kz_117, List.forall_mem_cons.mpr ⟨kc_X2_sumUp, fun _ h => absurd h List.not_mem_nil⟩⟩⟩⟩⟩
theorem kk_X2_47 : ∀ w ∈ [Cond.static yX10_at, .initialized RX10, z_code M_X10_at], w ∈ z_gw := List.forall_mem_cons.mpr ⟨kz_474, List.forall_mem_cons.mpr ⟨kz_109, List.forall_mem_cons.mpr ⟨kc_X10_at, fun _ h => absurd h List.not_mem_nil⟩⟩⟩
theorem kz_1267 : Cond.methodLinkNest RX2 47 yX10_at "DyeStreets" ∈ z_nw := List.mem_filter.mpr ⟨z_sub_t5 199 rfl, rfl⟩
theorem kn_X2_47 : Cond.methodLinkNest RX2 47 yX10_at "DyeStreets" ∈ z_nw := kz_1267
theorem kz_1250 : Cond.methodLink RX2 51 yX2_gainOf ∈ z_gw := List.mem_filter.mpr ⟨z_sub_t5 182 rfl, rfl⟩
theorem kz_1251 : Cond.static yX2_gainOf ∈ z_gw := List.mem_filter.mpr ⟨z_sub_t5 183 rfl, rfl⟩
theorem kk_X2_51 : ∀ w ∈ [Cond.methodLink RX2 51 yX2_gainOf, .static yX2_gainOf, .initialized RX2, z_code M_X2_gainOf], w ∈ z_gw := List.forall_mem_cons.mpr ⟨kz_1250, List.forall_mem_cons.mpr ⟨kz_1251, List.forall_mem_cons.mpr ⟨kz_117, List.forall_mem_cons.mpr ⟨kc_X2_gainOf, fun _ h => absurd h List.not_mem_nil⟩⟩⟩⟩
theorem kz_1253 : Cond.methodLink RX2 55 yX9_has ∈ z_gw := List.mem_filter.mpr ⟨z_sub_t5 185 rfl, rfl⟩
theorem kk_X2_55 : ∀ w ∈ [Cond.methodLink RX2 55 yX9_has, .instanceMethod yX9_has, .selects RX9 yX9_has yX9_has, .initialized RX9, z_code M_X9_has], w ∈ z_gw := List.forall_mem_cons.mpr ⟨kz_1253, List.forall_mem_cons.mpr ⟨kz_490, List.forall_mem_cons.mpr ⟨kz_491, List.forall_mem_cons.mpr ⟨kz_111, List.forall_mem_cons.mpr ⟨kc_X9_has, fun _ h => absurd h List.not_mem_nil⟩⟩⟩⟩⟩
theorem kk_X2_60 : ∀ w ∈ [Cond.static yX10_apart, .initialized RX10, z_code M_X10_apart], w ∈ z_gw := List.forall_mem_cons.mpr ⟨kz_905, List.forall_mem_cons.mpr ⟨kz_109, List.forall_mem_cons.mpr ⟨kc_X10_apart, fun _ h => absurd h List.not_mem_nil⟩⟩⟩
theorem kz_1254 : Cond.methodLinkNest RX2 60 yX10_apart "DyeStreets" ∈ z_nw := List.mem_filter.mpr ⟨z_sub_t5 186 rfl, rfl⟩
theorem kn_X2_60 : Cond.methodLinkNest RX2 60 yX10_apart "DyeStreets" ∈ z_nw := kz_1254
theorem kz_1255 : Cond.methodLink RX2 63 yX1_homeOf ∈ z_gw := List.mem_filter.mpr ⟨z_sub_t5 187 rfl, rfl⟩
theorem kk_X2_63 : ∀ w ∈ [Cond.methodLink RX2 63 yX1_homeOf, .instanceMethod yX1_homeOf, .selects RX1 yX1_homeOf yX1_homeOf, .initialized RX1, z_code M_X1_homeOf], w ∈ z_gw := List.forall_mem_cons.mpr ⟨kz_1255, List.forall_mem_cons.mpr ⟨kz_970, List.forall_mem_cons.mpr ⟨kz_971, List.forall_mem_cons.mpr ⟨kz_119, List.forall_mem_cons.mpr ⟨kc_X1_homeOf, fun _ h => absurd h List.not_mem_nil⟩⟩⟩⟩⟩
theorem kz_1261 : Cond.methodLink RX2 67 yX2_leastIn ∈ z_gw := List.mem_filter.mpr ⟨z_sub_t5 193 rfl, rfl⟩
theorem kz_1262 : Cond.static yX2_leastIn ∈ z_gw := List.mem_filter.mpr ⟨z_sub_t5 194 rfl, rfl⟩
theorem kk_X2_67 : ∀ w ∈ [Cond.methodLink RX2 67 yX2_leastIn, .static yX2_leastIn, .initialized RX2, z_code M_X2_leastIn], w ∈ z_gw := List.forall_mem_cons.mpr ⟨kz_1261, List.forall_mem_cons.mpr ⟨kz_1262, List.forall_mem_cons.mpr ⟨kz_117, List.forall_mem_cons.mpr ⟨kc_X2_leastIn, fun _ h => absurd h List.not_mem_nil⟩⟩⟩⟩
theorem kz_1264 : Cond.methodLink RX2 70 yX2_isIn ∈ z_gw := List.mem_filter.mpr ⟨z_sub_t5 196 rfl, rfl⟩
theorem kz_1265 : Cond.static yX2_isIn ∈ z_gw := List.mem_filter.mpr ⟨z_sub_t5 197 rfl, rfl⟩
theorem kk_X2_70 : ∀ w ∈ [Cond.methodLink RX2 70 yX2_isIn, .static yX2_isIn, .initialized RX2, z_code M_X2_isIn], w ∈ z_gw := List.forall_mem_cons.mpr ⟨kz_1264, List.forall_mem_cons.mpr ⟨kz_1265, List.forall_mem_cons.mpr ⟨kz_117, List.forall_mem_cons.mpr ⟨kc_X2_isIn, fun _ h => absurd h List.not_mem_nil⟩⟩⟩⟩
theorem kz_1268 : Cond.methodLink RX2 74 yX2_gain ∈ z_gw := List.mem_filter.mpr ⟨z_sub_t5 200 rfl, rfl⟩
theorem kz_1270 : Cond.instanceMethod yX2_gain ∈ z_gw := List.mem_filter.mpr ⟨z_sub_t5 202 rfl, rfl⟩
theorem kz_34 : Cond.selects RX2 yX2_gain yX2_gain ∈ z_gw := z_sub_p3 2 rfl rfl
theorem kk_X2_74 : ∀ w ∈ [Cond.methodLink RX2 74 yX2_gain, .instanceMethod yX2_gain, .selects RX2 yX2_gain yX2_gain, .initialized RX2, z_code M_X2_gain], w ∈ z_gw := List.forall_mem_cons.mpr ⟨kz_1268, List.forall_mem_cons.mpr ⟨kz_1270, List.forall_mem_cons.mpr ⟨kz_34, List.forall_mem_cons.mpr ⟨kz_117, List.forall_mem_cons.mpr ⟨kc_X2_gain, fun _ h => absurd h List.not_mem_nil⟩⟩⟩⟩⟩
theorem kz_1272 : Cond.methodLink RX2 77 Lib.Math.max.name ∈ z_gw := List.mem_filter.mpr ⟨z_sub_t5 204 rfl, rfl⟩
theorem km_X2_77 : ∀ w ∈ [Cond.methodLink RX2 77 Lib.Math.max.name, .static Lib.Math.max.name, .initialized "java/lang/Math", .code Lib.Math.max.name Lib.Math.max.code 2 (some .int)], w ∈ z_gw := List.forall_mem_cons.mpr ⟨kz_1272, List.forall_mem_cons.mpr ⟨kz_995, List.forall_mem_cons.mpr ⟨kz_129, List.forall_mem_cons.mpr ⟨kz_996, fun _ h => absurd h List.not_mem_nil⟩⟩⟩⟩
theorem kk_X2_82 : ∀ w ∈ [Cond.static yX10_fill, .initialized RX10, z_code M_X10_fill], w ∈ z_gw := List.forall_mem_cons.mpr ⟨kz_734, List.forall_mem_cons.mpr ⟨kz_109, List.forall_mem_cons.mpr ⟨kc_X10_fill, fun _ h => absurd h List.not_mem_nil⟩⟩⟩
theorem kz_1277 : Cond.methodLinkNest RX2 82 yX10_fill "DyeStreets" ∈ z_nw := List.mem_filter.mpr ⟨z_sub_t5 209 rfl, rfl⟩
theorem kn_X2_82 : Cond.methodLinkNest RX2 82 yX10_fill "DyeStreets" ∈ z_nw := kz_1277
theorem kz_1278 : Cond.methodLink RX2 86 yX2_firstPartner ∈ z_gw := List.mem_filter.mpr ⟨z_sub_t5 210 rfl, rfl⟩
theorem kz_1280 : Cond.instanceMethod yX2_firstPartner ∈ z_gw := List.mem_filter.mpr ⟨z_sub_t5 212 rfl, rfl⟩
theorem kz_36 : Cond.selects RX2 yX2_firstPartner yX2_firstPartner ∈ z_gw := z_sub_p3 4 rfl rfl
theorem kk_X2_86 : ∀ w ∈ [Cond.methodLink RX2 86 yX2_firstPartner, .instanceMethod yX2_firstPartner, .selects RX2 yX2_firstPartner yX2_firstPartner, .initialized RX2, z_code M_X2_firstPartner], w ∈ z_gw := List.forall_mem_cons.mpr ⟨kz_1278, List.forall_mem_cons.mpr ⟨kz_1280, List.forall_mem_cons.mpr ⟨kz_36, List.forall_mem_cons.mpr ⟨kz_117, List.forall_mem_cons.mpr ⟨kc_X2_firstPartner, fun _ h => absurd h List.not_mem_nil⟩⟩⟩⟩⟩
theorem kz_315 : Cond.fieldLink RX2 90 RX2 "pairs" "I" ∈ z_gw := List.mem_filter.mpr ⟨z_sub_t1 207 rfl, rfl⟩
theorem kf_X2_90 : Cond.fieldLink RX2 90 RX2 "pairs" "I" ∈ z_gw := kz_315
theorem kz_317 : Cond.fieldLink RX2 93 RX2 "distances" "I" ∈ z_gw := List.mem_filter.mpr ⟨z_sub_t1 209 rfl, rfl⟩
theorem kf_X2_93 : Cond.fieldLink RX2 93 RX2 "distances" "I" ∈ z_gw := kz_317
theorem kz_1286 : Cond.methodLink RX2 96 yX2_partnerOf ∈ z_gw := List.mem_filter.mpr ⟨z_sub_t5 218 rfl, rfl⟩
theorem kk_X2_96 : ∀ w ∈ [Cond.methodLink RX2 96 yX2_partnerOf, .instanceMethod yX2_partnerOf, .selects RX2 yX2_partnerOf yX2_partnerOf, .initialized RX2, z_code M_X2_partnerOf], w ∈ z_gw := List.forall_mem_cons.mpr ⟨kz_1286, List.forall_mem_cons.mpr ⟨kz_1287, List.forall_mem_cons.mpr ⟨kz_1288, List.forall_mem_cons.mpr ⟨kz_117, List.forall_mem_cons.mpr ⟨kc_X2_partnerOf, fun _ h => absurd h List.not_mem_nil⟩⟩⟩⟩⟩
theorem kz_335 : Cond.methodLink RX3 1 objectInit ∈ z_gw := List.mem_filter.mpr ⟨z_sub_t1 227 rfl, rfl⟩
theorem ko_X3_1 : ∀ w ∈ [Cond.methodLink RX3 1 objectInit, .instanceMethod objectInit, .code objectInit ⟨#[0xb1]⟩ 1 none], w ∈ z_gw := List.forall_mem_cons.mpr ⟨kz_335, List.forall_mem_cons.mpr ⟨kz_138, List.forall_mem_cons.mpr ⟨kz_139, fun _ h => absurd h List.not_mem_nil⟩⟩⟩
theorem kz_336 : Cond.fieldLink RX3 7 RX3 "seed" "I" ∈ z_gw := List.mem_filter.mpr ⟨z_sub_t1 228 rfl, rfl⟩
theorem kf_X3_7 : Cond.fieldLink RX3 7 RX3 "seed" "I" ∈ z_gw := kz_336
theorem kz_337 : Cond.fieldLink RX3 13 RX3 "dips" "I" ∈ z_gw := List.mem_filter.mpr ⟨z_sub_t1 229 rfl, rfl⟩
theorem kf_X3_13 : Cond.fieldLink RX3 13 RX3 "dips" "I" ∈ z_gw := kz_337
theorem kz_339 : Cond.fieldLink RX3 16 RX3 "rains" "I" ∈ z_gw := List.mem_filter.mpr ⟨z_sub_t1 231 rfl, rfl⟩
theorem kf_X3_16 : Cond.fieldLink RX3 16 RX3 "rains" "I" ∈ z_gw := kz_339
theorem kz_1389 : Cond.methodLink RX3 19 yX3_draw ∈ z_gw := List.mem_filter.mpr ⟨z_sub_t6 81 rfl, rfl⟩
theorem kz_1391 : Cond.instanceMethod yX3_draw ∈ z_gw := List.mem_filter.mpr ⟨z_sub_t6 83 rfl, rfl⟩
theorem kz_43 : Cond.selects RX3 yX3_draw yX3_draw ∈ z_gw := z_sub_p3 11 rfl rfl
theorem kk_X3_19 : ∀ w ∈ [Cond.methodLink RX3 19 yX3_draw, .instanceMethod yX3_draw, .selects RX3 yX3_draw yX3_draw, .initialized RX3, z_code M_X3_draw], w ∈ z_gw := List.forall_mem_cons.mpr ⟨kz_1389, List.forall_mem_cons.mpr ⟨kz_1391, List.forall_mem_cons.mpr ⟨kz_43, List.forall_mem_cons.mpr ⟨kz_118, List.forall_mem_cons.mpr ⟨kc_X3_draw, fun _ h => absurd h List.not_mem_nil⟩⟩⟩⟩⟩
theorem kz_368 : Cond.fieldLinkNest RX3 23 RX1 "people" "I" "DyeStreets" ∈ z_nw := List.mem_filter.mpr ⟨z_sub_t2 20 rfl, rfl⟩
theorem kf_X3_23 : Cond.fieldLinkNest RX3 23 RX1 "people" "I" "DyeStreets" ∈ z_nw := kz_368
theorem kz_1394 : Cond.methodLink RX3 28 yX9_rain ∈ z_gw := List.mem_filter.mpr ⟨z_sub_t6 86 rfl, rfl⟩
theorem kz_896 : Cond.instanceMethod yX9_rain ∈ z_gw := List.mem_filter.mpr ⟨z_sub_t4 68 rfl, rfl⟩
theorem kz_897 : Cond.selects RX9 yX9_rain yX9_rain ∈ z_gw := List.mem_filter.mpr ⟨z_sub_t4 69 rfl, rfl⟩
theorem kk_X3_28 : ∀ w ∈ [Cond.methodLink RX3 28 yX9_rain, .instanceMethod yX9_rain, .selects RX9 yX9_rain yX9_rain, .initialized RX9, z_code M_X9_rain], w ∈ z_gw := List.forall_mem_cons.mpr ⟨kz_1394, List.forall_mem_cons.mpr ⟨kz_896, List.forall_mem_cons.mpr ⟨kz_897, List.forall_mem_cons.mpr ⟨kz_111, List.forall_mem_cons.mpr ⟨kc_X9_rain, fun _ h => absurd h List.not_mem_nil⟩⟩⟩⟩⟩
theorem kz_361 : Cond.fieldLinkNest RX3 34 RX1 "streets" "I" "DyeStreets" ∈ z_nw := List.mem_filter.mpr ⟨z_sub_t2 13 rfl, rfl⟩
theorem kf_X3_34 : Cond.fieldLinkNest RX3 34 RX1 "streets" "I" "DyeStreets" ∈ z_nw := kz_361
theorem kz_1395 : Cond.methodLink RX3 37 yX1_vatOf ∈ z_gw := List.mem_filter.mpr ⟨z_sub_t6 87 rfl, rfl⟩
theorem kk_X3_37 : ∀ w ∈ [Cond.methodLink RX3 37 yX1_vatOf, .instanceMethod yX1_vatOf, .selects RX1 yX1_vatOf yX1_vatOf, .initialized RX1, z_code M_X1_vatOf], w ∈ z_gw := List.forall_mem_cons.mpr ⟨kz_1395, List.forall_mem_cons.mpr ⟨kz_862, List.forall_mem_cons.mpr ⟨kz_863, List.forall_mem_cons.mpr ⟨kz_119, List.forall_mem_cons.mpr ⟨kc_X1_vatOf, fun _ h => absurd h List.not_mem_nil⟩⟩⟩⟩⟩
theorem kz_1396 : Cond.methodLink RX3 40 yX9_dip ∈ z_gw := List.mem_filter.mpr ⟨z_sub_t6 88 rfl, rfl⟩
theorem kz_867 : Cond.instanceMethod yX9_dip ∈ z_gw := List.mem_filter.mpr ⟨z_sub_t4 39 rfl, rfl⟩
theorem kz_868 : Cond.selects RX9 yX9_dip yX9_dip ∈ z_gw := List.mem_filter.mpr ⟨z_sub_t4 40 rfl, rfl⟩
theorem kk_X3_40 : ∀ w ∈ [Cond.methodLink RX3 40 yX9_dip, .instanceMethod yX9_dip, .selects RX9 yX9_dip yX9_dip, .initialized RX9, z_code M_X9_dip], w ∈ z_gw := List.forall_mem_cons.mpr ⟨kz_1396, List.forall_mem_cons.mpr ⟨kz_867, List.forall_mem_cons.mpr ⟨kz_868, List.forall_mem_cons.mpr ⟨kz_111, List.forall_mem_cons.mpr ⟨kc_X9_dip, fun _ h => absurd h List.not_mem_nil⟩⟩⟩⟩⟩
theorem kz_373 : Cond.fieldLinkNest RX3 44 RX1 "river" "I" "DyeStreets" ∈ z_nw := List.mem_filter.mpr ⟨z_sub_t2 25 rfl, rfl⟩
theorem kf_X3_44 : Cond.fieldLinkNest RX3 44 RX1 "river" "I" "DyeStreets" ∈ z_nw := kz_373
theorem kz_1397 : Cond.methodLink RX3 47 yX9_passYear ∈ z_gw := List.mem_filter.mpr ⟨z_sub_t6 89 rfl, rfl⟩
theorem kk_X3_47 : ∀ w ∈ [Cond.methodLink RX3 47 yX9_passYear, .instanceMethod yX9_passYear, .selects RX9 yX9_passYear yX9_passYear, .initialized RX9, z_code M_X9_passYear], w ∈ z_gw := List.forall_mem_cons.mpr ⟨kz_1397, List.forall_mem_cons.mpr ⟨kz_918, List.forall_mem_cons.mpr ⟨kz_919, List.forall_mem_cons.mpr ⟨kz_111, List.forall_mem_cons.mpr ⟨kc_X9_passYear, fun _ h => absurd h List.not_mem_nil⟩⟩⟩⟩⟩
theorem kz_1393 : Cond.constant RX3 51 (1103515245) ∈ z_gw := List.mem_filter.mpr ⟨z_sub_t6 85 rfl, rfl⟩
theorem kd_X3_51 : Cond.constant RX3 51 (1103515245) ∈ z_gw := kz_1393
theorem kz_274 : Cond.methodLink RX4 3 objectInit ∈ z_gw := List.mem_filter.mpr ⟨z_sub_t1 166 rfl, rfl⟩
theorem ko_X4_3 : ∀ w ∈ [Cond.methodLink RX4 3 objectInit, .instanceMethod objectInit, .code objectInit ⟨#[0xb1]⟩ 1 none], w ∈ z_gw := List.forall_mem_cons.mpr ⟨kz_274, List.forall_mem_cons.mpr ⟨kz_138, List.forall_mem_cons.mpr ⟨kz_139, fun _ h => absurd h List.not_mem_nil⟩⟩⟩
theorem kz_275 : Cond.fieldLink RX4 9 RX4 "past" "[I" ∈ z_gw := List.mem_filter.mpr ⟨z_sub_t1 167 rfl, rfl⟩
theorem kf_X4_9 : Cond.fieldLink RX4 9 RX4 "past" "[I" ∈ z_gw := kz_275
theorem kz_276 : Cond.fieldLink RX4 15 RX4 "pictures" "[I" ∈ z_gw := List.mem_filter.mpr ⟨z_sub_t1 168 rfl, rfl⟩
theorem kf_X4_15 : Cond.fieldLink RX4 15 RX4 "pictures" "[I" ∈ z_gw := kz_276
theorem kz_277 : Cond.fieldLink RX4 18 RX4 "pictureWorks" "[I" ∈ z_gw := List.mem_filter.mpr ⟨z_sub_t1 169 rfl, rfl⟩
theorem kf_X4_18 : Cond.fieldLink RX4 18 RX4 "pictureWorks" "[I" ∈ z_gw := kz_277
theorem kz_278 : Cond.fieldLink RX4 21 RX4 "works" "I" ∈ z_gw := List.mem_filter.mpr ⟨z_sub_t1 170 rfl, rfl⟩
theorem kf_X4_21 : Cond.fieldLink RX4 21 RX4 "works" "I" ∈ z_gw := kz_278
theorem kz_280 : Cond.fieldLink RX4 25 RX4 "images" "I" ∈ z_gw := List.mem_filter.mpr ⟨z_sub_t1 172 rfl, rfl⟩
theorem kf_X4_25 : Cond.fieldLink RX4 25 RX4 "images" "I" ∈ z_gw := kz_280
theorem kz_508 : Cond.methodLink RX4 28 yX9_saveTo ∈ z_gw := List.mem_filter.mpr ⟨z_sub_t2 160 rfl, rfl⟩
theorem kz_509 : Cond.instanceMethod yX9_saveTo ∈ z_gw := List.mem_filter.mpr ⟨z_sub_t2 161 rfl, rfl⟩
theorem kz_510 : Cond.selects RX9 yX9_saveTo yX9_saveTo ∈ z_gw := List.mem_filter.mpr ⟨z_sub_t2 162 rfl, rfl⟩
theorem kk_X4_28 : ∀ w ∈ [Cond.methodLink RX4 28 yX9_saveTo, .instanceMethod yX9_saveTo, .selects RX9 yX9_saveTo yX9_saveTo, .initialized RX9, z_code M_X9_saveTo], w ∈ z_gw := List.forall_mem_cons.mpr ⟨kz_508, List.forall_mem_cons.mpr ⟨kz_509, List.forall_mem_cons.mpr ⟨kz_510, List.forall_mem_cons.mpr ⟨kz_111, List.forall_mem_cons.mpr ⟨kc_X9_saveTo, fun _ h => absurd h List.not_mem_nil⟩⟩⟩⟩⟩
theorem kz_466 : Cond.methodLink RX4 34 yX9_loadFrom ∈ z_gw := List.mem_filter.mpr ⟨z_sub_t2 118 rfl, rfl⟩
theorem kz_467 : Cond.instanceMethod yX9_loadFrom ∈ z_gw := List.mem_filter.mpr ⟨z_sub_t2 119 rfl, rfl⟩
theorem kz_468 : Cond.selects RX9 yX9_loadFrom yX9_loadFrom ∈ z_gw := List.mem_filter.mpr ⟨z_sub_t2 120 rfl, rfl⟩
theorem kk_X4_34 : ∀ w ∈ [Cond.methodLink RX4 34 yX9_loadFrom, .instanceMethod yX9_loadFrom, .selects RX9 yX9_loadFrom yX9_loadFrom, .initialized RX9, z_code M_X9_loadFrom], w ∈ z_gw := List.forall_mem_cons.mpr ⟨kz_466, List.forall_mem_cons.mpr ⟨kz_467, List.forall_mem_cons.mpr ⟨kz_468, List.forall_mem_cons.mpr ⟨kz_111, List.forall_mem_cons.mpr ⟨kc_X9_loadFrom, fun _ h => absurd h List.not_mem_nil⟩⟩⟩⟩⟩
theorem kk_X4_37 : ∀ w ∈ [Cond.static yX10_copy, .initialized RX10, z_code M_X10_copy], w ∈ z_gw := List.forall_mem_cons.mpr ⟨kz_471, List.forall_mem_cons.mpr ⟨kz_109, List.forall_mem_cons.mpr ⟨kc_X10_copy, fun _ h => absurd h List.not_mem_nil⟩⟩⟩
theorem kz_512 : Cond.methodLinkNest RX4 37 yX10_copy "DyeStreets" ∈ z_nw := List.mem_filter.mpr ⟨z_sub_t2 164 rfl, rfl⟩
theorem kn_X4_37 : Cond.methodLinkNest RX4 37 yX10_copy "DyeStreets" ∈ z_nw := kz_512
theorem kk_X4_41 : ∀ w ∈ [Cond.static yX10_put, .initialized RX10, z_code M_X10_put], w ∈ z_gw := List.forall_mem_cons.mpr ⟨kz_452, List.forall_mem_cons.mpr ⟨kz_109, List.forall_mem_cons.mpr ⟨kc_X10_put, fun _ h => absurd h List.not_mem_nil⟩⟩⟩
theorem kz_513 : Cond.methodLinkNest RX4 41 yX10_put "DyeStreets" ∈ z_nw := List.mem_filter.mpr ⟨z_sub_t2 165 rfl, rfl⟩
theorem kn_X4_41 : Cond.methodLinkNest RX4 41 yX10_put "DyeStreets" ∈ z_nw := kz_513
theorem kk_X4_45 : ∀ w ∈ [Cond.static yX10_at, .initialized RX10, z_code M_X10_at], w ∈ z_gw := List.forall_mem_cons.mpr ⟨kz_474, List.forall_mem_cons.mpr ⟨kz_109, List.forall_mem_cons.mpr ⟨kc_X10_at, fun _ h => absurd h List.not_mem_nil⟩⟩⟩
theorem kz_522 : Cond.methodLinkNest RX4 45 yX10_at "DyeStreets" ∈ z_nw := List.mem_filter.mpr ⟨z_sub_t2 174 rfl, rfl⟩
theorem kn_X4_45 : Cond.methodLinkNest RX4 45 yX10_at "DyeStreets" ∈ z_nw := kz_522
theorem kz_193 : Cond.methodLink RX5 3 objectInit ∈ z_gw := List.mem_filter.mpr ⟨z_sub_t1 85 rfl, rfl⟩
theorem ko_X5_3 : ∀ w ∈ [Cond.methodLink RX5 3 objectInit, .instanceMethod objectInit, .code objectInit ⟨#[0xb1]⟩ 1 none], w ∈ z_gw := List.forall_mem_cons.mpr ⟨kz_193, List.forall_mem_cons.mpr ⟨kz_138, List.forall_mem_cons.mpr ⟨kz_139, fun _ h => absurd h List.not_mem_nil⟩⟩⟩
theorem kz_194 : Cond.fieldLink RX5 9 RX5 "code" "[I" ∈ z_gw := List.mem_filter.mpr ⟨z_sub_t1 86 rfl, rfl⟩
theorem kf_X5_9 : Cond.fieldLink RX5 9 RX5 "code" "[I" ∈ z_gw := kz_194
theorem kz_195 : Cond.fieldLink RX5 15 RX5 "draft" "[I" ∈ z_gw := List.mem_filter.mpr ⟨z_sub_t1 87 rfl, rfl⟩
theorem kf_X5_15 : Cond.fieldLink RX5 15 RX5 "draft" "[I" ∈ z_gw := kz_195
theorem kz_196 : Cond.fieldLink RX5 18 RX5 "pile" "[I" ∈ z_gw := List.mem_filter.mpr ⟨z_sub_t1 88 rfl, rfl⟩
theorem kf_X5_18 : Cond.fieldLink RX5 18 RX5 "pile" "[I" ∈ z_gw := kz_196
theorem kz_197 : Cond.fieldLink RX5 21 RX5 "facts" "[I" ∈ z_gw := List.mem_filter.mpr ⟨z_sub_t1 89 rfl, rfl⟩
theorem kf_X5_21 : Cond.fieldLink RX5 21 RX5 "facts" "[I" ∈ z_gw := kz_197
theorem kz_200 : Cond.fieldLink RX5 24 RX5 "given" "Z" ∈ z_gw := List.mem_filter.mpr ⟨z_sub_t1 92 rfl, rfl⟩
theorem kf_X5_24 : Cond.fieldLink RX5 24 RX5 "given" "Z" ∈ z_gw := kz_200
theorem kz_199 : Cond.fieldLink RX5 28 RX5 "drafted" "I" ∈ z_gw := List.mem_filter.mpr ⟨z_sub_t1 91 rfl, rfl⟩
theorem kf_X5_28 : Cond.fieldLink RX5 28 RX5 "drafted" "I" ∈ z_gw := kz_199
theorem kz_766 : Cond.methodLink RX5 32 yX5_readSum ∈ z_gw := List.mem_filter.mpr ⟨z_sub_t3 178 rfl, rfl⟩
theorem kz_768 : Cond.instanceMethod yX5_readSum ∈ z_gw := List.mem_filter.mpr ⟨z_sub_t3 180 rfl, rfl⟩
theorem kz_8 : Cond.selects RX5 yX5_readSum yX5_readSum ∈ z_gw := z_sub_p1 8 rfl rfl
theorem kk_X5_32 : ∀ w ∈ [Cond.methodLink RX5 32 yX5_readSum, .instanceMethod yX5_readSum, .selects RX5 yX5_readSum yX5_readSum, .initialized RX5, z_code M_X5_readSum], w ∈ z_gw := List.forall_mem_cons.mpr ⟨kz_766, List.forall_mem_cons.mpr ⟨kz_768, List.forall_mem_cons.mpr ⟨kz_8, List.forall_mem_cons.mpr ⟨kz_112, List.forall_mem_cons.mpr ⟨kc_X5_readSum, fun _ h => absurd h List.not_mem_nil⟩⟩⟩⟩⟩
theorem kz_778 : Cond.methodLink RX5 36 yX8_next ∈ z_gw := List.mem_filter.mpr ⟨z_sub_t3 190 rfl, rfl⟩
theorem kk_X5_36 : ∀ w ∈ [Cond.methodLink RX5 36 yX8_next, .instanceMethod yX8_next, .selects RX8 yX8_next yX8_next, .initialized RX8, z_code M_X8_next], w ∈ z_gw := List.forall_mem_cons.mpr ⟨kz_778, List.forall_mem_cons.mpr ⟨kz_626, List.forall_mem_cons.mpr ⟨kz_627, List.forall_mem_cons.mpr ⟨kz_110, List.forall_mem_cons.mpr ⟨kc_X8_next, fun _ h => absurd h List.not_mem_nil⟩⟩⟩⟩⟩
theorem kz_150 : Cond.fieldLinkNest RX5 42 RX8 "here" "I" "DyeStreets" ∈ z_nw := List.mem_filter.mpr ⟨z_sub_t1 42 rfl, rfl⟩
theorem kf_X5_42 : Cond.fieldLinkNest RX5 42 RX8 "here" "I" "DyeStreets" ∈ z_nw := kz_150
theorem kz_793 : Cond.methodLink RX5 45 yX8_fail ∈ z_gw := List.mem_filter.mpr ⟨z_sub_t3 205 rfl, rfl⟩
theorem kk_X5_45 : ∀ w ∈ [Cond.methodLink RX5 45 yX8_fail, .instanceMethod yX8_fail, .selects RX8 yX8_fail yX8_fail, .initialized RX8, z_code M_X8_fail], w ∈ z_gw := List.forall_mem_cons.mpr ⟨kz_793, List.forall_mem_cons.mpr ⟨kz_699, List.forall_mem_cons.mpr ⟨kz_700, List.forall_mem_cons.mpr ⟨kz_110, List.forall_mem_cons.mpr ⟨kc_X8_fail, fun _ h => absurd h List.not_mem_nil⟩⟩⟩⟩⟩
theorem kz_801 : Cond.methodLink RX5 49 yX8_failed ∈ z_gw := List.mem_filter.mpr ⟨z_sub_t3 213 rfl, rfl⟩
theorem kk_X5_49 : ∀ w ∈ [Cond.methodLink RX5 49 yX8_failed, .instanceMethod yX8_failed, .selects RX8 yX8_failed yX8_failed, .initialized RX8, z_code M_X8_failed], w ∈ z_gw := List.forall_mem_cons.mpr ⟨kz_801, List.forall_mem_cons.mpr ⟨kz_622, List.forall_mem_cons.mpr ⟨kz_623, List.forall_mem_cons.mpr ⟨kz_110, List.forall_mem_cons.mpr ⟨kc_X8_failed, fun _ h => absurd h List.not_mem_nil⟩⟩⟩⟩⟩
theorem kk_X5_53 : ∀ w ∈ [Cond.static yX10_copy, .initialized RX10, z_code M_X10_copy], w ∈ z_gw := List.forall_mem_cons.mpr ⟨kz_471, List.forall_mem_cons.mpr ⟨kz_109, List.forall_mem_cons.mpr ⟨kc_X10_copy, fun _ h => absurd h List.not_mem_nil⟩⟩⟩
theorem kz_802 : Cond.methodLinkNest RX5 53 yX10_copy "DyeStreets" ∈ z_nw := List.mem_filter.mpr ⟨z_sub_t3 214 rfl, rfl⟩
theorem kn_X5_53 : Cond.methodLinkNest RX5 53 yX10_copy "DyeStreets" ∈ z_nw := kz_802
theorem kz_198 : Cond.fieldLink RX5 57 RX5 "entries" "I" ∈ z_gw := List.mem_filter.mpr ⟨z_sub_t1 90 rfl, rfl⟩
theorem kf_X5_57 : Cond.fieldLink RX5 57 RX5 "entries" "I" ∈ z_gw := kz_198
theorem kz_770 : Cond.methodLink RX5 60 yX5_readProduct ∈ z_gw := List.mem_filter.mpr ⟨z_sub_t3 182 rfl, rfl⟩
theorem kz_772 : Cond.instanceMethod yX5_readProduct ∈ z_gw := List.mem_filter.mpr ⟨z_sub_t3 184 rfl, rfl⟩
theorem kz_9 : Cond.selects RX5 yX5_readProduct yX5_readProduct ∈ z_gw := z_sub_p1 9 rfl rfl
theorem kk_X5_60 : ∀ w ∈ [Cond.methodLink RX5 60 yX5_readProduct, .instanceMethod yX5_readProduct, .selects RX5 yX5_readProduct yX5_readProduct, .initialized RX5, z_code M_X5_readProduct], w ∈ z_gw := List.forall_mem_cons.mpr ⟨kz_770, List.forall_mem_cons.mpr ⟨kz_772, List.forall_mem_cons.mpr ⟨kz_9, List.forall_mem_cons.mpr ⟨kz_112, List.forall_mem_cons.mpr ⟨kc_X5_readProduct, fun _ h => absurd h List.not_mem_nil⟩⟩⟩⟩⟩
theorem kz_786 : Cond.methodLink RX5 63 yX8_takesSign ∈ z_gw := List.mem_filter.mpr ⟨z_sub_t3 198 rfl, rfl⟩
theorem kz_787 : Cond.instanceMethod yX8_takesSign ∈ z_gw := List.mem_filter.mpr ⟨z_sub_t3 199 rfl, rfl⟩
theorem kz_788 : Cond.selects RX8 yX8_takesSign yX8_takesSign ∈ z_gw := List.mem_filter.mpr ⟨z_sub_t3 200 rfl, rfl⟩
theorem kk_X5_63 : ∀ w ∈ [Cond.methodLink RX5 63 yX8_takesSign, .instanceMethod yX8_takesSign, .selects RX8 yX8_takesSign yX8_takesSign, .initialized RX8, z_code M_X8_takesSign], w ∈ z_gw := List.forall_mem_cons.mpr ⟨kz_786, List.forall_mem_cons.mpr ⟨kz_787, List.forall_mem_cons.mpr ⟨kz_788, List.forall_mem_cons.mpr ⟨kz_110, List.forall_mem_cons.mpr ⟨kc_X8_takesSign, fun _ h => absurd h List.not_mem_nil⟩⟩⟩⟩⟩
theorem kz_781 : Cond.methodLink RX5 67 yX5_write ∈ z_gw := List.mem_filter.mpr ⟨z_sub_t3 193 rfl, rfl⟩
theorem kz_783 : Cond.instanceMethod yX5_write ∈ z_gw := List.mem_filter.mpr ⟨z_sub_t3 195 rfl, rfl⟩
theorem kz_11 : Cond.selects RX5 yX5_write yX5_write ∈ z_gw := z_sub_p1 11 rfl rfl
theorem kk_X5_67 : ∀ w ∈ [Cond.methodLink RX5 67 yX5_write, .instanceMethod yX5_write, .selects RX5 yX5_write yX5_write, .initialized RX5, z_code M_X5_write], w ∈ z_gw := List.forall_mem_cons.mpr ⟨kz_781, List.forall_mem_cons.mpr ⟨kz_783, List.forall_mem_cons.mpr ⟨kz_11, List.forall_mem_cons.mpr ⟨kz_112, List.forall_mem_cons.mpr ⟨kc_X5_write, fun _ h => absurd h List.not_mem_nil⟩⟩⟩⟩⟩
theorem kz_774 : Cond.methodLink RX5 71 yX5_readUnit ∈ z_gw := List.mem_filter.mpr ⟨z_sub_t3 186 rfl, rfl⟩
theorem kz_776 : Cond.instanceMethod yX5_readUnit ∈ z_gw := List.mem_filter.mpr ⟨z_sub_t3 188 rfl, rfl⟩
theorem kz_10 : Cond.selects RX5 yX5_readUnit yX5_readUnit ∈ z_gw := z_sub_p1 10 rfl rfl
theorem kk_X5_71 : ∀ w ∈ [Cond.methodLink RX5 71 yX5_readUnit, .instanceMethod yX5_readUnit, .selects RX5 yX5_readUnit yX5_readUnit, .initialized RX5, z_code M_X5_readUnit], w ∈ z_gw := List.forall_mem_cons.mpr ⟨kz_774, List.forall_mem_cons.mpr ⟨kz_776, List.forall_mem_cons.mpr ⟨kz_10, List.forall_mem_cons.mpr ⟨kz_112, List.forall_mem_cons.mpr ⟨kc_X5_readUnit, fun _ h => absurd h List.not_mem_nil⟩⟩⟩⟩⟩
theorem kz_711 : Cond.static yX10_isDigit ∈ z_gw := List.mem_filter.mpr ⟨z_sub_t3 123 rfl, rfl⟩
theorem kk_X5_74 : ∀ w ∈ [Cond.static yX10_isDigit, .initialized RX10, z_code M_X10_isDigit], w ∈ z_gw := List.forall_mem_cons.mpr ⟨kz_711, List.forall_mem_cons.mpr ⟨kz_109, List.forall_mem_cons.mpr ⟨kc_X10_isDigit, fun _ h => absurd h List.not_mem_nil⟩⟩⟩
theorem kz_779 : Cond.methodLinkNest RX5 74 yX10_isDigit "DyeStreets" ∈ z_nw := List.mem_filter.mpr ⟨z_sub_t3 191 rfl, rfl⟩
theorem kn_X5_74 : Cond.methodLinkNest RX5 74 yX10_isDigit "DyeStreets" ∈ z_nw := kz_779
theorem kz_780 : Cond.methodLink RX5 78 yX8_needNumber ∈ z_gw := List.mem_filter.mpr ⟨z_sub_t3 192 rfl, rfl⟩
theorem kk_X5_78 : ∀ w ∈ [Cond.methodLink RX5 78 yX8_needNumber, .instanceMethod yX8_needNumber, .selects RX8 yX8_needNumber yX8_needNumber, .initialized RX8, z_code M_X8_needNumber], w ∈ z_gw := List.forall_mem_cons.mpr ⟨kz_780, List.forall_mem_cons.mpr ⟨kz_707, List.forall_mem_cons.mpr ⟨kz_708, List.forall_mem_cons.mpr ⟨kz_110, List.forall_mem_cons.mpr ⟨kc_X8_needNumber, fun _ h => absurd h List.not_mem_nil⟩⟩⟩⟩⟩
theorem kz_790 : Cond.methodLink RX5 82 yX5_isDeepest ∈ z_gw := List.mem_filter.mpr ⟨z_sub_t3 202 rfl, rfl⟩
theorem kz_791 : Cond.static yX5_isDeepest ∈ z_gw := List.mem_filter.mpr ⟨z_sub_t3 203 rfl, rfl⟩
theorem kk_X5_82 : ∀ w ∈ [Cond.methodLink RX5 82 yX5_isDeepest, .static yX5_isDeepest, .initialized RX5, z_code M_X5_isDeepest], w ∈ z_gw := List.forall_mem_cons.mpr ⟨kz_790, List.forall_mem_cons.mpr ⟨kz_791, List.forall_mem_cons.mpr ⟨kz_112, List.forall_mem_cons.mpr ⟨kc_X5_isDeepest, fun _ h => absurd h List.not_mem_nil⟩⟩⟩⟩
theorem kz_794 : Cond.methodLink RX5 86 yX8_needSign ∈ z_gw := List.mem_filter.mpr ⟨z_sub_t3 206 rfl, rfl⟩
theorem kk_X5_86 : ∀ w ∈ [Cond.methodLink RX5 86 yX8_needSign, .instanceMethod yX8_needSign, .selects RX8 yX8_needSign yX8_needSign, .initialized RX8, z_code M_X8_needSign], w ∈ z_gw := List.forall_mem_cons.mpr ⟨kz_794, List.forall_mem_cons.mpr ⟨kz_721, List.forall_mem_cons.mpr ⟨kz_722, List.forall_mem_cons.mpr ⟨kz_110, List.forall_mem_cons.mpr ⟨kc_X8_needSign, fun _ h => absurd h List.not_mem_nil⟩⟩⟩⟩⟩
theorem kz_796 : Cond.methodLink RX5 92 yX8_takesWordOf ∈ z_gw := List.mem_filter.mpr ⟨z_sub_t3 208 rfl, rfl⟩
theorem kk_X5_92 : ∀ w ∈ [Cond.methodLink RX5 92 yX8_takesWordOf, .instanceMethod yX8_takesWordOf, .selects RX8 yX8_takesWordOf yX8_takesWordOf, .initialized RX8, z_code M_X8_takesWordOf], w ∈ z_gw := List.forall_mem_cons.mpr ⟨kz_796, List.forall_mem_cons.mpr ⟨kz_639, List.forall_mem_cons.mpr ⟨kz_640, List.forall_mem_cons.mpr ⟨kz_110, List.forall_mem_cons.mpr ⟨kc_X8_takesWordOf, fun _ h => absurd h List.not_mem_nil⟩⟩⟩⟩⟩
theorem kz_797 : Cond.methodLink RX5 96 yX5_readTwo ∈ z_gw := List.mem_filter.mpr ⟨z_sub_t3 209 rfl, rfl⟩
theorem kz_799 : Cond.instanceMethod yX5_readTwo ∈ z_gw := List.mem_filter.mpr ⟨z_sub_t3 211 rfl, rfl⟩
theorem kz_12 : Cond.selects RX5 yX5_readTwo yX5_readTwo ∈ z_gw := z_sub_p1 12 rfl rfl
theorem kk_X5_96 : ∀ w ∈ [Cond.methodLink RX5 96 yX5_readTwo, .instanceMethod yX5_readTwo, .selects RX5 yX5_readTwo yX5_readTwo, .initialized RX5, z_code M_X5_readTwo], w ∈ z_gw := List.forall_mem_cons.mpr ⟨kz_797, List.forall_mem_cons.mpr ⟨kz_799, List.forall_mem_cons.mpr ⟨kz_12, List.forall_mem_cons.mpr ⟨kz_112, List.forall_mem_cons.mpr ⟨kc_X5_readTwo, fun _ h => absurd h List.not_mem_nil⟩⟩⟩⟩⟩
theorem kz_157 : Cond.fieldLinkNest RX5 100 RX8 "mark" "I" "DyeStreets" ∈ z_nw := List.mem_filter.mpr ⟨z_sub_t1 49 rfl, rfl⟩
theorem kf_X5_100 : Cond.fieldLinkNest RX5 100 RX8 "mark" "I" "DyeStreets" ∈ z_nw := kz_157
theorem kk_X5_103 : ∀ w ∈ [Cond.static yX10_put, .initialized RX10, z_code M_X10_put], w ∈ z_gw := List.forall_mem_cons.mpr ⟨kz_452, List.forall_mem_cons.mpr ⟨kz_109, List.forall_mem_cons.mpr ⟨kc_X10_put, fun _ h => absurd h List.not_mem_nil⟩⟩⟩
theorem kz_785 : Cond.methodLinkNest RX5 103 yX10_put "DyeStreets" ∈ z_nw := List.mem_filter.mpr ⟨z_sub_t3 197 rfl, rfl⟩
theorem kn_X5_103 : Cond.methodLinkNest RX5 103 yX10_put "DyeStreets" ∈ z_nw := kz_785
theorem kz_982 : Cond.static yX10_darkness ∈ z_gw := List.mem_filter.mpr ⟨z_sub_t4 154 rfl, rfl⟩
theorem kk_X5_107 : ∀ w ∈ [Cond.static yX10_darkness, .initialized RX10, z_code M_X10_darkness], w ∈ z_gw := List.forall_mem_cons.mpr ⟨kz_982, List.forall_mem_cons.mpr ⟨kz_109, List.forall_mem_cons.mpr ⟨kc_X10_darkness, fun _ h => absurd h List.not_mem_nil⟩⟩⟩
theorem kz_981 : Cond.methodLinkNest RX5 107 yX10_darkness "DyeStreets" ∈ z_nw := List.mem_filter.mpr ⟨z_sub_t4 153 rfl, rfl⟩
theorem kn_X5_107 : Cond.methodLinkNest RX5 107 yX10_darkness "DyeStreets" ∈ z_nw := kz_981
theorem kk_X5_110 : ∀ w ∈ [Cond.static yX10_partOf, .initialized RX10, z_code M_X10_partOf], w ∈ z_gw := List.forall_mem_cons.mpr ⟨kz_495, List.forall_mem_cons.mpr ⟨kz_109, List.forall_mem_cons.mpr ⟨kc_X10_partOf, fun _ h => absurd h List.not_mem_nil⟩⟩⟩
theorem kz_984 : Cond.methodLinkNest RX5 110 yX10_partOf "DyeStreets" ∈ z_nw := List.mem_filter.mpr ⟨z_sub_t4 156 rfl, rfl⟩
theorem kn_X5_110 : Cond.methodLinkNest RX5 110 yX10_partOf "DyeStreets" ∈ z_nw := kz_984
theorem kz_985 : Cond.methodLink RX5 114 yX5_worth ∈ z_gw := List.mem_filter.mpr ⟨z_sub_t4 157 rfl, rfl⟩
theorem kz_987 : Cond.instanceMethod yX5_worth ∈ z_gw := List.mem_filter.mpr ⟨z_sub_t4 159 rfl, rfl⟩
theorem kz_24 : Cond.selects RX5 yX5_worth yX5_worth ∈ z_gw := z_sub_p2 8 rfl rfl
theorem kk_X5_114 : ∀ w ∈ [Cond.methodLink RX5 114 yX5_worth, .instanceMethod yX5_worth, .selects RX5 yX5_worth yX5_worth, .initialized RX5, z_code M_X5_worth], w ∈ z_gw := List.forall_mem_cons.mpr ⟨kz_985, List.forall_mem_cons.mpr ⟨kz_987, List.forall_mem_cons.mpr ⟨kz_24, List.forall_mem_cons.mpr ⟨kz_112, List.forall_mem_cons.mpr ⟨kc_X5_worth, fun _ h => absurd h List.not_mem_nil⟩⟩⟩⟩⟩
theorem kk_X5_117 : ∀ w ∈ [Cond.static yX10_at, .initialized RX10, z_code M_X10_at], w ∈ z_gw := List.forall_mem_cons.mpr ⟨kz_474, List.forall_mem_cons.mpr ⟨kz_109, List.forall_mem_cons.mpr ⟨kc_X10_at, fun _ h => absurd h List.not_mem_nil⟩⟩⟩
theorem kz_989 : Cond.methodLinkNest RX5 117 yX10_at "DyeStreets" ∈ z_nw := List.mem_filter.mpr ⟨z_sub_t4 161 rfl, rfl⟩
theorem kn_X5_117 : Cond.methodLinkNest RX5 117 yX10_at "DyeStreets" ∈ z_nw := kz_989
theorem kz_990 : Cond.methodLink RX5 121 yX5_joined ∈ z_gw := List.mem_filter.mpr ⟨z_sub_t4 162 rfl, rfl⟩
theorem kz_991 : Cond.static yX5_joined ∈ z_gw := List.mem_filter.mpr ⟨z_sub_t4 163 rfl, rfl⟩
theorem kk_X5_121 : ∀ w ∈ [Cond.methodLink RX5 121 yX5_joined, .static yX5_joined, .initialized RX5, z_code M_X5_joined], w ∈ z_gw := List.forall_mem_cons.mpr ⟨kz_990, List.forall_mem_cons.mpr ⟨kz_991, List.forall_mem_cons.mpr ⟨kz_112, List.forall_mem_cons.mpr ⟨kc_X5_joined, fun _ h => absurd h List.not_mem_nil⟩⟩⟩⟩
theorem kz_993 : Cond.methodLink RX5 125 Lib.Math.min.name ∈ z_gw := List.mem_filter.mpr ⟨z_sub_t4 165 rfl, rfl⟩
theorem km_X5_125 : ∀ w ∈ [Cond.methodLink RX5 125 Lib.Math.min.name, .static Lib.Math.min.name, .initialized "java/lang/Math", .code Lib.Math.min.name Lib.Math.min.code 2 (some .int)], w ∈ z_gw := List.forall_mem_cons.mpr ⟨kz_993, List.forall_mem_cons.mpr ⟨kz_716, List.forall_mem_cons.mpr ⟨kz_129, List.forall_mem_cons.mpr ⟨kz_717, fun _ h => absurd h List.not_mem_nil⟩⟩⟩⟩
theorem kz_994 : Cond.methodLink RX5 130 Lib.Math.max.name ∈ z_gw := List.mem_filter.mpr ⟨z_sub_t4 166 rfl, rfl⟩
theorem km_X5_130 : ∀ w ∈ [Cond.methodLink RX5 130 Lib.Math.max.name, .static Lib.Math.max.name, .initialized "java/lang/Math", .code Lib.Math.max.name Lib.Math.max.code 2 (some .int)], w ∈ z_gw := List.forall_mem_cons.mpr ⟨kz_994, List.forall_mem_cons.mpr ⟨kz_995, List.forall_mem_cons.mpr ⟨kz_129, List.forall_mem_cons.mpr ⟨kz_996, fun _ h => absurd h List.not_mem_nil⟩⟩⟩⟩
theorem kz_298 : Cond.methodLink RX6 3 objectInit ∈ z_gw := List.mem_filter.mpr ⟨z_sub_t1 190 rfl, rfl⟩
theorem ko_X6_3 : ∀ w ∈ [Cond.methodLink RX6 3 objectInit, .instanceMethod objectInit, .code objectInit ⟨#[0xb1]⟩ 1 none], w ∈ z_gw := List.forall_mem_cons.mpr ⟨kz_298, List.forall_mem_cons.mpr ⟨kz_138, List.forall_mem_cons.mpr ⟨kz_139, fun _ h => absurd h List.not_mem_nil⟩⟩⟩
theorem kz_299 : Cond.fieldLink RX6 9 RX6 "dips" "[I" ∈ z_gw := List.mem_filter.mpr ⟨z_sub_t1 191 rfl, rfl⟩
theorem kf_X6_9 : Cond.fieldLink RX6 9 RX6 "dips" "[I" ∈ z_gw := kz_299
theorem kz_300 : Cond.fieldLink RX6 15 RX6 "mixes" "[I" ∈ z_gw := List.mem_filter.mpr ⟨z_sub_t1 192 rfl, rfl⟩
theorem kf_X6_15 : Cond.fieldLink RX6 15 RX6 "mixes" "[I" ∈ z_gw := kz_300
theorem kz_1132 : Cond.methodLink RX6 18 yX6_dipsVia ∈ z_gw := List.mem_filter.mpr ⟨z_sub_t5 64 rfl, rfl⟩
theorem kz_1134 : Cond.instanceMethod yX6_dipsVia ∈ z_gw := List.mem_filter.mpr ⟨z_sub_t5 66 rfl, rfl⟩
theorem kz_27 : Cond.selects RX6 yX6_dipsVia yX6_dipsVia ∈ z_gw := z_sub_p2 11 rfl rfl
theorem kk_X6_18 : ∀ w ∈ [Cond.methodLink RX6 18 yX6_dipsVia, .instanceMethod yX6_dipsVia, .selects RX6 yX6_dipsVia yX6_dipsVia, .initialized RX6, z_code M_X6_dipsVia], w ∈ z_gw := List.forall_mem_cons.mpr ⟨kz_1132, List.forall_mem_cons.mpr ⟨kz_1134, List.forall_mem_cons.mpr ⟨kz_27, List.forall_mem_cons.mpr ⟨kz_116, List.forall_mem_cons.mpr ⟨kc_X6_dipsVia, fun _ h => absurd h List.not_mem_nil⟩⟩⟩⟩⟩
theorem kk_X6_22 : ∀ w ∈ [Cond.static yX10_put, .initialized RX10, z_code M_X10_put], w ∈ z_gw := List.forall_mem_cons.mpr ⟨kz_452, List.forall_mem_cons.mpr ⟨kz_109, List.forall_mem_cons.mpr ⟨kc_X10_put, fun _ h => absurd h List.not_mem_nil⟩⟩⟩
theorem kz_1139 : Cond.methodLinkNest RX6 22 yX10_put "DyeStreets" ∈ z_nw := List.mem_filter.mpr ⟨z_sub_t5 71 rfl, rfl⟩
theorem kn_X6_22 : Cond.methodLinkNest RX6 22 yX10_put "DyeStreets" ∈ z_nw := kz_1139
theorem kk_X6_26 : ∀ w ∈ [Cond.static yX10_at, .initialized RX10, z_code M_X10_at], w ∈ z_gw := List.forall_mem_cons.mpr ⟨kz_474, List.forall_mem_cons.mpr ⟨kz_109, List.forall_mem_cons.mpr ⟨kc_X10_at, fun _ h => absurd h List.not_mem_nil⟩⟩⟩
theorem kz_1138 : Cond.methodLinkNest RX6 26 yX10_at "DyeStreets" ∈ z_nw := List.mem_filter.mpr ⟨z_sub_t5 70 rfl, rfl⟩
theorem kn_X6_26 : Cond.methodLinkNest RX6 26 yX10_at "DyeStreets" ∈ z_nw := kz_1138
theorem kz_362 : Cond.fieldLinkNest RX6 30 RX1 "streets" "I" "DyeStreets" ∈ z_nw := List.mem_filter.mpr ⟨z_sub_t2 14 rfl, rfl⟩
theorem kf_X6_30 : Cond.fieldLinkNest RX6 30 RX1 "streets" "I" "DyeStreets" ∈ z_nw := kz_362
theorem kz_1136 : Cond.methodLink RX6 36 yX1_vatOf ∈ z_gw := List.mem_filter.mpr ⟨z_sub_t5 68 rfl, rfl⟩
theorem kk_X6_36 : ∀ w ∈ [Cond.methodLink RX6 36 yX1_vatOf, .instanceMethod yX1_vatOf, .selects RX1 yX1_vatOf yX1_vatOf, .initialized RX1, z_code M_X1_vatOf], w ∈ z_gw := List.forall_mem_cons.mpr ⟨kz_1136, List.forall_mem_cons.mpr ⟨kz_862, List.forall_mem_cons.mpr ⟨kz_863, List.forall_mem_cons.mpr ⟨kz_119, List.forall_mem_cons.mpr ⟨kc_X1_vatOf, fun _ h => absurd h List.not_mem_nil⟩⟩⟩⟩⟩
theorem kk_X6_40 : ∀ w ∈ [Cond.static yX10_deeper, .initialized RX10, z_code M_X10_deeper], w ∈ z_gw := List.forall_mem_cons.mpr ⟨kz_871, List.forall_mem_cons.mpr ⟨kz_109, List.forall_mem_cons.mpr ⟨kc_X10_deeper, fun _ h => absurd h List.not_mem_nil⟩⟩⟩
theorem kz_1137 : Cond.methodLinkNest RX6 40 yX10_deeper "DyeStreets" ∈ z_nw := List.mem_filter.mpr ⟨z_sub_t5 69 rfl, rfl⟩
theorem kn_X6_40 : Cond.methodLinkNest RX6 40 yX10_deeper "DyeStreets" ∈ z_nw := kz_1137
theorem kz_1151 : Cond.methodLink RX6 44 yX6_fewestDips ∈ z_gw := List.mem_filter.mpr ⟨z_sub_t5 83 rfl, rfl⟩
theorem kk_X6_44 : ∀ w ∈ [Cond.methodLink RX6 44 yX6_fewestDips, .instanceMethod yX6_fewestDips, .selects RX6 yX6_fewestDips yX6_fewestDips, .initialized RX6, z_code M_X6_fewestDips], w ∈ z_gw := List.forall_mem_cons.mpr ⟨kz_1151, List.forall_mem_cons.mpr ⟨kz_1129, List.forall_mem_cons.mpr ⟨kz_1130, List.forall_mem_cons.mpr ⟨kz_116, List.forall_mem_cons.mpr ⟨kc_X6_fewestDips, fun _ h => absurd h List.not_mem_nil⟩⟩⟩⟩⟩
theorem kz_1152 : Cond.methodLink RX6 47 yX6_firstDip ∈ z_gw := List.mem_filter.mpr ⟨z_sub_t5 84 rfl, rfl⟩
theorem kz_1154 : Cond.instanceMethod yX6_firstDip ∈ z_gw := List.mem_filter.mpr ⟨z_sub_t5 86 rfl, rfl⟩
theorem kz_28 : Cond.selects RX6 yX6_firstDip yX6_firstDip ∈ z_gw := z_sub_p2 12 rfl rfl
theorem kk_X6_47 : ∀ w ∈ [Cond.methodLink RX6 47 yX6_firstDip, .instanceMethod yX6_firstDip, .selects RX6 yX6_firstDip yX6_firstDip, .initialized RX6, z_code M_X6_firstDip], w ∈ z_gw := List.forall_mem_cons.mpr ⟨kz_1152, List.forall_mem_cons.mpr ⟨kz_1154, List.forall_mem_cons.mpr ⟨kz_28, List.forall_mem_cons.mpr ⟨kz_116, List.forall_mem_cons.mpr ⟨kc_X6_firstDip, fun _ h => absurd h List.not_mem_nil⟩⟩⟩⟩⟩
theorem kk_X6_50 : ∀ w ∈ [Cond.static yX10_fill, .initialized RX10, z_code M_X10_fill], w ∈ z_gw := List.forall_mem_cons.mpr ⟨kz_734, List.forall_mem_cons.mpr ⟨kz_109, List.forall_mem_cons.mpr ⟨kc_X10_fill, fun _ h => absurd h List.not_mem_nil⟩⟩⟩
theorem kz_1167 : Cond.methodLinkNest RX6 50 yX10_fill "DyeStreets" ∈ z_nw := List.mem_filter.mpr ⟨z_sub_t5 99 rfl, rfl⟩
theorem kn_X6_50 : Cond.methodLinkNest RX6 50 yX10_fill "DyeStreets" ∈ z_nw := kz_1167
theorem kz_1169 : Cond.static yX10_holds ∈ z_gw := List.mem_filter.mpr ⟨z_sub_t5 101 rfl, rfl⟩
theorem kk_X6_54 : ∀ w ∈ [Cond.static yX10_holds, .initialized RX10, z_code M_X10_holds], w ∈ z_gw := List.forall_mem_cons.mpr ⟨kz_1169, List.forall_mem_cons.mpr ⟨kz_109, List.forall_mem_cons.mpr ⟨kc_X10_holds, fun _ h => absurd h List.not_mem_nil⟩⟩⟩
theorem kz_1168 : Cond.methodLinkNest RX6 54 yX10_holds "DyeStreets" ∈ z_nw := List.mem_filter.mpr ⟨z_sub_t5 100 rfl, rfl⟩
theorem kn_X6_54 : Cond.methodLinkNest RX6 54 yX10_holds "DyeStreets" ∈ z_nw := kz_1168
theorem kz_1171 : Cond.methodLink RX6 58 yX6_mixOnce ∈ z_gw := List.mem_filter.mpr ⟨z_sub_t5 103 rfl, rfl⟩
theorem kz_1173 : Cond.instanceMethod yX6_mixOnce ∈ z_gw := List.mem_filter.mpr ⟨z_sub_t5 105 rfl, rfl⟩
theorem kz_29 : Cond.selects RX6 yX6_mixOnce yX6_mixOnce ∈ z_gw := z_sub_p2 13 rfl rfl
theorem kk_X6_58 : ∀ w ∈ [Cond.methodLink RX6 58 yX6_mixOnce, .instanceMethod yX6_mixOnce, .selects RX6 yX6_mixOnce yX6_mixOnce, .initialized RX6, z_code M_X6_mixOnce], w ∈ z_gw := List.forall_mem_cons.mpr ⟨kz_1171, List.forall_mem_cons.mpr ⟨kz_1173, List.forall_mem_cons.mpr ⟨kz_29, List.forall_mem_cons.mpr ⟨kz_116, List.forall_mem_cons.mpr ⟨kc_X6_mixOnce, fun _ h => absurd h List.not_mem_nil⟩⟩⟩⟩⟩
theorem kz_238 : Cond.methodLink RX7 3 objectInit ∈ z_gw := List.mem_filter.mpr ⟨z_sub_t1 130 rfl, rfl⟩
theorem ko_X7_3 : ∀ w ∈ [Cond.methodLink RX7 3 objectInit, .instanceMethod objectInit, .code objectInit ⟨#[0xb1]⟩ 1 none], w ∈ z_gw := List.forall_mem_cons.mpr ⟨kz_238, List.forall_mem_cons.mpr ⟨kz_138, List.forall_mem_cons.mpr ⟨kz_139, fun _ h => absurd h List.not_mem_nil⟩⟩⟩
theorem kz_239 : Cond.fieldLink RX7 11 RX7 "kinds" "[I" ∈ z_gw := List.mem_filter.mpr ⟨z_sub_t1 131 rfl, rfl⟩
theorem kf_X7_11 : Cond.fieldLink RX7 11 RX7 "kinds" "[I" ∈ z_gw := kz_239
theorem kz_240 : Cond.fieldLink RX7 15 RX7 "firsts" "[I" ∈ z_gw := List.mem_filter.mpr ⟨z_sub_t1 132 rfl, rfl⟩
theorem kf_X7_15 : Cond.fieldLink RX7 15 RX7 "firsts" "[I" ∈ z_gw := kz_240
theorem kz_241 : Cond.fieldLink RX7 18 RX7 "seconds" "[I" ∈ z_gw := List.mem_filter.mpr ⟨z_sub_t1 133 rfl, rfl⟩
theorem kf_X7_18 : Cond.fieldLink RX7 18 RX7 "seconds" "[I" ∈ z_gw := kz_241
theorem kz_242 : Cond.fieldLink RX7 21 RX7 "opened" "[I" ∈ z_gw := List.mem_filter.mpr ⟨z_sub_t1 134 rfl, rfl⟩
theorem kf_X7_21 : Cond.fieldLink RX7 21 RX7 "opened" "[I" ∈ z_gw := kz_242
theorem kz_243 : Cond.fieldLink RX7 24 RX7 "turns" "[I" ∈ z_gw := List.mem_filter.mpr ⟨z_sub_t1 135 rfl, rfl⟩
theorem kf_X7_24 : Cond.fieldLink RX7 24 RX7 "turns" "[I" ∈ z_gw := kz_243
theorem kz_244 : Cond.fieldLink RX7 27 RX7 "entries" "I" ∈ z_gw := List.mem_filter.mpr ⟨z_sub_t1 136 rfl, rfl⟩
theorem kf_X7_27 : Cond.fieldLink RX7 27 RX7 "entries" "I" ∈ z_gw := kz_244
theorem kz_245 : Cond.fieldLink RX7 31 RX7 "open" "I" ∈ z_gw := List.mem_filter.mpr ⟨z_sub_t1 137 rfl, rfl⟩
theorem kf_X7_31 : Cond.fieldLink RX7 31 RX7 "open" "I" ∈ z_gw := kz_245
theorem kz_814 : Cond.methodLink RX7 34 yX8_failed ∈ z_gw := List.mem_filter.mpr ⟨z_sub_t3 226 rfl, rfl⟩
theorem kk_X7_34 : ∀ w ∈ [Cond.methodLink RX7 34 yX8_failed, .instanceMethod yX8_failed, .selects RX8 yX8_failed yX8_failed, .initialized RX8, z_code M_X8_failed], w ∈ z_gw := List.forall_mem_cons.mpr ⟨kz_814, List.forall_mem_cons.mpr ⟨kz_622, List.forall_mem_cons.mpr ⟨kz_623, List.forall_mem_cons.mpr ⟨kz_110, List.forall_mem_cons.mpr ⟨kc_X8_failed, fun _ h => absurd h List.not_mem_nil⟩⟩⟩⟩⟩
theorem kz_815 : Cond.methodLink RX7 40 yX8_takesSign ∈ z_gw := List.mem_filter.mpr ⟨z_sub_t3 227 rfl, rfl⟩
theorem kk_X7_40 : ∀ w ∈ [Cond.methodLink RX7 40 yX8_takesSign, .instanceMethod yX8_takesSign, .selects RX8 yX8_takesSign yX8_takesSign, .initialized RX8, z_code M_X8_takesSign], w ∈ z_gw := List.forall_mem_cons.mpr ⟨kz_815, List.forall_mem_cons.mpr ⟨kz_787, List.forall_mem_cons.mpr ⟨kz_788, List.forall_mem_cons.mpr ⟨kz_110, List.forall_mem_cons.mpr ⟨kc_X8_takesSign, fun _ h => absurd h List.not_mem_nil⟩⟩⟩⟩⟩
theorem kz_816 : Cond.methodLink RX7 44 yX7_close ∈ z_gw := List.mem_filter.mpr ⟨z_sub_t3 228 rfl, rfl⟩
theorem kz_818 : Cond.instanceMethod yX7_close ∈ z_gw := List.mem_filter.mpr ⟨z_sub_t3 230 rfl, rfl⟩
theorem kz_13 : Cond.selects RX7 yX7_close yX7_close ∈ z_gw := z_sub_p1 13 rfl rfl
theorem kk_X7_44 : ∀ w ∈ [Cond.methodLink RX7 44 yX7_close, .instanceMethod yX7_close, .selects RX7 yX7_close yX7_close, .initialized RX7, z_code M_X7_close], w ∈ z_gw := List.forall_mem_cons.mpr ⟨kz_816, List.forall_mem_cons.mpr ⟨kz_818, List.forall_mem_cons.mpr ⟨kz_13, List.forall_mem_cons.mpr ⟨kz_114, List.forall_mem_cons.mpr ⟨kc_X7_close, fun _ h => absurd h List.not_mem_nil⟩⟩⟩⟩⟩
theorem kz_826 : Cond.methodLink RX7 47 yX8_needSign ∈ z_gw := List.mem_filter.mpr ⟨z_sub_t3 238 rfl, rfl⟩
theorem kk_X7_47 : ∀ w ∈ [Cond.methodLink RX7 47 yX8_needSign, .instanceMethod yX8_needSign, .selects RX8 yX8_needSign yX8_needSign, .initialized RX8, z_code M_X8_needSign], w ∈ z_gw := List.forall_mem_cons.mpr ⟨kz_826, List.forall_mem_cons.mpr ⟨kz_721, List.forall_mem_cons.mpr ⟨kz_722, List.forall_mem_cons.mpr ⟨kz_110, List.forall_mem_cons.mpr ⟨kc_X8_needSign, fun _ h => absurd h List.not_mem_nil⟩⟩⟩⟩⟩
theorem kz_827 : Cond.methodLink RX7 51 yX8_next ∈ z_gw := List.mem_filter.mpr ⟨z_sub_t3 239 rfl, rfl⟩
theorem kk_X7_51 : ∀ w ∈ [Cond.methodLink RX7 51 yX8_next, .instanceMethod yX8_next, .selects RX8 yX8_next yX8_next, .initialized RX8, z_code M_X8_next], w ∈ z_gw := List.forall_mem_cons.mpr ⟨kz_827, List.forall_mem_cons.mpr ⟨kz_626, List.forall_mem_cons.mpr ⟨kz_627, List.forall_mem_cons.mpr ⟨kz_110, List.forall_mem_cons.mpr ⟨kc_X8_next, fun _ h => absurd h List.not_mem_nil⟩⟩⟩⟩⟩
theorem kz_828 : Cond.methodLink RX7 55 yX7_readStep ∈ z_gw := List.mem_filter.mpr ⟨z_sub_t4 0 rfl, rfl⟩
theorem kz_830 : Cond.instanceMethod yX7_readStep ∈ z_gw := List.mem_filter.mpr ⟨z_sub_t4 2 rfl, rfl⟩
theorem kz_15 : Cond.selects RX7 yX7_readStep yX7_readStep ∈ z_gw := z_sub_p1 15 rfl rfl
theorem kk_X7_55 : ∀ w ∈ [Cond.methodLink RX7 55 yX7_readStep, .instanceMethod yX7_readStep, .selects RX7 yX7_readStep yX7_readStep, .initialized RX7, z_code M_X7_readStep], w ∈ z_gw := List.forall_mem_cons.mpr ⟨kz_828, List.forall_mem_cons.mpr ⟨kz_830, List.forall_mem_cons.mpr ⟨kz_15, List.forall_mem_cons.mpr ⟨kz_114, List.forall_mem_cons.mpr ⟨kc_X7_readStep, fun _ h => absurd h List.not_mem_nil⟩⟩⟩⟩⟩
theorem kz_833 : Cond.methodLink RX7 61 yX8_takesWordOf ∈ z_gw := List.mem_filter.mpr ⟨z_sub_t4 5 rfl, rfl⟩
theorem kk_X7_61 : ∀ w ∈ [Cond.methodLink RX7 61 yX8_takesWordOf, .instanceMethod yX8_takesWordOf, .selects RX8 yX8_takesWordOf yX8_takesWordOf, .initialized RX8, z_code M_X8_takesWordOf], w ∈ z_gw := List.forall_mem_cons.mpr ⟨kz_833, List.forall_mem_cons.mpr ⟨kz_639, List.forall_mem_cons.mpr ⟨kz_640, List.forall_mem_cons.mpr ⟨kz_110, List.forall_mem_cons.mpr ⟨kc_X8_takesWordOf, fun _ h => absurd h List.not_mem_nil⟩⟩⟩⟩⟩
theorem kz_834 : Cond.methodLink RX7 65 yX7_readAgain ∈ z_gw := List.mem_filter.mpr ⟨z_sub_t4 6 rfl, rfl⟩
theorem kz_836 : Cond.instanceMethod yX7_readAgain ∈ z_gw := List.mem_filter.mpr ⟨z_sub_t4 8 rfl, rfl⟩
theorem kz_16 : Cond.selects RX7 yX7_readAgain yX7_readAgain ∈ z_gw := z_sub_p2 0 rfl rfl
theorem kk_X7_65 : ∀ w ∈ [Cond.methodLink RX7 65 yX7_readAgain, .instanceMethod yX7_readAgain, .selects RX7 yX7_readAgain yX7_readAgain, .initialized RX7, z_code M_X7_readAgain], w ∈ z_gw := List.forall_mem_cons.mpr ⟨kz_834, List.forall_mem_cons.mpr ⟨kz_836, List.forall_mem_cons.mpr ⟨kz_16, List.forall_mem_cons.mpr ⟨kz_114, List.forall_mem_cons.mpr ⟨kc_X7_readAgain, fun _ h => absurd h List.not_mem_nil⟩⟩⟩⟩⟩
theorem kz_151 : Cond.fieldLinkNest RX7 69 RX8 "here" "I" "DyeStreets" ∈ z_nw := List.mem_filter.mpr ⟨z_sub_t1 43 rfl, rfl⟩
theorem kf_X7_69 : Cond.fieldLinkNest RX7 69 RX8 "here" "I" "DyeStreets" ∈ z_nw := kz_151
theorem kz_838 : Cond.methodLink RX7 72 yX8_fail ∈ z_gw := List.mem_filter.mpr ⟨z_sub_t4 10 rfl, rfl⟩
theorem kk_X7_72 : ∀ w ∈ [Cond.methodLink RX7 72 yX8_fail, .instanceMethod yX8_fail, .selects RX8 yX8_fail yX8_fail, .initialized RX8, z_code M_X8_fail], w ∈ z_gw := List.forall_mem_cons.mpr ⟨kz_838, List.forall_mem_cons.mpr ⟨kz_699, List.forall_mem_cons.mpr ⟨kz_700, List.forall_mem_cons.mpr ⟨kz_110, List.forall_mem_cons.mpr ⟨kc_X8_fail, fun _ h => absurd h List.not_mem_nil⟩⟩⟩⟩⟩
theorem kz_370 : Cond.fieldLinkNest RX7 76 RX1 "people" "I" "DyeStreets" ∈ z_nw := List.mem_filter.mpr ⟨z_sub_t2 22 rfl, rfl⟩
theorem kf_X7_76 : Cond.fieldLinkNest RX7 76 RX1 "people" "I" "DyeStreets" ∈ z_nw := kz_370
theorem kz_839 : Cond.methodLink RX7 81 yX8_needNumber ∈ z_gw := List.mem_filter.mpr ⟨z_sub_t4 11 rfl, rfl⟩
theorem kk_X7_81 : ∀ w ∈ [Cond.methodLink RX7 81 yX8_needNumber, .instanceMethod yX8_needNumber, .selects RX8 yX8_needNumber yX8_needNumber, .initialized RX8, z_code M_X8_needNumber], w ∈ z_gw := List.forall_mem_cons.mpr ⟨kz_839, List.forall_mem_cons.mpr ⟨kz_707, List.forall_mem_cons.mpr ⟨kz_708, List.forall_mem_cons.mpr ⟨kz_110, List.forall_mem_cons.mpr ⟨kc_X8_needNumber, fun _ h => absurd h List.not_mem_nil⟩⟩⟩⟩⟩
theorem kz_364 : Cond.fieldLinkNest RX7 85 RX1 "streets" "I" "DyeStreets" ∈ z_nw := List.mem_filter.mpr ⟨z_sub_t2 16 rfl, rfl⟩
theorem kf_X7_85 : Cond.fieldLinkNest RX7 85 RX1 "streets" "I" "DyeStreets" ∈ z_nw := kz_364
theorem kz_156 : Cond.fieldLinkNest RX7 88 RX8 "mark" "I" "DyeStreets" ∈ z_nw := List.mem_filter.mpr ⟨z_sub_t1 48 rfl, rfl⟩
theorem kf_X7_88 : Cond.fieldLinkNest RX7 88 RX8 "mark" "I" "DyeStreets" ∈ z_nw := kz_156
theorem kz_822 : Cond.methodLink RX7 91 yX7_write ∈ z_gw := List.mem_filter.mpr ⟨z_sub_t3 234 rfl, rfl⟩
theorem kz_824 : Cond.instanceMethod yX7_write ∈ z_gw := List.mem_filter.mpr ⟨z_sub_t3 236 rfl, rfl⟩
theorem kz_14 : Cond.selects RX7 yX7_write yX7_write ∈ z_gw := z_sub_p1 14 rfl rfl
theorem kk_X7_91 : ∀ w ∈ [Cond.methodLink RX7 91 yX7_write, .instanceMethod yX7_write, .selects RX7 yX7_write yX7_write, .initialized RX7, z_code M_X7_write], w ∈ z_gw := List.forall_mem_cons.mpr ⟨kz_822, List.forall_mem_cons.mpr ⟨kz_824, List.forall_mem_cons.mpr ⟨kz_14, List.forall_mem_cons.mpr ⟨kz_114, List.forall_mem_cons.mpr ⟨kc_X7_write, fun _ h => absurd h List.not_mem_nil⟩⟩⟩⟩⟩
theorem kk_X7_95 : ∀ w ∈ [Cond.static yX10_put, .initialized RX10, z_code M_X10_put], w ∈ z_gw := List.forall_mem_cons.mpr ⟨kz_452, List.forall_mem_cons.mpr ⟨kz_109, List.forall_mem_cons.mpr ⟨kc_X10_put, fun _ h => absurd h List.not_mem_nil⟩⟩⟩
theorem kz_821 : Cond.methodLinkNest RX7 95 yX10_put "DyeStreets" ∈ z_nw := List.mem_filter.mpr ⟨z_sub_t3 233 rfl, rfl⟩
theorem kn_X7_95 : Cond.methodLinkNest RX7 95 yX10_put "DyeStreets" ∈ z_nw := kz_821
theorem kk_X7_99 : ∀ w ∈ [Cond.static yX10_at, .initialized RX10, z_code M_X10_at], w ∈ z_gw := List.forall_mem_cons.mpr ⟨kz_474, List.forall_mem_cons.mpr ⟨kz_109, List.forall_mem_cons.mpr ⟨kc_X10_at, fun _ h => absurd h List.not_mem_nil⟩⟩⟩
theorem kz_820 : Cond.methodLinkNest RX7 99 yX10_at "DyeStreets" ∈ z_nw := List.mem_filter.mpr ⟨z_sub_t3 232 rfl, rfl⟩
theorem kn_X7_99 : Cond.methodLinkNest RX7 99 yX10_at "DyeStreets" ∈ z_nw := kz_820
theorem kz_247 : Cond.fieldLink RX7 103 RX7 "done" "I" ∈ z_gw := List.mem_filter.mpr ⟨z_sub_t1 139 rfl, rfl⟩
theorem kf_X7_103 : Cond.fieldLink RX7 103 RX7 "done" "I" ∈ z_gw := kz_247
theorem kz_249 : Cond.fieldLink RX7 106 RX7 "refused" "I" ∈ z_gw := List.mem_filter.mpr ⟨z_sub_t1 141 rfl, rfl⟩
theorem kf_X7_106 : Cond.fieldLink RX7 106 RX7 "refused" "I" ∈ z_gw := kz_249
theorem kz_848 : Cond.constant RX7 109 (1000000) ∈ z_gw := List.mem_filter.mpr ⟨z_sub_t4 20 rfl, rfl⟩
theorem kd_X7_109 : Cond.constant RX7 109 (1000000) ∈ z_gw := kz_848
theorem kz_849 : Cond.methodLink RX7 110 yX7_afterTurn ∈ z_gw := List.mem_filter.mpr ⟨z_sub_t4 21 rfl, rfl⟩
theorem kz_851 : Cond.instanceMethod yX7_afterTurn ∈ z_gw := List.mem_filter.mpr ⟨z_sub_t4 23 rfl, rfl⟩
theorem kz_17 : Cond.selects RX7 yX7_afterTurn yX7_afterTurn ∈ z_gw := z_sub_p2 1 rfl rfl
theorem kk_X7_110 : ∀ w ∈ [Cond.methodLink RX7 110 yX7_afterTurn, .instanceMethod yX7_afterTurn, .selects RX7 yX7_afterTurn yX7_afterTurn, .initialized RX7, z_code M_X7_afterTurn], w ∈ z_gw := List.forall_mem_cons.mpr ⟨kz_849, List.forall_mem_cons.mpr ⟨kz_851, List.forall_mem_cons.mpr ⟨kz_17, List.forall_mem_cons.mpr ⟨kz_114, List.forall_mem_cons.mpr ⟨kc_X7_afterTurn, fun _ h => absurd h List.not_mem_nil⟩⟩⟩⟩⟩
theorem kz_853 : Cond.methodLink RX7 113 yX7_afterAgain ∈ z_gw := List.mem_filter.mpr ⟨z_sub_t4 25 rfl, rfl⟩
theorem kz_855 : Cond.instanceMethod yX7_afterAgain ∈ z_gw := List.mem_filter.mpr ⟨z_sub_t4 27 rfl, rfl⟩
theorem kz_18 : Cond.selects RX7 yX7_afterAgain yX7_afterAgain ∈ z_gw := z_sub_p2 2 rfl rfl
theorem kk_X7_113 : ∀ w ∈ [Cond.methodLink RX7 113 yX7_afterAgain, .instanceMethod yX7_afterAgain, .selects RX7 yX7_afterAgain yX7_afterAgain, .initialized RX7, z_code M_X7_afterAgain], w ∈ z_gw := List.forall_mem_cons.mpr ⟨kz_853, List.forall_mem_cons.mpr ⟨kz_855, List.forall_mem_cons.mpr ⟨kz_18, List.forall_mem_cons.mpr ⟨kz_114, List.forall_mem_cons.mpr ⟨kc_X7_afterAgain, fun _ h => absurd h List.not_mem_nil⟩⟩⟩⟩⟩
theorem kz_857 : Cond.methodLink RX7 116 yX7_tried ∈ z_gw := List.mem_filter.mpr ⟨z_sub_t4 29 rfl, rfl⟩
theorem kz_859 : Cond.instanceMethod yX7_tried ∈ z_gw := List.mem_filter.mpr ⟨z_sub_t4 31 rfl, rfl⟩
theorem kz_19 : Cond.selects RX7 yX7_tried yX7_tried ∈ z_gw := z_sub_p2 3 rfl rfl
theorem kk_X7_116 : ∀ w ∈ [Cond.methodLink RX7 116 yX7_tried, .instanceMethod yX7_tried, .selects RX7 yX7_tried yX7_tried, .initialized RX7, z_code M_X7_tried], w ∈ z_gw := List.forall_mem_cons.mpr ⟨kz_857, List.forall_mem_cons.mpr ⟨kz_859, List.forall_mem_cons.mpr ⟨kz_19, List.forall_mem_cons.mpr ⟨kz_114, List.forall_mem_cons.mpr ⟨kc_X7_tried, fun _ h => absurd h List.not_mem_nil⟩⟩⟩⟩⟩
theorem kz_923 : Cond.methodLink RX7 120 yX7_note ∈ z_gw := List.mem_filter.mpr ⟨z_sub_t4 95 rfl, rfl⟩
theorem kz_925 : Cond.instanceMethod yX7_note ∈ z_gw := List.mem_filter.mpr ⟨z_sub_t4 97 rfl, rfl⟩
theorem kz_21 : Cond.selects RX7 yX7_note yX7_note ∈ z_gw := z_sub_p2 5 rfl rfl
theorem kk_X7_120 : ∀ w ∈ [Cond.methodLink RX7 120 yX7_note, .instanceMethod yX7_note, .selects RX7 yX7_note yX7_note, .initialized RX7, z_code M_X7_note], w ∈ z_gw := List.forall_mem_cons.mpr ⟨kz_923, List.forall_mem_cons.mpr ⟨kz_925, List.forall_mem_cons.mpr ⟨kz_21, List.forall_mem_cons.mpr ⟨kz_114, List.forall_mem_cons.mpr ⟨kc_X7_note, fun _ h => absurd h List.not_mem_nil⟩⟩⟩⟩⟩
theorem kz_861 : Cond.methodLink RX7 124 yX1_vatOf ∈ z_gw := List.mem_filter.mpr ⟨z_sub_t4 33 rfl, rfl⟩
theorem kk_X7_124 : ∀ w ∈ [Cond.methodLink RX7 124 yX1_vatOf, .instanceMethod yX1_vatOf, .selects RX1 yX1_vatOf yX1_vatOf, .initialized RX1, z_code M_X1_vatOf], w ∈ z_gw := List.forall_mem_cons.mpr ⟨kz_861, List.forall_mem_cons.mpr ⟨kz_862, List.forall_mem_cons.mpr ⟨kz_863, List.forall_mem_cons.mpr ⟨kz_119, List.forall_mem_cons.mpr ⟨kc_X1_vatOf, fun _ h => absurd h List.not_mem_nil⟩⟩⟩⟩⟩
theorem kz_866 : Cond.methodLink RX7 127 yX9_dip ∈ z_gw := List.mem_filter.mpr ⟨z_sub_t4 38 rfl, rfl⟩
theorem kk_X7_127 : ∀ w ∈ [Cond.methodLink RX7 127 yX9_dip, .instanceMethod yX9_dip, .selects RX9 yX9_dip yX9_dip, .initialized RX9, z_code M_X9_dip], w ∈ z_gw := List.forall_mem_cons.mpr ⟨kz_866, List.forall_mem_cons.mpr ⟨kz_867, List.forall_mem_cons.mpr ⟨kz_868, List.forall_mem_cons.mpr ⟨kz_111, List.forall_mem_cons.mpr ⟨kc_X9_dip, fun _ h => absurd h List.not_mem_nil⟩⟩⟩⟩⟩
theorem kz_884 : Cond.methodLink RX7 133 yX9_wash ∈ z_gw := List.mem_filter.mpr ⟨z_sub_t4 56 rfl, rfl⟩
theorem kz_885 : Cond.instanceMethod yX9_wash ∈ z_gw := List.mem_filter.mpr ⟨z_sub_t4 57 rfl, rfl⟩
theorem kz_886 : Cond.selects RX9 yX9_wash yX9_wash ∈ z_gw := List.mem_filter.mpr ⟨z_sub_t4 58 rfl, rfl⟩
theorem kk_X7_133 : ∀ w ∈ [Cond.methodLink RX7 133 yX9_wash, .instanceMethod yX9_wash, .selects RX9 yX9_wash yX9_wash, .initialized RX9, z_code M_X9_wash], w ∈ z_gw := List.forall_mem_cons.mpr ⟨kz_884, List.forall_mem_cons.mpr ⟨kz_885, List.forall_mem_cons.mpr ⟨kz_886, List.forall_mem_cons.mpr ⟨kz_111, List.forall_mem_cons.mpr ⟨kc_X9_wash, fun _ h => absurd h List.not_mem_nil⟩⟩⟩⟩⟩
theorem kz_891 : Cond.methodLink RX7 137 yX9_salt ∈ z_gw := List.mem_filter.mpr ⟨z_sub_t4 63 rfl, rfl⟩
theorem kz_892 : Cond.instanceMethod yX9_salt ∈ z_gw := List.mem_filter.mpr ⟨z_sub_t4 64 rfl, rfl⟩
theorem kz_893 : Cond.selects RX9 yX9_salt yX9_salt ∈ z_gw := List.mem_filter.mpr ⟨z_sub_t4 65 rfl, rfl⟩
theorem kk_X7_137 : ∀ w ∈ [Cond.methodLink RX7 137 yX9_salt, .instanceMethod yX9_salt, .selects RX9 yX9_salt yX9_salt, .initialized RX9, z_code M_X9_salt], w ∈ z_gw := List.forall_mem_cons.mpr ⟨kz_891, List.forall_mem_cons.mpr ⟨kz_892, List.forall_mem_cons.mpr ⟨kz_893, List.forall_mem_cons.mpr ⟨kz_111, List.forall_mem_cons.mpr ⟨kc_X9_salt, fun _ h => absurd h List.not_mem_nil⟩⟩⟩⟩⟩
theorem kz_895 : Cond.methodLink RX7 140 yX9_rain ∈ z_gw := List.mem_filter.mpr ⟨z_sub_t4 67 rfl, rfl⟩
theorem kk_X7_140 : ∀ w ∈ [Cond.methodLink RX7 140 yX9_rain, .instanceMethod yX9_rain, .selects RX9 yX9_rain yX9_rain, .initialized RX9, z_code M_X9_rain], w ∈ z_gw := List.forall_mem_cons.mpr ⟨kz_895, List.forall_mem_cons.mpr ⟨kz_896, List.forall_mem_cons.mpr ⟨kz_897, List.forall_mem_cons.mpr ⟨kz_111, List.forall_mem_cons.mpr ⟨kc_X9_rain, fun _ h => absurd h List.not_mem_nil⟩⟩⟩⟩⟩
theorem kz_900 : Cond.methodLink RX7 143 yX9_marry ∈ z_gw := List.mem_filter.mpr ⟨z_sub_t4 72 rfl, rfl⟩
theorem kz_901 : Cond.instanceMethod yX9_marry ∈ z_gw := List.mem_filter.mpr ⟨z_sub_t4 73 rfl, rfl⟩
theorem kz_902 : Cond.selects RX9 yX9_marry yX9_marry ∈ z_gw := List.mem_filter.mpr ⟨z_sub_t4 74 rfl, rfl⟩
theorem kk_X7_143 : ∀ w ∈ [Cond.methodLink RX7 143 yX9_marry, .instanceMethod yX9_marry, .selects RX9 yX9_marry yX9_marry, .initialized RX9, z_code M_X9_marry], w ∈ z_gw := List.forall_mem_cons.mpr ⟨kz_900, List.forall_mem_cons.mpr ⟨kz_901, List.forall_mem_cons.mpr ⟨kz_902, List.forall_mem_cons.mpr ⟨kz_111, List.forall_mem_cons.mpr ⟨kc_X9_marry, fun _ h => absurd h List.not_mem_nil⟩⟩⟩⟩⟩
theorem kz_910 : Cond.methodLink RX7 146 yX7_lived ∈ z_gw := List.mem_filter.mpr ⟨z_sub_t4 82 rfl, rfl⟩
theorem kz_911 : Cond.static yX7_lived ∈ z_gw := List.mem_filter.mpr ⟨z_sub_t4 83 rfl, rfl⟩
theorem kk_X7_146 : ∀ w ∈ [Cond.methodLink RX7 146 yX7_lived, .static yX7_lived, .initialized RX7, z_code M_X7_lived], w ∈ z_gw := List.forall_mem_cons.mpr ⟨kz_910, List.forall_mem_cons.mpr ⟨kz_911, List.forall_mem_cons.mpr ⟨kz_114, List.forall_mem_cons.mpr ⟨kc_X7_lived, fun _ h => absurd h List.not_mem_nil⟩⟩⟩⟩
theorem kz_913 : Cond.methodLink RX7 150 yX9_year ∈ z_gw := List.mem_filter.mpr ⟨z_sub_t4 85 rfl, rfl⟩
theorem kk_X7_150 : ∀ w ∈ [Cond.methodLink RX7 150 yX9_year, .instanceMethod yX9_year, .selects RX9 yX9_year yX9_year, .initialized RX9, z_code M_X9_year], w ∈ z_gw := List.forall_mem_cons.mpr ⟨kz_913, List.forall_mem_cons.mpr ⟨kz_914, List.forall_mem_cons.mpr ⟨kz_915, List.forall_mem_cons.mpr ⟨kz_111, List.forall_mem_cons.mpr ⟨kc_X9_year, fun _ h => absurd h List.not_mem_nil⟩⟩⟩⟩⟩
theorem kz_375 : Cond.fieldLinkNest RX7 153 RX1 "river" "I" "DyeStreets" ∈ z_nw := List.mem_filter.mpr ⟨z_sub_t2 27 rfl, rfl⟩
theorem kf_X7_153 : Cond.fieldLinkNest RX7 153 RX1 "river" "I" "DyeStreets" ∈ z_nw := kz_375
theorem kz_917 : Cond.methodLink RX7 156 yX9_passYear ∈ z_gw := List.mem_filter.mpr ⟨z_sub_t4 89 rfl, rfl⟩
theorem kk_X7_156 : ∀ w ∈ [Cond.methodLink RX7 156 yX9_passYear, .instanceMethod yX9_passYear, .selects RX9 yX9_passYear yX9_passYear, .initialized RX9, z_code M_X9_passYear], w ∈ z_gw := List.forall_mem_cons.mpr ⟨kz_917, List.forall_mem_cons.mpr ⟨kz_918, List.forall_mem_cons.mpr ⟨kz_919, List.forall_mem_cons.mpr ⟨kz_111, List.forall_mem_cons.mpr ⟨kc_X9_passYear, fun _ h => absurd h List.not_mem_nil⟩⟩⟩⟩⟩
theorem kz_145 : Cond.methodLink RX8 3 objectInit ∈ z_gw := List.mem_filter.mpr ⟨z_sub_t1 37 rfl, rfl⟩
theorem ko_X8_3 : ∀ w ∈ [Cond.methodLink RX8 3 objectInit, .instanceMethod objectInit, .code objectInit ⟨#[0xb1]⟩ 1 none], w ∈ z_gw := List.forall_mem_cons.mpr ⟨kz_145, List.forall_mem_cons.mpr ⟨kz_138, List.forall_mem_cons.mpr ⟨kz_139, fun _ h => absurd h List.not_mem_nil⟩⟩⟩
theorem kz_146 : Cond.fieldLink RX8 9 RX8 "tape" "[I" ∈ z_gw := List.mem_filter.mpr ⟨z_sub_t1 38 rfl, rfl⟩
theorem kf_X8_9 : Cond.fieldLink RX8 9 RX8 "tape" "[I" ∈ z_gw := kz_146
theorem kz_160 : Cond.fieldLink RX8 15 RX8 "place" "I" ∈ z_gw := List.mem_filter.mpr ⟨z_sub_t1 52 rfl, rfl⟩
theorem kf_X8_15 : Cond.fieldLink RX8 15 RX8 "place" "I" ∈ z_gw := kz_160
theorem kz_147 : Cond.fieldLink RX8 19 RX8 "fed" "I" ∈ z_gw := List.mem_filter.mpr ⟨z_sub_t1 39 rfl, rfl⟩
theorem kf_X8_19 : Cond.fieldLink RX8 19 RX8 "fed" "I" ∈ z_gw := kz_147
theorem kk_X8_22 : ∀ w ∈ [Cond.static yX10_put, .initialized RX10, z_code M_X10_put], w ∈ z_gw := List.forall_mem_cons.mpr ⟨kz_452, List.forall_mem_cons.mpr ⟨kz_109, List.forall_mem_cons.mpr ⟨kc_X10_put, fun _ h => absurd h List.not_mem_nil⟩⟩⟩
theorem kz_451 : Cond.methodLinkNest RX8 22 yX10_put "DyeStreets" ∈ z_nw := List.mem_filter.mpr ⟨z_sub_t2 103 rfl, rfl⟩
theorem kn_X8_22 : Cond.methodLinkNest RX8 22 yX10_put "DyeStreets" ∈ z_nw := kz_451
theorem kz_149 : Cond.fieldLink RX8 26 RX8 "length" "I" ∈ z_gw := List.mem_filter.mpr ⟨z_sub_t1 41 rfl, rfl⟩
theorem kf_X8_26 : Cond.fieldLink RX8 26 RX8 "length" "I" ∈ z_gw := kz_149
theorem kz_153 : Cond.fieldLink RX8 29 RX8 "here" "I" ∈ z_gw := List.mem_filter.mpr ⟨z_sub_t1 45 rfl, rfl⟩
theorem kf_X8_29 : Cond.fieldLink RX8 29 RX8 "here" "I" ∈ z_gw := kz_153
theorem kz_159 : Cond.fieldLink RX8 32 RX8 "kind" "I" ∈ z_gw := List.mem_filter.mpr ⟨z_sub_t1 51 rfl, rfl⟩
theorem kf_X8_32 : Cond.fieldLink RX8 32 RX8 "kind" "I" ∈ z_gw := kz_159
theorem kz_613 : Cond.methodLink RX8 35 yX8_pass ∈ z_gw := List.mem_filter.mpr ⟨z_sub_t3 25 rfl, rfl⟩
theorem kz_615 : Cond.instanceMethod yX8_pass ∈ z_gw := List.mem_filter.mpr ⟨z_sub_t3 27 rfl, rfl⟩
theorem kz_2 : Cond.selects RX8 yX8_pass yX8_pass ∈ z_gw := z_sub_p1 2 rfl rfl
theorem kk_X8_35 : ∀ w ∈ [Cond.methodLink RX8 35 yX8_pass, .instanceMethod yX8_pass, .selects RX8 yX8_pass yX8_pass, .initialized RX8, z_code M_X8_pass], w ∈ z_gw := List.forall_mem_cons.mpr ⟨kz_613, List.forall_mem_cons.mpr ⟨kz_615, List.forall_mem_cons.mpr ⟨kz_2, List.forall_mem_cons.mpr ⟨kz_110, List.forall_mem_cons.mpr ⟨kc_X8_pass, fun _ h => absurd h List.not_mem_nil⟩⟩⟩⟩⟩
theorem kz_629 : Cond.methodLink RX8 39 yX8_byteAt ∈ z_gw := List.mem_filter.mpr ⟨z_sub_t3 41 rfl, rfl⟩
theorem kz_631 : Cond.instanceMethod yX8_byteAt ∈ z_gw := List.mem_filter.mpr ⟨z_sub_t3 43 rfl, rfl⟩
theorem kz_3 : Cond.selects RX8 yX8_byteAt yX8_byteAt ∈ z_gw := z_sub_p1 3 rfl rfl
theorem kk_X8_39 : ∀ w ∈ [Cond.methodLink RX8 39 yX8_byteAt, .instanceMethod yX8_byteAt, .selects RX8 yX8_byteAt yX8_byteAt, .initialized RX8, z_code M_X8_byteAt], w ∈ z_gw := List.forall_mem_cons.mpr ⟨kz_629, List.forall_mem_cons.mpr ⟨kz_631, List.forall_mem_cons.mpr ⟨kz_3, List.forall_mem_cons.mpr ⟨kz_110, List.forall_mem_cons.mpr ⟨kc_X8_byteAt, fun _ h => absurd h List.not_mem_nil⟩⟩⟩⟩⟩
theorem kz_694 : Cond.methodLink RX8 43 yX8_failed ∈ z_gw := List.mem_filter.mpr ⟨z_sub_t3 106 rfl, rfl⟩
theorem kk_X8_43 : ∀ w ∈ [Cond.methodLink RX8 43 yX8_failed, .instanceMethod yX8_failed, .selects RX8 yX8_failed yX8_failed, .initialized RX8, z_code M_X8_failed], w ∈ z_gw := List.forall_mem_cons.mpr ⟨kz_694, List.forall_mem_cons.mpr ⟨kz_622, List.forall_mem_cons.mpr ⟨kz_623, List.forall_mem_cons.mpr ⟨kz_110, List.forall_mem_cons.mpr ⟨kc_X8_failed, fun _ h => absurd h List.not_mem_nil⟩⟩⟩⟩⟩
theorem kz_713 : Cond.methodLink RX8 47 yX8_fail ∈ z_gw := List.mem_filter.mpr ⟨z_sub_t3 125 rfl, rfl⟩
theorem kk_X8_47 : ∀ w ∈ [Cond.methodLink RX8 47 yX8_fail, .instanceMethod yX8_fail, .selects RX8 yX8_fail yX8_fail, .initialized RX8, z_code M_X8_fail], w ∈ z_gw := List.forall_mem_cons.mpr ⟨kz_713, List.forall_mem_cons.mpr ⟨kz_699, List.forall_mem_cons.mpr ⟨kz_700, List.forall_mem_cons.mpr ⟨kz_110, List.forall_mem_cons.mpr ⟨kc_X8_fail, fun _ h => absurd h List.not_mem_nil⟩⟩⟩⟩⟩
theorem kz_690 : Cond.methodLink RX8 60 yX8_comesNext ∈ z_gw := List.mem_filter.mpr ⟨z_sub_t3 102 rfl, rfl⟩
theorem kz_692 : Cond.instanceMethod yX8_comesNext ∈ z_gw := List.mem_filter.mpr ⟨z_sub_t3 104 rfl, rfl⟩
theorem kz_5 : Cond.selects RX8 yX8_comesNext yX8_comesNext ∈ z_gw := z_sub_p1 5 rfl rfl
theorem kk_X8_60 : ∀ w ∈ [Cond.methodLink RX8 60 yX8_comesNext, .instanceMethod yX8_comesNext, .selects RX8 yX8_comesNext yX8_comesNext, .initialized RX8, z_code M_X8_comesNext], w ∈ z_gw := List.forall_mem_cons.mpr ⟨kz_690, List.forall_mem_cons.mpr ⟨kz_692, List.forall_mem_cons.mpr ⟨kz_5, List.forall_mem_cons.mpr ⟨kz_110, List.forall_mem_cons.mpr ⟨kc_X8_comesNext, fun _ h => absurd h List.not_mem_nil⟩⟩⟩⟩⟩
theorem kz_696 : Cond.static yX10_isLetter ∈ z_gw := List.mem_filter.mpr ⟨z_sub_t3 108 rfl, rfl⟩
theorem kk_X8_64 : ∀ w ∈ [Cond.static yX10_isLetter, .initialized RX10, z_code M_X10_isLetter], w ∈ z_gw := List.forall_mem_cons.mpr ⟨kz_696, List.forall_mem_cons.mpr ⟨kz_109, List.forall_mem_cons.mpr ⟨kc_X10_isLetter, fun _ h => absurd h List.not_mem_nil⟩⟩⟩
theorem kz_695 : Cond.methodLinkNest RX8 64 yX10_isLetter "DyeStreets" ∈ z_nw := List.mem_filter.mpr ⟨z_sub_t3 107 rfl, rfl⟩
theorem kn_X8_64 : Cond.methodLinkNest RX8 64 yX10_isLetter "DyeStreets" ∈ z_nw := kz_695
theorem kk_X8_68 : ∀ w ∈ [Cond.static yX10_isDigit, .initialized RX10, z_code M_X10_isDigit], w ∈ z_gw := List.forall_mem_cons.mpr ⟨kz_711, List.forall_mem_cons.mpr ⟨kz_109, List.forall_mem_cons.mpr ⟨kc_X10_isDigit, fun _ h => absurd h List.not_mem_nil⟩⟩⟩
theorem kz_710 : Cond.methodLinkNest RX8 68 yX10_isDigit "DyeStreets" ∈ z_nw := List.mem_filter.mpr ⟨z_sub_t3 122 rfl, rfl⟩
theorem kn_X8_68 : Cond.methodLinkNest RX8 68 yX10_isDigit "DyeStreets" ∈ z_nw := kz_710
theorem kz_714 : Cond.constant RX8 71 (1000000) ∈ z_gw := List.mem_filter.mpr ⟨z_sub_t3 126 rfl, rfl⟩
theorem kd_X8_71 : Cond.constant RX8 71 (1000000) ∈ z_gw := kz_714
theorem kz_715 : Cond.methodLink RX8 72 Lib.Math.min.name ∈ z_gw := List.mem_filter.mpr ⟨z_sub_t3 127 rfl, rfl⟩
theorem km_X8_72 : ∀ w ∈ [Cond.methodLink RX8 72 Lib.Math.min.name, .static Lib.Math.min.name, .initialized "java/lang/Math", .code Lib.Math.min.name Lib.Math.min.code 2 (some .int)], w ∈ z_gw := List.forall_mem_cons.mpr ⟨kz_715, List.forall_mem_cons.mpr ⟨kz_716, List.forall_mem_cons.mpr ⟨kz_129, List.forall_mem_cons.mpr ⟨kz_717, fun _ h => absurd h List.not_mem_nil⟩⟩⟩⟩
theorem kz_158 : Cond.fieldLink RX8 78 RX8 "mark" "I" ∈ z_gw := List.mem_filter.mpr ⟨z_sub_t1 50 rfl, rfl⟩
theorem kf_X8_78 : Cond.fieldLink RX8 78 RX8 "mark" "I" ∈ z_gw := kz_158
theorem kz_183 : Cond.methodLink RX9 3 objectInit ∈ z_gw := List.mem_filter.mpr ⟨z_sub_t1 75 rfl, rfl⟩
theorem ko_X9_3 : ∀ w ∈ [Cond.methodLink RX9 3 objectInit, .instanceMethod objectInit, .code objectInit ⟨#[0xb1]⟩ 1 none], w ∈ z_gw := List.forall_mem_cons.mpr ⟨kz_183, List.forall_mem_cons.mpr ⟨kz_138, List.forall_mem_cons.mpr ⟨kz_139, fun _ h => absurd h List.not_mem_nil⟩⟩⟩
theorem kz_184 : Cond.fieldLink RX9 9 RX9 "cells" "[I" ∈ z_gw := List.mem_filter.mpr ⟨z_sub_t1 76 rfl, rfl⟩
theorem kf_X9_9 : Cond.fieldLink RX9 9 RX9 "cells" "[I" ∈ z_gw := kz_184
theorem kk_X9_15 : ∀ w ∈ [Cond.static yX10_fill, .initialized RX10, z_code M_X10_fill], w ∈ z_gw := List.forall_mem_cons.mpr ⟨kz_734, List.forall_mem_cons.mpr ⟨kz_109, List.forall_mem_cons.mpr ⟨kc_X10_fill, fun _ h => absurd h List.not_mem_nil⟩⟩⟩
theorem kz_733 : Cond.methodLinkNest RX9 15 yX10_fill "DyeStreets" ∈ z_nw := List.mem_filter.mpr ⟨z_sub_t3 145 rfl, rfl⟩
theorem kn_X9_15 : Cond.methodLinkNest RX9 15 yX10_fill "DyeStreets" ∈ z_nw := kz_733
theorem kz_367 : Cond.fieldLinkNest RX9 19 RX1 "people" "I" "DyeStreets" ∈ z_nw := List.mem_filter.mpr ⟨z_sub_t2 19 rfl, rfl⟩
theorem kf_X9_19 : Cond.fieldLinkNest RX9 19 RX1 "people" "I" "DyeStreets" ∈ z_nw := kz_367
theorem kz_358 : Cond.fieldLinkNest RX9 25 RX1 "firstAges" "[I" "DyeStreets" ∈ z_nw := List.mem_filter.mpr ⟨z_sub_t2 10 rfl, rfl⟩
theorem kf_X9_25 : Cond.fieldLinkNest RX9 25 RX1 "firstAges" "[I" "DyeStreets" ∈ z_nw := kz_358
theorem kk_X9_28 : ∀ w ∈ [Cond.static yX10_at, .initialized RX10, z_code M_X10_at], w ∈ z_gw := List.forall_mem_cons.mpr ⟨kz_474, List.forall_mem_cons.mpr ⟨kz_109, List.forall_mem_cons.mpr ⟨kc_X10_at, fun _ h => absurd h List.not_mem_nil⟩⟩⟩
theorem kz_493 : Cond.methodLinkNest RX9 28 yX10_at "DyeStreets" ∈ z_nw := List.mem_filter.mpr ⟨z_sub_t2 145 rfl, rfl⟩
theorem kn_X9_28 : Cond.methodLinkNest RX9 28 yX10_at "DyeStreets" ∈ z_nw := kz_493
theorem kz_736 : Cond.methodLink RX9 32 yX9_set ∈ z_gw := List.mem_filter.mpr ⟨z_sub_t3 148 rfl, rfl⟩
theorem kz_738 : Cond.instanceMethod yX9_set ∈ z_gw := List.mem_filter.mpr ⟨z_sub_t3 150 rfl, rfl⟩
theorem kz_7 : Cond.selects RX9 yX9_set yX9_set ∈ z_gw := z_sub_p1 7 rfl rfl
theorem kk_X9_32 : ∀ w ∈ [Cond.methodLink RX9 32 yX9_set, .instanceMethod yX9_set, .selects RX9 yX9_set yX9_set, .initialized RX9, z_code M_X9_set], w ∈ z_gw := List.forall_mem_cons.mpr ⟨kz_736, List.forall_mem_cons.mpr ⟨kz_738, List.forall_mem_cons.mpr ⟨kz_7, List.forall_mem_cons.mpr ⟨kz_111, List.forall_mem_cons.mpr ⟨kc_X9_set, fun _ h => absurd h List.not_mem_nil⟩⟩⟩⟩⟩
theorem kz_360 : Cond.fieldLinkNest RX9 36 RX1 "firstStocks" "[I" "DyeStreets" ∈ z_nw := List.mem_filter.mpr ⟨z_sub_t2 12 rfl, rfl⟩
theorem kf_X9_36 : Cond.fieldLinkNest RX9 36 RX1 "firstStocks" "[I" "DyeStreets" ∈ z_nw := kz_360
theorem kk_X9_39 : ∀ w ∈ [Cond.static yX10_copy, .initialized RX10, z_code M_X10_copy], w ∈ z_gw := List.forall_mem_cons.mpr ⟨kz_471, List.forall_mem_cons.mpr ⟨kz_109, List.forall_mem_cons.mpr ⟨kc_X10_copy, fun _ h => absurd h List.not_mem_nil⟩⟩⟩
theorem kz_470 : Cond.methodLinkNest RX9 39 yX10_copy "DyeStreets" ∈ z_nw := List.mem_filter.mpr ⟨z_sub_t2 122 rfl, rfl⟩
theorem kn_X9_39 : Cond.methodLinkNest RX9 39 yX10_copy "DyeStreets" ∈ z_nw := kz_470
theorem kk_X9_43 : ∀ w ∈ [Cond.static yX10_put, .initialized RX10, z_code M_X10_put], w ∈ z_gw := List.forall_mem_cons.mpr ⟨kz_452, List.forall_mem_cons.mpr ⟨kz_109, List.forall_mem_cons.mpr ⟨kc_X10_put, fun _ h => absurd h List.not_mem_nil⟩⟩⟩
theorem kz_740 : Cond.methodLinkNest RX9 43 yX10_put "DyeStreets" ∈ z_nw := List.mem_filter.mpr ⟨z_sub_t3 152 rfl, rfl⟩
theorem kn_X9_43 : Cond.methodLinkNest RX9 43 yX10_put "DyeStreets" ∈ z_nw := kz_740
theorem kz_489 : Cond.methodLink RX9 47 yX9_has ∈ z_gw := List.mem_filter.mpr ⟨z_sub_t2 141 rfl, rfl⟩
theorem kk_X9_47 : ∀ w ∈ [Cond.methodLink RX9 47 yX9_has, .instanceMethod yX9_has, .selects RX9 yX9_has yX9_has, .initialized RX9, z_code M_X9_has], w ∈ z_gw := List.forall_mem_cons.mpr ⟨kz_489, List.forall_mem_cons.mpr ⟨kz_490, List.forall_mem_cons.mpr ⟨kz_491, List.forall_mem_cons.mpr ⟨kz_111, List.forall_mem_cons.mpr ⟨kc_X9_has, fun _ h => absurd h List.not_mem_nil⟩⟩⟩⟩⟩
theorem kk_X9_51 : ∀ w ∈ [Cond.static yX10_deeper, .initialized RX10, z_code M_X10_deeper], w ∈ z_gw := List.forall_mem_cons.mpr ⟨kz_871, List.forall_mem_cons.mpr ⟨kz_109, List.forall_mem_cons.mpr ⟨kc_X10_deeper, fun _ h => absurd h List.not_mem_nil⟩⟩⟩
theorem kz_870 : Cond.methodLinkNest RX9 51 yX10_deeper "DyeStreets" ∈ z_nw := List.mem_filter.mpr ⟨z_sub_t4 42 rfl, rfl⟩
theorem kn_X9_51 : Cond.methodLinkNest RX9 51 yX10_deeper "DyeStreets" ∈ z_nw := kz_870
theorem kz_876 : Cond.methodLink RX9 54 yX9_affords ∈ z_gw := List.mem_filter.mpr ⟨z_sub_t4 48 rfl, rfl⟩
theorem kz_878 : Cond.instanceMethod yX9_affords ∈ z_gw := List.mem_filter.mpr ⟨z_sub_t4 50 rfl, rfl⟩
theorem kz_20 : Cond.selects RX9 yX9_affords yX9_affords ∈ z_gw := z_sub_p2 4 rfl rfl
theorem kk_X9_54 : ∀ w ∈ [Cond.methodLink RX9 54 yX9_affords, .instanceMethod yX9_affords, .selects RX9 yX9_affords yX9_affords, .initialized RX9, z_code M_X9_affords], w ∈ z_gw := List.forall_mem_cons.mpr ⟨kz_876, List.forall_mem_cons.mpr ⟨kz_878, List.forall_mem_cons.mpr ⟨kz_20, List.forall_mem_cons.mpr ⟨kz_111, List.forall_mem_cons.mpr ⟨kc_X9_affords, fun _ h => absurd h List.not_mem_nil⟩⟩⟩⟩⟩
theorem kz_880 : Cond.methodLink RX9 58 yX9_stored ∈ z_gw := List.mem_filter.mpr ⟨z_sub_t4 52 rfl, rfl⟩
theorem kk_X9_58 : ∀ w ∈ [Cond.methodLink RX9 58 yX9_stored, .instanceMethod yX9_stored, .selects RX9 yX9_stored yX9_stored, .initialized RX9, z_code M_X9_stored], w ∈ z_gw := List.forall_mem_cons.mpr ⟨kz_880, List.forall_mem_cons.mpr ⟨kz_881, List.forall_mem_cons.mpr ⟨kz_882, List.forall_mem_cons.mpr ⟨kz_111, List.forall_mem_cons.mpr ⟨kc_X9_stored, fun _ h => absurd h List.not_mem_nil⟩⟩⟩⟩⟩
theorem kk_X9_62 : ∀ w ∈ [Cond.static yX10_partOf, .initialized RX10, z_code M_X10_partOf], w ∈ z_gw := List.forall_mem_cons.mpr ⟨kz_495, List.forall_mem_cons.mpr ⟨kz_109, List.forall_mem_cons.mpr ⟨kc_X10_partOf, fun _ h => absurd h List.not_mem_nil⟩⟩⟩
theorem kz_494 : Cond.methodLinkNest RX9 62 yX10_partOf "DyeStreets" ∈ z_nw := List.mem_filter.mpr ⟨z_sub_t2 146 rfl, rfl⟩
theorem kn_X9_62 : Cond.methodLinkNest RX9 62 yX10_partOf "DyeStreets" ∈ z_nw := kz_494
theorem kz_889 : Cond.static yX10_paler ∈ z_gw := List.mem_filter.mpr ⟨z_sub_t4 61 rfl, rfl⟩
theorem kk_X9_65 : ∀ w ∈ [Cond.static yX10_paler, .initialized RX10, z_code M_X10_paler], w ∈ z_gw := List.forall_mem_cons.mpr ⟨kz_889, List.forall_mem_cons.mpr ⟨kz_109, List.forall_mem_cons.mpr ⟨kc_X10_paler, fun _ h => absurd h List.not_mem_nil⟩⟩⟩
theorem kz_888 : Cond.methodLinkNest RX9 65 yX10_paler "DyeStreets" ∈ z_nw := List.mem_filter.mpr ⟨z_sub_t4 60 rfl, rfl⟩
theorem kn_X9_65 : Cond.methodLinkNest RX9 65 yX10_paler "DyeStreets" ∈ z_nw := kz_888
theorem kz_899 : Cond.methodLink RX9 68 yX9_rainShade ∈ z_gw := List.mem_filter.mpr ⟨z_sub_t4 71 rfl, rfl⟩
theorem kk_X9_68 : ∀ w ∈ [Cond.methodLink RX9 68 yX9_rainShade, .instanceMethod yX9_rainShade, .selects RX9 yX9_rainShade yX9_rainShade, .initialized RX9, z_code M_X9_rainShade], w ∈ z_gw := List.forall_mem_cons.mpr ⟨kz_899, List.forall_mem_cons.mpr ⟨kz_482, List.forall_mem_cons.mpr ⟨kz_483, List.forall_mem_cons.mpr ⟨kz_111, List.forall_mem_cons.mpr ⟨kc_X9_rainShade, fun _ h => absurd h List.not_mem_nil⟩⟩⟩⟩⟩
theorem kz_485 : Cond.methodLink RX9 71 yX9_unsalted ∈ z_gw := List.mem_filter.mpr ⟨z_sub_t2 137 rfl, rfl⟩
theorem kk_X9_71 : ∀ w ∈ [Cond.methodLink RX9 71 yX9_unsalted, .instanceMethod yX9_unsalted, .selects RX9 yX9_unsalted yX9_unsalted, .initialized RX9, z_code M_X9_unsalted], w ∈ z_gw := List.forall_mem_cons.mpr ⟨kz_485, List.forall_mem_cons.mpr ⟨kz_486, List.forall_mem_cons.mpr ⟨kz_487, List.forall_mem_cons.mpr ⟨kz_111, List.forall_mem_cons.mpr ⟨kc_X9_unsalted, fun _ h => absurd h List.not_mem_nil⟩⟩⟩⟩⟩
theorem kk_X9_74 : ∀ w ∈ [Cond.static yX10_unitOf, .initialized RX10, z_code M_X10_unitOf], w ∈ z_gw := List.forall_mem_cons.mpr ⟨kz_498, List.forall_mem_cons.mpr ⟨kz_109, List.forall_mem_cons.mpr ⟨kc_X10_unitOf, fun _ h => absurd h List.not_mem_nil⟩⟩⟩
theorem kz_497 : Cond.methodLinkNest RX9 74 yX10_unitOf "DyeStreets" ∈ z_nw := List.mem_filter.mpr ⟨z_sub_t2 149 rfl, rfl⟩
theorem kn_X9_74 : Cond.methodLinkNest RX9 74 yX10_unitOf "DyeStreets" ∈ z_nw := kz_497
theorem kk_X9_77 : ∀ w ∈ [Cond.static yX10_apart, .initialized RX10, z_code M_X10_apart], w ∈ z_gw := List.forall_mem_cons.mpr ⟨kz_905, List.forall_mem_cons.mpr ⟨kz_109, List.forall_mem_cons.mpr ⟨kc_X10_apart, fun _ h => absurd h List.not_mem_nil⟩⟩⟩
theorem kz_904 : Cond.methodLinkNest RX9 77 yX10_apart "DyeStreets" ∈ z_nw := List.mem_filter.mpr ⟨z_sub_t4 76 rfl, rfl⟩
theorem kn_X9_77 : Cond.methodLinkNest RX9 77 yX10_apart "DyeStreets" ∈ z_nw := kz_904
theorem kz_921 : Cond.methodLink RX9 80 yX9_year ∈ z_gw := List.mem_filter.mpr ⟨z_sub_t4 93 rfl, rfl⟩
theorem kk_X9_80 : ∀ w ∈ [Cond.methodLink RX9 80 yX9_year, .instanceMethod yX9_year, .selects RX9 yX9_year yX9_year, .initialized RX9, z_code M_X9_year], w ∈ z_gw := List.forall_mem_cons.mpr ⟨kz_921, List.forall_mem_cons.mpr ⟨kz_914, List.forall_mem_cons.mpr ⟨kz_915, List.forall_mem_cons.mpr ⟨kz_111, List.forall_mem_cons.mpr ⟨kc_X9_year, fun _ h => absurd h List.not_mem_nil⟩⟩⟩⟩⟩
theorem kz_922 : Cond.methodLink RX9 84 Lib.Math.min.name ∈ z_gw := List.mem_filter.mpr ⟨z_sub_t4 94 rfl, rfl⟩
theorem km_X9_84 : ∀ w ∈ [Cond.methodLink RX9 84 Lib.Math.min.name, .static Lib.Math.min.name, .initialized "java/lang/Math", .code Lib.Math.min.name Lib.Math.min.code 2 (some .int)], w ∈ z_gw := List.forall_mem_cons.mpr ⟨kz_922, List.forall_mem_cons.mpr ⟨kz_716, List.forall_mem_cons.mpr ⟨kz_129, List.forall_mem_cons.mpr ⟨kz_717, fun _ h => absurd h List.not_mem_nil⟩⟩⟩⟩
theorem kk_X9_89 : ∀ w ∈ [Cond.static yX10_darkness, .initialized RX10, z_code M_X10_darkness], w ∈ z_gw := List.forall_mem_cons.mpr ⟨kz_982, List.forall_mem_cons.mpr ⟨kz_109, List.forall_mem_cons.mpr ⟨kc_X10_darkness, fun _ h => absurd h List.not_mem_nil⟩⟩⟩
theorem kz_1377 : Cond.methodLinkNest RX9 89 yX10_darkness "DyeStreets" ∈ z_nw := List.mem_filter.mpr ⟨z_sub_t6 69 rfl, rfl⟩
theorem kn_X9_89 : Cond.methodLinkNest RX9 89 yX10_darkness "DyeStreets" ∈ z_nw := kz_1377
theorem kz_535 : Cond.methodLink RL 7 yX10_city ∈ z_gw := List.mem_filter.mpr ⟨z_sub_t2 187 rfl, rfl⟩
theorem kz_536 : Cond.instanceMethod yX10_city ∈ z_gw := List.mem_filter.mpr ⟨z_sub_t2 188 rfl, rfl⟩
theorem kz_537 : Cond.selects RX10 yX10_city yX10_city ∈ z_gw := List.mem_filter.mpr ⟨z_sub_t2 189 rfl, rfl⟩
theorem kk_L_7 : ∀ w ∈ [Cond.methodLink RL 7 yX10_city, .instanceMethod yX10_city, .selects RX10 yX10_city yX10_city, .initialized RX10, z_code M_X10_city], w ∈ z_gw := List.forall_mem_cons.mpr ⟨kz_535, List.forall_mem_cons.mpr ⟨kz_536, List.forall_mem_cons.mpr ⟨kz_537, List.forall_mem_cons.mpr ⟨kz_109, List.forall_mem_cons.mpr ⟨kc_X10_city, fun _ h => absurd h List.not_mem_nil⟩⟩⟩⟩⟩
theorem kz_758 : Cond.methodLink RL 15 yX10_law ∈ z_gw := List.mem_filter.mpr ⟨z_sub_t3 170 rfl, rfl⟩
theorem kz_759 : Cond.instanceMethod yX10_law ∈ z_gw := List.mem_filter.mpr ⟨z_sub_t3 171 rfl, rfl⟩
theorem kz_760 : Cond.selects RX10 yX10_law yX10_law ∈ z_gw := List.mem_filter.mpr ⟨z_sub_t3 172 rfl, rfl⟩
theorem kk_L_15 : ∀ w ∈ [Cond.methodLink RL 15 yX10_law, .instanceMethod yX10_law, .selects RX10 yX10_law yX10_law, .initialized RX10, z_code M_X10_law], w ∈ z_gw := List.forall_mem_cons.mpr ⟨kz_758, List.forall_mem_cons.mpr ⟨kz_759, List.forall_mem_cons.mpr ⟨kz_760, List.forall_mem_cons.mpr ⟨kz_109, List.forall_mem_cons.mpr ⟨kc_X10_law, fun _ h => absurd h List.not_mem_nil⟩⟩⟩⟩⟩
theorem kz_806 : Cond.methodLink RL 18 yX10_work ∈ z_gw := List.mem_filter.mpr ⟨z_sub_t3 218 rfl, rfl⟩
theorem kz_807 : Cond.instanceMethod yX10_work ∈ z_gw := List.mem_filter.mpr ⟨z_sub_t3 219 rfl, rfl⟩
theorem kz_808 : Cond.selects RX10 yX10_work yX10_work ∈ z_gw := List.mem_filter.mpr ⟨z_sub_t3 220 rfl, rfl⟩
theorem kk_L_18 : ∀ w ∈ [Cond.methodLink RL 18 yX10_work, .instanceMethod yX10_work, .selects RX10 yX10_work yX10_work, .initialized RX10, z_code M_X10_work], w ∈ z_gw := List.forall_mem_cons.mpr ⟨kz_806, List.forall_mem_cons.mpr ⟨kz_807, List.forall_mem_cons.mpr ⟨kz_808, List.forall_mem_cons.mpr ⟨kz_109, List.forall_mem_cons.mpr ⟨kc_X10_work, fun _ h => absurd h List.not_mem_nil⟩⟩⟩⟩⟩
theorem kz_930 : Cond.methodLink RL 21 yX10_book ∈ z_gw := List.mem_filter.mpr ⟨z_sub_t4 102 rfl, rfl⟩
theorem kz_931 : Cond.instanceMethod yX10_book ∈ z_gw := List.mem_filter.mpr ⟨z_sub_t4 103 rfl, rfl⟩
theorem kz_932 : Cond.selects RX10 yX10_book yX10_book ∈ z_gw := List.mem_filter.mpr ⟨z_sub_t4 104 rfl, rfl⟩
theorem kk_L_21 : ∀ w ∈ [Cond.methodLink RL 21 yX10_book, .instanceMethod yX10_book, .selects RX10 yX10_book yX10_book, .initialized RX10, z_code M_X10_book], w ∈ z_gw := List.forall_mem_cons.mpr ⟨kz_930, List.forall_mem_cons.mpr ⟨kz_931, List.forall_mem_cons.mpr ⟨kz_932, List.forall_mem_cons.mpr ⟨kz_109, List.forall_mem_cons.mpr ⟨kc_X10_book, fun _ h => absurd h List.not_mem_nil⟩⟩⟩⟩⟩
theorem kz_949 : Cond.methodLink RL 24 yX10_told ∈ z_gw := List.mem_filter.mpr ⟨z_sub_t4 121 rfl, rfl⟩
theorem kz_950 : Cond.instanceMethod yX10_told ∈ z_gw := List.mem_filter.mpr ⟨z_sub_t4 122 rfl, rfl⟩
theorem kz_951 : Cond.selects RX10 yX10_told yX10_told ∈ z_gw := List.mem_filter.mpr ⟨z_sub_t4 123 rfl, rfl⟩
theorem kk_L_24 : ∀ w ∈ [Cond.methodLink RL 24 yX10_told, .instanceMethod yX10_told, .selects RX10 yX10_told yX10_told, .initialized RX10, z_code M_X10_told], w ∈ z_gw := List.forall_mem_cons.mpr ⟨kz_949, List.forall_mem_cons.mpr ⟨kz_950, List.forall_mem_cons.mpr ⟨kz_951, List.forall_mem_cons.mpr ⟨kz_109, List.forall_mem_cons.mpr ⟨kc_X10_told, fun _ h => absurd h List.not_mem_nil⟩⟩⟩⟩⟩
theorem kz_1010 : Cond.methodLink RL 27 yX10_street ∈ z_gw := List.mem_filter.mpr ⟨z_sub_t4 182 rfl, rfl⟩
theorem kz_1011 : Cond.instanceMethod yX10_street ∈ z_gw := List.mem_filter.mpr ⟨z_sub_t4 183 rfl, rfl⟩
theorem kz_1012 : Cond.selects RX10 yX10_street yX10_street ∈ z_gw := List.mem_filter.mpr ⟨z_sub_t4 184 rfl, rfl⟩
theorem kk_L_27 : ∀ w ∈ [Cond.methodLink RL 27 yX10_street, .instanceMethod yX10_street, .selects RX10 yX10_street yX10_street, .initialized RX10, z_code M_X10_street], w ∈ z_gw := List.forall_mem_cons.mpr ⟨kz_1010, List.forall_mem_cons.mpr ⟨kz_1011, List.forall_mem_cons.mpr ⟨kz_1012, List.forall_mem_cons.mpr ⟨kz_109, List.forall_mem_cons.mpr ⟨kc_X10_street, fun _ h => absurd h List.not_mem_nil⟩⟩⟩⟩⟩
theorem kz_1050 : Cond.methodLink RL 33 yX10_person ∈ z_gw := List.mem_filter.mpr ⟨z_sub_t4 222 rfl, rfl⟩
theorem kz_1051 : Cond.instanceMethod yX10_person ∈ z_gw := List.mem_filter.mpr ⟨z_sub_t4 223 rfl, rfl⟩
theorem kz_1052 : Cond.selects RX10 yX10_person yX10_person ∈ z_gw := List.mem_filter.mpr ⟨z_sub_t4 224 rfl, rfl⟩
theorem kk_L_33 : ∀ w ∈ [Cond.methodLink RL 33 yX10_person, .instanceMethod yX10_person, .selects RX10 yX10_person yX10_person, .initialized RX10, z_code M_X10_person], w ∈ z_gw := List.forall_mem_cons.mpr ⟨kz_1050, List.forall_mem_cons.mpr ⟨kz_1051, List.forall_mem_cons.mpr ⟨kz_1052, List.forall_mem_cons.mpr ⟨kz_109, List.forall_mem_cons.mpr ⟨kc_X10_person, fun _ h => absurd h List.not_mem_nil⟩⟩⟩⟩⟩
theorem kz_1061 : Cond.methodLink RL 36 yX10_stock ∈ z_gw := List.mem_filter.mpr ⟨z_sub_t4 233 rfl, rfl⟩
theorem kz_1062 : Cond.instanceMethod yX10_stock ∈ z_gw := List.mem_filter.mpr ⟨z_sub_t4 234 rfl, rfl⟩
theorem kz_1063 : Cond.selects RX10 yX10_stock yX10_stock ∈ z_gw := List.mem_filter.mpr ⟨z_sub_t4 235 rfl, rfl⟩
theorem kk_L_36 : ∀ w ∈ [Cond.methodLink RL 36 yX10_stock, .instanceMethod yX10_stock, .selects RX10 yX10_stock yX10_stock, .initialized RX10, z_code M_X10_stock], w ∈ z_gw := List.forall_mem_cons.mpr ⟨kz_1061, List.forall_mem_cons.mpr ⟨kz_1062, List.forall_mem_cons.mpr ⟨kz_1063, List.forall_mem_cons.mpr ⟨kz_109, List.forall_mem_cons.mpr ⟨kc_X10_stock, fun _ h => absurd h List.not_mem_nil⟩⟩⟩⟩⟩
theorem kz_1072 : Cond.methodLink RL 39 yX10_would ∈ z_gw := List.mem_filter.mpr ⟨z_sub_t5 4 rfl, rfl⟩
theorem kz_1073 : Cond.instanceMethod yX10_would ∈ z_gw := List.mem_filter.mpr ⟨z_sub_t5 5 rfl, rfl⟩
theorem kz_1074 : Cond.selects RX10 yX10_would yX10_would ∈ z_gw := List.mem_filter.mpr ⟨z_sub_t5 6 rfl, rfl⟩
theorem kk_L_39 : ∀ w ∈ [Cond.methodLink RL 39 yX10_would, .instanceMethod yX10_would, .selects RX10 yX10_would yX10_would, .initialized RX10, z_code M_X10_would], w ∈ z_gw := List.forall_mem_cons.mpr ⟨kz_1072, List.forall_mem_cons.mpr ⟨kz_1073, List.forall_mem_cons.mpr ⟨kz_1074, List.forall_mem_cons.mpr ⟨kz_109, List.forall_mem_cons.mpr ⟨kc_X10_would, fun _ h => absurd h List.not_mem_nil⟩⟩⟩⟩⟩
theorem kz_1082 : Cond.methodLink RL 43 yX10_distance ∈ z_gw := List.mem_filter.mpr ⟨z_sub_t5 14 rfl, rfl⟩
theorem kz_1083 : Cond.instanceMethod yX10_distance ∈ z_gw := List.mem_filter.mpr ⟨z_sub_t5 15 rfl, rfl⟩
theorem kz_1084 : Cond.selects RX10 yX10_distance yX10_distance ∈ z_gw := List.mem_filter.mpr ⟨z_sub_t5 16 rfl, rfl⟩
theorem kk_L_43 : ∀ w ∈ [Cond.methodLink RL 43 yX10_distance, .instanceMethod yX10_distance, .selects RX10 yX10_distance yX10_distance, .initialized RX10, z_code M_X10_distance], w ∈ z_gw := List.forall_mem_cons.mpr ⟨kz_1082, List.forall_mem_cons.mpr ⟨kz_1083, List.forall_mem_cons.mpr ⟨kz_1084, List.forall_mem_cons.mpr ⟨kz_109, List.forall_mem_cons.mpr ⟨kc_X10_distance, fun _ h => absurd h List.not_mem_nil⟩⟩⟩⟩⟩
theorem kz_1090 : Cond.methodLink RL 46 yX10_seems ∈ z_gw := List.mem_filter.mpr ⟨z_sub_t5 22 rfl, rfl⟩
theorem kz_1091 : Cond.instanceMethod yX10_seems ∈ z_gw := List.mem_filter.mpr ⟨z_sub_t5 23 rfl, rfl⟩
theorem kz_1092 : Cond.selects RX10 yX10_seems yX10_seems ∈ z_gw := List.mem_filter.mpr ⟨z_sub_t5 24 rfl, rfl⟩
theorem kk_L_46 : ∀ w ∈ [Cond.methodLink RL 46 yX10_seems, .instanceMethod yX10_seems, .selects RX10 yX10_seems yX10_seems, .initialized RX10, z_code M_X10_seems], w ∈ z_gw := List.forall_mem_cons.mpr ⟨kz_1090, List.forall_mem_cons.mpr ⟨kz_1091, List.forall_mem_cons.mpr ⟨kz_1092, List.forall_mem_cons.mpr ⟨kz_109, List.forall_mem_cons.mpr ⟨kc_X10_seems, fun _ h => absurd h List.not_mem_nil⟩⟩⟩⟩⟩
theorem kz_1097 : Cond.methodLink RL 49 yX10_dipped ∈ z_gw := List.mem_filter.mpr ⟨z_sub_t5 29 rfl, rfl⟩
theorem kz_1098 : Cond.instanceMethod yX10_dipped ∈ z_gw := List.mem_filter.mpr ⟨z_sub_t5 30 rfl, rfl⟩
theorem kz_1099 : Cond.selects RX10 yX10_dipped yX10_dipped ∈ z_gw := List.mem_filter.mpr ⟨z_sub_t5 31 rfl, rfl⟩
theorem kk_L_49 : ∀ w ∈ [Cond.methodLink RL 49 yX10_dipped, .instanceMethod yX10_dipped, .selects RX10 yX10_dipped yX10_dipped, .initialized RX10, z_code M_X10_dipped], w ∈ z_gw := List.forall_mem_cons.mpr ⟨kz_1097, List.forall_mem_cons.mpr ⟨kz_1098, List.forall_mem_cons.mpr ⟨kz_1099, List.forall_mem_cons.mpr ⟨kz_109, List.forall_mem_cons.mpr ⟨kc_X10_dipped, fun _ h => absurd h List.not_mem_nil⟩⟩⟩⟩⟩
theorem kz_1105 : Cond.methodLink RL 52 yX10_when ∈ z_gw := List.mem_filter.mpr ⟨z_sub_t5 37 rfl, rfl⟩
theorem kz_1106 : Cond.instanceMethod yX10_when ∈ z_gw := List.mem_filter.mpr ⟨z_sub_t5 38 rfl, rfl⟩
theorem kz_1107 : Cond.selects RX10 yX10_when yX10_when ∈ z_gw := List.mem_filter.mpr ⟨z_sub_t5 39 rfl, rfl⟩
theorem kk_L_52 : ∀ w ∈ [Cond.methodLink RL 52 yX10_when, .instanceMethod yX10_when, .selects RX10 yX10_when yX10_when, .initialized RX10, z_code M_X10_when], w ∈ z_gw := List.forall_mem_cons.mpr ⟨kz_1105, List.forall_mem_cons.mpr ⟨kz_1106, List.forall_mem_cons.mpr ⟨kz_1107, List.forall_mem_cons.mpr ⟨kz_109, List.forall_mem_cons.mpr ⟨kc_X10_when, fun _ h => absurd h List.not_mem_nil⟩⟩⟩⟩⟩
theorem kz_1117 : Cond.methodLink RL 55 yX10_sits ∈ z_gw := List.mem_filter.mpr ⟨z_sub_t5 49 rfl, rfl⟩
theorem kz_1118 : Cond.instanceMethod yX10_sits ∈ z_gw := List.mem_filter.mpr ⟨z_sub_t5 50 rfl, rfl⟩
theorem kz_1119 : Cond.selects RX10 yX10_sits yX10_sits ∈ z_gw := List.mem_filter.mpr ⟨z_sub_t5 51 rfl, rfl⟩
theorem kk_L_55 : ∀ w ∈ [Cond.methodLink RL 55 yX10_sits, .instanceMethod yX10_sits, .selects RX10 yX10_sits yX10_sits, .initialized RX10, z_code M_X10_sits], w ∈ z_gw := List.forall_mem_cons.mpr ⟨kz_1117, List.forall_mem_cons.mpr ⟨kz_1118, List.forall_mem_cons.mpr ⟨kz_1119, List.forall_mem_cons.mpr ⟨kz_109, List.forall_mem_cons.mpr ⟨kc_X10_sits, fun _ h => absurd h List.not_mem_nil⟩⟩⟩⟩⟩
theorem kz_1124 : Cond.methodLink RL 58 yX10_way ∈ z_gw := List.mem_filter.mpr ⟨z_sub_t5 56 rfl, rfl⟩
theorem kz_1125 : Cond.instanceMethod yX10_way ∈ z_gw := List.mem_filter.mpr ⟨z_sub_t5 57 rfl, rfl⟩
theorem kz_1126 : Cond.selects RX10 yX10_way yX10_way ∈ z_gw := List.mem_filter.mpr ⟨z_sub_t5 58 rfl, rfl⟩
theorem kk_L_58 : ∀ w ∈ [Cond.methodLink RL 58 yX10_way, .instanceMethod yX10_way, .selects RX10 yX10_way yX10_way, .initialized RX10, z_code M_X10_way], w ∈ z_gw := List.forall_mem_cons.mpr ⟨kz_1124, List.forall_mem_cons.mpr ⟨kz_1125, List.forall_mem_cons.mpr ⟨kz_1126, List.forall_mem_cons.mpr ⟨kz_109, List.forall_mem_cons.mpr ⟨kc_X10_way, fun _ h => absurd h List.not_mem_nil⟩⟩⟩⟩⟩
theorem kz_1143 : Cond.methodLink RL 61 yX10_step ∈ z_gw := List.mem_filter.mpr ⟨z_sub_t5 75 rfl, rfl⟩
theorem kz_1144 : Cond.instanceMethod yX10_step ∈ z_gw := List.mem_filter.mpr ⟨z_sub_t5 76 rfl, rfl⟩
theorem kz_1145 : Cond.selects RX10 yX10_step yX10_step ∈ z_gw := List.mem_filter.mpr ⟨z_sub_t5 77 rfl, rfl⟩
theorem kk_L_61 : ∀ w ∈ [Cond.methodLink RL 61 yX10_step, .instanceMethod yX10_step, .selects RX10 yX10_step yX10_step, .initialized RX10, z_code M_X10_step], w ∈ z_gw := List.forall_mem_cons.mpr ⟨kz_1143, List.forall_mem_cons.mpr ⟨kz_1144, List.forall_mem_cons.mpr ⟨kz_1145, List.forall_mem_cons.mpr ⟨kz_109, List.forall_mem_cons.mpr ⟨kc_X10_step, fun _ h => absurd h List.not_mem_nil⟩⟩⟩⟩⟩
theorem kz_1159 : Cond.methodLink RL 65 yX10_sums ∈ z_gw := List.mem_filter.mpr ⟨z_sub_t5 91 rfl, rfl⟩
theorem kz_1160 : Cond.instanceMethod yX10_sums ∈ z_gw := List.mem_filter.mpr ⟨z_sub_t5 92 rfl, rfl⟩
theorem kz_1161 : Cond.selects RX10 yX10_sums yX10_sums ∈ z_gw := List.mem_filter.mpr ⟨z_sub_t5 93 rfl, rfl⟩
theorem kk_L_65 : ∀ w ∈ [Cond.methodLink RL 65 yX10_sums, .instanceMethod yX10_sums, .selects RX10 yX10_sums yX10_sums, .initialized RX10, z_code M_X10_sums], w ∈ z_gw := List.forall_mem_cons.mpr ⟨kz_1159, List.forall_mem_cons.mpr ⟨kz_1160, List.forall_mem_cons.mpr ⟨kz_1161, List.forall_mem_cons.mpr ⟨kz_109, List.forall_mem_cons.mpr ⟨kc_X10_sums, fun _ h => absurd h List.not_mem_nil⟩⟩⟩⟩⟩
theorem kz_1186 : Cond.methodLink RL 68 yX10_tones ∈ z_gw := List.mem_filter.mpr ⟨z_sub_t5 118 rfl, rfl⟩
theorem kz_1187 : Cond.instanceMethod yX10_tones ∈ z_gw := List.mem_filter.mpr ⟨z_sub_t5 119 rfl, rfl⟩
theorem kz_1188 : Cond.selects RX10 yX10_tones yX10_tones ∈ z_gw := List.mem_filter.mpr ⟨z_sub_t5 120 rfl, rfl⟩
theorem kk_L_68 : ∀ w ∈ [Cond.methodLink RL 68 yX10_tones, .instanceMethod yX10_tones, .selects RX10 yX10_tones yX10_tones, .initialized RX10, z_code M_X10_tones], w ∈ z_gw := List.forall_mem_cons.mpr ⟨kz_1186, List.forall_mem_cons.mpr ⟨kz_1187, List.forall_mem_cons.mpr ⟨kz_1188, List.forall_mem_cons.mpr ⟨kz_109, List.forall_mem_cons.mpr ⟨kc_X10_tones, fun _ h => absurd h List.not_mem_nil⟩⟩⟩⟩⟩
theorem kz_1197 : Cond.methodLink RL 71 yX10_fits ∈ z_gw := List.mem_filter.mpr ⟨z_sub_t5 129 rfl, rfl⟩
theorem kz_1198 : Cond.instanceMethod yX10_fits ∈ z_gw := List.mem_filter.mpr ⟨z_sub_t5 130 rfl, rfl⟩
theorem kz_1199 : Cond.selects RX10 yX10_fits yX10_fits ∈ z_gw := List.mem_filter.mpr ⟨z_sub_t5 131 rfl, rfl⟩
theorem kk_L_71 : ∀ w ∈ [Cond.methodLink RL 71 yX10_fits, .instanceMethod yX10_fits, .selects RX10 yX10_fits yX10_fits, .initialized RX10, z_code M_X10_fits], w ∈ z_gw := List.forall_mem_cons.mpr ⟨kz_1197, List.forall_mem_cons.mpr ⟨kz_1198, List.forall_mem_cons.mpr ⟨kz_1199, List.forall_mem_cons.mpr ⟨kz_109, List.forall_mem_cons.mpr ⟨kc_X10_fits, fun _ h => absurd h List.not_mem_nil⟩⟩⟩⟩⟩
theorem kz_1218 : Cond.methodLink RL 74 yX10_look ∈ z_gw := List.mem_filter.mpr ⟨z_sub_t5 150 rfl, rfl⟩
theorem kz_1219 : Cond.instanceMethod yX10_look ∈ z_gw := List.mem_filter.mpr ⟨z_sub_t5 151 rfl, rfl⟩
theorem kz_1220 : Cond.selects RX10 yX10_look yX10_look ∈ z_gw := List.mem_filter.mpr ⟨z_sub_t5 152 rfl, rfl⟩
theorem kk_L_74 : ∀ w ∈ [Cond.methodLink RL 74 yX10_look, .instanceMethod yX10_look, .selects RX10 yX10_look yX10_look, .initialized RX10, z_code M_X10_look], w ∈ z_gw := List.forall_mem_cons.mpr ⟨kz_1218, List.forall_mem_cons.mpr ⟨kz_1219, List.forall_mem_cons.mpr ⟨kz_1220, List.forall_mem_cons.mpr ⟨kz_109, List.forall_mem_cons.mpr ⟨kc_X10_look, fun _ h => absurd h List.not_mem_nil⟩⟩⟩⟩⟩
theorem kz_1238 : Cond.methodLink RL 77 yX10_match ∈ z_gw := List.mem_filter.mpr ⟨z_sub_t5 170 rfl, rfl⟩
theorem kz_1239 : Cond.instanceMethod yX10_match ∈ z_gw := List.mem_filter.mpr ⟨z_sub_t5 171 rfl, rfl⟩
theorem kz_1240 : Cond.selects RX10 yX10_match yX10_match ∈ z_gw := List.mem_filter.mpr ⟨z_sub_t5 172 rfl, rfl⟩
theorem kk_L_77 : ∀ w ∈ [Cond.methodLink RL 77 yX10_match, .instanceMethod yX10_match, .selects RX10 yX10_match yX10_match, .initialized RX10, z_code M_X10_match], w ∈ z_gw := List.forall_mem_cons.mpr ⟨kz_1238, List.forall_mem_cons.mpr ⟨kz_1239, List.forall_mem_cons.mpr ⟨kz_1240, List.forall_mem_cons.mpr ⟨kz_109, List.forall_mem_cons.mpr ⟨kc_X10_match, fun _ h => absurd h List.not_mem_nil⟩⟩⟩⟩⟩
theorem kz_1293 : Cond.methodLink RL 80 yX10_bride ∈ z_gw := List.mem_filter.mpr ⟨z_sub_t5 225 rfl, rfl⟩
theorem kz_1294 : Cond.instanceMethod yX10_bride ∈ z_gw := List.mem_filter.mpr ⟨z_sub_t5 226 rfl, rfl⟩
theorem kz_1295 : Cond.selects RX10 yX10_bride yX10_bride ∈ z_gw := List.mem_filter.mpr ⟨z_sub_t5 227 rfl, rfl⟩
theorem kk_L_80 : ∀ w ∈ [Cond.methodLink RL 80 yX10_bride, .instanceMethod yX10_bride, .selects RX10 yX10_bride yX10_bride, .initialized RX10, z_code M_X10_bride], w ∈ z_gw := List.forall_mem_cons.mpr ⟨kz_1293, List.forall_mem_cons.mpr ⟨kz_1294, List.forall_mem_cons.mpr ⟨kz_1295, List.forall_mem_cons.mpr ⟨kz_109, List.forall_mem_cons.mpr ⟨kc_X10_bride, fun _ h => absurd h List.not_mem_nil⟩⟩⟩⟩⟩
theorem kz_1301 : Cond.methodLink RL 83 yX10_enough ∈ z_gw := List.mem_filter.mpr ⟨z_sub_t5 233 rfl, rfl⟩
theorem kz_1302 : Cond.instanceMethod yX10_enough ∈ z_gw := List.mem_filter.mpr ⟨z_sub_t5 234 rfl, rfl⟩
theorem kz_1303 : Cond.selects RX10 yX10_enough yX10_enough ∈ z_gw := List.mem_filter.mpr ⟨z_sub_t5 235 rfl, rfl⟩
theorem kk_L_83 : ∀ w ∈ [Cond.methodLink RL 83 yX10_enough, .instanceMethod yX10_enough, .selects RX10 yX10_enough yX10_enough, .initialized RX10, z_code M_X10_enough], w ∈ z_gw := List.forall_mem_cons.mpr ⟨kz_1301, List.forall_mem_cons.mpr ⟨kz_1302, List.forall_mem_cons.mpr ⟨kz_1303, List.forall_mem_cons.mpr ⟨kz_109, List.forall_mem_cons.mpr ⟨kc_X10_enough, fun _ h => absurd h List.not_mem_nil⟩⟩⟩⟩⟩
theorem kz_1312 : Cond.methodLink RL 86 yX10_level ∈ z_gw := List.mem_filter.mpr ⟨z_sub_t6 4 rfl, rfl⟩
theorem kz_1313 : Cond.instanceMethod yX10_level ∈ z_gw := List.mem_filter.mpr ⟨z_sub_t6 5 rfl, rfl⟩
theorem kz_1314 : Cond.selects RX10 yX10_level yX10_level ∈ z_gw := List.mem_filter.mpr ⟨z_sub_t6 6 rfl, rfl⟩
theorem kk_L_86 : ∀ w ∈ [Cond.methodLink RL 86 yX10_level, .instanceMethod yX10_level, .selects RX10 yX10_level yX10_level, .initialized RX10, z_code M_X10_level], w ∈ z_gw := List.forall_mem_cons.mpr ⟨kz_1312, List.forall_mem_cons.mpr ⟨kz_1313, List.forall_mem_cons.mpr ⟨kz_1314, List.forall_mem_cons.mpr ⟨kz_109, List.forall_mem_cons.mpr ⟨kc_X10_level, fun _ h => absurd h List.not_mem_nil⟩⟩⟩⟩⟩
theorem kz_1319 : Cond.methodLink RL 89 yX10_night ∈ z_gw := List.mem_filter.mpr ⟨z_sub_t6 11 rfl, rfl⟩
theorem kz_1320 : Cond.instanceMethod yX10_night ∈ z_gw := List.mem_filter.mpr ⟨z_sub_t6 12 rfl, rfl⟩
theorem kz_1321 : Cond.selects RX10 yX10_night yX10_night ∈ z_gw := List.mem_filter.mpr ⟨z_sub_t6 13 rfl, rfl⟩
theorem kk_L_89 : ∀ w ∈ [Cond.methodLink RL 89 yX10_night, .instanceMethod yX10_night, .selects RX10 yX10_night yX10_night, .initialized RX10, z_code M_X10_night], w ∈ z_gw := List.forall_mem_cons.mpr ⟨kz_1319, List.forall_mem_cons.mpr ⟨kz_1320, List.forall_mem_cons.mpr ⟨kz_1321, List.forall_mem_cons.mpr ⟨kz_109, List.forall_mem_cons.mpr ⟨kc_X10_night, fun _ h => absurd h List.not_mem_nil⟩⟩⟩⟩⟩
theorem kz_1339 : Cond.methodLink RL 93 yX10_guilds ∈ z_gw := List.mem_filter.mpr ⟨z_sub_t6 31 rfl, rfl⟩
theorem kz_1340 : Cond.instanceMethod yX10_guilds ∈ z_gw := List.mem_filter.mpr ⟨z_sub_t6 32 rfl, rfl⟩
theorem kz_1341 : Cond.selects RX10 yX10_guilds yX10_guilds ∈ z_gw := List.mem_filter.mpr ⟨z_sub_t6 33 rfl, rfl⟩
theorem kk_L_93 : ∀ w ∈ [Cond.methodLink RL 93 yX10_guilds, .instanceMethod yX10_guilds, .selects RX10 yX10_guilds yX10_guilds, .initialized RX10, z_code M_X10_guilds], w ∈ z_gw := List.forall_mem_cons.mpr ⟨kz_1339, List.forall_mem_cons.mpr ⟨kz_1340, List.forall_mem_cons.mpr ⟨kz_1341, List.forall_mem_cons.mpr ⟨kz_109, List.forall_mem_cons.mpr ⟨kc_X10_guilds, fun _ h => absurd h List.not_mem_nil⟩⟩⟩⟩⟩
theorem kz_1362 : Cond.methodLink RL 96 yX10_follows ∈ z_gw := List.mem_filter.mpr ⟨z_sub_t6 54 rfl, rfl⟩
theorem kz_1363 : Cond.instanceMethod yX10_follows ∈ z_gw := List.mem_filter.mpr ⟨z_sub_t6 55 rfl, rfl⟩
theorem kz_1364 : Cond.selects RX10 yX10_follows yX10_follows ∈ z_gw := List.mem_filter.mpr ⟨z_sub_t6 56 rfl, rfl⟩
theorem kk_L_96 : ∀ w ∈ [Cond.methodLink RL 96 yX10_follows, .instanceMethod yX10_follows, .selects RX10 yX10_follows yX10_follows, .initialized RX10, z_code M_X10_follows], w ∈ z_gw := List.forall_mem_cons.mpr ⟨kz_1362, List.forall_mem_cons.mpr ⟨kz_1363, List.forall_mem_cons.mpr ⟨kz_1364, List.forall_mem_cons.mpr ⟨kz_109, List.forall_mem_cons.mpr ⟨kc_X10_follows, fun _ h => absurd h List.not_mem_nil⟩⟩⟩⟩⟩
theorem kz_1369 : Cond.methodLink RL 99 yX10_ahead ∈ z_gw := List.mem_filter.mpr ⟨z_sub_t6 61 rfl, rfl⟩
theorem kz_1370 : Cond.instanceMethod yX10_ahead ∈ z_gw := List.mem_filter.mpr ⟨z_sub_t6 62 rfl, rfl⟩
theorem kz_1371 : Cond.selects RX10 yX10_ahead yX10_ahead ∈ z_gw := List.mem_filter.mpr ⟨z_sub_t6 63 rfl, rfl⟩
theorem kk_L_99 : ∀ w ∈ [Cond.methodLink RL 99 yX10_ahead, .instanceMethod yX10_ahead, .selects RX10 yX10_ahead yX10_ahead, .initialized RX10, z_code M_X10_ahead], w ∈ z_gw := List.forall_mem_cons.mpr ⟨kz_1369, List.forall_mem_cons.mpr ⟨kz_1370, List.forall_mem_cons.mpr ⟨kz_1371, List.forall_mem_cons.mpr ⟨kz_109, List.forall_mem_cons.mpr ⟨kc_X10_ahead, fun _ h => absurd h List.not_mem_nil⟩⟩⟩⟩⟩
theorem kz_1381 : Cond.methodLink RL 102 yX10_ages ∈ z_gw := List.mem_filter.mpr ⟨z_sub_t6 73 rfl, rfl⟩
theorem kz_1382 : Cond.instanceMethod yX10_ages ∈ z_gw := List.mem_filter.mpr ⟨z_sub_t6 74 rfl, rfl⟩
theorem kz_1383 : Cond.selects RX10 yX10_ages yX10_ages ∈ z_gw := List.mem_filter.mpr ⟨z_sub_t6 75 rfl, rfl⟩
theorem kk_L_102 : ∀ w ∈ [Cond.methodLink RL 102 yX10_ages, .instanceMethod yX10_ages, .selects RX10 yX10_ages yX10_ages, .initialized RX10, z_code M_X10_ages], w ∈ z_gw := List.forall_mem_cons.mpr ⟨kz_1381, List.forall_mem_cons.mpr ⟨kz_1382, List.forall_mem_cons.mpr ⟨kz_1383, List.forall_mem_cons.mpr ⟨kz_109, List.forall_mem_cons.mpr ⟨kc_X10_ages, fun _ h => absurd h List.not_mem_nil⟩⟩⟩⟩⟩
theorem kz_1401 : Cond.methodLink RL 106 yX10_span ∈ z_gw := List.mem_filter.mpr ⟨z_sub_t6 93 rfl, rfl⟩
theorem kz_1402 : Cond.instanceMethod yX10_span ∈ z_gw := List.mem_filter.mpr ⟨z_sub_t6 94 rfl, rfl⟩
theorem kz_1403 : Cond.selects RX10 yX10_span yX10_span ∈ z_gw := List.mem_filter.mpr ⟨z_sub_t6 95 rfl, rfl⟩
theorem kk_L_106 : ∀ w ∈ [Cond.methodLink RL 106 yX10_span, .instanceMethod yX10_span, .selects RX10 yX10_span yX10_span, .initialized RX10, z_code M_X10_span], w ∈ z_gw := List.forall_mem_cons.mpr ⟨kz_1401, List.forall_mem_cons.mpr ⟨kz_1402, List.forall_mem_cons.mpr ⟨kz_1403, List.forall_mem_cons.mpr ⟨kz_109, List.forall_mem_cons.mpr ⟨kc_X10_span, fun _ h => absurd h List.not_mem_nil⟩⟩⟩⟩⟩
theorem kz_132 : Cond.classLink RL 8 RX10 ∈ z_gw := List.mem_filter.mpr ⟨z_sub_t1 24 rfl, rfl⟩
theorem kz_133 : Cond.instantiable RX10 15 ∈ z_gw := List.mem_filter.mpr ⟨z_sub_t1 25 rfl, rfl⟩
theorem kw_L_8 : ∀ w ∈ [Cond.classLink RL 8 RX10, .instantiable RX10 15, .initialized RX10], w ∈ z_gw := List.forall_mem_cons.mpr ⟨kz_132, List.forall_mem_cons.mpr ⟨kz_133, List.forall_mem_cons.mpr ⟨kz_109, fun _ h => absurd h List.not_mem_nil⟩⟩⟩
theorem kz_134 : Cond.methodLink RL 110 yX10_init ∈ z_gw := List.mem_filter.mpr ⟨z_sub_t1 26 rfl, rfl⟩
theorem kz_135 : Cond.instanceMethod yX10_init ∈ z_gw := List.mem_filter.mpr ⟨z_sub_t1 27 rfl, rfl⟩
theorem kk_L_110 : ∀ w ∈ [Cond.methodLink RL 110 yX10_init, .instanceMethod yX10_init, .initialized RX10, z_code M_X10_init], w ∈ z_gw := List.forall_mem_cons.mpr ⟨kz_134, List.forall_mem_cons.mpr ⟨kz_135, List.forall_mem_cons.mpr ⟨kz_109, List.forall_mem_cons.mpr ⟨kc_X10_init, fun _ h => absurd h List.not_mem_nil⟩⟩⟩⟩
theorem kz_1410 : Cond.classLink RL 111 RX11 ∈ z_gw := List.mem_filter.mpr ⟨z_sub_t6 102 rfl, rfl⟩
theorem kz_1411 : Cond.instantiable RX11 55 ∈ z_gw := List.mem_filter.mpr ⟨z_sub_t6 103 rfl, rfl⟩
theorem kw_L_111 : ∀ w ∈ [Cond.classLink RL 111 RX11, .instantiable RX11 55, .initialized RX11], w ∈ z_gw := List.forall_mem_cons.mpr ⟨kz_1410, List.forall_mem_cons.mpr ⟨kz_1411, List.forall_mem_cons.mpr ⟨kz_120, fun _ h => absurd h List.not_mem_nil⟩⟩⟩
theorem kz_1412 : Cond.methodLink RL 113 yX11_init ∈ z_gw := List.mem_filter.mpr ⟨z_sub_t6 104 rfl, rfl⟩
theorem kz_1413 : Cond.instanceMethod yX11_init ∈ z_gw := List.mem_filter.mpr ⟨z_sub_t6 105 rfl, rfl⟩
theorem kk_L_113 : ∀ w ∈ [Cond.methodLink RL 113 yX11_init, .instanceMethod yX11_init, .initialized RX11, z_code M_X11_init], w ∈ z_gw := List.forall_mem_cons.mpr ⟨kz_1412, List.forall_mem_cons.mpr ⟨kz_1413, List.forall_mem_cons.mpr ⟨kz_120, List.forall_mem_cons.mpr ⟨kc_X11_init, fun _ h => absurd h List.not_mem_nil⟩⟩⟩⟩
theorem kz_439 : Cond.methodLink RL 114 yX10_feed ∈ z_gw := List.mem_filter.mpr ⟨z_sub_t2 91 rfl, rfl⟩
theorem kz_440 : Cond.instanceMethod yX10_feed ∈ z_gw := List.mem_filter.mpr ⟨z_sub_t2 92 rfl, rfl⟩
theorem kz_441 : Cond.selects RX10 yX10_feed yX10_feed ∈ z_gw := List.mem_filter.mpr ⟨z_sub_t2 93 rfl, rfl⟩
theorem kk_L_114 : ∀ w ∈ [Cond.methodLink RL 114 yX10_feed, .instanceMethod yX10_feed, .selects RX10 yX10_feed yX10_feed, .initialized RX10, z_code M_X10_feed], w ∈ z_gw := List.forall_mem_cons.mpr ⟨kz_439, List.forall_mem_cons.mpr ⟨kz_440, List.forall_mem_cons.mpr ⟨kz_441, List.forall_mem_cons.mpr ⟨kz_109, List.forall_mem_cons.mpr ⟨kc_X10_feed, fun _ h => absurd h List.not_mem_nil⟩⟩⟩⟩⟩
theorem kz_1594 : Cond.methodLink RL 117 yX11_feed ∈ z_gw := List.mem_filter.mpr ⟨z_sub_t7 46 rfl, rfl⟩
theorem kz_1595 : Cond.instanceMethod yX11_feed ∈ z_gw := List.mem_filter.mpr ⟨z_sub_t7 47 rfl, rfl⟩
theorem kz_1596 : Cond.selects RX11 yX11_feed yX11_feed ∈ z_gw := List.mem_filter.mpr ⟨z_sub_t7 48 rfl, rfl⟩
theorem kk_L_117 : ∀ w ∈ [Cond.methodLink RL 117 yX11_feed, .instanceMethod yX11_feed, .selects RX11 yX11_feed yX11_feed, .initialized RX11, z_code M_X11_feed], w ∈ z_gw := List.forall_mem_cons.mpr ⟨kz_1594, List.forall_mem_cons.mpr ⟨kz_1595, List.forall_mem_cons.mpr ⟨kz_1596, List.forall_mem_cons.mpr ⟨kz_120, List.forall_mem_cons.mpr ⟨kc_X11_feed, fun _ h => absurd h List.not_mem_nil⟩⟩⟩⟩⟩
theorem kz_531 : Cond.methodLink RL 118 yL_city ∈ z_gw := List.mem_filter.mpr ⟨z_sub_t2 183 rfl, rfl⟩
theorem kz_532 : Cond.static yL_city ∈ z_gw := List.mem_filter.mpr ⟨z_sub_t2 184 rfl, rfl⟩
theorem kz_108 : Cond.initialized RL ∈ z_gw := List.mem_filter.mpr ⟨z_sub_t1 0 rfl, rfl⟩
theorem kk_L_118 : ∀ w ∈ [Cond.methodLink RL 118 yL_city, .static yL_city, .initialized RL, z_code M_L_city], w ∈ z_gw := List.forall_mem_cons.mpr ⟨kz_531, List.forall_mem_cons.mpr ⟨kz_532, List.forall_mem_cons.mpr ⟨kz_108, List.forall_mem_cons.mpr ⟨kc_L_city, fun _ h => absurd h List.not_mem_nil⟩⟩⟩⟩
theorem kz_1602 : Cond.methodLink RL 123 yX11_city ∈ z_gw := List.mem_filter.mpr ⟨z_sub_t7 54 rfl, rfl⟩
theorem kz_1603 : Cond.instanceMethod yX11_city ∈ z_gw := List.mem_filter.mpr ⟨z_sub_t7 55 rfl, rfl⟩
theorem kz_1604 : Cond.selects RX11 yX11_city yX11_city ∈ z_gw := List.mem_filter.mpr ⟨z_sub_t7 56 rfl, rfl⟩
theorem kk_L_123 : ∀ w ∈ [Cond.methodLink RL 123 yX11_city, .instanceMethod yX11_city, .selects RX11 yX11_city yX11_city, .initialized RX11, z_code M_X11_city], w ∈ z_gw := List.forall_mem_cons.mpr ⟨kz_1602, List.forall_mem_cons.mpr ⟨kz_1603, List.forall_mem_cons.mpr ⟨kz_1604, List.forall_mem_cons.mpr ⟨kz_120, List.forall_mem_cons.mpr ⟨kc_X11_city, fun _ h => absurd h List.not_mem_nil⟩⟩⟩⟩⟩
theorem kz_1406 : Cond.methodLink RL 124 yX11_thrown ∈ z_gw := List.mem_filter.mpr ⟨z_sub_t6 98 rfl, rfl⟩
theorem kz_1407 : Cond.instanceMethod yX11_thrown ∈ z_gw := List.mem_filter.mpr ⟨z_sub_t6 99 rfl, rfl⟩
theorem kz_1408 : Cond.selects RX11 yX11_thrown yX11_thrown ∈ z_gw := List.mem_filter.mpr ⟨z_sub_t6 100 rfl, rfl⟩
theorem kk_L_124 : ∀ w ∈ [Cond.methodLink RL 124 yX11_thrown, .instanceMethod yX11_thrown, .selects RX11 yX11_thrown yX11_thrown, .initialized RX11, z_code M_X11_thrown], w ∈ z_gw := List.forall_mem_cons.mpr ⟨kz_1406, List.forall_mem_cons.mpr ⟨kz_1407, List.forall_mem_cons.mpr ⟨kz_1408, List.forall_mem_cons.mpr ⟨kz_120, List.forall_mem_cons.mpr ⟨kc_X11_thrown, fun _ h => absurd h List.not_mem_nil⟩⟩⟩⟩⟩
theorem kz_755 : Cond.methodLink RL 128 yL_law ∈ z_gw := List.mem_filter.mpr ⟨z_sub_t3 167 rfl, rfl⟩
theorem kz_756 : Cond.static yL_law ∈ z_gw := List.mem_filter.mpr ⟨z_sub_t3 168 rfl, rfl⟩
theorem kk_L_128 : ∀ w ∈ [Cond.methodLink RL 128 yL_law, .static yL_law, .initialized RL, z_code M_L_law], w ∈ z_gw := List.forall_mem_cons.mpr ⟨kz_755, List.forall_mem_cons.mpr ⟨kz_756, List.forall_mem_cons.mpr ⟨kz_108, List.forall_mem_cons.mpr ⟨kc_L_law, fun _ h => absurd h List.not_mem_nil⟩⟩⟩⟩
theorem kz_1672 : Cond.methodLink RL 130 yX11_law ∈ z_gw := List.mem_filter.mpr ⟨z_sub_t7 124 rfl, rfl⟩
theorem kz_1673 : Cond.instanceMethod yX11_law ∈ z_gw := List.mem_filter.mpr ⟨z_sub_t7 125 rfl, rfl⟩
theorem kz_1674 : Cond.selects RX11 yX11_law yX11_law ∈ z_gw := List.mem_filter.mpr ⟨z_sub_t7 126 rfl, rfl⟩
theorem kk_L_130 : ∀ w ∈ [Cond.methodLink RL 130 yX11_law, .instanceMethod yX11_law, .selects RX11 yX11_law yX11_law, .initialized RX11, z_code M_X11_law], w ∈ z_gw := List.forall_mem_cons.mpr ⟨kz_1672, List.forall_mem_cons.mpr ⟨kz_1673, List.forall_mem_cons.mpr ⟨kz_1674, List.forall_mem_cons.mpr ⟨kz_120, List.forall_mem_cons.mpr ⟨kc_X11_law, fun _ h => absurd h List.not_mem_nil⟩⟩⟩⟩⟩
theorem kz_803 : Cond.methodLink RL 131 yL_work ∈ z_gw := List.mem_filter.mpr ⟨z_sub_t3 215 rfl, rfl⟩
theorem kz_804 : Cond.static yL_work ∈ z_gw := List.mem_filter.mpr ⟨z_sub_t3 216 rfl, rfl⟩
theorem kk_L_131 : ∀ w ∈ [Cond.methodLink RL 131 yL_work, .static yL_work, .initialized RL, z_code M_L_work], w ∈ z_gw := List.forall_mem_cons.mpr ⟨kz_803, List.forall_mem_cons.mpr ⟨kz_804, List.forall_mem_cons.mpr ⟨kz_108, List.forall_mem_cons.mpr ⟨kc_L_work, fun _ h => absurd h List.not_mem_nil⟩⟩⟩⟩
theorem kz_1715 : Cond.methodLink RL 133 yX11_work ∈ z_gw := List.mem_filter.mpr ⟨z_sub_t7 167 rfl, rfl⟩
theorem kz_1716 : Cond.instanceMethod yX11_work ∈ z_gw := List.mem_filter.mpr ⟨z_sub_t7 168 rfl, rfl⟩
theorem kz_1717 : Cond.selects RX11 yX11_work yX11_work ∈ z_gw := List.mem_filter.mpr ⟨z_sub_t7 169 rfl, rfl⟩
theorem kk_L_133 : ∀ w ∈ [Cond.methodLink RL 133 yX11_work, .instanceMethod yX11_work, .selects RX11 yX11_work yX11_work, .initialized RX11, z_code M_X11_work], w ∈ z_gw := List.forall_mem_cons.mpr ⟨kz_1715, List.forall_mem_cons.mpr ⟨kz_1716, List.forall_mem_cons.mpr ⟨kz_1717, List.forall_mem_cons.mpr ⟨kz_120, List.forall_mem_cons.mpr ⟨kc_X11_work, fun _ h => absurd h List.not_mem_nil⟩⟩⟩⟩⟩
theorem kz_927 : Cond.methodLink RL 134 yL_book ∈ z_gw := List.mem_filter.mpr ⟨z_sub_t4 99 rfl, rfl⟩
theorem kz_928 : Cond.static yL_book ∈ z_gw := List.mem_filter.mpr ⟨z_sub_t4 100 rfl, rfl⟩
theorem kk_L_134 : ∀ w ∈ [Cond.methodLink RL 134 yL_book, .static yL_book, .initialized RL, z_code M_L_book], w ∈ z_gw := List.forall_mem_cons.mpr ⟨kz_927, List.forall_mem_cons.mpr ⟨kz_928, List.forall_mem_cons.mpr ⟨kz_108, List.forall_mem_cons.mpr ⟨kc_L_book, fun _ h => absurd h List.not_mem_nil⟩⟩⟩⟩
theorem kz_1795 : Cond.methodLink RL 136 yX11_book ∈ z_gw := List.mem_filter.mpr ⟨z_sub_t8 7 rfl, rfl⟩
theorem kz_1796 : Cond.instanceMethod yX11_book ∈ z_gw := List.mem_filter.mpr ⟨z_sub_t8 8 rfl, rfl⟩
theorem kz_1797 : Cond.selects RX11 yX11_book yX11_book ∈ z_gw := List.mem_filter.mpr ⟨z_sub_t8 9 rfl, rfl⟩
theorem kk_L_136 : ∀ w ∈ [Cond.methodLink RL 136 yX11_book, .instanceMethod yX11_book, .selects RX11 yX11_book yX11_book, .initialized RX11, z_code M_X11_book], w ∈ z_gw := List.forall_mem_cons.mpr ⟨kz_1795, List.forall_mem_cons.mpr ⟨kz_1796, List.forall_mem_cons.mpr ⟨kz_1797, List.forall_mem_cons.mpr ⟨kz_120, List.forall_mem_cons.mpr ⟨kc_X11_book, fun _ h => absurd h List.not_mem_nil⟩⟩⟩⟩⟩
theorem kz_454 : Cond.methodLink RL 137 yX10_fault ∈ z_gw := List.mem_filter.mpr ⟨z_sub_t2 106 rfl, rfl⟩
theorem kz_455 : Cond.instanceMethod yX10_fault ∈ z_gw := List.mem_filter.mpr ⟨z_sub_t2 107 rfl, rfl⟩
theorem kz_456 : Cond.selects RX10 yX10_fault yX10_fault ∈ z_gw := List.mem_filter.mpr ⟨z_sub_t2 108 rfl, rfl⟩
theorem kk_L_137 : ∀ w ∈ [Cond.methodLink RL 137 yX10_fault, .instanceMethod yX10_fault, .selects RX10 yX10_fault yX10_fault, .initialized RX10, z_code M_X10_fault], w ∈ z_gw := List.forall_mem_cons.mpr ⟨kz_454, List.forall_mem_cons.mpr ⟨kz_455, List.forall_mem_cons.mpr ⟨kz_456, List.forall_mem_cons.mpr ⟨kz_109, List.forall_mem_cons.mpr ⟨kc_X10_fault, fun _ h => absurd h List.not_mem_nil⟩⟩⟩⟩⟩
theorem kz_1598 : Cond.methodLink RL 140 yX11_fault ∈ z_gw := List.mem_filter.mpr ⟨z_sub_t7 50 rfl, rfl⟩
theorem kz_1599 : Cond.instanceMethod yX11_fault ∈ z_gw := List.mem_filter.mpr ⟨z_sub_t7 51 rfl, rfl⟩
theorem kz_1600 : Cond.selects RX11 yX11_fault yX11_fault ∈ z_gw := List.mem_filter.mpr ⟨z_sub_t7 52 rfl, rfl⟩
theorem kk_L_140 : ∀ w ∈ [Cond.methodLink RL 140 yX11_fault, .instanceMethod yX11_fault, .selects RX11 yX11_fault yX11_fault, .initialized RX11, z_code M_X11_fault], w ∈ z_gw := List.forall_mem_cons.mpr ⟨kz_1598, List.forall_mem_cons.mpr ⟨kz_1599, List.forall_mem_cons.mpr ⟨kz_1600, List.forall_mem_cons.mpr ⟨kz_120, List.forall_mem_cons.mpr ⟨kc_X11_fault, fun _ h => absurd h List.not_mem_nil⟩⟩⟩⟩⟩
theorem kz_458 : Cond.methodLink RL 141 yX10_undo ∈ z_gw := List.mem_filter.mpr ⟨z_sub_t2 110 rfl, rfl⟩
theorem kz_459 : Cond.instanceMethod yX10_undo ∈ z_gw := List.mem_filter.mpr ⟨z_sub_t2 111 rfl, rfl⟩
theorem kz_460 : Cond.selects RX10 yX10_undo yX10_undo ∈ z_gw := List.mem_filter.mpr ⟨z_sub_t2 112 rfl, rfl⟩
theorem kk_L_141 : ∀ w ∈ [Cond.methodLink RL 141 yX10_undo, .instanceMethod yX10_undo, .selects RX10 yX10_undo yX10_undo, .initialized RX10, z_code M_X10_undo], w ∈ z_gw := List.forall_mem_cons.mpr ⟨kz_458, List.forall_mem_cons.mpr ⟨kz_459, List.forall_mem_cons.mpr ⟨kz_460, List.forall_mem_cons.mpr ⟨kz_109, List.forall_mem_cons.mpr ⟨kc_X10_undo, fun _ h => absurd h List.not_mem_nil⟩⟩⟩⟩⟩
theorem kz_1799 : Cond.methodLink RL 144 yX11_undo ∈ z_gw := List.mem_filter.mpr ⟨z_sub_t8 11 rfl, rfl⟩
theorem kz_1800 : Cond.instanceMethod yX11_undo ∈ z_gw := List.mem_filter.mpr ⟨z_sub_t8 12 rfl, rfl⟩
theorem kz_1801 : Cond.selects RX11 yX11_undo yX11_undo ∈ z_gw := List.mem_filter.mpr ⟨z_sub_t8 13 rfl, rfl⟩
theorem kk_L_144 : ∀ w ∈ [Cond.methodLink RL 144 yX11_undo, .instanceMethod yX11_undo, .selects RX11 yX11_undo yX11_undo, .initialized RX11, z_code M_X11_undo], w ∈ z_gw := List.forall_mem_cons.mpr ⟨kz_1799, List.forall_mem_cons.mpr ⟨kz_1800, List.forall_mem_cons.mpr ⟨kz_1801, List.forall_mem_cons.mpr ⟨kz_120, List.forall_mem_cons.mpr ⟨kc_X11_undo, fun _ h => absurd h List.not_mem_nil⟩⟩⟩⟩⟩
theorem kz_946 : Cond.methodLink RL 145 yL_told ∈ z_gw := List.mem_filter.mpr ⟨z_sub_t4 118 rfl, rfl⟩
theorem kz_947 : Cond.static yL_told ∈ z_gw := List.mem_filter.mpr ⟨z_sub_t4 119 rfl, rfl⟩
theorem kk_L_145 : ∀ w ∈ [Cond.methodLink RL 145 yL_told, .static yL_told, .initialized RL, z_code M_L_told], w ∈ z_gw := List.forall_mem_cons.mpr ⟨kz_946, List.forall_mem_cons.mpr ⟨kz_947, List.forall_mem_cons.mpr ⟨kz_108, List.forall_mem_cons.mpr ⟨kc_L_told, fun _ h => absurd h List.not_mem_nil⟩⟩⟩⟩
theorem kz_1803 : Cond.methodLink RL 147 yX11_told ∈ z_gw := List.mem_filter.mpr ⟨z_sub_t8 15 rfl, rfl⟩
theorem kz_1804 : Cond.instanceMethod yX11_told ∈ z_gw := List.mem_filter.mpr ⟨z_sub_t8 16 rfl, rfl⟩
theorem kz_1805 : Cond.selects RX11 yX11_told yX11_told ∈ z_gw := List.mem_filter.mpr ⟨z_sub_t8 17 rfl, rfl⟩
theorem kk_L_147 : ∀ w ∈ [Cond.methodLink RL 147 yX11_told, .instanceMethod yX11_told, .selects RX11 yX11_told yX11_told, .initialized RX11, z_code M_X11_told], w ∈ z_gw := List.forall_mem_cons.mpr ⟨kz_1803, List.forall_mem_cons.mpr ⟨kz_1804, List.forall_mem_cons.mpr ⟨kz_1805, List.forall_mem_cons.mpr ⟨kz_120, List.forall_mem_cons.mpr ⟨kc_X11_told, fun _ h => absurd h List.not_mem_nil⟩⟩⟩⟩⟩
theorem kz_1006 : Cond.methodLink RL 148 yL_street ∈ z_gw := List.mem_filter.mpr ⟨z_sub_t4 178 rfl, rfl⟩
theorem kz_1007 : Cond.static yL_street ∈ z_gw := List.mem_filter.mpr ⟨z_sub_t4 179 rfl, rfl⟩
theorem kk_L_148 : ∀ w ∈ [Cond.methodLink RL 148 yL_street, .static yL_street, .initialized RL, z_code M_L_street], w ∈ z_gw := List.forall_mem_cons.mpr ⟨kz_1006, List.forall_mem_cons.mpr ⟨kz_1007, List.forall_mem_cons.mpr ⟨kz_108, List.forall_mem_cons.mpr ⟨kc_L_street, fun _ h => absurd h List.not_mem_nil⟩⟩⟩⟩
theorem kz_1849 : Cond.methodLink RL 151 yX11_street ∈ z_gw := List.mem_filter.mpr ⟨z_sub_t8 61 rfl, rfl⟩
theorem kz_1850 : Cond.instanceMethod yX11_street ∈ z_gw := List.mem_filter.mpr ⟨z_sub_t8 62 rfl, rfl⟩
theorem kz_1851 : Cond.selects RX11 yX11_street yX11_street ∈ z_gw := List.mem_filter.mpr ⟨z_sub_t8 63 rfl, rfl⟩
theorem kk_L_151 : ∀ w ∈ [Cond.methodLink RL 151 yX11_street, .instanceMethod yX11_street, .selects RX11 yX11_street yX11_street, .initialized RX11, z_code M_X11_street], w ∈ z_gw := List.forall_mem_cons.mpr ⟨kz_1849, List.forall_mem_cons.mpr ⟨kz_1850, List.forall_mem_cons.mpr ⟨kz_1851, List.forall_mem_cons.mpr ⟨kz_120, List.forall_mem_cons.mpr ⟨kc_X11_street, fun _ h => absurd h List.not_mem_nil⟩⟩⟩⟩⟩
theorem kz_1047 : Cond.methodLink RL 152 yL_person ∈ z_gw := List.mem_filter.mpr ⟨z_sub_t4 219 rfl, rfl⟩
theorem kz_1048 : Cond.static yL_person ∈ z_gw := List.mem_filter.mpr ⟨z_sub_t4 220 rfl, rfl⟩
theorem kk_L_152 : ∀ w ∈ [Cond.methodLink RL 152 yL_person, .static yL_person, .initialized RL, z_code M_L_person], w ∈ z_gw := List.forall_mem_cons.mpr ⟨kz_1047, List.forall_mem_cons.mpr ⟨kz_1048, List.forall_mem_cons.mpr ⟨kz_108, List.forall_mem_cons.mpr ⟨kc_L_person, fun _ h => absurd h List.not_mem_nil⟩⟩⟩⟩
theorem kz_1857 : Cond.methodLink RL 154 yX11_person ∈ z_gw := List.mem_filter.mpr ⟨z_sub_t8 69 rfl, rfl⟩
theorem kz_1858 : Cond.instanceMethod yX11_person ∈ z_gw := List.mem_filter.mpr ⟨z_sub_t8 70 rfl, rfl⟩
theorem kz_1859 : Cond.selects RX11 yX11_person yX11_person ∈ z_gw := List.mem_filter.mpr ⟨z_sub_t8 71 rfl, rfl⟩
theorem kk_L_154 : ∀ w ∈ [Cond.methodLink RL 154 yX11_person, .instanceMethod yX11_person, .selects RX11 yX11_person yX11_person, .initialized RX11, z_code M_X11_person], w ∈ z_gw := List.forall_mem_cons.mpr ⟨kz_1857, List.forall_mem_cons.mpr ⟨kz_1858, List.forall_mem_cons.mpr ⟨kz_1859, List.forall_mem_cons.mpr ⟨kz_120, List.forall_mem_cons.mpr ⟨kc_X11_person, fun _ h => absurd h List.not_mem_nil⟩⟩⟩⟩⟩
theorem kz_1058 : Cond.methodLink RL 155 yL_stock ∈ z_gw := List.mem_filter.mpr ⟨z_sub_t4 230 rfl, rfl⟩
theorem kz_1059 : Cond.static yL_stock ∈ z_gw := List.mem_filter.mpr ⟨z_sub_t4 231 rfl, rfl⟩
theorem kk_L_155 : ∀ w ∈ [Cond.methodLink RL 155 yL_stock, .static yL_stock, .initialized RL, z_code M_L_stock], w ∈ z_gw := List.forall_mem_cons.mpr ⟨kz_1058, List.forall_mem_cons.mpr ⟨kz_1059, List.forall_mem_cons.mpr ⟨kz_108, List.forall_mem_cons.mpr ⟨kc_L_stock, fun _ h => absurd h List.not_mem_nil⟩⟩⟩⟩
theorem kz_1865 : Cond.methodLink RL 157 yX11_stock ∈ z_gw := List.mem_filter.mpr ⟨z_sub_t8 77 rfl, rfl⟩
theorem kz_1866 : Cond.instanceMethod yX11_stock ∈ z_gw := List.mem_filter.mpr ⟨z_sub_t8 78 rfl, rfl⟩
theorem kz_1867 : Cond.selects RX11 yX11_stock yX11_stock ∈ z_gw := List.mem_filter.mpr ⟨z_sub_t8 79 rfl, rfl⟩
theorem kk_L_157 : ∀ w ∈ [Cond.methodLink RL 157 yX11_stock, .instanceMethod yX11_stock, .selects RX11 yX11_stock yX11_stock, .initialized RX11, z_code M_X11_stock], w ∈ z_gw := List.forall_mem_cons.mpr ⟨kz_1865, List.forall_mem_cons.mpr ⟨kz_1866, List.forall_mem_cons.mpr ⟨kz_1867, List.forall_mem_cons.mpr ⟨kz_120, List.forall_mem_cons.mpr ⟨kc_X11_stock, fun _ h => absurd h List.not_mem_nil⟩⟩⟩⟩⟩
theorem kz_1069 : Cond.methodLink RL 158 yL_would ∈ z_gw := List.mem_filter.mpr ⟨z_sub_t5 1 rfl, rfl⟩
theorem kz_1070 : Cond.static yL_would ∈ z_gw := List.mem_filter.mpr ⟨z_sub_t5 2 rfl, rfl⟩
theorem kk_L_158 : ∀ w ∈ [Cond.methodLink RL 158 yL_would, .static yL_would, .initialized RL, z_code M_L_would], w ∈ z_gw := List.forall_mem_cons.mpr ⟨kz_1069, List.forall_mem_cons.mpr ⟨kz_1070, List.forall_mem_cons.mpr ⟨kz_108, List.forall_mem_cons.mpr ⟨kc_L_would, fun _ h => absurd h List.not_mem_nil⟩⟩⟩⟩
theorem kz_1872 : Cond.methodLink RL 161 yX11_would ∈ z_gw := List.mem_filter.mpr ⟨z_sub_t8 84 rfl, rfl⟩
theorem kz_1873 : Cond.instanceMethod yX11_would ∈ z_gw := List.mem_filter.mpr ⟨z_sub_t8 85 rfl, rfl⟩
theorem kz_1874 : Cond.selects RX11 yX11_would yX11_would ∈ z_gw := List.mem_filter.mpr ⟨z_sub_t8 86 rfl, rfl⟩
theorem kk_L_161 : ∀ w ∈ [Cond.methodLink RL 161 yX11_would, .instanceMethod yX11_would, .selects RX11 yX11_would yX11_would, .initialized RX11, z_code M_X11_would], w ∈ z_gw := List.forall_mem_cons.mpr ⟨kz_1872, List.forall_mem_cons.mpr ⟨kz_1873, List.forall_mem_cons.mpr ⟨kz_1874, List.forall_mem_cons.mpr ⟨kz_120, List.forall_mem_cons.mpr ⟨kc_X11_would, fun _ h => absurd h List.not_mem_nil⟩⟩⟩⟩⟩
theorem kz_1079 : Cond.methodLink RL 162 yL_distance ∈ z_gw := List.mem_filter.mpr ⟨z_sub_t5 11 rfl, rfl⟩
theorem kz_1080 : Cond.static yL_distance ∈ z_gw := List.mem_filter.mpr ⟨z_sub_t5 12 rfl, rfl⟩
theorem kk_L_162 : ∀ w ∈ [Cond.methodLink RL 162 yL_distance, .static yL_distance, .initialized RL, z_code M_L_distance], w ∈ z_gw := List.forall_mem_cons.mpr ⟨kz_1079, List.forall_mem_cons.mpr ⟨kz_1080, List.forall_mem_cons.mpr ⟨kz_108, List.forall_mem_cons.mpr ⟨kc_L_distance, fun _ h => absurd h List.not_mem_nil⟩⟩⟩⟩
theorem kz_1879 : Cond.methodLink RL 164 yX11_distance ∈ z_gw := List.mem_filter.mpr ⟨z_sub_t8 91 rfl, rfl⟩
theorem kz_1880 : Cond.instanceMethod yX11_distance ∈ z_gw := List.mem_filter.mpr ⟨z_sub_t8 92 rfl, rfl⟩
theorem kz_1881 : Cond.selects RX11 yX11_distance yX11_distance ∈ z_gw := List.mem_filter.mpr ⟨z_sub_t8 93 rfl, rfl⟩
theorem kk_L_164 : ∀ w ∈ [Cond.methodLink RL 164 yX11_distance, .instanceMethod yX11_distance, .selects RX11 yX11_distance yX11_distance, .initialized RX11, z_code M_X11_distance], w ∈ z_gw := List.forall_mem_cons.mpr ⟨kz_1879, List.forall_mem_cons.mpr ⟨kz_1880, List.forall_mem_cons.mpr ⟨kz_1881, List.forall_mem_cons.mpr ⟨kz_120, List.forall_mem_cons.mpr ⟨kc_X11_distance, fun _ h => absurd h List.not_mem_nil⟩⟩⟩⟩⟩
theorem kz_1087 : Cond.methodLink RL 165 yL_seems ∈ z_gw := List.mem_filter.mpr ⟨z_sub_t5 19 rfl, rfl⟩
theorem kz_1088 : Cond.static yL_seems ∈ z_gw := List.mem_filter.mpr ⟨z_sub_t5 20 rfl, rfl⟩
theorem kk_L_165 : ∀ w ∈ [Cond.methodLink RL 165 yL_seems, .static yL_seems, .initialized RL, z_code M_L_seems], w ∈ z_gw := List.forall_mem_cons.mpr ⟨kz_1087, List.forall_mem_cons.mpr ⟨kz_1088, List.forall_mem_cons.mpr ⟨kz_108, List.forall_mem_cons.mpr ⟨kc_L_seems, fun _ h => absurd h List.not_mem_nil⟩⟩⟩⟩
theorem kz_1883 : Cond.methodLink RL 167 yX11_seems ∈ z_gw := List.mem_filter.mpr ⟨z_sub_t8 95 rfl, rfl⟩
theorem kz_1884 : Cond.instanceMethod yX11_seems ∈ z_gw := List.mem_filter.mpr ⟨z_sub_t8 96 rfl, rfl⟩
theorem kz_1885 : Cond.selects RX11 yX11_seems yX11_seems ∈ z_gw := List.mem_filter.mpr ⟨z_sub_t8 97 rfl, rfl⟩
theorem kk_L_167 : ∀ w ∈ [Cond.methodLink RL 167 yX11_seems, .instanceMethod yX11_seems, .selects RX11 yX11_seems yX11_seems, .initialized RX11, z_code M_X11_seems], w ∈ z_gw := List.forall_mem_cons.mpr ⟨kz_1883, List.forall_mem_cons.mpr ⟨kz_1884, List.forall_mem_cons.mpr ⟨kz_1885, List.forall_mem_cons.mpr ⟨kz_120, List.forall_mem_cons.mpr ⟨kc_X11_seems, fun _ h => absurd h List.not_mem_nil⟩⟩⟩⟩⟩
theorem kz_1094 : Cond.methodLink RL 168 yL_dipped ∈ z_gw := List.mem_filter.mpr ⟨z_sub_t5 26 rfl, rfl⟩
theorem kz_1095 : Cond.static yL_dipped ∈ z_gw := List.mem_filter.mpr ⟨z_sub_t5 27 rfl, rfl⟩
theorem kk_L_168 : ∀ w ∈ [Cond.methodLink RL 168 yL_dipped, .static yL_dipped, .initialized RL, z_code M_L_dipped], w ∈ z_gw := List.forall_mem_cons.mpr ⟨kz_1094, List.forall_mem_cons.mpr ⟨kz_1095, List.forall_mem_cons.mpr ⟨kz_108, List.forall_mem_cons.mpr ⟨kc_L_dipped, fun _ h => absurd h List.not_mem_nil⟩⟩⟩⟩
theorem kz_1887 : Cond.methodLink RL 170 yX11_dipped ∈ z_gw := List.mem_filter.mpr ⟨z_sub_t8 99 rfl, rfl⟩
theorem kz_1888 : Cond.instanceMethod yX11_dipped ∈ z_gw := List.mem_filter.mpr ⟨z_sub_t8 100 rfl, rfl⟩
theorem kz_1889 : Cond.selects RX11 yX11_dipped yX11_dipped ∈ z_gw := List.mem_filter.mpr ⟨z_sub_t8 101 rfl, rfl⟩
theorem kk_L_170 : ∀ w ∈ [Cond.methodLink RL 170 yX11_dipped, .instanceMethod yX11_dipped, .selects RX11 yX11_dipped yX11_dipped, .initialized RX11, z_code M_X11_dipped], w ∈ z_gw := List.forall_mem_cons.mpr ⟨kz_1887, List.forall_mem_cons.mpr ⟨kz_1888, List.forall_mem_cons.mpr ⟨kz_1889, List.forall_mem_cons.mpr ⟨kz_120, List.forall_mem_cons.mpr ⟨kc_X11_dipped, fun _ h => absurd h List.not_mem_nil⟩⟩⟩⟩⟩
theorem kz_477 : Cond.methodLink RL 171 yX10_cousins ∈ z_gw := List.mem_filter.mpr ⟨z_sub_t2 129 rfl, rfl⟩
theorem kz_478 : Cond.instanceMethod yX10_cousins ∈ z_gw := List.mem_filter.mpr ⟨z_sub_t2 130 rfl, rfl⟩
theorem kz_479 : Cond.selects RX10 yX10_cousins yX10_cousins ∈ z_gw := List.mem_filter.mpr ⟨z_sub_t2 131 rfl, rfl⟩
theorem kk_L_171 : ∀ w ∈ [Cond.methodLink RL 171 yX10_cousins, .instanceMethod yX10_cousins, .selects RX10 yX10_cousins yX10_cousins, .initialized RX10, z_code M_X10_cousins], w ∈ z_gw := List.forall_mem_cons.mpr ⟨kz_477, List.forall_mem_cons.mpr ⟨kz_478, List.forall_mem_cons.mpr ⟨kz_479, List.forall_mem_cons.mpr ⟨kz_109, List.forall_mem_cons.mpr ⟨kc_X10_cousins, fun _ h => absurd h List.not_mem_nil⟩⟩⟩⟩⟩
theorem kz_1891 : Cond.methodLink RL 174 yX11_cousins ∈ z_gw := List.mem_filter.mpr ⟨z_sub_t8 103 rfl, rfl⟩
theorem kz_1892 : Cond.instanceMethod yX11_cousins ∈ z_gw := List.mem_filter.mpr ⟨z_sub_t8 104 rfl, rfl⟩
theorem kz_1893 : Cond.selects RX11 yX11_cousins yX11_cousins ∈ z_gw := List.mem_filter.mpr ⟨z_sub_t8 105 rfl, rfl⟩
theorem kk_L_174 : ∀ w ∈ [Cond.methodLink RL 174 yX11_cousins, .instanceMethod yX11_cousins, .selects RX11 yX11_cousins yX11_cousins, .initialized RX11, z_code M_X11_cousins], w ∈ z_gw := List.forall_mem_cons.mpr ⟨kz_1891, List.forall_mem_cons.mpr ⟨kz_1892, List.forall_mem_cons.mpr ⟨kz_1893, List.forall_mem_cons.mpr ⟨kz_120, List.forall_mem_cons.mpr ⟨kc_X11_cousins, fun _ h => absurd h List.not_mem_nil⟩⟩⟩⟩⟩
theorem kz_1102 : Cond.methodLink RL 175 yL_when ∈ z_gw := List.mem_filter.mpr ⟨z_sub_t5 34 rfl, rfl⟩
theorem kz_1103 : Cond.static yL_when ∈ z_gw := List.mem_filter.mpr ⟨z_sub_t5 35 rfl, rfl⟩
theorem kk_L_175 : ∀ w ∈ [Cond.methodLink RL 175 yL_when, .static yL_when, .initialized RL, z_code M_L_when], w ∈ z_gw := List.forall_mem_cons.mpr ⟨kz_1102, List.forall_mem_cons.mpr ⟨kz_1103, List.forall_mem_cons.mpr ⟨kz_108, List.forall_mem_cons.mpr ⟨kc_L_when, fun _ h => absurd h List.not_mem_nil⟩⟩⟩⟩
theorem kz_1895 : Cond.methodLink RL 177 yX11_when ∈ z_gw := List.mem_filter.mpr ⟨z_sub_t8 107 rfl, rfl⟩
theorem kz_1896 : Cond.instanceMethod yX11_when ∈ z_gw := List.mem_filter.mpr ⟨z_sub_t8 108 rfl, rfl⟩
theorem kz_1897 : Cond.selects RX11 yX11_when yX11_when ∈ z_gw := List.mem_filter.mpr ⟨z_sub_t8 109 rfl, rfl⟩
theorem kk_L_177 : ∀ w ∈ [Cond.methodLink RL 177 yX11_when, .instanceMethod yX11_when, .selects RX11 yX11_when yX11_when, .initialized RX11, z_code M_X11_when], w ∈ z_gw := List.forall_mem_cons.mpr ⟨kz_1895, List.forall_mem_cons.mpr ⟨kz_1896, List.forall_mem_cons.mpr ⟨kz_1897, List.forall_mem_cons.mpr ⟨kz_120, List.forall_mem_cons.mpr ⟨kc_X11_when, fun _ h => absurd h List.not_mem_nil⟩⟩⟩⟩⟩
theorem kz_1114 : Cond.methodLink RL 178 yL_sits ∈ z_gw := List.mem_filter.mpr ⟨z_sub_t5 46 rfl, rfl⟩
theorem kz_1115 : Cond.static yL_sits ∈ z_gw := List.mem_filter.mpr ⟨z_sub_t5 47 rfl, rfl⟩
theorem kk_L_178 : ∀ w ∈ [Cond.methodLink RL 178 yL_sits, .static yL_sits, .initialized RL, z_code M_L_sits], w ∈ z_gw := List.forall_mem_cons.mpr ⟨kz_1114, List.forall_mem_cons.mpr ⟨kz_1115, List.forall_mem_cons.mpr ⟨kz_108, List.forall_mem_cons.mpr ⟨kc_L_sits, fun _ h => absurd h List.not_mem_nil⟩⟩⟩⟩
theorem kz_1899 : Cond.methodLink RL 180 yX11_sits ∈ z_gw := List.mem_filter.mpr ⟨z_sub_t8 111 rfl, rfl⟩
theorem kz_1900 : Cond.instanceMethod yX11_sits ∈ z_gw := List.mem_filter.mpr ⟨z_sub_t8 112 rfl, rfl⟩
theorem kz_1901 : Cond.selects RX11 yX11_sits yX11_sits ∈ z_gw := List.mem_filter.mpr ⟨z_sub_t8 113 rfl, rfl⟩
theorem kk_L_180 : ∀ w ∈ [Cond.methodLink RL 180 yX11_sits, .instanceMethod yX11_sits, .selects RX11 yX11_sits yX11_sits, .initialized RX11, z_code M_X11_sits], w ∈ z_gw := List.forall_mem_cons.mpr ⟨kz_1899, List.forall_mem_cons.mpr ⟨kz_1900, List.forall_mem_cons.mpr ⟨kz_1901, List.forall_mem_cons.mpr ⟨kz_120, List.forall_mem_cons.mpr ⟨kc_X11_sits, fun _ h => absurd h List.not_mem_nil⟩⟩⟩⟩⟩
theorem kz_1121 : Cond.methodLink RL 181 yL_way ∈ z_gw := List.mem_filter.mpr ⟨z_sub_t5 53 rfl, rfl⟩
theorem kz_1122 : Cond.static yL_way ∈ z_gw := List.mem_filter.mpr ⟨z_sub_t5 54 rfl, rfl⟩
theorem kk_L_181 : ∀ w ∈ [Cond.methodLink RL 181 yL_way, .static yL_way, .initialized RL, z_code M_L_way], w ∈ z_gw := List.forall_mem_cons.mpr ⟨kz_1121, List.forall_mem_cons.mpr ⟨kz_1122, List.forall_mem_cons.mpr ⟨kz_108, List.forall_mem_cons.mpr ⟨kc_L_way, fun _ h => absurd h List.not_mem_nil⟩⟩⟩⟩
theorem kz_1903 : Cond.methodLink RL 183 yX11_way ∈ z_gw := List.mem_filter.mpr ⟨z_sub_t8 115 rfl, rfl⟩
theorem kz_1904 : Cond.instanceMethod yX11_way ∈ z_gw := List.mem_filter.mpr ⟨z_sub_t8 116 rfl, rfl⟩
theorem kz_1905 : Cond.selects RX11 yX11_way yX11_way ∈ z_gw := List.mem_filter.mpr ⟨z_sub_t8 117 rfl, rfl⟩
theorem kk_L_183 : ∀ w ∈ [Cond.methodLink RL 183 yX11_way, .instanceMethod yX11_way, .selects RX11 yX11_way yX11_way, .initialized RX11, z_code M_X11_way], w ∈ z_gw := List.forall_mem_cons.mpr ⟨kz_1903, List.forall_mem_cons.mpr ⟨kz_1904, List.forall_mem_cons.mpr ⟨kz_1905, List.forall_mem_cons.mpr ⟨kz_120, List.forall_mem_cons.mpr ⟨kc_X11_way, fun _ h => absurd h List.not_mem_nil⟩⟩⟩⟩⟩
theorem kz_1140 : Cond.methodLink RL 184 yL_step ∈ z_gw := List.mem_filter.mpr ⟨z_sub_t5 72 rfl, rfl⟩
theorem kz_1141 : Cond.static yL_step ∈ z_gw := List.mem_filter.mpr ⟨z_sub_t5 73 rfl, rfl⟩
theorem kk_L_184 : ∀ w ∈ [Cond.methodLink RL 184 yL_step, .static yL_step, .initialized RL, z_code M_L_step], w ∈ z_gw := List.forall_mem_cons.mpr ⟨kz_1140, List.forall_mem_cons.mpr ⟨kz_1141, List.forall_mem_cons.mpr ⟨kz_108, List.forall_mem_cons.mpr ⟨kc_L_step, fun _ h => absurd h List.not_mem_nil⟩⟩⟩⟩
theorem kz_1911 : Cond.methodLink RL 187 yX11_step ∈ z_gw := List.mem_filter.mpr ⟨z_sub_t8 123 rfl, rfl⟩
theorem kz_1912 : Cond.instanceMethod yX11_step ∈ z_gw := List.mem_filter.mpr ⟨z_sub_t8 124 rfl, rfl⟩
theorem kz_1913 : Cond.selects RX11 yX11_step yX11_step ∈ z_gw := List.mem_filter.mpr ⟨z_sub_t8 125 rfl, rfl⟩
theorem kk_L_187 : ∀ w ∈ [Cond.methodLink RL 187 yX11_step, .instanceMethod yX11_step, .selects RX11 yX11_step yX11_step, .initialized RX11, z_code M_X11_step], w ∈ z_gw := List.forall_mem_cons.mpr ⟨kz_1911, List.forall_mem_cons.mpr ⟨kz_1912, List.forall_mem_cons.mpr ⟨kz_1913, List.forall_mem_cons.mpr ⟨kz_120, List.forall_mem_cons.mpr ⟨kc_X11_step, fun _ h => absurd h List.not_mem_nil⟩⟩⟩⟩⟩
theorem kz_1156 : Cond.methodLink RL 188 yL_sums ∈ z_gw := List.mem_filter.mpr ⟨z_sub_t5 88 rfl, rfl⟩
theorem kz_1157 : Cond.static yL_sums ∈ z_gw := List.mem_filter.mpr ⟨z_sub_t5 89 rfl, rfl⟩
theorem kk_L_188 : ∀ w ∈ [Cond.methodLink RL 188 yL_sums, .static yL_sums, .initialized RL, z_code M_L_sums], w ∈ z_gw := List.forall_mem_cons.mpr ⟨kz_1156, List.forall_mem_cons.mpr ⟨kz_1157, List.forall_mem_cons.mpr ⟨kz_108, List.forall_mem_cons.mpr ⟨kc_L_sums, fun _ h => absurd h List.not_mem_nil⟩⟩⟩⟩
theorem kz_1915 : Cond.methodLink RL 190 yX11_sums ∈ z_gw := List.mem_filter.mpr ⟨z_sub_t8 127 rfl, rfl⟩
theorem kz_1916 : Cond.instanceMethod yX11_sums ∈ z_gw := List.mem_filter.mpr ⟨z_sub_t8 128 rfl, rfl⟩
theorem kz_1917 : Cond.selects RX11 yX11_sums yX11_sums ∈ z_gw := List.mem_filter.mpr ⟨z_sub_t8 129 rfl, rfl⟩
theorem kk_L_190 : ∀ w ∈ [Cond.methodLink RL 190 yX11_sums, .instanceMethod yX11_sums, .selects RX11 yX11_sums yX11_sums, .initialized RX11, z_code M_X11_sums], w ∈ z_gw := List.forall_mem_cons.mpr ⟨kz_1915, List.forall_mem_cons.mpr ⟨kz_1916, List.forall_mem_cons.mpr ⟨kz_1917, List.forall_mem_cons.mpr ⟨kz_120, List.forall_mem_cons.mpr ⟨kc_X11_sums, fun _ h => absurd h List.not_mem_nil⟩⟩⟩⟩⟩
theorem kz_1183 : Cond.methodLink RL 191 yL_tones ∈ z_gw := List.mem_filter.mpr ⟨z_sub_t5 115 rfl, rfl⟩
theorem kz_1184 : Cond.static yL_tones ∈ z_gw := List.mem_filter.mpr ⟨z_sub_t5 116 rfl, rfl⟩
theorem kk_L_191 : ∀ w ∈ [Cond.methodLink RL 191 yL_tones, .static yL_tones, .initialized RL, z_code M_L_tones], w ∈ z_gw := List.forall_mem_cons.mpr ⟨kz_1183, List.forall_mem_cons.mpr ⟨kz_1184, List.forall_mem_cons.mpr ⟨kz_108, List.forall_mem_cons.mpr ⟨kc_L_tones, fun _ h => absurd h List.not_mem_nil⟩⟩⟩⟩
theorem kz_1923 : Cond.methodLink RL 193 yX11_tones ∈ z_gw := List.mem_filter.mpr ⟨z_sub_t8 135 rfl, rfl⟩
theorem kz_1924 : Cond.instanceMethod yX11_tones ∈ z_gw := List.mem_filter.mpr ⟨z_sub_t8 136 rfl, rfl⟩
theorem kz_1925 : Cond.selects RX11 yX11_tones yX11_tones ∈ z_gw := List.mem_filter.mpr ⟨z_sub_t8 137 rfl, rfl⟩
theorem kk_L_193 : ∀ w ∈ [Cond.methodLink RL 193 yX11_tones, .instanceMethod yX11_tones, .selects RX11 yX11_tones yX11_tones, .initialized RX11, z_code M_X11_tones], w ∈ z_gw := List.forall_mem_cons.mpr ⟨kz_1923, List.forall_mem_cons.mpr ⟨kz_1924, List.forall_mem_cons.mpr ⟨kz_1925, List.forall_mem_cons.mpr ⟨kz_120, List.forall_mem_cons.mpr ⟨kc_X11_tones, fun _ h => absurd h List.not_mem_nil⟩⟩⟩⟩⟩
theorem kz_1194 : Cond.methodLink RL 194 yL_fits ∈ z_gw := List.mem_filter.mpr ⟨z_sub_t5 126 rfl, rfl⟩
theorem kz_1195 : Cond.static yL_fits ∈ z_gw := List.mem_filter.mpr ⟨z_sub_t5 127 rfl, rfl⟩
theorem kk_L_194 : ∀ w ∈ [Cond.methodLink RL 194 yL_fits, .static yL_fits, .initialized RL, z_code M_L_fits], w ∈ z_gw := List.forall_mem_cons.mpr ⟨kz_1194, List.forall_mem_cons.mpr ⟨kz_1195, List.forall_mem_cons.mpr ⟨kz_108, List.forall_mem_cons.mpr ⟨kc_L_fits, fun _ h => absurd h List.not_mem_nil⟩⟩⟩⟩
theorem kz_1927 : Cond.methodLink RL 196 yX11_fits ∈ z_gw := List.mem_filter.mpr ⟨z_sub_t8 139 rfl, rfl⟩
theorem kz_1928 : Cond.instanceMethod yX11_fits ∈ z_gw := List.mem_filter.mpr ⟨z_sub_t8 140 rfl, rfl⟩
theorem kz_1929 : Cond.selects RX11 yX11_fits yX11_fits ∈ z_gw := List.mem_filter.mpr ⟨z_sub_t8 141 rfl, rfl⟩
theorem kk_L_196 : ∀ w ∈ [Cond.methodLink RL 196 yX11_fits, .instanceMethod yX11_fits, .selects RX11 yX11_fits yX11_fits, .initialized RX11, z_code M_X11_fits], w ∈ z_gw := List.forall_mem_cons.mpr ⟨kz_1927, List.forall_mem_cons.mpr ⟨kz_1928, List.forall_mem_cons.mpr ⟨kz_1929, List.forall_mem_cons.mpr ⟨kz_120, List.forall_mem_cons.mpr ⟨kc_X11_fits, fun _ h => absurd h List.not_mem_nil⟩⟩⟩⟩⟩
theorem kz_1215 : Cond.methodLink RL 197 yL_look ∈ z_gw := List.mem_filter.mpr ⟨z_sub_t5 147 rfl, rfl⟩
theorem kz_1216 : Cond.static yL_look ∈ z_gw := List.mem_filter.mpr ⟨z_sub_t5 148 rfl, rfl⟩
theorem kk_L_197 : ∀ w ∈ [Cond.methodLink RL 197 yL_look, .static yL_look, .initialized RL, z_code M_L_look], w ∈ z_gw := List.forall_mem_cons.mpr ⟨kz_1215, List.forall_mem_cons.mpr ⟨kz_1216, List.forall_mem_cons.mpr ⟨kz_108, List.forall_mem_cons.mpr ⟨kc_L_look, fun _ h => absurd h List.not_mem_nil⟩⟩⟩⟩
theorem kz_1939 : Cond.methodLink RL 199 yX11_look ∈ z_gw := List.mem_filter.mpr ⟨z_sub_t8 151 rfl, rfl⟩
theorem kz_1940 : Cond.instanceMethod yX11_look ∈ z_gw := List.mem_filter.mpr ⟨z_sub_t8 152 rfl, rfl⟩
theorem kz_1941 : Cond.selects RX11 yX11_look yX11_look ∈ z_gw := List.mem_filter.mpr ⟨z_sub_t8 153 rfl, rfl⟩
theorem kk_L_199 : ∀ w ∈ [Cond.methodLink RL 199 yX11_look, .instanceMethod yX11_look, .selects RX11 yX11_look yX11_look, .initialized RX11, z_code M_X11_look], w ∈ z_gw := List.forall_mem_cons.mpr ⟨kz_1939, List.forall_mem_cons.mpr ⟨kz_1940, List.forall_mem_cons.mpr ⟨kz_1941, List.forall_mem_cons.mpr ⟨kz_120, List.forall_mem_cons.mpr ⟨kc_X11_look, fun _ h => absurd h List.not_mem_nil⟩⟩⟩⟩⟩
theorem kz_1235 : Cond.methodLink RL 200 yL_match ∈ z_gw := List.mem_filter.mpr ⟨z_sub_t5 167 rfl, rfl⟩
theorem kz_1236 : Cond.static yL_match ∈ z_gw := List.mem_filter.mpr ⟨z_sub_t5 168 rfl, rfl⟩
theorem kk_L_200 : ∀ w ∈ [Cond.methodLink RL 200 yL_match, .static yL_match, .initialized RL, z_code M_L_match], w ∈ z_gw := List.forall_mem_cons.mpr ⟨kz_1235, List.forall_mem_cons.mpr ⟨kz_1236, List.forall_mem_cons.mpr ⟨kz_108, List.forall_mem_cons.mpr ⟨kc_L_match, fun _ h => absurd h List.not_mem_nil⟩⟩⟩⟩
theorem kz_1947 : Cond.methodLink RL 202 yX11_match ∈ z_gw := List.mem_filter.mpr ⟨z_sub_t8 159 rfl, rfl⟩
theorem kz_1948 : Cond.instanceMethod yX11_match ∈ z_gw := List.mem_filter.mpr ⟨z_sub_t8 160 rfl, rfl⟩
theorem kz_1949 : Cond.selects RX11 yX11_match yX11_match ∈ z_gw := List.mem_filter.mpr ⟨z_sub_t8 161 rfl, rfl⟩
theorem kk_L_202 : ∀ w ∈ [Cond.methodLink RL 202 yX11_match, .instanceMethod yX11_match, .selects RX11 yX11_match yX11_match, .initialized RX11, z_code M_X11_match], w ∈ z_gw := List.forall_mem_cons.mpr ⟨kz_1947, List.forall_mem_cons.mpr ⟨kz_1948, List.forall_mem_cons.mpr ⟨kz_1949, List.forall_mem_cons.mpr ⟨kz_120, List.forall_mem_cons.mpr ⟨kc_X11_match, fun _ h => absurd h List.not_mem_nil⟩⟩⟩⟩⟩
theorem kz_1290 : Cond.methodLink RL 203 yL_bride ∈ z_gw := List.mem_filter.mpr ⟨z_sub_t5 222 rfl, rfl⟩
theorem kz_1291 : Cond.static yL_bride ∈ z_gw := List.mem_filter.mpr ⟨z_sub_t5 223 rfl, rfl⟩
theorem kk_L_203 : ∀ w ∈ [Cond.methodLink RL 203 yL_bride, .static yL_bride, .initialized RL, z_code M_L_bride], w ∈ z_gw := List.forall_mem_cons.mpr ⟨kz_1290, List.forall_mem_cons.mpr ⟨kz_1291, List.forall_mem_cons.mpr ⟨kz_108, List.forall_mem_cons.mpr ⟨kc_L_bride, fun _ h => absurd h List.not_mem_nil⟩⟩⟩⟩
theorem kz_1966 : Cond.methodLink RL 205 yX11_bride ∈ z_gw := List.mem_filter.mpr ⟨z_sub_t8 178 rfl, rfl⟩
theorem kz_1967 : Cond.instanceMethod yX11_bride ∈ z_gw := List.mem_filter.mpr ⟨z_sub_t8 179 rfl, rfl⟩
theorem kz_1968 : Cond.selects RX11 yX11_bride yX11_bride ∈ z_gw := List.mem_filter.mpr ⟨z_sub_t8 180 rfl, rfl⟩
theorem kk_L_205 : ∀ w ∈ [Cond.methodLink RL 205 yX11_bride, .instanceMethod yX11_bride, .selects RX11 yX11_bride yX11_bride, .initialized RX11, z_code M_X11_bride], w ∈ z_gw := List.forall_mem_cons.mpr ⟨kz_1966, List.forall_mem_cons.mpr ⟨kz_1967, List.forall_mem_cons.mpr ⟨kz_1968, List.forall_mem_cons.mpr ⟨kz_120, List.forall_mem_cons.mpr ⟨kc_X11_bride, fun _ h => absurd h List.not_mem_nil⟩⟩⟩⟩⟩
theorem kz_1298 : Cond.methodLink RL 206 yL_enough ∈ z_gw := List.mem_filter.mpr ⟨z_sub_t5 230 rfl, rfl⟩
theorem kz_1299 : Cond.static yL_enough ∈ z_gw := List.mem_filter.mpr ⟨z_sub_t5 231 rfl, rfl⟩
theorem kk_L_206 : ∀ w ∈ [Cond.methodLink RL 206 yL_enough, .static yL_enough, .initialized RL, z_code M_L_enough], w ∈ z_gw := List.forall_mem_cons.mpr ⟨kz_1298, List.forall_mem_cons.mpr ⟨kz_1299, List.forall_mem_cons.mpr ⟨kz_108, List.forall_mem_cons.mpr ⟨kc_L_enough, fun _ h => absurd h List.not_mem_nil⟩⟩⟩⟩
theorem kz_1970 : Cond.methodLink RL 208 yX11_enough ∈ z_gw := List.mem_filter.mpr ⟨z_sub_t8 182 rfl, rfl⟩
theorem kz_1971 : Cond.instanceMethod yX11_enough ∈ z_gw := List.mem_filter.mpr ⟨z_sub_t8 183 rfl, rfl⟩
theorem kz_1972 : Cond.selects RX11 yX11_enough yX11_enough ∈ z_gw := List.mem_filter.mpr ⟨z_sub_t8 184 rfl, rfl⟩
theorem kk_L_208 : ∀ w ∈ [Cond.methodLink RL 208 yX11_enough, .instanceMethod yX11_enough, .selects RX11 yX11_enough yX11_enough, .initialized RX11, z_code M_X11_enough], w ∈ z_gw := List.forall_mem_cons.mpr ⟨kz_1970, List.forall_mem_cons.mpr ⟨kz_1971, List.forall_mem_cons.mpr ⟨kz_1972, List.forall_mem_cons.mpr ⟨kz_120, List.forall_mem_cons.mpr ⟨kc_X11_enough, fun _ h => absurd h List.not_mem_nil⟩⟩⟩⟩⟩
theorem kz_1309 : Cond.methodLink RL 209 yL_level ∈ z_gw := List.mem_filter.mpr ⟨z_sub_t6 1 rfl, rfl⟩
theorem kz_1310 : Cond.static yL_level ∈ z_gw := List.mem_filter.mpr ⟨z_sub_t6 2 rfl, rfl⟩
theorem kk_L_209 : ∀ w ∈ [Cond.methodLink RL 209 yL_level, .static yL_level, .initialized RL, z_code M_L_level], w ∈ z_gw := List.forall_mem_cons.mpr ⟨kz_1309, List.forall_mem_cons.mpr ⟨kz_1310, List.forall_mem_cons.mpr ⟨kz_108, List.forall_mem_cons.mpr ⟨kc_L_level, fun _ h => absurd h List.not_mem_nil⟩⟩⟩⟩
theorem kz_1978 : Cond.methodLink RL 211 yX11_level ∈ z_gw := List.mem_filter.mpr ⟨z_sub_t8 190 rfl, rfl⟩
theorem kz_1979 : Cond.instanceMethod yX11_level ∈ z_gw := List.mem_filter.mpr ⟨z_sub_t8 191 rfl, rfl⟩
theorem kz_1980 : Cond.selects RX11 yX11_level yX11_level ∈ z_gw := List.mem_filter.mpr ⟨z_sub_t8 192 rfl, rfl⟩
theorem kk_L_211 : ∀ w ∈ [Cond.methodLink RL 211 yX11_level, .instanceMethod yX11_level, .selects RX11 yX11_level yX11_level, .initialized RX11, z_code M_X11_level], w ∈ z_gw := List.forall_mem_cons.mpr ⟨kz_1978, List.forall_mem_cons.mpr ⟨kz_1979, List.forall_mem_cons.mpr ⟨kz_1980, List.forall_mem_cons.mpr ⟨kz_120, List.forall_mem_cons.mpr ⟨kc_X11_level, fun _ h => absurd h List.not_mem_nil⟩⟩⟩⟩⟩
theorem kz_1316 : Cond.methodLink RL 212 yL_night ∈ z_gw := List.mem_filter.mpr ⟨z_sub_t6 8 rfl, rfl⟩
theorem kz_1317 : Cond.static yL_night ∈ z_gw := List.mem_filter.mpr ⟨z_sub_t6 9 rfl, rfl⟩
theorem kk_L_212 : ∀ w ∈ [Cond.methodLink RL 212 yL_night, .static yL_night, .initialized RL, z_code M_L_night], w ∈ z_gw := List.forall_mem_cons.mpr ⟨kz_1316, List.forall_mem_cons.mpr ⟨kz_1317, List.forall_mem_cons.mpr ⟨kz_108, List.forall_mem_cons.mpr ⟨kc_L_night, fun _ h => absurd h List.not_mem_nil⟩⟩⟩⟩
theorem kz_1982 : Cond.methodLink RL 214 yX11_night ∈ z_gw := List.mem_filter.mpr ⟨z_sub_t8 194 rfl, rfl⟩
theorem kz_1983 : Cond.instanceMethod yX11_night ∈ z_gw := List.mem_filter.mpr ⟨z_sub_t8 195 rfl, rfl⟩
theorem kz_1984 : Cond.selects RX11 yX11_night yX11_night ∈ z_gw := List.mem_filter.mpr ⟨z_sub_t8 196 rfl, rfl⟩
theorem kk_L_214 : ∀ w ∈ [Cond.methodLink RL 214 yX11_night, .instanceMethod yX11_night, .selects RX11 yX11_night yX11_night, .initialized RX11, z_code M_X11_night], w ∈ z_gw := List.forall_mem_cons.mpr ⟨kz_1982, List.forall_mem_cons.mpr ⟨kz_1983, List.forall_mem_cons.mpr ⟨kz_1984, List.forall_mem_cons.mpr ⟨kz_120, List.forall_mem_cons.mpr ⟨kc_X11_night, fun _ h => absurd h List.not_mem_nil⟩⟩⟩⟩⟩
theorem kz_1336 : Cond.methodLink RL 215 yL_guilds ∈ z_gw := List.mem_filter.mpr ⟨z_sub_t6 28 rfl, rfl⟩
theorem kz_1337 : Cond.static yL_guilds ∈ z_gw := List.mem_filter.mpr ⟨z_sub_t6 29 rfl, rfl⟩
theorem kk_L_215 : ∀ w ∈ [Cond.methodLink RL 215 yL_guilds, .static yL_guilds, .initialized RL, z_code M_L_guilds], w ∈ z_gw := List.forall_mem_cons.mpr ⟨kz_1336, List.forall_mem_cons.mpr ⟨kz_1337, List.forall_mem_cons.mpr ⟨kz_108, List.forall_mem_cons.mpr ⟨kc_L_guilds, fun _ h => absurd h List.not_mem_nil⟩⟩⟩⟩
theorem kz_1990 : Cond.methodLink RL 217 yX11_guilds ∈ z_gw := List.mem_filter.mpr ⟨z_sub_t8 202 rfl, rfl⟩
theorem kz_1991 : Cond.instanceMethod yX11_guilds ∈ z_gw := List.mem_filter.mpr ⟨z_sub_t8 203 rfl, rfl⟩
theorem kz_1992 : Cond.selects RX11 yX11_guilds yX11_guilds ∈ z_gw := List.mem_filter.mpr ⟨z_sub_t8 204 rfl, rfl⟩
theorem kk_L_217 : ∀ w ∈ [Cond.methodLink RL 217 yX11_guilds, .instanceMethod yX11_guilds, .selects RX11 yX11_guilds yX11_guilds, .initialized RX11, z_code M_X11_guilds], w ∈ z_gw := List.forall_mem_cons.mpr ⟨kz_1990, List.forall_mem_cons.mpr ⟨kz_1991, List.forall_mem_cons.mpr ⟨kz_1992, List.forall_mem_cons.mpr ⟨kz_120, List.forall_mem_cons.mpr ⟨kc_X11_guilds, fun _ h => absurd h List.not_mem_nil⟩⟩⟩⟩⟩
theorem kz_1359 : Cond.methodLink RL 218 yL_follows ∈ z_gw := List.mem_filter.mpr ⟨z_sub_t6 51 rfl, rfl⟩
theorem kz_1360 : Cond.static yL_follows ∈ z_gw := List.mem_filter.mpr ⟨z_sub_t6 52 rfl, rfl⟩
theorem kk_L_218 : ∀ w ∈ [Cond.methodLink RL 218 yL_follows, .static yL_follows, .initialized RL, z_code M_L_follows], w ∈ z_gw := List.forall_mem_cons.mpr ⟨kz_1359, List.forall_mem_cons.mpr ⟨kz_1360, List.forall_mem_cons.mpr ⟨kz_108, List.forall_mem_cons.mpr ⟨kc_L_follows, fun _ h => absurd h List.not_mem_nil⟩⟩⟩⟩
theorem kz_2002 : Cond.methodLink RL 220 yX11_follows ∈ z_gw := List.mem_filter.mpr ⟨z_sub_t8 214 rfl, rfl⟩
theorem kz_2003 : Cond.instanceMethod yX11_follows ∈ z_gw := List.mem_filter.mpr ⟨z_sub_t8 215 rfl, rfl⟩
theorem kz_2004 : Cond.selects RX11 yX11_follows yX11_follows ∈ z_gw := List.mem_filter.mpr ⟨z_sub_t8 216 rfl, rfl⟩
theorem kk_L_220 : ∀ w ∈ [Cond.methodLink RL 220 yX11_follows, .instanceMethod yX11_follows, .selects RX11 yX11_follows yX11_follows, .initialized RX11, z_code M_X11_follows], w ∈ z_gw := List.forall_mem_cons.mpr ⟨kz_2002, List.forall_mem_cons.mpr ⟨kz_2003, List.forall_mem_cons.mpr ⟨kz_2004, List.forall_mem_cons.mpr ⟨kz_120, List.forall_mem_cons.mpr ⟨kc_X11_follows, fun _ h => absurd h List.not_mem_nil⟩⟩⟩⟩⟩
theorem kz_1366 : Cond.methodLink RL 221 yL_ahead ∈ z_gw := List.mem_filter.mpr ⟨z_sub_t6 58 rfl, rfl⟩
theorem kz_1367 : Cond.static yL_ahead ∈ z_gw := List.mem_filter.mpr ⟨z_sub_t6 59 rfl, rfl⟩
theorem kk_L_221 : ∀ w ∈ [Cond.methodLink RL 221 yL_ahead, .static yL_ahead, .initialized RL, z_code M_L_ahead], w ∈ z_gw := List.forall_mem_cons.mpr ⟨kz_1366, List.forall_mem_cons.mpr ⟨kz_1367, List.forall_mem_cons.mpr ⟨kz_108, List.forall_mem_cons.mpr ⟨kc_L_ahead, fun _ h => absurd h List.not_mem_nil⟩⟩⟩⟩
theorem kz_2006 : Cond.methodLink RL 223 yX11_ahead ∈ z_gw := List.mem_filter.mpr ⟨z_sub_t8 218 rfl, rfl⟩
theorem kz_2007 : Cond.instanceMethod yX11_ahead ∈ z_gw := List.mem_filter.mpr ⟨z_sub_t8 219 rfl, rfl⟩
theorem kz_2008 : Cond.selects RX11 yX11_ahead yX11_ahead ∈ z_gw := List.mem_filter.mpr ⟨z_sub_t8 220 rfl, rfl⟩
theorem kk_L_223 : ∀ w ∈ [Cond.methodLink RL 223 yX11_ahead, .instanceMethod yX11_ahead, .selects RX11 yX11_ahead yX11_ahead, .initialized RX11, z_code M_X11_ahead], w ∈ z_gw := List.forall_mem_cons.mpr ⟨kz_2006, List.forall_mem_cons.mpr ⟨kz_2007, List.forall_mem_cons.mpr ⟨kz_2008, List.forall_mem_cons.mpr ⟨kz_120, List.forall_mem_cons.mpr ⟨kc_X11_ahead, fun _ h => absurd h List.not_mem_nil⟩⟩⟩⟩⟩
theorem kz_1378 : Cond.methodLink RL 224 yL_ages ∈ z_gw := List.mem_filter.mpr ⟨z_sub_t6 70 rfl, rfl⟩
theorem kz_1379 : Cond.static yL_ages ∈ z_gw := List.mem_filter.mpr ⟨z_sub_t6 71 rfl, rfl⟩
theorem kk_L_224 : ∀ w ∈ [Cond.methodLink RL 224 yL_ages, .static yL_ages, .initialized RL, z_code M_L_ages], w ∈ z_gw := List.forall_mem_cons.mpr ⟨kz_1378, List.forall_mem_cons.mpr ⟨kz_1379, List.forall_mem_cons.mpr ⟨kz_108, List.forall_mem_cons.mpr ⟨kc_L_ages, fun _ h => absurd h List.not_mem_nil⟩⟩⟩⟩
theorem kz_2010 : Cond.methodLink RL 227 yX11_ages ∈ z_gw := List.mem_filter.mpr ⟨z_sub_t8 222 rfl, rfl⟩
theorem kz_2011 : Cond.instanceMethod yX11_ages ∈ z_gw := List.mem_filter.mpr ⟨z_sub_t8 223 rfl, rfl⟩
theorem kz_2012 : Cond.selects RX11 yX11_ages yX11_ages ∈ z_gw := List.mem_filter.mpr ⟨z_sub_t8 224 rfl, rfl⟩
theorem kk_L_227 : ∀ w ∈ [Cond.methodLink RL 227 yX11_ages, .instanceMethod yX11_ages, .selects RX11 yX11_ages yX11_ages, .initialized RX11, z_code M_X11_ages], w ∈ z_gw := List.forall_mem_cons.mpr ⟨kz_2010, List.forall_mem_cons.mpr ⟨kz_2011, List.forall_mem_cons.mpr ⟨kz_2012, List.forall_mem_cons.mpr ⟨kz_120, List.forall_mem_cons.mpr ⟨kc_X11_ages, fun _ h => absurd h List.not_mem_nil⟩⟩⟩⟩⟩
theorem kz_1398 : Cond.methodLink RL 228 yL_span ∈ z_gw := List.mem_filter.mpr ⟨z_sub_t6 90 rfl, rfl⟩
theorem kz_1399 : Cond.static yL_span ∈ z_gw := List.mem_filter.mpr ⟨z_sub_t6 91 rfl, rfl⟩
theorem kk_L_228 : ∀ w ∈ [Cond.methodLink RL 228 yL_span, .static yL_span, .initialized RL, z_code M_L_span], w ∈ z_gw := List.forall_mem_cons.mpr ⟨kz_1398, List.forall_mem_cons.mpr ⟨kz_1399, List.forall_mem_cons.mpr ⟨kz_108, List.forall_mem_cons.mpr ⟨kc_L_span, fun _ h => absurd h List.not_mem_nil⟩⟩⟩⟩
theorem kz_2026 : Cond.methodLink RL 231 yX11_span ∈ z_gw := List.mem_filter.mpr ⟨z_sub_t8 238 rfl, rfl⟩
theorem kz_2027 : Cond.instanceMethod yX11_span ∈ z_gw := List.mem_filter.mpr ⟨z_sub_t8 239 rfl, rfl⟩
theorem kz_2028 : Cond.selects RX11 yX11_span yX11_span ∈ z_gw := List.mem_filter.mpr ⟨z_sub_t9 0 rfl, rfl⟩
theorem kk_L_231 : ∀ w ∈ [Cond.methodLink RL 231 yX11_span, .instanceMethod yX11_span, .selects RX11 yX11_span yX11_span, .initialized RX11, z_code M_X11_span], w ∈ z_gw := List.forall_mem_cons.mpr ⟨kz_2026, List.forall_mem_cons.mpr ⟨kz_2027, List.forall_mem_cons.mpr ⟨kz_2028, List.forall_mem_cons.mpr ⟨kz_120, List.forall_mem_cons.mpr ⟨kc_X11_span, fun _ h => absurd h List.not_mem_nil⟩⟩⟩⟩⟩
theorem kz_500 : Cond.methodLink RL 232 yX10_image ∈ z_gw := List.mem_filter.mpr ⟨z_sub_t2 152 rfl, rfl⟩
theorem kz_501 : Cond.instanceMethod yX10_image ∈ z_gw := List.mem_filter.mpr ⟨z_sub_t2 153 rfl, rfl⟩
theorem kz_502 : Cond.selects RX10 yX10_image yX10_image ∈ z_gw := List.mem_filter.mpr ⟨z_sub_t2 154 rfl, rfl⟩
theorem kk_L_232 : ∀ w ∈ [Cond.methodLink RL 232 yX10_image, .instanceMethod yX10_image, .selects RX10 yX10_image yX10_image, .initialized RX10, z_code M_X10_image], w ∈ z_gw := List.forall_mem_cons.mpr ⟨kz_500, List.forall_mem_cons.mpr ⟨kz_501, List.forall_mem_cons.mpr ⟨kz_502, List.forall_mem_cons.mpr ⟨kz_109, List.forall_mem_cons.mpr ⟨kc_X10_image, fun _ h => absurd h List.not_mem_nil⟩⟩⟩⟩⟩
theorem kz_2030 : Cond.methodLink RL 235 yX11_image ∈ z_gw := List.mem_filter.mpr ⟨z_sub_t9 2 rfl, rfl⟩
theorem kz_2031 : Cond.instanceMethod yX11_image ∈ z_gw := List.mem_filter.mpr ⟨z_sub_t9 3 rfl, rfl⟩
theorem kz_2032 : Cond.selects RX11 yX11_image yX11_image ∈ z_gw := List.mem_filter.mpr ⟨z_sub_t9 4 rfl, rfl⟩
theorem kk_L_235 : ∀ w ∈ [Cond.methodLink RL 235 yX11_image, .instanceMethod yX11_image, .selects RX11 yX11_image yX11_image, .initialized RX11, z_code M_X11_image], w ∈ z_gw := List.forall_mem_cons.mpr ⟨kz_2030, List.forall_mem_cons.mpr ⟨kz_2031, List.forall_mem_cons.mpr ⟨kz_2032, List.forall_mem_cons.mpr ⟨kz_120, List.forall_mem_cons.mpr ⟨kc_X11_image, fun _ h => absurd h List.not_mem_nil⟩⟩⟩⟩⟩
theorem kz_514 : Cond.methodLink RL 236 yX10_restore ∈ z_gw := List.mem_filter.mpr ⟨z_sub_t2 166 rfl, rfl⟩
theorem kz_515 : Cond.instanceMethod yX10_restore ∈ z_gw := List.mem_filter.mpr ⟨z_sub_t2 167 rfl, rfl⟩
theorem kz_516 : Cond.selects RX10 yX10_restore yX10_restore ∈ z_gw := List.mem_filter.mpr ⟨z_sub_t2 168 rfl, rfl⟩
theorem kk_L_236 : ∀ w ∈ [Cond.methodLink RL 236 yX10_restore, .instanceMethod yX10_restore, .selects RX10 yX10_restore yX10_restore, .initialized RX10, z_code M_X10_restore], w ∈ z_gw := List.forall_mem_cons.mpr ⟨kz_514, List.forall_mem_cons.mpr ⟨kz_515, List.forall_mem_cons.mpr ⟨kz_516, List.forall_mem_cons.mpr ⟨kz_109, List.forall_mem_cons.mpr ⟨kc_X10_restore, fun _ h => absurd h List.not_mem_nil⟩⟩⟩⟩⟩
theorem kz_2042 : Cond.methodLink RL 239 yX11_restore ∈ z_gw := List.mem_filter.mpr ⟨z_sub_t9 14 rfl, rfl⟩
theorem kz_2043 : Cond.instanceMethod yX11_restore ∈ z_gw := List.mem_filter.mpr ⟨z_sub_t9 15 rfl, rfl⟩
theorem kz_2044 : Cond.selects RX11 yX11_restore yX11_restore ∈ z_gw := List.mem_filter.mpr ⟨z_sub_t9 16 rfl, rfl⟩
theorem kk_L_239 : ∀ w ∈ [Cond.methodLink RL 239 yX11_restore, .instanceMethod yX11_restore, .selects RX11 yX11_restore yX11_restore, .initialized RX11, z_code M_X11_restore], w ∈ z_gw := List.forall_mem_cons.mpr ⟨kz_2042, List.forall_mem_cons.mpr ⟨kz_2043, List.forall_mem_cons.mpr ⟨kz_2044, List.forall_mem_cons.mpr ⟨kz_120, List.forall_mem_cons.mpr ⟨kc_X11_restore, fun _ h => absurd h List.not_mem_nil⟩⟩⟩⟩⟩
theorem kz_523 : Cond.methodLink RL 240 yX10_status ∈ z_gw := List.mem_filter.mpr ⟨z_sub_t2 175 rfl, rfl⟩
theorem kz_524 : Cond.instanceMethod yX10_status ∈ z_gw := List.mem_filter.mpr ⟨z_sub_t2 176 rfl, rfl⟩
theorem kz_525 : Cond.selects RX10 yX10_status yX10_status ∈ z_gw := List.mem_filter.mpr ⟨z_sub_t2 177 rfl, rfl⟩
theorem kk_L_240 : ∀ w ∈ [Cond.methodLink RL 240 yX10_status, .instanceMethod yX10_status, .selects RX10 yX10_status yX10_status, .initialized RX10, z_code M_X10_status], w ∈ z_gw := List.forall_mem_cons.mpr ⟨kz_523, List.forall_mem_cons.mpr ⟨kz_524, List.forall_mem_cons.mpr ⟨kz_525, List.forall_mem_cons.mpr ⟨kz_109, List.forall_mem_cons.mpr ⟨kc_X10_status, fun _ h => absurd h List.not_mem_nil⟩⟩⟩⟩⟩
theorem kz_2046 : Cond.methodLink RL 243 yX11_status ∈ z_gw := List.mem_filter.mpr ⟨z_sub_t9 18 rfl, rfl⟩
theorem kz_2047 : Cond.instanceMethod yX11_status ∈ z_gw := List.mem_filter.mpr ⟨z_sub_t9 19 rfl, rfl⟩
theorem kz_2048 : Cond.selects RX11 yX11_status yX11_status ∈ z_gw := List.mem_filter.mpr ⟨z_sub_t9 20 rfl, rfl⟩
theorem kk_L_243 : ∀ w ∈ [Cond.methodLink RL 243 yX11_status, .instanceMethod yX11_status, .selects RX11 yX11_status yX11_status, .initialized RX11, z_code M_X11_status], w ∈ z_gw := List.forall_mem_cons.mpr ⟨kz_2046, List.forall_mem_cons.mpr ⟨kz_2047, List.forall_mem_cons.mpr ⟨kz_2048, List.forall_mem_cons.mpr ⟨kz_120, List.forall_mem_cons.mpr ⟨kc_X11_status, fun _ h => absurd h List.not_mem_nil⟩⟩⟩⟩⟩
theorem kz_527 : Cond.methodLink RL 244 yX10_count ∈ z_gw := List.mem_filter.mpr ⟨z_sub_t2 179 rfl, rfl⟩
theorem kz_528 : Cond.instanceMethod yX10_count ∈ z_gw := List.mem_filter.mpr ⟨z_sub_t2 180 rfl, rfl⟩
theorem kz_529 : Cond.selects RX10 yX10_count yX10_count ∈ z_gw := List.mem_filter.mpr ⟨z_sub_t2 181 rfl, rfl⟩
theorem kk_L_244 : ∀ w ∈ [Cond.methodLink RL 244 yX10_count, .instanceMethod yX10_count, .selects RX10 yX10_count yX10_count, .initialized RX10, z_code M_X10_count], w ∈ z_gw := List.forall_mem_cons.mpr ⟨kz_527, List.forall_mem_cons.mpr ⟨kz_528, List.forall_mem_cons.mpr ⟨kz_529, List.forall_mem_cons.mpr ⟨kz_109, List.forall_mem_cons.mpr ⟨kc_X10_count, fun _ h => absurd h List.not_mem_nil⟩⟩⟩⟩⟩
theorem kz_2050 : Cond.methodLink RL 247 yX11_count ∈ z_gw := List.mem_filter.mpr ⟨z_sub_t9 22 rfl, rfl⟩
theorem kz_2051 : Cond.instanceMethod yX11_count ∈ z_gw := List.mem_filter.mpr ⟨z_sub_t9 23 rfl, rfl⟩
theorem kz_2052 : Cond.selects RX11 yX11_count yX11_count ∈ z_gw := List.mem_filter.mpr ⟨z_sub_t9 24 rfl, rfl⟩
theorem kk_L_247 : ∀ w ∈ [Cond.methodLink RL 247 yX11_count, .instanceMethod yX11_count, .selects RX11 yX11_count yX11_count, .initialized RX11, z_code M_X11_count], w ∈ z_gw := List.forall_mem_cons.mpr ⟨kz_2050, List.forall_mem_cons.mpr ⟨kz_2051, List.forall_mem_cons.mpr ⟨kz_2052, List.forall_mem_cons.mpr ⟨kz_120, List.forall_mem_cons.mpr ⟨kc_X11_count, fun _ h => absurd h List.not_mem_nil⟩⟩⟩⟩⟩
theorem kz_1329 : Cond.constant RJ6 265 (1431655765) ∈ z_gw := List.mem_filter.mpr ⟨z_sub_t6 21 rfl, rfl⟩
theorem kd_J6_265 : Cond.constant RJ6 265 (1431655765) ∈ z_gw := kz_1329
theorem kz_1330 : Cond.constant RJ6 266 (858993459) ∈ z_gw := List.mem_filter.mpr ⟨z_sub_t6 22 rfl, rfl⟩
theorem kd_J6_266 : Cond.constant RJ6 266 (858993459) ∈ z_gw := kz_1330
theorem kz_1331 : Cond.constant RJ6 267 (252645135) ∈ z_gw := List.mem_filter.mpr ⟨z_sub_t6 23 rfl, rfl⟩
theorem kd_J6_267 : Cond.constant RJ6 267 (252645135) ∈ z_gw := kz_1331
abbrev M_J0_length_8abf5 : z_M := (yJ0_length_8abf5, cJ0_length_8abf5, 1, some .int, [])
theorem kc_J0_length_8abf5 : z_code M_J0_length_8abf5 ∈ z_gw := List.mem_filter.mpr ⟨z_sub_t3 57 rfl, rfl⟩
abbrev M_J0_charAt_5068e : z_M := (yJ0_charAt_5068e, cJ0_charAt_5068e, 2, some .char, [])
theorem kc_J0_charAt_5068e : z_code M_J0_charAt_5068e ∈ z_gw := List.mem_filter.mpr ⟨z_sub_t3 67 rfl, rfl⟩
abbrev M_J0_coder_7d493 : z_M := (yJ0_coder_7d493, cJ0_coder_7d493, 1, some .byte, [])
theorem kc_J0_coder_7d493 : z_code M_J0_coder_7d493 ∈ z_gw := List.mem_filter.mpr ⟨z_sub_t3 61 rfl, rfl⟩
abbrev M_J0_isLatin1_aae02 : z_M := (yJ0_isLatin1_aae02, cJ0_isLatin1_aae02, 1, some .boolean, [])
theorem kc_J0_isLatin1_aae02 : z_code M_J0_isLatin1_aae02 ∈ z_gw := List.mem_filter.mpr ⟨z_sub_t3 71 rfl, rfl⟩
abbrev M_J0_checkIndex_df160 : z_M := (yJ0_checkIndex_df160, cJ0_checkIndex_df160, 2, none, [])
theorem kc_J0_checkIndex_df160 : z_code M_J0_checkIndex_df160 ∈ z_gw := List.mem_filter.mpr ⟨z_sub_t3 77 rfl, rfl⟩
abbrev M_J1_charAt_3b067 : z_M := (yJ1_charAt_3b067, cJ1_charAt_3b067, 2, some .char, [])
theorem kc_J1_charAt_3b067 : z_code M_J1_charAt_3b067 ∈ z_gw := List.mem_filter.mpr ⟨z_sub_t3 74 rfl, rfl⟩
abbrev M_J3_checkIndex_8e157 : z_M := (yJ3_checkIndex_8e157, cJ3_checkIndex_8e157, 3, some .int, [])
theorem kc_J3_checkIndex_8e157 : z_code M_J3_checkIndex_8e157 ∈ z_gw := List.mem_filter.mpr ⟨z_sub_t3 82 rfl, rfl⟩
theorem kz_642 : Cond.methodLink RX8 51 yJ0_length_8abf5 ∈ z_gw := List.mem_filter.mpr ⟨z_sub_t3 54 rfl, rfl⟩
theorem kz_643 : Cond.instanceMethod yJ0_length_8abf5 ∈ z_gw := List.mem_filter.mpr ⟨z_sub_t3 55 rfl, rfl⟩
theorem kz_644 : Cond.selects RJ0 yJ0_length_8abf5 yJ0_length_8abf5 ∈ z_gw := List.mem_filter.mpr ⟨z_sub_t3 56 rfl, rfl⟩
theorem kz_125 : Cond.initialized RJ0 ∈ z_gw := List.mem_filter.mpr ⟨z_sub_t1 17 rfl, rfl⟩
theorem kk_X8_51 : ∀ w ∈ [Cond.methodLink RX8 51 yJ0_length_8abf5, .instanceMethod yJ0_length_8abf5, .selects RJ0 yJ0_length_8abf5 yJ0_length_8abf5, .initialized RJ0, z_code M_J0_length_8abf5], w ∈ z_gw := List.forall_mem_cons.mpr ⟨kz_642, List.forall_mem_cons.mpr ⟨kz_643, List.forall_mem_cons.mpr ⟨kz_644, List.forall_mem_cons.mpr ⟨kz_125, List.forall_mem_cons.mpr ⟨kc_J0_length_8abf5, fun _ h => absurd h List.not_mem_nil⟩⟩⟩⟩⟩
theorem kz_646 : Cond.methodLink RJ0 335 yJ0_coder_7d493 ∈ z_gw := List.mem_filter.mpr ⟨z_sub_t3 58 rfl, rfl⟩
theorem kz_647 : Cond.instanceMethod yJ0_coder_7d493 ∈ z_gw := List.mem_filter.mpr ⟨z_sub_t3 59 rfl, rfl⟩
theorem kz_648 : Cond.selects RJ0 yJ0_coder_7d493 yJ0_coder_7d493 ∈ z_gw := List.mem_filter.mpr ⟨z_sub_t3 60 rfl, rfl⟩
theorem kk_J0_335 : ∀ w ∈ [Cond.methodLink RJ0 335 yJ0_coder_7d493, .instanceMethod yJ0_coder_7d493, .selects RJ0 yJ0_coder_7d493 yJ0_coder_7d493, .initialized RJ0, z_code M_J0_coder_7d493], w ∈ z_gw := List.forall_mem_cons.mpr ⟨kz_646, List.forall_mem_cons.mpr ⟨kz_647, List.forall_mem_cons.mpr ⟨kz_648, List.forall_mem_cons.mpr ⟨kz_125, List.forall_mem_cons.mpr ⟨kc_J0_coder_7d493, fun _ h => absurd h List.not_mem_nil⟩⟩⟩⟩⟩
theorem kz_652 : Cond.methodLink RX8 56 yJ0_charAt_5068e ∈ z_gw := List.mem_filter.mpr ⟨z_sub_t3 64 rfl, rfl⟩
theorem kz_653 : Cond.instanceMethod yJ0_charAt_5068e ∈ z_gw := List.mem_filter.mpr ⟨z_sub_t3 65 rfl, rfl⟩
theorem kz_654 : Cond.selects RJ0 yJ0_charAt_5068e yJ0_charAt_5068e ∈ z_gw := List.mem_filter.mpr ⟨z_sub_t3 66 rfl, rfl⟩
theorem kk_X8_56 : ∀ w ∈ [Cond.methodLink RX8 56 yJ0_charAt_5068e, .instanceMethod yJ0_charAt_5068e, .selects RJ0 yJ0_charAt_5068e yJ0_charAt_5068e, .initialized RJ0, z_code M_J0_charAt_5068e], w ∈ z_gw := List.forall_mem_cons.mpr ⟨kz_652, List.forall_mem_cons.mpr ⟨kz_653, List.forall_mem_cons.mpr ⟨kz_654, List.forall_mem_cons.mpr ⟨kz_125, List.forall_mem_cons.mpr ⟨kc_J0_charAt_5068e, fun _ h => absurd h List.not_mem_nil⟩⟩⟩⟩⟩
theorem kz_656 : Cond.methodLink RJ0 492 yJ0_isLatin1_aae02 ∈ z_gw := List.mem_filter.mpr ⟨z_sub_t3 68 rfl, rfl⟩
theorem kz_657 : Cond.instanceMethod yJ0_isLatin1_aae02 ∈ z_gw := List.mem_filter.mpr ⟨z_sub_t3 69 rfl, rfl⟩
theorem kz_658 : Cond.selects RJ0 yJ0_isLatin1_aae02 yJ0_isLatin1_aae02 ∈ z_gw := List.mem_filter.mpr ⟨z_sub_t3 70 rfl, rfl⟩
theorem kk_J0_492 : ∀ w ∈ [Cond.methodLink RJ0 492 yJ0_isLatin1_aae02, .instanceMethod yJ0_isLatin1_aae02, .selects RJ0 yJ0_isLatin1_aae02 yJ0_isLatin1_aae02, .initialized RJ0, z_code M_J0_isLatin1_aae02], w ∈ z_gw := List.forall_mem_cons.mpr ⟨kz_656, List.forall_mem_cons.mpr ⟨kz_657, List.forall_mem_cons.mpr ⟨kz_658, List.forall_mem_cons.mpr ⟨kz_125, List.forall_mem_cons.mpr ⟨kc_J0_isLatin1_aae02, fun _ h => absurd h List.not_mem_nil⟩⟩⟩⟩⟩
theorem kz_660 : Cond.methodLink RJ0 495 yJ1_charAt_3b067 ∈ z_gw := List.mem_filter.mpr ⟨z_sub_t3 72 rfl, rfl⟩
theorem kz_661 : Cond.static yJ1_charAt_3b067 ∈ z_gw := List.mem_filter.mpr ⟨z_sub_t3 73 rfl, rfl⟩
theorem kz_126 : Cond.initialized RJ1 ∈ z_gw := List.mem_filter.mpr ⟨z_sub_t1 18 rfl, rfl⟩
theorem kk_J0_495 : ∀ w ∈ [Cond.methodLink RJ0 495 yJ1_charAt_3b067, .static yJ1_charAt_3b067, .initialized RJ1, z_code M_J1_charAt_3b067], w ∈ z_gw := List.forall_mem_cons.mpr ⟨kz_660, List.forall_mem_cons.mpr ⟨kz_661, List.forall_mem_cons.mpr ⟨kz_126, List.forall_mem_cons.mpr ⟨kc_J1_charAt_3b067, fun _ h => absurd h List.not_mem_nil⟩⟩⟩⟩
theorem kz_663 : Cond.methodLink RJ1 9 yJ0_checkIndex_df160 ∈ z_gw := List.mem_filter.mpr ⟨z_sub_t3 75 rfl, rfl⟩
theorem kz_664 : Cond.static yJ0_checkIndex_df160 ∈ z_gw := List.mem_filter.mpr ⟨z_sub_t3 76 rfl, rfl⟩
theorem kk_J1_9 : ∀ w ∈ [Cond.methodLink RJ1 9 yJ0_checkIndex_df160, .static yJ0_checkIndex_df160, .initialized RJ0, z_code M_J0_checkIndex_df160], w ∈ z_gw := List.forall_mem_cons.mpr ⟨kz_663, List.forall_mem_cons.mpr ⟨kz_664, List.forall_mem_cons.mpr ⟨kz_125, List.forall_mem_cons.mpr ⟨kc_J0_checkIndex_df160, fun _ h => absurd h List.not_mem_nil⟩⟩⟩⟩
theorem kz_668 : Cond.methodLink RJ0 1059 yJ3_checkIndex_8e157 ∈ z_gw := List.mem_filter.mpr ⟨z_sub_t3 80 rfl, rfl⟩
theorem kz_669 : Cond.static yJ3_checkIndex_8e157 ∈ z_gw := List.mem_filter.mpr ⟨z_sub_t3 81 rfl, rfl⟩
theorem kz_127 : Cond.initialized RJ3 ∈ z_gw := List.mem_filter.mpr ⟨z_sub_t1 19 rfl, rfl⟩
theorem kk_J0_1059 : ∀ w ∈ [Cond.methodLink RJ0 1059 yJ3_checkIndex_8e157, .static yJ3_checkIndex_8e157, .initialized RJ3, z_code M_J3_checkIndex_8e157], w ∈ z_gw := List.forall_mem_cons.mpr ⟨kz_668, List.forall_mem_cons.mpr ⟨kz_669, List.forall_mem_cons.mpr ⟨kz_127, List.forall_mem_cons.mpr ⟨kc_J3_checkIndex_8e157, fun _ h => absurd h List.not_mem_nil⟩⟩⟩⟩
theorem kz_1640 : Cond.methodLink RX11 124 yJ0_length_8abf5 ∈ z_gw := List.mem_filter.mpr ⟨z_sub_t7 92 rfl, rfl⟩
theorem kk_X11_124 : ∀ w ∈ [Cond.methodLink RX11 124 yJ0_length_8abf5, .instanceMethod yJ0_length_8abf5, .selects RJ0 yJ0_length_8abf5 yJ0_length_8abf5, .initialized RJ0, z_code M_J0_length_8abf5], w ∈ z_gw := List.forall_mem_cons.mpr ⟨kz_1640, List.forall_mem_cons.mpr ⟨kz_643, List.forall_mem_cons.mpr ⟨kz_644, List.forall_mem_cons.mpr ⟨kz_125, List.forall_mem_cons.mpr ⟨kc_J0_length_8abf5, fun _ h => absurd h List.not_mem_nil⟩⟩⟩⟩⟩
theorem kz_1641 : Cond.methodLink RX11 129 yJ0_charAt_5068e ∈ z_gw := List.mem_filter.mpr ⟨z_sub_t7 93 rfl, rfl⟩
theorem kk_X11_129 : ∀ w ∈ [Cond.methodLink RX11 129 yJ0_charAt_5068e, .instanceMethod yJ0_charAt_5068e, .selects RJ0 yJ0_charAt_5068e yJ0_charAt_5068e, .initialized RJ0, z_code M_J0_charAt_5068e], w ∈ z_gw := List.forall_mem_cons.mpr ⟨kz_1641, List.forall_mem_cons.mpr ⟨kz_653, List.forall_mem_cons.mpr ⟨kz_654, List.forall_mem_cons.mpr ⟨kz_125, List.forall_mem_cons.mpr ⟨kc_J0_charAt_5068e, fun _ h => absurd h List.not_mem_nil⟩⟩⟩⟩⟩
theorem kz_650 : Cond.fieldLink RJ0 38 "java/lang/String" "COMPACT_STRINGS" "Z" ∈ z_gw := List.mem_filter.mpr ⟨z_sub_t3 62 rfl, rfl⟩
theorem kf_J0_38 : Cond.fieldLink RJ0 38 "java/lang/String" "COMPACT_STRINGS" "Z" ∈ z_gw := kz_650
theorem kz_666 : Cond.fieldLink RJ0 1053 "jdk/internal/util/Preconditions" "SIOOBE_FORMATTER" "Ljava/util/function/BiFunction;" ∈ z_gw := List.mem_filter.mpr ⟨z_sub_t3 78 rfl, rfl⟩
theorem kf_J0_1053 : Cond.fieldLink RJ0 1053 "jdk/internal/util/Preconditions" "SIOOBE_FORMATTER" "Ljava/util/function/BiFunction;" ∈ z_gw := kz_666
theorem kz_2072 : Cond.fieldLink RJ0 9 "java/lang/String" "value" "[B" ∈ z_gw := List.mem_filter.mpr ⟨z_sub_t9 44 rfl, rfl⟩
theorem kf_J0_9 : Cond.fieldLink RJ0 9 "java/lang/String" "value" "[B" ∈ z_gw := kz_2072
theorem kz_2073 : Cond.fieldLink RJ0 15 "java/lang/String" "coder" "B" ∈ z_gw := List.mem_filter.mpr ⟨z_sub_t9 45 rfl, rfl⟩
theorem kf_J0_15 : Cond.fieldLink RJ0 15 "java/lang/String" "coder" "B" ∈ z_gw := kz_2073
