/-! ===== length() and charAt(k) of the text constants ===== -/
theorem kp_J0 : plainName RJ0 = true := by decide +kernel
theorem kp_J1 : plainName RJ1 = true := by decide +kernel
theorem kp_J3 : plainName RJ3 = true := by decide +kernel
theorem kq_J0_length_8abf5 : z_nm yJ0_length_8abf5 0 := ⟨by decide +kernel, by decide +kernel, by decide +kernel⟩
theorem kq_J0_charAt_5068e : z_nm yJ0_charAt_5068e 1 := ⟨by decide +kernel, by decide +kernel, by decide +kernel⟩
theorem kq_J0_coder_7d493 : z_nm yJ0_coder_7d493 0 := ⟨by decide +kernel, by decide +kernel, by decide +kernel⟩
theorem kq_J0_isLatin1_aae02 : z_nm yJ0_isLatin1_aae02 0 := ⟨by decide +kernel, by decide +kernel, by decide +kernel⟩
theorem kq_J0_checkIndex_df160 : z_nm yJ0_checkIndex_df160 2 := ⟨by decide +kernel, by decide +kernel, by decide +kernel⟩
theorem kq_J1_charAt_3b067 : z_nm yJ1_charAt_3b067 2 := ⟨by decide +kernel, by decide +kernel, by decide +kernel⟩
theorem kq_J3_checkIndex_8e157 : z_nm yJ3_checkIndex_8e157 3 := ⟨by decide +kernel, by decide +kernel, by decide +kernel⟩
/-- the length of a text, its char at a place -/
def z_slg (i : Nat) : Int32 := Int32.ofNat (z_slen.getD i 0)
def z_chr (i : Nat) (k : Int32) : Int32 := (z_sby.getD i []).getD (z_ix k) 0
theorem z_s_all : ∀ i, i < 24 → (z_sby.getD i []).length = z_slen.getD i 0 ∧ z_slen.getD i 0 < 100 ∧ ∀ b ∈ z_sby.getD i [], ((b &&& 255).toUInt32 % 65536).toInt32 = b ∧ narrow .char (.int b) = .int b := by decide +kernel
theorem em_J0_coder {l : Launch} {S : List z_Shp} (hl : l.stackTraces = false) (i : Nat) (hi : i < 24) (D : z_Dat) : ∀ out, z_kt (z_kR S D) (0 : Int32) out → z_EM l M_J0_coder_7d493 (10, 100, 0, 0) [.retAddr i] S D out := by
  refine z_meth hl rfl kp_J0 (Nat.le_of_ble_eq_true rfl) (lv := [some (.retAddr i)]) rfl ?_
  refine z_getCS dJ0_coder_7d493_0 kf_J0_38 ?_
  refine z_if_eqN 13 dJ0_coder_7d493_3 (by decide) (by decide) ?_
  refine z_aloadC_n (i := 0) (x := i) dJ0_coder_7d493_6 rfl rfl ?_
  refine z_getSc hi dJ0_coder_7d493_7 kf_J0_15 ?_
  refine z_goto 14 dJ0_coder_7d493_10 (by decide) ?_
  exact z_ireturn dJ0_coder_7d493_14 z_rP rfl (Nat.le_of_ble_eq_true rfl) (Nat.le_of_ble_eq_true rfl)
theorem em_J0_isLatin1 {l : Launch} {S : List z_Shp} (hl : l.stackTraces = false) (i : Nat) (hi : i < 24) (D : z_Dat) : ∀ out, z_kt (z_kR S D) (1 : Int32) out → z_EM l M_J0_isLatin1_aae02 (10, 100, 0, 0) [.retAddr i] S D out := by
  refine z_meth hl rfl kp_J0 (Nat.le_of_ble_eq_true rfl) (lv := [some (.retAddr i)]) rfl ?_
  refine z_getCS dJ0_isLatin1_aae02_0 kf_J0_38 ?_
  refine z_if_eqN 17 dJ0_isLatin1_aae02_3 (by decide) (by decide) ?_
  refine z_aloadC_n (i := 0) (x := i) dJ0_isLatin1_aae02_6 rfl rfl ?_
  refine z_getSc hi dJ0_isLatin1_aae02_7 kf_J0_15 ?_
  refine z_if_neN 17 dJ0_isLatin1_aae02_10 (by decide) (by decide) ?_
  refine z_iconst (v := 1) dJ0_isLatin1_aae02_13 rfl ?_
  refine z_goto 18 dJ0_isLatin1_aae02_14 (by decide) ?_
  exact z_ireturn dJ0_isLatin1_aae02_18 z_rP rfl (Nat.le_of_ble_eq_true rfl) (Nat.le_of_ble_eq_true rfl)
theorem em_J0_length {l : Launch} {S : List z_Shp} (hl : l.stackTraces = false) (i : Nat) (hi : i < 24) (D : z_Dat) : ∀ out, z_kt (z_kR S D) (z_slg i) out → z_EM l M_J0_length_8abf5 (20, 200, 0, 0) [.retAddr i] S D out := by
  refine z_meth hl rfl kp_J0 (Nat.le_of_ble_eq_true rfl) (lv := [some (.retAddr i)]) rfl ?_
  refine z_aloadC_n (i := 0) (x := i) dJ0_length_8abf5_0 rfl rfl ?_
  refine z_getSv hi dJ0_length_8abf5_1 kf_J0_9 ?_
  refine z_alenS hi dJ0_length_8abf5_4 ?_
  refine z_aloadC_n (i := 0) (x := i) dJ0_length_8abf5_5 rfl rfl ?_
  refine z_cP (As := [.retAddr i]) (rest := [.int (Int32.ofNat (z_slen.getD i 0))]) (em_J0_coder hl i hi D) (fun o7 h => z_runVS 335 0 h rfl kk_J0_335 hi rfl kq_J0_coder_7d493 rfl (Nat.le_of_ble_eq_true rfl) ⟨Nat.le_of_ble_eq_true rfl, Nat.le_of_ble_eq_true rfl, Nat.le_of_ble_eq_true rfl, Nat.le_of_ble_eq_true rfl⟩ dJ0_length_8abf5_6) z_gP (fun hz => ?_)
  refine z_ishr dJ0_length_8abf5_9 ?_
  refine z_topc (y := z_slg i) (sb_shr0 _) ?_
  exact z_ireturn dJ0_length_8abf5_10 z_rP rfl (Nat.le_of_ble_eq_true rfl) (Nat.le_of_ble_eq_true rfl)
theorem em_J3_checkIndex {l : Launch} {S : List z_Shp} (hl : l.stackTraces = false) (k n : Int32) (v : Value) (hv : v = .null ∨ v = .retAddr 2000) (h1 : ¬ k < 0) (h2 : k < n) (D : z_Dat) : ∀ out, z_kt (z_kR S D) k out → z_EM l M_J3_checkIndex_8e157 (10, 100, 0, 0) [.int k, .int n, v] S D out := by
  rcases hv with rfl | rfl
  · refine z_meth hl rfl kp_J3 (Nat.le_of_ble_eq_true rfl) (lv := [some (.int k), some (.int n), some .null]) rfl ?_
    refine z_iload_n (i := 0) (x := k) dJ3_checkIndex_8e157_0 rfl rfl ?_
    refine z_if_ltN 9 dJ3_checkIndex_8e157_1 (by decide) h1 ?_
    refine z_iload_n (i := 0) (x := k) dJ3_checkIndex_8e157_4 rfl rfl ?_
    refine z_iload_n (i := 1) (x := n) dJ3_checkIndex_8e157_5 rfl rfl ?_
    refine z_icmp_ltJ 16 dJ3_checkIndex_8e157_6 (by decide) h2 ?_
    refine z_iload_n (i := 0) (x := k) dJ3_checkIndex_8e157_16 rfl rfl ?_
    exact z_ireturn dJ3_checkIndex_8e157_17 z_rP rfl (Nat.le_of_ble_eq_true rfl) (Nat.le_of_ble_eq_true rfl)
  · refine z_meth hl rfl kp_J3 (Nat.le_of_ble_eq_true rfl) (lv := [some (.int k), some (.int n), some (.retAddr 2000)]) rfl ?_
    refine z_iload_n (i := 0) (x := k) dJ3_checkIndex_8e157_0 rfl rfl ?_
    refine z_if_ltN 9 dJ3_checkIndex_8e157_1 (by decide) h1 ?_
    refine z_iload_n (i := 0) (x := k) dJ3_checkIndex_8e157_4 rfl rfl ?_
    refine z_iload_n (i := 1) (x := n) dJ3_checkIndex_8e157_5 rfl rfl ?_
    refine z_icmp_ltJ 16 dJ3_checkIndex_8e157_6 (by decide) h2 ?_
    refine z_iload_n (i := 0) (x := k) dJ3_checkIndex_8e157_16 rfl rfl ?_
    exact z_ireturn dJ3_checkIndex_8e157_17 z_rP rfl (Nat.le_of_ble_eq_true rfl) (Nat.le_of_ble_eq_true rfl)
theorem em_J0_checkIndex {l : Launch} {S : List z_Shp} (hl : l.stackTraces = false) (k n : Int32) (h1 : ¬ k < 0) (h2 : k < n) (D : z_Dat) : ∀ out, z_kt (z_kV S) D out → z_EM l M_J0_checkIndex_df160 (20, 200, 0, 0) [.int k, .int n] S D out := by
  refine z_meth hl rfl kp_J0 (Nat.le_of_ble_eq_true rfl) (lv := [some (.int k), some (.int n)]) rfl ?_
  refine z_iload_n (i := 0) (x := k) dJ0_checkIndex_df160_0 rfl rfl ?_
  refine z_iload_n (i := 1) (x := n) dJ0_checkIndex_df160_1 rfl rfl ?_
  refine z_getSI dJ0_checkIndex_df160_2 kf_J0_1053 ?_ ?_
  · refine z_cP (As := [.int k, .int n, .null]) (rest := []) (em_J3_checkIndex hl k n .null (Or.inl rfl) h1 h2 D) (fun o7 h => z_runS 1059 3 h rfl kk_J0_1059 kq_J3_checkIndex_8e157 rfl (Nat.le_of_ble_eq_true rfl) ⟨Nat.le_of_ble_eq_true rfl, Nat.le_of_ble_eq_true rfl, Nat.le_of_ble_eq_true rfl, Nat.le_of_ble_eq_true rfl⟩ dJ0_checkIndex_df160_5) z_gTV (fun hz => ?_)
    refine z_pop dJ0_checkIndex_df160_8 rfl ?_
    exact z_vreturn dJ0_checkIndex_df160_9 z_rTV trivial (Nat.le_of_ble_eq_true rfl) (Nat.le_of_ble_eq_true rfl)
  · refine z_cP (As := [.int k, .int n, .retAddr 2000]) (rest := []) (em_J3_checkIndex hl k n (.retAddr 2000) (Or.inr rfl) h1 h2 D) (fun o7 h => z_runS 1059 3 h rfl kk_J0_1059 kq_J3_checkIndex_8e157 rfl (Nat.le_of_ble_eq_true rfl) ⟨Nat.le_of_ble_eq_true rfl, Nat.le_of_ble_eq_true rfl, Nat.le_of_ble_eq_true rfl, Nat.le_of_ble_eq_true rfl⟩ dJ0_checkIndex_df160_5) z_gTV (fun hz => ?_)
    refine z_pop dJ0_checkIndex_df160_8 rfl ?_
    exact z_vreturn dJ0_checkIndex_df160_9 z_rTV trivial (Nat.le_of_ble_eq_true rfl) (Nat.le_of_ble_eq_true rfl)
theorem z_s_in {i : Nat} (hi : i < 24) {k : Int32} (h : z_inb k (z_slen.getD i 0)) : ¬ k < 0 ∧ k < z_slg i ∧ vp_in k (z_slen.getD i 0) ∧ ((z_chr i k &&& 255).toUInt32 % 65536).toInt32 = z_chr i k ∧ narrow .char (.int (z_chr i k)) = .int (z_chr i k) := by
  obtain ⟨a1, a2, a3⟩ := z_s_all i hi
  have hv := z_inb_vp h
  obtain ⟨j, hj, rfl⟩ := vp_in_of hv (by omega)
  have hm : z_chr i (nI j) ∈ z_sby.getD i [] := by
    have hgen : ∀ (L : List Int32) (n : Nat), n < L.length → L.getD n 0 ∈ L := fun L n h => by
      rw [List.getD_eq_getElem?_getD, List.getElem?_eq_getElem h]
      exact List.getElem_mem _
    unfold z_chr z_ix
    rw [nI_clamp (by omega)]
    exact hgen _ _ (by omega)
  exact ⟨nI_pos (by omega), nI_lt hj (by omega), hv, a3 _ hm⟩
theorem em_J1_charAt {l : Launch} {S : List z_Shp} (hl : l.stackTraces = false) (i : Nat) (hi : i < 24) (k : Int32) (hk : z_inb k (z_slen.getD i 0)) (D : z_Dat) : ∀ out, z_kt (z_kR S D) (z_chr i k) out → z_EM l M_J1_charAt_3b067 (30, 300, 0, 0) [.retAddr (100 + i), .int k] S D out := by
  obtain ⟨h1, h2, h3, h4, h5⟩ := z_s_in hi hk
  refine z_meth hl rfl kp_J1 (Nat.le_of_ble_eq_true rfl) (lv := [some (.retAddr (100 + i)), some (.int k)]) rfl ?_
  refine z_iload_n (i := 1) (x := k) dJ1_charAt_3b067_0 rfl rfl ?_
  refine z_aloadC_n (i := 0) (x := 100 + i) dJ1_charAt_3b067_1 rfl rfl ?_
  refine z_alenS hi dJ1_charAt_3b067_2 ?_
  refine z_cVP (As := [.int k, .int (z_slg i)]) (rest := []) (em_J0_checkIndex hl k (z_slg i) h1 h2 D) (fun o7 h => z_runS 9 2 h rfl kk_J1_9 kq_J0_checkIndex_df160 rfl (Nat.le_of_ble_eq_true rfl) ⟨Nat.le_of_ble_eq_true rfl, Nat.le_of_ble_eq_true rfl, Nat.le_of_ble_eq_true rfl, Nat.le_of_ble_eq_true rfl⟩ dJ1_charAt_3b067_3) z_gP ?_
  refine z_aloadC_n (i := 0) (x := 100 + i) dJ1_charAt_3b067_6 rfl rfl ?_
  refine z_iload_n (i := 1) (x := k) dJ1_charAt_3b067_7 rfl rfl ?_
  refine z_baldS hi h3 dJ1_charAt_3b067_8 ?_
  refine z_sipush (v := 255) dJ1_charAt_3b067_9 (by decide) ?_
  refine z_iand dJ1_charAt_3b067_12 ?_
  refine z_i2c dJ1_charAt_3b067_13 ?_
  refine z_topc (y := z_chr i k) h4 ?_
  exact z_ireturn dJ1_charAt_3b067_14 z_rP h5 (Nat.le_of_ble_eq_true rfl) (Nat.le_of_ble_eq_true rfl)
theorem em_J0_charAt {l : Launch} {S : List z_Shp} (hl : l.stackTraces = false) (i : Nat) (hi : i < 24) (k : Int32) (hk : z_inb k (z_slen.getD i 0)) (D : z_Dat) : ∀ out, z_kt (z_kR S D) (z_chr i k) out → z_EM l M_J0_charAt_5068e (40, 400, 0, 0) [.retAddr i, .int k] S D out := by
  refine z_meth hl rfl kp_J0 (Nat.le_of_ble_eq_true rfl) (lv := [some (.retAddr i), some (.int k)]) rfl ?_
  refine z_aloadC_n (i := 0) (x := i) dJ0_charAt_5068e_0 rfl rfl ?_
  refine z_cP (As := [.retAddr i]) (rest := []) (em_J0_isLatin1 hl i hi D) (fun o7 h => z_runVS 492 0 h rfl kk_J0_492 hi rfl kq_J0_isLatin1_aae02 rfl (Nat.le_of_ble_eq_true rfl) ⟨Nat.le_of_ble_eq_true rfl, Nat.le_of_ble_eq_true rfl, Nat.le_of_ble_eq_true rfl, Nat.le_of_ble_eq_true rfl⟩ dJ0_charAt_5068e_1) z_gP (fun hz => ?_)
  refine z_if_eqN 16 dJ0_charAt_5068e_4 (by decide) (by decide) ?_
  refine z_aloadC_n (i := 0) (x := i) dJ0_charAt_5068e_7 rfl rfl ?_
  refine z_getSv hi dJ0_charAt_5068e_8 kf_J0_9 ?_
  refine z_iload_n (i := 1) (x := k) dJ0_charAt_5068e_11 rfl rfl ?_
  refine z_cP (As := [.retAddr (100 + i), .int k]) (rest := []) (em_J1_charAt hl i hi k hk D) (fun o7 h => z_runS 495 2 h rfl kk_J0_495 kq_J1_charAt_3b067 rfl (Nat.le_of_ble_eq_true rfl) ⟨Nat.le_of_ble_eq_true rfl, Nat.le_of_ble_eq_true rfl, Nat.le_of_ble_eq_true rfl, Nat.le_of_ble_eq_true rfl⟩ dJ0_charAt_5068e_12) z_gP (fun hz => ?_)
  exact z_ireturn dJ0_charAt_5068e_15 z_rP hz (Nat.le_of_ble_eq_true rfl) (Nat.le_of_ble_eq_true rfl)
