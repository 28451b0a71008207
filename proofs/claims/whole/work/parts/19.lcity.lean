/-! ===== the helper that catches, of the method that makes a city ===== -/
def z_Sy (S : List z_Shp) (n m : Nat) : List z_Shp := match m with
  | 0 => S
  | 1 => z_Sx S n false
  | _ => z_Sx S n true
def z_kCy (n : Nat) (S : List z_Shp) : Int32 × Nat × z_Dat → z_Out := fun a => (.inl (some (.int a.1)), z_Sy S n a.2.1, a.2.2)
def F_L_city (N : Nat) (n : Nat) (a0 : Int32) (D : z_Dat) : Option (Int32 × Nat × z_Dat) :=
  z_try (F_X10_city N n a0 D) (fun a => some (0, (if a.2.1 then 2 else 1), z_upJ a.2.2 67 0 a.1.toInt64)) (fun e => if e.1 = "java/lang/IllegalArgumentException" then (some (1, 0, e.2)) else none)
theorem z_Sx_at {S : List z_Shp} {n k : Nat} {b : Bool} {sp : z_Shp} (h : S[k]? = some sp) (hk : 0 < k) : (z_Sx S n b)[k]? = some sp := by
  have e : (S ++ z_city n)[k]? = some sp := by
    rw [List.getElem?_append_left (List.getElem?_eq_some_iff.mp h).1]
    exact h
  cases b
  · exact e
  · show ((S ++ z_city n).set 0 _)[k]? = _
    rw [List.getElem?_set_ne (Nat.ne_of_lt hk)]
    exact e
set_option maxRecDepth 100000 in
set_option maxHeartbeats 4000000 in
theorem em_L_city {l : Launch} {S : List z_Shp} {o n : Nat} (hl : l.stackTraces = false) (hW : z_W S o) (hO : S[67]? = some (1, 1, [])) (hn : S.length = n) (hwf : z_wfb S n = true) (N : Nat) (a0 : Int32) (D : z_Dat) : ∀ out, z_ko (z_kCy n S) (F_L_city N n a0 D) out → z_EM l M_L_city (100, 1000, 7, 45) [.ref 0, .int a0, .ref 67] S D out := by
  have hs0 : S[0]? = some (12, 15, [some (some 1), some (some 3), some (some 5), some (some 7), some (some 12), some (some 15), some (some 21), some (some 25), some (some 28), some (some 32), some (some 33), some (some o), none, none, none]) := hW.1 0 _ rfl
  have hlt : 67 < S.length := (List.getElem?_eq_some_iff.mp hO).1
  intro out ho
  have hint : ∃ v, out.1 = .inl (some (.int v)) := by
    obtain ⟨a, -, rfl⟩ := ho
    exact ⟨_, rfl⟩
  suffices key : z_F l M_L_city (100, 1000, 7, 45) 0 0 0 [some (.ref 0), some (.int a0), some (.ref 67), none] [] S D (z_ko (z_kCy n S)) (F_L_city N n a0 D) from
    z_enterH hl rfl kp_L (key out ho).1 (Nat.le_of_ble_eq_true rfl) rfl hint (key out ho).2
  clear hint ho out
  unfold F_L_city
  refine z_aload_n (i := 2) (x := 67) dL_city_0 rfl rfl ?_
  refine z_iconst (v := 0) dL_city_1 rfl ?_
  refine z_aload_n (i := 0) (x := 0) dL_city_2 rfl rfl ?_
  refine z_iload_n (i := 1) (x := a0) dL_city_3 rfl rfl ?_
  have hrun : ∀ o7, z_EM l M_X10_city (90, 940, 7, 45) [.ref 0, .int a0] S D o7 → z_Runs l M_L_city (100, 1000, 7, 45) M_X10_city (90, 940, 7, 45) 0 0 4 [.ref 0, .int a0] [.int 0, .ref 67] S D o7 := fun o7 h => z_runV 7 1 h rfl kk_L_7 hs0 kl_10.1 kq_X10_city rfl (Nat.le_of_ble_eq_true rfl) ⟨Nat.le_of_ble_eq_true rfl, Nat.le_of_ble_eq_true rfl, Nat.le_of_ble_eq_true rfl, Nat.le_of_ble_eq_true rfl⟩ dL_city_4
  have hem := em_X10_city hl hW hn hwf N a0 D
  cases hF : F_X10_city N n a0 D with
  | none => exact z_none
  | some r =>
    cases r with
    | inl a =>
      have hr := hrun _ (hem _ ⟨_, hF, rfl⟩)
      have kF : z_F l M_L_city (100, 1000, 7, 45) 7 45 7 [some (.ref 0), some (.int a0), some (.ref 67), none] [.int a.1, .int 0, .ref 67] (z_Sx S n a.2.1) a.2.2 (z_ko (z_kCy n S)) (some (0, (if a.2.1 then 2 else 1), z_upJ a.2.2 67 0 a.1.toInt64)) := by
        refine z_i2l dL_city_7 ?_
        refine z_lastF (k := 67) dL_city_8 (z_Sx_at hO (by decide)) (vp_in_iff.mpr (by decide)) ?_
        refine z_goto 15 dL_city_9 (by decide) ?_
        refine z_iconst (v := 0) dL_city_15 rfl ?_
        refine z_ireturn dL_city_16 (fun out ho => ?_) rfl (by simp) (by simp)
        obtain ⟨b, hb, rfl⟩ := ho
        cases hb
        cases a.2.1 <;> rfl
      have hv1 : ∀ v : Value, v ∈ [Value.int 0, Value.ref 67] → z_vok S.length v := fun v hv => by
        simp only [List.mem_cons, List.not_mem_nil, or_false] at hv
        rcases hv with rfl | rfl
        · trivial
        · exact hlt
      have hv2 : ∀ v : Value, some v ∈ [some (Value.ref 0), some (Value.int a0), some (Value.ref 67), none] → z_vok S.length v := fun v hv => by
        simp only [List.mem_cons, List.not_mem_nil, or_false, Option.some.injEq] at hv
        rcases hv with rfl | rfl | rfl | hv
        · show 0 < S.length
          omega
        · trivial
        · exact hlt
        · cases hv
      intro out ho
      refine ⟨(kF out ho).1, z_call (As := [.ref 0, .int a0]) (rest := [.int 0, .ref 67]) (o' := z_kC n S a) hr rfl (fun _ => rfl) (z_same_of hv1 hv2) (by rw [show (z_kC n S a).2.1.length = S.length + 6 from z_Sx_len]; omega) ?_ (kF out ho).2⟩
      obtain ⟨b, hb, rfl⟩ := ho
      cases hb
      show (z_Sx S n a.2.1).length ≤ (z_Sy S n (if a.2.1 then 2 else 1)).length
      cases a.2.1 <;> exact Nat.le_refl _
    | inr e =>
      have hr := hrun _ (hem _ ⟨_, hF, rfl⟩)
      refine z_ite (fun c => ?_) (fun c => ?_)
      · refine z_catch (As := [.ref 0, .int a0]) (rest := [.int 0, .ref 67]) (i := 3) (n := 1) c [] [] hr rfl (fun z hz => absurd hz List.not_mem_nil) (by decide) (by decide) kx_L13 kx_IAE (Or.inl ⟨_, dL_city_12, rfl, rfl⟩) (by decide) (Nat.le_refl _) (fun f out ho => ?_) ?_
        · obtain ⟨b, -, rfl⟩ := ho
          show S.length ≤ (z_Sy S n b.2.1).length
          unfold z_Sy
          split
          · exact Nat.le_refl _
          · rw [z_Sx_len]; omega
          · rw [z_Sx_len]; omega
        · refine z_iconst (v := 1) dL_city_13 rfl ?_
          refine z_ireturn dL_city_14 (fun out ho => ?_) rfl (by simp) (by simp)
          obtain ⟨b, hb, rfl⟩ := ho
          cases hb
          rfl
      · exact z_none
