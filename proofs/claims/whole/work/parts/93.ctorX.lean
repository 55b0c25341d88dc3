/-! ===== the constructors (by program, wip/gen/gen12.py) ===== -/
/-- the numbers before the city is settled for the first time -/
def fst0 (I : jm_I) : jm_I := jm_up (bAF (jm_up (bAF I 2) 1 0 ((2 : Nat) : Int)) 22) 1 1 ((22 : Nat) : Int)
/-- and behind that -/
def fst1 (I J : jm_I) : Prop := (∀ a, ¬ (2 + 14 ≤ a ∧ a ≤ 2 + 19) → ¬ (44 ≤ a ∧ a ≤ 48) → J a = I a) ∧ (∀ r s : Nat, (r : Int) < I 2 0 → s < 6 → isD (adjC I 2 0) 1000 r s (J (2 + 14 + r) s)) ∧ J 44 0 = 0 ∧ J 44 1 = 0 ∧ ∀ p : Nat, p < 5 → J 45 p = I (2 + 4) p ∧ J 46 p = I (2 + 5) p ∧ J 47 p = -9 ∧ J 48 p = 0
theorem fst_co {I : jm_I} (hz : izero I 1) : coOk (fst0 I) 2 := by
  have e : fst0 I 2 2 = 0 := rfl
  unfold coOk
  rw [e]
  exact ⟨⟨by decide, by decide⟩, fun e he => by omega⟩
theorem fst_r {I : jm_I} : 0 ≤ fst0 I 2 0 ∧ fst0 I 2 0 ≤ 6 := by
  have e : fst0 I 2 0 = 2 := rfl
  rw [e]
  exact ⟨by decide, by decide⟩
theorem dc_X_init_0 : jm_dc md_X_init.2.1 0 [(.aload_n 0, 1), (.invokespecial 3, 3), (.aload_n 0, 1), (.new 9, 3), (.dup, 1), (.invokespecial 11, 3), (.putfield 12, 3), (.aload_n 0, 1), (.new 9, 3), (.dup, 1), (.invokespecial 11, 3), (.putfield 16, 3), (.aload_n 0, 1), (.new 19, 3), (.dup, 1), (.invokespecial 21, 3), (.putfield 22, 3), (.aload_n 0, 1), (.sipush 200, 3), (.newarray .int, 2), (.putfield 26, 3), (.aload_n 0, 1), (.new 30, 3), (.dup, 1), (.invokespecial 32, 3), (.putfield 33, 3), (.aload_n 0, 1), (.new 37, 3), (.dup, 1), (.invokespecial 39, 3), (.putfield 40, 3), (.aload_n 0, 1), (.iconst 2, 1), (.anewarray 30, 3), (.putfield 44, 3), (.aload_n 0, 1), (.iconst 2, 1), (.newarray .boolean, 2), (.putfield 48, 3), (.aload_n 0, 1), (.new 52, 3), (.dup, 1), (.invokespecial 54, 3), (.putfield 55, 3), (.aload_n 0, 1), (.new 59, 3), (.dup, 1), (.invokespecial 61, 3), (.putfield 62, 3), (.aload_n 0, 1), (.new 66, 3), (.dup, 1), (.invokespecial 68, 3), (.putfield 69, 3), (.aload_n 0, 1), (.new 73, 3), (.dup, 1), (.invokespecial 75, 3), (.putfield 76, 3), (.aload_n 0, 1), (.bipush 6, 2), (.newarray .int, 2), (.putfield 80, 3), (.iconst 0, 1), (.istore_n 1, 1), (.iload_n 1, 1), (.iconst 2, 1), (.if_icmp .ge 22, 3)] = true := by decide +kernel
theorem dc_X_init_142 : jm_dc md_X_init.2.1 142 [(.aload_n 0, 1), (.getfield 44, 3), (.iload_n 1, 1), (.new 30, 3), (.dup, 1), (.invokespecial 32, 3), (.aastore, 1), (.iinc 1 1, 3), (.goto (-21), 3)] = true := by decide +kernel
theorem dc_X_init_137 : jm_dc md_X_init.2.1 137 [(.iload_n 1, 1), (.iconst 2, 1), (.if_icmp .ge 22, 3)] = true := by decide +kernel
theorem dc_X_init_161 : jm_dc md_X_init.2.1 161 [(.aload_n 0, 1), (.invokevirtual 83, 3), (.return_, 1)] = true := by decide +kernel
set_option maxRecDepth 100000 in
theorem tt_X {L : Nat} : jx_City (stP L 166 1412 ((101, 1, 162) :: (rk_162 ++ ((101, 0, 157) :: (rk_157 ++ ((1, 13, 156) :: ((1, 12, 151) :: (rk_151 ++ ((1, 11, 148) :: (rk_148 ++ ((1, 10, 107) :: (rk_107 ++ ((1, 9, 103) :: (rk_103 ++ ((1, 8, 102) :: ((1, 7, 101) :: ((1, 6, 49) :: (rk_49 ++ ((1, 5, 44) :: (rk_44 ++ ((1, 3, 43) :: ((1, 2, 42) :: (rk_42 ++ (rk_22 ++ (rk_2 ++ ([])))))))))))))))))))))))))) 2 := by
  unfold jx_City
  refine ⟨by decide, rfl, rfl, rfl, rfl, rfl, rfl, rfl, rfl, rfl, rfl, rfl, rfl, rfl, rfl, rfl, rfl, rfl, rfl, rfl, rfl, rfl, rfl, rfl, rfl, rfl, rfl, rfl, rfl, fun i hi => ?_, fun i hi => ?_⟩
  · exact (show ∀ i, i < 5 → rF ((101, 1, 162) :: (rk_162 ++ ((101, 0, 157) :: (rk_157 ++ ((1, 13, 156) :: ((1, 12, 151) :: (rk_151 ++ ((1, 11, 148) :: (rk_148 ++ ((1, 10, 107) :: (rk_107 ++ ((1, 9, 103) :: (rk_103 ++ ((1, 8, 102) :: ((1, 7, 101) :: ((1, 6, 49) :: (rk_49 ++ ((1, 5, 44) :: (rk_44 ++ ((1, 3, 43) :: ((1, 2, 42) :: (rk_42 ++ (rk_22 ++ (rk_2 ++ ([]))))))))))))))))))))))))) (2 + 7) i = some (2 + 8 + i) by decide) i hi
  · exact (show ∀ i, i < 6 → rF ((101, 1, 162) :: (rk_162 ++ ((101, 0, 157) :: (rk_157 ++ ((1, 13, 156) :: ((1, 12, 151) :: (rk_151 ++ ((1, 11, 148) :: (rk_148 ++ ((1, 10, 107) :: (rk_107 ++ ((1, 9, 103) :: (rk_103 ++ ((1, 8, 102) :: ((1, 7, 101) :: ((1, 6, 49) :: (rk_49 ++ ((1, 5, 44) :: (rk_44 ++ ((1, 3, 43) :: ((1, 2, 42) :: (rk_42 ++ (rk_22 ++ (rk_2 ++ ([]))))))))))))))))))))))))) (2 + 13) i = some (2 + 14 + i) by decide) i hi
set_option maxRecDepth 100000 in
theorem tm_X {L : Nat} : jx_Mom (stP L 166 1412 ((101, 1, 162) :: (rk_162 ++ ((101, 0, 157) :: (rk_157 ++ ((1, 13, 156) :: ((1, 12, 151) :: (rk_151 ++ ((1, 11, 148) :: (rk_148 ++ ((1, 10, 107) :: (rk_107 ++ ((1, 9, 103) :: (rk_103 ++ ((1, 8, 102) :: ((1, 7, 101) :: ((1, 6, 49) :: (rk_49 ++ ((1, 5, 44) :: (rk_44 ++ ((1, 3, 43) :: ((1, 2, 42) :: (rk_42 ++ (rk_22 ++ (rk_2 ++ ([])))))))))))))))))))))))))) 44 := ⟨by decide, rfl, rfl, rfl, rfl, rfl, rfl, rfl, rfl, rfl⟩
def rk_1 : List (Nat × Nat × Nat) := (101, 1, 162) :: (rk_162 ++ ((101, 0, 157) :: (rk_157 ++ ((1, 13, 156) :: ((1, 12, 151) :: (rk_151 ++ ((1, 11, 148) :: (rk_148 ++ ((1, 10, 107) :: (rk_107 ++ ((1, 9, 103) :: (rk_103 ++ ((1, 8, 102) :: ((1, 7, 101) :: ((1, 6, 49) :: (rk_49 ++ ((1, 5, 44) :: (rk_44 ++ ((1, 3, 43) :: ((1, 2, 42) :: (rk_42 ++ (rk_22 ++ (rk_2 ++ ([]))))))))))))))))))))))))
set_option maxRecDepth 100000 in
theorem kk_1 {L d : Nat} {I : jm_I} {K : Option jm_V → jm_M → Prop} (hz : izero I 1) (k : ∀ J : jm_I, fst1 (fst0 I) J → K none (stg L 166 1412 rk_1 J)) : jm_Call (d + 4) 165 1397 md_X_init [.inr (.inl 1)] (stg L 1 15 [] I) K := by
  have hz0 := hz
  have hr : rle [] 1 := fun t ht => by cases ht
  show jm_Go (d + 4) 165 1397 md_X_init 0 [some (.inr (.inl 1)), none] [] (stg L 1 15 ([]) I) K
  have hd := dc_X_init_0
  refine go_aload_n rfl hd (fun hd => ?_)
  refine go_objinit ml_8_3 w_oi1 w_oi2 (Nat.le_of_ble_eq_true rfl) hd (fun hd => ?_)
  refine go_aload_n rfl hd (fun hd => ?_)
  refine sg_new (c := 0) (n' := 2) (sl' := 28) (mc := 164) (ms := 1384) hz hr co_X0 cl_8_9 w_ni_0 w_it_0 rfl rfl rfl rfl rfl hd (fun hd => ?_)
  have hz : izero I 2 := iz_m hz (by decide)
  have hr : rle ([]) 2 := rl_m hr (by decide)
  refine go_dup rfl hd (fun hd => ?_)
  have hd2 := jm_d2 hd
  refine go_init (mc1 := 19) (ms1 := 106) (mc2 := 145) (ms2 := 1278) 2 [.inr (.inl 2), .inr (.inl 1)] mk_City_init rfl rfl ml_8_11 in_City_init (by decide) (Nat.le_of_ble_eq_true rfl) rfl rfl rfl hd (kk_2 hz hr ?_)
  show jm_Go (d + 4) 145 1278 md_X_init 12 [some (.inr (.inl 1)), none] [.inr (.inl 2), .inr (.inl 1)] (stg L 21 134 (rk_2 ++ ([])) (bAF I 2)) K
  have hd := hd2
  have hz : izero (bAF I 2) 21 := bAF_z (iz_m hz (by decide)) (by decide)
  have hr : rle (rk_2 ++ ([])) 21 := rl_a (by decide) (rl_m hr (by decide))
  refine go_putD co_X8 fl_8_12 (by decide) rfl rfl (by decide) hd (fun hd => ?_)
  show jm_Go (d + 4) 145 1278 md_X_init 15 [some (.inr (.inl 1)), none] [] (stg L 21 134 (rk_2 ++ ([])) (jm_up (bAF I 2) 1 0 ((2 : Nat) : Int))) K
  have hz : izero (jm_up (bAF I 2) 1 0 ((2 : Nat) : Int)) 21 := iz_u hz (by decide)
  refine go_aload_n rfl hd (fun hd => ?_)
  refine sg_new (c := 0) (n' := 22) (sl' := 147) (mc := 144) (ms := 1265) hz hr co_X0 cl_8_9 w_ni_0 w_it_0 rfl rfl rfl rfl rfl hd (fun hd => ?_)
  have hz : izero (jm_up (bAF I 2) 1 0 ((2 : Nat) : Int)) 22 := iz_m hz (by decide)
  have hr : rle (rk_2 ++ ([])) 22 := rl_m hr (by decide)
  refine go_dup rfl hd (fun hd => ?_)
  have hd2 := jm_d2 hd
  refine go_init (mc1 := 19) (ms1 := 106) (mc2 := 125) (ms2 := 1159) 22 [.inr (.inl 22), .inr (.inl 1)] mk_City_init rfl rfl ml_8_11 in_City_init (by decide) (Nat.le_of_ble_eq_true rfl) rfl rfl rfl hd (kk_22 hz hr ?_)
  show jm_Go (d + 4) 125 1159 md_X_init 23 [some (.inr (.inl 1)), none] [.inr (.inl 22), .inr (.inl 1)] (stg L 41 253 (rk_22 ++ (rk_2 ++ ([]))) (bAF (jm_up (bAF I 2) 1 0 ((2 : Nat) : Int)) 22)) K
  have hd := hd2
  have hz : izero (bAF (jm_up (bAF I 2) 1 0 ((2 : Nat) : Int)) 22) 41 := bAF_z (iz_m hz (by decide)) (by decide)
  have hr : rle (rk_22 ++ (rk_2 ++ ([]))) 41 := rl_a (by decide) (rl_m hr (by decide))
  refine go_putD co_X8 fl_8_16 (by decide) rfl rfl (by decide) hd (fun hd => ?_)
  show jm_Go (d + 4) 125 1159 md_X_init 26 [some (.inr (.inl 1)), none] [] (stg L 41 253 (rk_22 ++ (rk_2 ++ ([]))) (jm_up (bAF (jm_up (bAF I 2) 1 0 ((2 : Nat) : Int)) 22) 1 1 ((22 : Nat) : Int))) K
  have hz : izero (jm_up (bAF (jm_up (bAF I 2) 1 0 ((2 : Nat) : Int)) 22) 1 1 ((22 : Nat) : Int)) 41 := iz_u hz (by decide)
  refine go_aload_n rfl hd (fun hd => ?_)
  refine sg_new (c := 1) (n' := 42) (sl' := 262) (mc := 124) (ms := 1150) hz hr co_X1 cl_8_19 w_ni_1 w_it_1 rfl rfl rfl rfl rfl hd (fun hd => ?_)
  have hz : izero (jm_up (bAF (jm_up (bAF I 2) 1 0 ((2 : Nat) : Int)) 22) 1 1 ((22 : Nat) : Int)) 42 := iz_m hz (by decide)
  have hr : rle (rk_22 ++ (rk_2 ++ ([]))) 42 := rl_m hr (by decide)
  refine go_dup rfl hd (fun hd => ?_)
  have hd2 := jm_d2 hd
  refine go_initN (mc1 := 0) (ms1 := 0) (mc2 := 124) (ms2 := 1150) "StillMinutes" 42 [.inr (.inl 42), .inr (.inl 1)] mk_CityReader_init rfl rfl nl_8_21 in_CityReader_init (by decide) (Nat.le_of_ble_eq_true rfl) rfl rfl rfl hd (kk_42 hz hr ?_)
  show jm_Go (d + 4) 124 1150 md_X_init 34 [some (.inr (.inl 1)), none] [.inr (.inl 42), .inr (.inl 1)] (stg L 42 262 (rk_42 ++ (rk_22 ++ (rk_2 ++ ([])))) (jm_up (bAF (jm_up (bAF I 2) 1 0 ((2 : Nat) : Int)) 22) 1 1 ((22 : Nat) : Int))) K
  have hd := hd2
  have hz : izero (jm_up (bAF (jm_up (bAF I 2) 1 0 ((2 : Nat) : Int)) 22) 1 1 ((22 : Nat) : Int)) 42 := iz_m hz (by decide)
  have hr : rle (rk_42 ++ (rk_22 ++ (rk_2 ++ ([])))) 42 := rl_a (by decide) (rl_m hr (by decide))
  refine sg_putR co_X8 fl_8_22 (by decide) rfl rfl rfl rfl hd (fun hd => ?_)
  have hr : rle ((1, 2, 42) :: (rk_42 ++ (rk_22 ++ (rk_2 ++ ([]))))) 42 := rl_c hr (by decide)
  refine go_aload_n rfl hd (fun hd => ?_)
  refine go_sipush (by decide) hd (fun hd => ?_)
  refine sg_newI (n' := 43) (sl' := 462) (mc := 123) (ms := 950) hz hr (by decide) (by decide) rfl rfl rfl rfl rfl hd (fun hd => ?_)
  have hz : izero (jm_up (bAF (jm_up (bAF I 2) 1 0 ((2 : Nat) : Int)) 22) 1 1 ((22 : Nat) : Int)) 43 := iz_m hz (by decide)
  have hr : rle ((1, 2, 42) :: (rk_42 ++ (rk_22 ++ (rk_2 ++ ([]))))) 43 := rl_m hr (by decide)
  refine sg_putR co_X8 fl_8_26 (by decide) rfl rfl rfl rfl hd (fun hd => ?_)
  have hr : rle ((1, 3, 43) :: ((1, 2, 42) :: (rk_42 ++ (rk_22 ++ (rk_2 ++ ([])))))) 43 := rl_c hr (by decide)
  refine go_aload_n rfl hd (fun hd => ?_)
  refine sg_new (c := 5) (n' := 44) (sl' := 468) (mc := 122) (ms := 944) hz hr co_X5 cl_8_30 w_ni_5 w_it_5 rfl rfl rfl rfl rfl hd (fun hd => ?_)
  have hz : izero (jm_up (bAF (jm_up (bAF I 2) 1 0 ((2 : Nat) : Int)) 22) 1 1 ((22 : Nat) : Int)) 44 := iz_m hz (by decide)
  have hr : rle ((1, 3, 43) :: ((1, 2, 42) :: (rk_42 ++ (rk_22 ++ (rk_2 ++ ([])))))) 44 := rl_m hr (by decide)
  refine go_dup rfl hd (fun hd => ?_)
  have hd2 := jm_d2 hd
  refine go_initN (mc1 := 4) (ms1 := 20) (mc2 := 118) (ms2 := 924) "StillMinutes" 44 [.inr (.inl 44), .inr (.inl 1)] mk_Moment_init rfl rfl nl_8_32 in_Moment_init (by decide) (Nat.le_of_ble_eq_true rfl) rfl rfl rfl hd (kk_44 hz hr ?_)
  show jm_Go (d + 4) 118 924 md_X_init 54 [some (.inr (.inl 1)), none] [.inr (.inl 44), .inr (.inl 1)] (stg L 48 488 (rk_44 ++ ((1, 3, 43) :: ((1, 2, 42) :: (rk_42 ++ (rk_22 ++ (rk_2 ++ ([]))))))) (jm_up (bAF (jm_up (bAF I 2) 1 0 ((2 : Nat) : Int)) 22) 1 1 ((22 : Nat) : Int))) K
  have hd := hd2
  have hz : izero (jm_up (bAF (jm_up (bAF I 2) 1 0 ((2 : Nat) : Int)) 22) 1 1 ((22 : Nat) : Int)) 48 := iz_m hz (by decide)
  have hr : rle (rk_44 ++ ((1, 3, 43) :: ((1, 2, 42) :: (rk_42 ++ (rk_22 ++ (rk_2 ++ ([]))))))) 48 := rl_a (by decide) (rl_m hr (by decide))
  refine sg_putR co_X8 fl_8_33 (by decide) rfl rfl rfl rfl hd (fun hd => ?_)
  have hr : rle ((1, 5, 44) :: (rk_44 ++ ((1, 3, 43) :: ((1, 2, 42) :: (rk_42 ++ (rk_22 ++ (rk_2 ++ ([])))))))) 48 := rl_c hr (by decide)
  refine go_aload_n rfl hd (fun hd => ?_)
  refine sg_new (c := 4) (n' := 49) (sl' := 491) (mc := 117) (ms := 921) hz hr co_X4 cl_8_37 w_ni_4 w_it_4 rfl rfl rfl rfl rfl hd (fun hd => ?_)
  have hz : izero (jm_up (bAF (jm_up (bAF I 2) 1 0 ((2 : Nat) : Int)) 22) 1 1 ((22 : Nat) : Int)) 49 := iz_m hz (by decide)
  have hr : rle ((1, 5, 44) :: (rk_44 ++ ((1, 3, 43) :: ((1, 2, 42) :: (rk_42 ++ (rk_22 ++ (rk_2 ++ ([])))))))) 49 := rl_m hr (by decide)
  refine go_dup rfl hd (fun hd => ?_)
  have hd2 := jm_d2 hd
  refine go_init (mc1 := 51) (ms1 := 270) (mc2 := 66) (ms2 := 651) 49 [.inr (.inl 49), .inr (.inl 1)] mk_History_init rfl rfl ml_8_39 in_History_init (by decide) (Nat.le_of_ble_eq_true rfl) rfl rfl rfl hd (kk_49 hz hr ?_)
  show jm_Go (d + 4) 66 651 md_X_init 65 [some (.inr (.inl 1)), none] [.inr (.inl 49), .inr (.inl 1)] (stg L 100 761 (rk_49 ++ ((1, 5, 44) :: (rk_44 ++ ((1, 3, 43) :: ((1, 2, 42) :: (rk_42 ++ (rk_22 ++ (rk_2 ++ ([]))))))))) (jm_up (bAF (jm_up (bAF I 2) 1 0 ((2 : Nat) : Int)) 22) 1 1 ((22 : Nat) : Int))) K
  have hd := hd2
  have hz : izero (jm_up (bAF (jm_up (bAF I 2) 1 0 ((2 : Nat) : Int)) 22) 1 1 ((22 : Nat) : Int)) 100 := iz_m hz (by decide)
  have hr : rle (rk_49 ++ ((1, 5, 44) :: (rk_44 ++ ((1, 3, 43) :: ((1, 2, 42) :: (rk_42 ++ (rk_22 ++ (rk_2 ++ ([]))))))))) 100 := rl_a (by decide) (rl_m hr (by decide))
  refine sg_putR co_X8 fl_8_40 (by decide) rfl rfl rfl rfl hd (fun hd => ?_)
  have hr : rle ((1, 6, 49) :: (rk_49 ++ ((1, 5, 44) :: (rk_44 ++ ((1, 3, 43) :: ((1, 2, 42) :: (rk_42 ++ (rk_22 ++ (rk_2 ++ ([])))))))))) 100 := rl_c hr (by decide)
  refine go_aload_n rfl hd (fun hd => ?_)
  refine go_iconst hd (fun hd => ?_)
  refine sg_newO (n' := 101) (sl' := 763) (mc := 65) (ms := 649) hz hr cl_8_30 (by decide) (by decide) rfl rfl rfl rfl rfl hd (fun hd => ?_)
  have hz : izero (jm_up (bAF (jm_up (bAF I 2) 1 0 ((2 : Nat) : Int)) 22) 1 1 ((22 : Nat) : Int)) 101 := iz_m hz (by decide)
  have hr : rle ((1, 6, 49) :: (rk_49 ++ ((1, 5, 44) :: (rk_44 ++ ((1, 3, 43) :: ((1, 2, 42) :: (rk_42 ++ (rk_22 ++ (rk_2 ++ ([])))))))))) 101 := rl_m hr (by decide)
  refine sg_putR co_X8 fl_8_44 (by decide) rfl rfl rfl rfl hd (fun hd => ?_)
  have hr : rle ((1, 7, 101) :: ((1, 6, 49) :: (rk_49 ++ ((1, 5, 44) :: (rk_44 ++ ((1, 3, 43) :: ((1, 2, 42) :: (rk_42 ++ (rk_22 ++ (rk_2 ++ ([]))))))))))) 101 := rl_c hr (by decide)
  refine go_aload_n rfl hd (fun hd => ?_)
  refine go_iconst hd (fun hd => ?_)
  refine sg_newZ (n' := 102) (sl' := 765) (mc := 64) (ms := 647) hz hr (by decide) (by decide) rfl rfl rfl rfl rfl hd (fun hd => ?_)
  have hz : izero (jm_up (bAF (jm_up (bAF I 2) 1 0 ((2 : Nat) : Int)) 22) 1 1 ((22 : Nat) : Int)) 102 := iz_m hz (by decide)
  have hr : rle ((1, 7, 101) :: ((1, 6, 49) :: (rk_49 ++ ((1, 5, 44) :: (rk_44 ++ ((1, 3, 43) :: ((1, 2, 42) :: (rk_42 ++ (rk_22 ++ (rk_2 ++ ([]))))))))))) 102 := rl_m hr (by decide)
  refine sg_putR co_X8 fl_8_48 (by decide) rfl rfl rfl rfl hd (fun hd => ?_)
  have hr : rle ((1, 8, 102) :: ((1, 7, 101) :: ((1, 6, 49) :: (rk_49 ++ ((1, 5, 44) :: (rk_44 ++ ((1, 3, 43) :: ((1, 2, 42) :: (rk_42 ++ (rk_22 ++ (rk_2 ++ ([])))))))))))) 102 := rl_c hr (by decide)
  refine go_aload_n rfl hd (fun hd => ?_)
  refine sg_new (c := 3) (n' := 103) (sl' := 769) (mc := 63) (ms := 643) hz hr co_X3 cl_8_52 w_ni_3 w_it_3 rfl rfl rfl rfl rfl hd (fun hd => ?_)
  have hz : izero (jm_up (bAF (jm_up (bAF I 2) 1 0 ((2 : Nat) : Int)) 22) 1 1 ((22 : Nat) : Int)) 103 := iz_m hz (by decide)
  have hr : rle ((1, 8, 102) :: ((1, 7, 101) :: ((1, 6, 49) :: (rk_49 ++ ((1, 5, 44) :: (rk_44 ++ ((1, 3, 43) :: ((1, 2, 42) :: (rk_42 ++ (rk_22 ++ (rk_2 ++ ([])))))))))))) 103 := rl_m hr (by decide)
  refine go_dup rfl hd (fun hd => ?_)
  have hd2 := jm_d2 hd
  refine go_initN (mc1 := 3) (ms1 := 12) (mc2 := 60) (ms2 := 631) "StillMinutes" 103 [.inr (.inl 103), .inr (.inl 1)] mk_Finds_init rfl rfl nl_8_54 in_Finds_init (by decide) (Nat.le_of_ble_eq_true rfl) rfl rfl rfl hd (kk_103 hz hr ?_)
  show jm_Go (d + 4) 60 631 md_X_init 91 [some (.inr (.inl 1)), none] [.inr (.inl 103), .inr (.inl 1)] (stg L 106 781 (rk_103 ++ ((1, 8, 102) :: ((1, 7, 101) :: ((1, 6, 49) :: (rk_49 ++ ((1, 5, 44) :: (rk_44 ++ ((1, 3, 43) :: ((1, 2, 42) :: (rk_42 ++ (rk_22 ++ (rk_2 ++ ([]))))))))))))) (jm_up (bAF (jm_up (bAF I 2) 1 0 ((2 : Nat) : Int)) 22) 1 1 ((22 : Nat) : Int))) K
  have hd := hd2
  have hz : izero (jm_up (bAF (jm_up (bAF I 2) 1 0 ((2 : Nat) : Int)) 22) 1 1 ((22 : Nat) : Int)) 106 := iz_m hz (by decide)
  have hr : rle (rk_103 ++ ((1, 8, 102) :: ((1, 7, 101) :: ((1, 6, 49) :: (rk_49 ++ ((1, 5, 44) :: (rk_44 ++ ((1, 3, 43) :: ((1, 2, 42) :: (rk_42 ++ (rk_22 ++ (rk_2 ++ ([]))))))))))))) 106 := rl_a (by decide) (rl_m hr (by decide))
  refine sg_putR co_X8 fl_8_55 (by decide) rfl rfl rfl rfl hd (fun hd => ?_)
  have hr : rle ((1, 9, 103) :: (rk_103 ++ ((1, 8, 102) :: ((1, 7, 101) :: ((1, 6, 49) :: (rk_49 ++ ((1, 5, 44) :: (rk_44 ++ ((1, 3, 43) :: ((1, 2, 42) :: (rk_42 ++ (rk_22 ++ (rk_2 ++ ([])))))))))))))) 106 := rl_c hr (by decide)
  refine go_aload_n rfl hd (fun hd => ?_)
  refine sg_new (c := 6) (n' := 107) (sl' := 788) (mc := 59) (ms := 624) hz hr co_X6 cl_8_59 w_ni_6 w_it_6 rfl rfl rfl rfl rfl hd (fun hd => ?_)
  have hz : izero (jm_up (bAF (jm_up (bAF I 2) 1 0 ((2 : Nat) : Int)) 22) 1 1 ((22 : Nat) : Int)) 107 := iz_m hz (by decide)
  have hr : rle ((1, 9, 103) :: (rk_103 ++ ((1, 8, 102) :: ((1, 7, 101) :: ((1, 6, 49) :: (rk_49 ++ ((1, 5, 44) :: (rk_44 ++ ((1, 3, 43) :: ((1, 2, 42) :: (rk_42 ++ (rk_22 ++ (rk_2 ++ ([])))))))))))))) 107 := rl_m hr (by decide)
  refine go_dup rfl hd (fun hd => ?_)
  have hd2 := jm_d2 hd
  refine go_initN (mc1 := 40) (ms1 := 535) (mc2 := 19) (ms2 := 89) "StillMinutes" 107 [.inr (.inl 107), .inr (.inl 1)] mk_PressTable_init rfl rfl nl_8_61 in_PressTable_init (by decide) (Nat.le_of_ble_eq_true rfl) rfl rfl rfl hd (kk_107 hz hr ?_)
  show jm_Go (d + 4) 19 89 md_X_init 102 [some (.inr (.inl 1)), none] [.inr (.inl 107), .inr (.inl 1)] (stg L 147 1323 (rk_107 ++ ((1, 9, 103) :: (rk_103 ++ ((1, 8, 102) :: ((1, 7, 101) :: ((1, 6, 49) :: (rk_49 ++ ((1, 5, 44) :: (rk_44 ++ ((1, 3, 43) :: ((1, 2, 42) :: (rk_42 ++ (rk_22 ++ (rk_2 ++ ([]))))))))))))))) (jm_up (bAF (jm_up (bAF I 2) 1 0 ((2 : Nat) : Int)) 22) 1 1 ((22 : Nat) : Int))) K
  have hd := hd2
  have hz : izero (jm_up (bAF (jm_up (bAF I 2) 1 0 ((2 : Nat) : Int)) 22) 1 1 ((22 : Nat) : Int)) 147 := iz_m hz (by decide)
  have hr : rle (rk_107 ++ ((1, 9, 103) :: (rk_103 ++ ((1, 8, 102) :: ((1, 7, 101) :: ((1, 6, 49) :: (rk_49 ++ ((1, 5, 44) :: (rk_44 ++ ((1, 3, 43) :: ((1, 2, 42) :: (rk_42 ++ (rk_22 ++ (rk_2 ++ ([]))))))))))))))) 147 := rl_a (by decide) (rl_m hr (by decide))
  refine sg_putR co_X8 fl_8_62 (by decide) rfl rfl rfl rfl hd (fun hd => ?_)
  have hr : rle ((1, 10, 107) :: (rk_107 ++ ((1, 9, 103) :: (rk_103 ++ ((1, 8, 102) :: ((1, 7, 101) :: ((1, 6, 49) :: (rk_49 ++ ((1, 5, 44) :: (rk_44 ++ ((1, 3, 43) :: ((1, 2, 42) :: (rk_42 ++ (rk_22 ++ (rk_2 ++ ([])))))))))))))))) 147 := rl_c hr (by decide)
  refine go_aload_n rfl hd (fun hd => ?_)
  refine sg_new (c := 2) (n' := 148) (sl' := 1325) (mc := 18) (ms := 87) hz hr co_X2 cl_8_66 w_ni_2 w_it_2 rfl rfl rfl rfl rfl hd (fun hd => ?_)
  have hz : izero (jm_up (bAF (jm_up (bAF I 2) 1 0 ((2 : Nat) : Int)) 22) 1 1 ((22 : Nat) : Int)) 148 := iz_m hz (by decide)
  have hr : rle ((1, 10, 107) :: (rk_107 ++ ((1, 9, 103) :: (rk_103 ++ ((1, 8, 102) :: ((1, 7, 101) :: ((1, 6, 49) :: (rk_49 ++ ((1, 5, 44) :: (rk_44 ++ ((1, 3, 43) :: ((1, 2, 42) :: (rk_42 ++ (rk_22 ++ (rk_2 ++ ([])))))))))))))))) 148 := rl_m hr (by decide)
  refine go_dup rfl hd (fun hd => ?_)
  have hd2 := jm_d2 hd
  refine go_initN (mc1 := 2) (ms1 := 12) (mc2 := 16) (ms2 := 75) "StillMinutes" 148 [.inr (.inl 148), .inr (.inl 1)] mk_DoneSearch_init rfl rfl nl_8_68 in_DoneSearch_init (by decide) (Nat.le_of_ble_eq_true rfl) rfl rfl rfl hd (kk_148 hz hr ?_)
  show jm_Go (d + 4) 16 75 md_X_init 113 [some (.inr (.inl 1)), none] [.inr (.inl 148), .inr (.inl 1)] (stg L 150 1337 (rk_148 ++ ((1, 10, 107) :: (rk_107 ++ ((1, 9, 103) :: (rk_103 ++ ((1, 8, 102) :: ((1, 7, 101) :: ((1, 6, 49) :: (rk_49 ++ ((1, 5, 44) :: (rk_44 ++ ((1, 3, 43) :: ((1, 2, 42) :: (rk_42 ++ (rk_22 ++ (rk_2 ++ ([]))))))))))))))))) (jm_up (bAF (jm_up (bAF I 2) 1 0 ((2 : Nat) : Int)) 22) 1 1 ((22 : Nat) : Int))) K
  have hd := hd2
  have hz : izero (jm_up (bAF (jm_up (bAF I 2) 1 0 ((2 : Nat) : Int)) 22) 1 1 ((22 : Nat) : Int)) 150 := iz_m hz (by decide)
  have hr : rle (rk_148 ++ ((1, 10, 107) :: (rk_107 ++ ((1, 9, 103) :: (rk_103 ++ ((1, 8, 102) :: ((1, 7, 101) :: ((1, 6, 49) :: (rk_49 ++ ((1, 5, 44) :: (rk_44 ++ ((1, 3, 43) :: ((1, 2, 42) :: (rk_42 ++ (rk_22 ++ (rk_2 ++ ([]))))))))))))))))) 150 := rl_a (by decide) (rl_m hr (by decide))
  refine sg_putR co_X8 fl_8_69 (by decide) rfl rfl rfl rfl hd (fun hd => ?_)
  have hr : rle ((1, 11, 148) :: (rk_148 ++ ((1, 10, 107) :: (rk_107 ++ ((1, 9, 103) :: (rk_103 ++ ((1, 8, 102) :: ((1, 7, 101) :: ((1, 6, 49) :: (rk_49 ++ ((1, 5, 44) :: (rk_44 ++ ((1, 3, 43) :: ((1, 2, 42) :: (rk_42 ++ (rk_22 ++ (rk_2 ++ ([])))))))))))))))))) 150 := rl_c hr (by decide)
  refine go_aload_n rfl hd (fun hd => ?_)
  refine sg_new (c := 7) (n' := 151) (sl' := 1343) (mc := 15) (ms := 69) hz hr co_X7 cl_8_73 w_ni_7 w_it_7 rfl rfl rfl rfl rfl hd (fun hd => ?_)
  have hz : izero (jm_up (bAF (jm_up (bAF I 2) 1 0 ((2 : Nat) : Int)) 22) 1 1 ((22 : Nat) : Int)) 151 := iz_m hz (by decide)
  have hr : rle ((1, 11, 148) :: (rk_148 ++ ((1, 10, 107) :: (rk_107 ++ ((1, 9, 103) :: (rk_103 ++ ((1, 8, 102) :: ((1, 7, 101) :: ((1, 6, 49) :: (rk_49 ++ ((1, 5, 44) :: (rk_44 ++ ((1, 3, 43) :: ((1, 2, 42) :: (rk_42 ++ (rk_22 ++ (rk_2 ++ ([])))))))))))))))))) 151 := rl_m hr (by decide)
  refine go_dup rfl hd (fun hd => ?_)
  have hd2 := jm_d2 hd
  refine go_initN (mc1 := 4) (ms1 := 11) (mc2 := 11) (ms2 := 58) "StillMinutes" 151 [.inr (.inl 151), .inr (.inl 1)] mk_TakingGame_init rfl rfl nl_8_75 in_TakingGame_init (by decide) (Nat.le_of_ble_eq_true rfl) rfl rfl rfl hd (kk_151 hz hr ?_)
  show jm_Go (d + 4) 11 58 md_X_init 124 [some (.inr (.inl 1)), none] [.inr (.inl 151), .inr (.inl 1)] (stg L 155 1354 (rk_151 ++ ((1, 11, 148) :: (rk_148 ++ ((1, 10, 107) :: (rk_107 ++ ((1, 9, 103) :: (rk_103 ++ ((1, 8, 102) :: ((1, 7, 101) :: ((1, 6, 49) :: (rk_49 ++ ((1, 5, 44) :: (rk_44 ++ ((1, 3, 43) :: ((1, 2, 42) :: (rk_42 ++ (rk_22 ++ (rk_2 ++ ([]))))))))))))))))))) (jm_up (bAF (jm_up (bAF I 2) 1 0 ((2 : Nat) : Int)) 22) 1 1 ((22 : Nat) : Int))) K
  have hd := hd2
  have hz : izero (jm_up (bAF (jm_up (bAF I 2) 1 0 ((2 : Nat) : Int)) 22) 1 1 ((22 : Nat) : Int)) 155 := iz_m hz (by decide)
  have hr : rle (rk_151 ++ ((1, 11, 148) :: (rk_148 ++ ((1, 10, 107) :: (rk_107 ++ ((1, 9, 103) :: (rk_103 ++ ((1, 8, 102) :: ((1, 7, 101) :: ((1, 6, 49) :: (rk_49 ++ ((1, 5, 44) :: (rk_44 ++ ((1, 3, 43) :: ((1, 2, 42) :: (rk_42 ++ (rk_22 ++ (rk_2 ++ ([]))))))))))))))))))) 155 := rl_a (by decide) (rl_m hr (by decide))
  refine sg_putR co_X8 fl_8_76 (by decide) rfl rfl rfl rfl hd (fun hd => ?_)
  have hr : rle ((1, 12, 151) :: (rk_151 ++ ((1, 11, 148) :: (rk_148 ++ ((1, 10, 107) :: (rk_107 ++ ((1, 9, 103) :: (rk_103 ++ ((1, 8, 102) :: ((1, 7, 101) :: ((1, 6, 49) :: (rk_49 ++ ((1, 5, 44) :: (rk_44 ++ ((1, 3, 43) :: ((1, 2, 42) :: (rk_42 ++ (rk_22 ++ (rk_2 ++ ([])))))))))))))))))))) 155 := rl_c hr (by decide)
  refine go_aload_n rfl hd (fun hd => ?_)
  refine go_bipush (by decide) hd (fun hd => ?_)
  refine sg_newI (n' := 156) (sl' := 1360) (mc := 10) (ms := 52) hz hr (by decide) (by decide) rfl rfl rfl rfl rfl hd (fun hd => ?_)
  have hz : izero (jm_up (bAF (jm_up (bAF I 2) 1 0 ((2 : Nat) : Int)) 22) 1 1 ((22 : Nat) : Int)) 156 := iz_m hz (by decide)
  have hr : rle ((1, 12, 151) :: (rk_151 ++ ((1, 11, 148) :: (rk_148 ++ ((1, 10, 107) :: (rk_107 ++ ((1, 9, 103) :: (rk_103 ++ ((1, 8, 102) :: ((1, 7, 101) :: ((1, 6, 49) :: (rk_49 ++ ((1, 5, 44) :: (rk_44 ++ ((1, 3, 43) :: ((1, 2, 42) :: (rk_42 ++ (rk_22 ++ (rk_2 ++ ([])))))))))))))))))))) 156 := rl_m hr (by decide)
  refine sg_putR co_X8 fl_8_80 (by decide) rfl rfl rfl rfl hd (fun hd => ?_)
  have hr : rle ((1, 13, 156) :: ((1, 12, 151) :: (rk_151 ++ ((1, 11, 148) :: (rk_148 ++ ((1, 10, 107) :: (rk_107 ++ ((1, 9, 103) :: (rk_103 ++ ((1, 8, 102) :: ((1, 7, 101) :: ((1, 6, 49) :: (rk_49 ++ ((1, 5, 44) :: (rk_44 ++ ((1, 3, 43) :: ((1, 2, 42) :: (rk_42 ++ (rk_22 ++ (rk_2 ++ ([]))))))))))))))))))))) 156 := rl_c hr (by decide)
  refine go_iconst hd (fun hd => ?_)
  refine go_istore_n (by decide) hd (fun hd => ?_)
  refine go_iload_n rfl hd (fun hd => ?_)
  refine go_iconst hd (fun hd => ?_)
  refine go_icmp_ge (t := 161) (by decide) ⟨by decide, by decide⟩ ⟨by decide, by decide⟩ hd (fun h => absurd h (by decide)) (fun _ => ?_)
  show jm_Go (d + 4) 10 52 md_X_init 142 [some (.inr (.inl 1)), some (.inl 0)] [] (stg L 156 1360 ((1, 13, 156) :: ((1, 12, 151) :: (rk_151 ++ ((1, 11, 148) :: (rk_148 ++ ((1, 10, 107) :: (rk_107 ++ ((1, 9, 103) :: (rk_103 ++ ((1, 8, 102) :: ((1, 7, 101) :: ((1, 6, 49) :: (rk_49 ++ ((1, 5, 44) :: (rk_44 ++ ((1, 3, 43) :: ((1, 2, 42) :: (rk_42 ++ (rk_22 ++ (rk_2 ++ ([]))))))))))))))))))))) (jm_up (bAF (jm_up (bAF I 2) 1 0 ((2 : Nat) : Int)) 22) 1 1 ((22 : Nat) : Int))) K
  have hd := dc_X_init_142
  refine go_aload_n rfl hd (fun hd => ?_)
  refine go_getR (b := 101) co_X8 fl_8_44 (by decide) rfl rfl (show rF ((1, 13, 156) :: ((1, 12, 151) :: (rk_151 ++ ((1, 11, 148) :: (rk_148 ++ ((1, 10, 107) :: (rk_107 ++ ((1, 9, 103) :: (rk_103 ++ ((1, 8, 102) :: ((1, 7, 101) :: ((1, 6, 49) :: (rk_49 ++ ((1, 5, 44) :: (rk_44 ++ ((1, 3, 43) :: ((1, 2, 42) :: (rk_42 ++ (rk_22 ++ (rk_2 ++ ([]))))))))))))))))))))) 1 7 = some 101 by decide) hd (fun hd => ?_)
  refine go_iload_n rfl hd (fun hd => ?_)
  refine sg_new (c := 5) (n' := 157) (sl' := 1366) (mc := 9) (ms := 46) hz hr co_X5 cl_8_30 w_ni_5 w_it_5 rfl rfl rfl rfl rfl hd (fun hd => ?_)
  have hz : izero (jm_up (bAF (jm_up (bAF I 2) 1 0 ((2 : Nat) : Int)) 22) 1 1 ((22 : Nat) : Int)) 157 := iz_m hz (by decide)
  have hr : rle ((1, 13, 156) :: ((1, 12, 151) :: (rk_151 ++ ((1, 11, 148) :: (rk_148 ++ ((1, 10, 107) :: (rk_107 ++ ((1, 9, 103) :: (rk_103 ++ ((1, 8, 102) :: ((1, 7, 101) :: ((1, 6, 49) :: (rk_49 ++ ((1, 5, 44) :: (rk_44 ++ ((1, 3, 43) :: ((1, 2, 42) :: (rk_42 ++ (rk_22 ++ (rk_2 ++ ([]))))))))))))))))))))) 157 := rl_m hr (by decide)
  refine go_dup rfl hd (fun hd => ?_)
  have hd2 := jm_d2 hd
  refine go_initN (mc1 := 4) (ms1 := 20) (mc2 := 5) (ms2 := 26) "StillMinutes" 157 [.inr (.inl 157), .inl 0, .inr (.inl 101)] mk_Moment_init rfl rfl nl_8_32 in_Moment_init (by decide) (Nat.le_of_ble_eq_true rfl) rfl rfl rfl hd (kk_157 hz hr ?_)
  show jm_Go (d + 4) 5 26 md_X_init 154 [some (.inr (.inl 1)), some (.inl 0)] [.inr (.inl 157), .inl 0, .inr (.inl 101)] (stg L 161 1386 (rk_157 ++ ((1, 13, 156) :: ((1, 12, 151) :: (rk_151 ++ ((1, 11, 148) :: (rk_148 ++ ((1, 10, 107) :: (rk_107 ++ ((1, 9, 103) :: (rk_103 ++ ((1, 8, 102) :: ((1, 7, 101) :: ((1, 6, 49) :: (rk_49 ++ ((1, 5, 44) :: (rk_44 ++ ((1, 3, 43) :: ((1, 2, 42) :: (rk_42 ++ (rk_22 ++ (rk_2 ++ ([])))))))))))))))))))))) (jm_up (bAF (jm_up (bAF I 2) 1 0 ((2 : Nat) : Int)) 22) 1 1 ((22 : Nat) : Int))) K
  have hd := hd2
  have hz : izero (jm_up (bAF (jm_up (bAF I 2) 1 0 ((2 : Nat) : Int)) 22) 1 1 ((22 : Nat) : Int)) 161 := iz_m hz (by decide)
  have hr : rle (rk_157 ++ ((1, 13, 156) :: ((1, 12, 151) :: (rk_151 ++ ((1, 11, 148) :: (rk_148 ++ ((1, 10, 107) :: (rk_107 ++ ((1, 9, 103) :: (rk_103 ++ ((1, 8, 102) :: ((1, 7, 101) :: ((1, 6, 49) :: (rk_49 ++ ((1, 5, 44) :: (rk_44 ++ ((1, 3, 43) :: ((1, 2, 42) :: (rk_42 ++ (rk_22 ++ (rk_2 ++ ([])))))))))))))))))))))) 161 := rl_a (by decide) (rl_m hr (by decide))
  refine sg_aastore (m := 2) rfl rfl (by decide) (by decide) (by decide) hd (fun hd => ?_)
  show jm_Go (d + 4) 5 26 md_X_init 155 [some (.inr (.inl 1)), some (.inl 0)] [] (stg L 161 1386 ((101, 0, 157) :: (rk_157 ++ ((1, 13, 156) :: ((1, 12, 151) :: (rk_151 ++ ((1, 11, 148) :: (rk_148 ++ ((1, 10, 107) :: (rk_107 ++ ((1, 9, 103) :: (rk_103 ++ ((1, 8, 102) :: ((1, 7, 101) :: ((1, 6, 49) :: (rk_49 ++ ((1, 5, 44) :: (rk_44 ++ ((1, 3, 43) :: ((1, 2, 42) :: (rk_42 ++ (rk_22 ++ (rk_2 ++ ([]))))))))))))))))))))))) (jm_up (bAF (jm_up (bAF I 2) 1 0 ((2 : Nat) : Int)) 22) 1 1 ((22 : Nat) : Int))) K
  have hr : rle ((101, 0, 157) :: (rk_157 ++ ((1, 13, 156) :: ((1, 12, 151) :: (rk_151 ++ ((1, 11, 148) :: (rk_148 ++ ((1, 10, 107) :: (rk_107 ++ ((1, 9, 103) :: (rk_103 ++ ((1, 8, 102) :: ((1, 7, 101) :: ((1, 6, 49) :: (rk_49 ++ ((1, 5, 44) :: (rk_44 ++ ((1, 3, 43) :: ((1, 2, 42) :: (rk_42 ++ (rk_22 ++ (rk_2 ++ ([]))))))))))))))))))))))) 161 := rl_c hr (by decide)
  refine go_iinc rfl hd (fun hd => ?_)
  refine go_goto (t := 137) (by decide) hd ?_
  show jm_Go (d + 4) 5 26 md_X_init 137 [some (.inr (.inl 1)), some (.inl 1)] [] (stg L 161 1386 ((101, 0, 157) :: (rk_157 ++ ((1, 13, 156) :: ((1, 12, 151) :: (rk_151 ++ ((1, 11, 148) :: (rk_148 ++ ((1, 10, 107) :: (rk_107 ++ ((1, 9, 103) :: (rk_103 ++ ((1, 8, 102) :: ((1, 7, 101) :: ((1, 6, 49) :: (rk_49 ++ ((1, 5, 44) :: (rk_44 ++ ((1, 3, 43) :: ((1, 2, 42) :: (rk_42 ++ (rk_22 ++ (rk_2 ++ ([]))))))))))))))))))))))) (jm_up (bAF (jm_up (bAF I 2) 1 0 ((2 : Nat) : Int)) 22) 1 1 ((22 : Nat) : Int))) K
  have hd := dc_X_init_137
  refine go_iload_n rfl hd (fun hd => ?_)
  refine go_iconst hd (fun hd => ?_)
  refine go_icmp_ge (t := 161) (by decide) ⟨by decide, by decide⟩ ⟨by decide, by decide⟩ hd (fun h => absurd h (by decide)) (fun _ => ?_)
  show jm_Go (d + 4) 5 26 md_X_init 142 [some (.inr (.inl 1)), some (.inl 1)] [] (stg L 161 1386 ((101, 0, 157) :: (rk_157 ++ ((1, 13, 156) :: ((1, 12, 151) :: (rk_151 ++ ((1, 11, 148) :: (rk_148 ++ ((1, 10, 107) :: (rk_107 ++ ((1, 9, 103) :: (rk_103 ++ ((1, 8, 102) :: ((1, 7, 101) :: ((1, 6, 49) :: (rk_49 ++ ((1, 5, 44) :: (rk_44 ++ ((1, 3, 43) :: ((1, 2, 42) :: (rk_42 ++ (rk_22 ++ (rk_2 ++ ([]))))))))))))))))))))))) (jm_up (bAF (jm_up (bAF I 2) 1 0 ((2 : Nat) : Int)) 22) 1 1 ((22 : Nat) : Int))) K
  have hd := dc_X_init_142
  refine go_aload_n rfl hd (fun hd => ?_)
  refine go_getR (b := 101) co_X8 fl_8_44 (by decide) rfl rfl (show rF ((101, 0, 157) :: (rk_157 ++ ((1, 13, 156) :: ((1, 12, 151) :: (rk_151 ++ ((1, 11, 148) :: (rk_148 ++ ((1, 10, 107) :: (rk_107 ++ ((1, 9, 103) :: (rk_103 ++ ((1, 8, 102) :: ((1, 7, 101) :: ((1, 6, 49) :: (rk_49 ++ ((1, 5, 44) :: (rk_44 ++ ((1, 3, 43) :: ((1, 2, 42) :: (rk_42 ++ (rk_22 ++ (rk_2 ++ ([]))))))))))))))))))))))) 1 7 = some 101 by decide) hd (fun hd => ?_)
  refine go_iload_n rfl hd (fun hd => ?_)
  refine sg_new (c := 5) (n' := 162) (sl' := 1392) (mc := 4) (ms := 20) hz hr co_X5 cl_8_30 w_ni_5 w_it_5 rfl rfl rfl rfl rfl hd (fun hd => ?_)
  have hz : izero (jm_up (bAF (jm_up (bAF I 2) 1 0 ((2 : Nat) : Int)) 22) 1 1 ((22 : Nat) : Int)) 162 := iz_m hz (by decide)
  have hr : rle ((101, 0, 157) :: (rk_157 ++ ((1, 13, 156) :: ((1, 12, 151) :: (rk_151 ++ ((1, 11, 148) :: (rk_148 ++ ((1, 10, 107) :: (rk_107 ++ ((1, 9, 103) :: (rk_103 ++ ((1, 8, 102) :: ((1, 7, 101) :: ((1, 6, 49) :: (rk_49 ++ ((1, 5, 44) :: (rk_44 ++ ((1, 3, 43) :: ((1, 2, 42) :: (rk_42 ++ (rk_22 ++ (rk_2 ++ ([]))))))))))))))))))))))) 162 := rl_m hr (by decide)
  refine go_dup rfl hd (fun hd => ?_)
  have hd2 := jm_d2 hd
  refine go_initN (mc1 := 4) (ms1 := 20) (mc2 := 0) (ms2 := 0) "StillMinutes" 162 [.inr (.inl 162), .inl 1, .inr (.inl 101)] mk_Moment_init rfl rfl nl_8_32 in_Moment_init (by decide) (Nat.le_of_ble_eq_true rfl) rfl rfl rfl hd (kk_162 hz hr ?_)
  show jm_Go (d + 4) 0 0 md_X_init 154 [some (.inr (.inl 1)), some (.inl 1)] [.inr (.inl 162), .inl 1, .inr (.inl 101)] (stg L 166 1412 (rk_162 ++ ((101, 0, 157) :: (rk_157 ++ ((1, 13, 156) :: ((1, 12, 151) :: (rk_151 ++ ((1, 11, 148) :: (rk_148 ++ ((1, 10, 107) :: (rk_107 ++ ((1, 9, 103) :: (rk_103 ++ ((1, 8, 102) :: ((1, 7, 101) :: ((1, 6, 49) :: (rk_49 ++ ((1, 5, 44) :: (rk_44 ++ ((1, 3, 43) :: ((1, 2, 42) :: (rk_42 ++ (rk_22 ++ (rk_2 ++ ([])))))))))))))))))))))))) (jm_up (bAF (jm_up (bAF I 2) 1 0 ((2 : Nat) : Int)) 22) 1 1 ((22 : Nat) : Int))) K
  have hd := hd2
  have hz : izero (jm_up (bAF (jm_up (bAF I 2) 1 0 ((2 : Nat) : Int)) 22) 1 1 ((22 : Nat) : Int)) 166 := iz_m hz (by decide)
  have hr : rle (rk_162 ++ ((101, 0, 157) :: (rk_157 ++ ((1, 13, 156) :: ((1, 12, 151) :: (rk_151 ++ ((1, 11, 148) :: (rk_148 ++ ((1, 10, 107) :: (rk_107 ++ ((1, 9, 103) :: (rk_103 ++ ((1, 8, 102) :: ((1, 7, 101) :: ((1, 6, 49) :: (rk_49 ++ ((1, 5, 44) :: (rk_44 ++ ((1, 3, 43) :: ((1, 2, 42) :: (rk_42 ++ (rk_22 ++ (rk_2 ++ ([])))))))))))))))))))))))) 166 := rl_a (by decide) (rl_m hr (by decide))
  refine sg_aastore (m := 2) rfl rfl (by decide) (by decide) (by decide) hd (fun hd => ?_)
  show jm_Go (d + 4) 0 0 md_X_init 155 [some (.inr (.inl 1)), some (.inl 1)] [] (stg L 166 1412 ((101, 1, 162) :: (rk_162 ++ ((101, 0, 157) :: (rk_157 ++ ((1, 13, 156) :: ((1, 12, 151) :: (rk_151 ++ ((1, 11, 148) :: (rk_148 ++ ((1, 10, 107) :: (rk_107 ++ ((1, 9, 103) :: (rk_103 ++ ((1, 8, 102) :: ((1, 7, 101) :: ((1, 6, 49) :: (rk_49 ++ ((1, 5, 44) :: (rk_44 ++ ((1, 3, 43) :: ((1, 2, 42) :: (rk_42 ++ (rk_22 ++ (rk_2 ++ ([]))))))))))))))))))))))))) (jm_up (bAF (jm_up (bAF I 2) 1 0 ((2 : Nat) : Int)) 22) 1 1 ((22 : Nat) : Int))) K
  have hr : rle ((101, 1, 162) :: (rk_162 ++ ((101, 0, 157) :: (rk_157 ++ ((1, 13, 156) :: ((1, 12, 151) :: (rk_151 ++ ((1, 11, 148) :: (rk_148 ++ ((1, 10, 107) :: (rk_107 ++ ((1, 9, 103) :: (rk_103 ++ ((1, 8, 102) :: ((1, 7, 101) :: ((1, 6, 49) :: (rk_49 ++ ((1, 5, 44) :: (rk_44 ++ ((1, 3, 43) :: ((1, 2, 42) :: (rk_42 ++ (rk_22 ++ (rk_2 ++ ([]))))))))))))))))))))))))) 166 := rl_c hr (by decide)
  refine go_iinc rfl hd (fun hd => ?_)
  refine go_goto (t := 137) (by decide) hd ?_
  show jm_Go (d + 4) 0 0 md_X_init 137 [some (.inr (.inl 1)), some (.inl 2)] [] (stg L 166 1412 ((101, 1, 162) :: (rk_162 ++ ((101, 0, 157) :: (rk_157 ++ ((1, 13, 156) :: ((1, 12, 151) :: (rk_151 ++ ((1, 11, 148) :: (rk_148 ++ ((1, 10, 107) :: (rk_107 ++ ((1, 9, 103) :: (rk_103 ++ ((1, 8, 102) :: ((1, 7, 101) :: ((1, 6, 49) :: (rk_49 ++ ((1, 5, 44) :: (rk_44 ++ ((1, 3, 43) :: ((1, 2, 42) :: (rk_42 ++ (rk_22 ++ (rk_2 ++ ([]))))))))))))))))))))))))) (jm_up (bAF (jm_up (bAF I 2) 1 0 ((2 : Nat) : Int)) 22) 1 1 ((22 : Nat) : Int))) K
  have hd := dc_X_init_137
  refine go_iload_n rfl hd (fun hd => ?_)
  refine go_iconst hd (fun hd => ?_)
  refine go_icmp_ge (t := 161) (by decide) ⟨by decide, by decide⟩ ⟨by decide, by decide⟩ hd (fun _ => ?_) (fun h => absurd (by decide) h)
  show jm_Go (d + 4) 0 0 md_X_init 161 [some (.inr (.inl 1)), some (.inl 2)] [] (stg L 166 1412 ((101, 1, 162) :: (rk_162 ++ ((101, 0, 157) :: (rk_157 ++ ((1, 13, 156) :: ((1, 12, 151) :: (rk_151 ++ ((1, 11, 148) :: (rk_148 ++ ((1, 10, 107) :: (rk_107 ++ ((1, 9, 103) :: (rk_103 ++ ((1, 8, 102) :: ((1, 7, 101) :: ((1, 6, 49) :: (rk_49 ++ ((1, 5, 44) :: (rk_44 ++ ((1, 3, 43) :: ((1, 2, 42) :: (rk_42 ++ (rk_22 ++ (rk_2 ++ ([]))))))))))))))))))))))))) (jm_up (bAF (jm_up (bAF I 2) 1 0 ((2 : Nat) : Int)) 22) 1 1 ((22 : Nat) : Int))) K
  have hd := dc_X_init_161
  refine go_aload_n rfl hd (fun hd => ?_)
  have hd2 := jm_d2 hd
  refine go_virtual (mc1 := 0) (ms1 := 0) (mc2 := 0) (ms2 := 0) 1 8 [] [] mk_X_settleIn co_X8 rfl ml_8_83 in_X_settleIn se_X_settleIn rfl rfl (by decide) rfl (Nat.le_of_ble_eq_true rfl) rfl rfl rfl hd (jm_Go.mono (c_X_settleIn (P := stP L 166 1412 ((101, 1, 162) :: (rk_162 ++ ((101, 0, 157) :: (rk_157 ++ ((1, 13, 156) :: ((1, 12, 151) :: (rk_151 ++ ((1, 11, 148) :: (rk_148 ++ ((1, 10, 107) :: (rk_107 ++ ((1, 9, 103) :: (rk_103 ++ ((1, 8, 102) :: ((1, 7, 101) :: ((1, 6, 49) :: (rk_49 ++ ((1, 5, 44) :: (rk_44 ++ ((1, 3, 43) :: ((1, 2, 42) :: (rk_42 ++ (rk_22 ++ (rk_2 ++ ([])))))))))))))))))))))))))) (c := 2) (K := fun v J => v = none ∧ fst1 (jm_up (bAF (jm_up (bAF I 2) 1 0 ((2 : Nat) : Int)) 22) 1 1 ((22 : Nat) : Int)) J) rfl rfl tm_X tt_X ⟨by decide, by decide⟩ rfl (fst_co hz0) fst_r (fun J h1 h2 h3 h4 h5 => ⟨rfl, h1, h2, h3, h4, h5⟩)) (fun v M hv => ?_))
  obtain ⟨J, rfl, rfl, h1⟩ := hv
  have hd := hd2
  exact go_vreturn hd rfl (k J h1)
