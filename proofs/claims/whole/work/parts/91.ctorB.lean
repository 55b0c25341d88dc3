/-! ===== the constructors (by program, wip/gen/gen12.py) ===== -/
def bAF (I : jm_I) (a : Nat) : jm_I := jm_up (jm_up (jm_up (jm_up (jm_up I a 0 2) a 1 10) a 2 0) a 3 0) a 4 0
theorem bAF_z {I : jm_I} {a n : Nat} (h : izero I n) (ha : a ≤ n) : izero (bAF I a) n := iz_u (iz_u (iz_u (iz_u (iz_u h ha) ha) ha) ha) ha
theorem dc_City_init_0 : jm_dc md_City_init.2.1 0 [(.aload_n 0, 1), (.invokespecial 3, 3), (.aload_n 0, 1), (.bipush 8, 2), (.newarray .int, 2), (.putfield 9, 3), (.aload_n 0, 1), (.bipush 8, 2), (.newarray .int, 2), (.putfield 15, 3), (.aload_n 0, 1), (.bipush 8, 2), (.newarray .int, 2), (.putfield 18, 3), (.aload_n 0, 1), (.iconst 5, 1), (.newarray .int, 2), (.putfield 21, 3), (.aload_n 0, 1), (.iconst 5, 1), (.newarray .int, 2), (.putfield 24, 3), (.aload_n 0, 1), (.iconst 5, 1), (.newarray .int, 2), (.putfield 27, 3), (.aload_n 0, 1), (.iconst 5, 1), (.iconst 4, 1), (.multianewarray 30 2, 4), (.putfield 32, 3), (.aload_n 0, 1), (.bipush 6, 2), (.bipush 6, 2), (.multianewarray 30 2, 4), (.putfield 35, 3), (.aload_n 0, 1), (.invokevirtual 38, 3), (.return_, 1)] = true := by decide +kernel
theorem tt_2 {L : Nat} {rl : List (Nat × Nat × Nat)} : jx_City (stP L 21 134 ((2, 12, 15) :: (grl 15 6 ++ ((2, 11, 9) :: (grl 9 5 ++ ((2, 10, 8) :: ((2, 9, 7) :: ((2, 8, 6) :: ((2, 7, 5) :: ((2, 6, 4) :: ((2, 5, 3) :: (rl)))))))))))) 2 := by
  unfold jx_City
  refine ⟨by decide, rfl, rfl, rfl, rfl, rfl, rfl, rfl, rfl, rfl, rfl, rfl, rfl, rfl, rfl, rfl, rfl, rfl, rfl, rfl, rfl, rfl, rfl, rfl, rfl, rfl, rfl, rfl, rfl, fun i hi => ?_, fun i hi => ?_⟩
  · rcases (show i = 0 ∨ i = 1 ∨ i = 2 ∨ i = 3 ∨ i = 4 by omega) with rfl | rfl | rfl | rfl | rfl <;> rfl
  · rcases (show i = 0 ∨ i = 1 ∨ i = 2 ∨ i = 3 ∨ i = 4 ∨ i = 5 by omega) with rfl | rfl | rfl | rfl | rfl | rfl <;> rfl
def rk_2 : List (Nat × Nat × Nat) := (2, 12, 15) :: (grl 15 6 ++ ((2, 11, 9) :: (grl 9 5 ++ ((2, 10, 8) :: ((2, 9, 7) :: ((2, 8, 6) :: ((2, 7, 5) :: ((2, 6, 4) :: ((2, 5, 3) :: ([]))))))))))
theorem kk_2 {L d : Nat} {rl : List (Nat × Nat × Nat)} {I : jm_I} {K : Option jm_V → jm_M → Prop} (hz : izero I 2) (hr : rle rl 2) (k : K none (stg L 21 134 (rk_2 ++ rl) (bAF I 2))) : jm_Call (d + 1) 19 106 md_City_init [.inr (.inl 2)] (stg L 2 28 rl I) K := by
  show jm_Go (d + 1) 19 106 md_City_init 0 [some (.inr (.inl 2))] [] (stg L 2 28 (rl) I) K
  have hd := dc_City_init_0
  refine go_aload_n rfl hd (fun hd => ?_)
  refine go_objinit ml_0_3 w_oi1 w_oi2 (Nat.le_of_ble_eq_true rfl) hd (fun hd => ?_)
  refine go_aload_n rfl hd (fun hd => ?_)
  refine go_bipush (by decide) hd (fun hd => ?_)
  refine sg_newI (n' := 3) (sl' := 36) (mc := 18) (ms := 98) hz hr (by decide) (by decide) rfl rfl rfl rfl rfl hd (fun hd => ?_)
  have hz : izero I 3 := iz_m hz (by decide)
  have hr : rle (rl) 3 := rl_m hr (by decide)
  refine sg_putR co_X0 fl_0_9 (by decide) rfl rfl rfl rfl hd (fun hd => ?_)
  have hr : rle ((2, 5, 3) :: (rl)) 3 := rl_c hr (by decide)
  refine go_aload_n rfl hd (fun hd => ?_)
  refine go_bipush (by decide) hd (fun hd => ?_)
  refine sg_newI (n' := 4) (sl' := 44) (mc := 17) (ms := 90) hz hr (by decide) (by decide) rfl rfl rfl rfl rfl hd (fun hd => ?_)
  have hz : izero I 4 := iz_m hz (by decide)
  have hr : rle ((2, 5, 3) :: (rl)) 4 := rl_m hr (by decide)
  refine sg_putR co_X0 fl_0_15 (by decide) rfl rfl rfl rfl hd (fun hd => ?_)
  have hr : rle ((2, 6, 4) :: ((2, 5, 3) :: (rl))) 4 := rl_c hr (by decide)
  refine go_aload_n rfl hd (fun hd => ?_)
  refine go_bipush (by decide) hd (fun hd => ?_)
  refine sg_newI (n' := 5) (sl' := 52) (mc := 16) (ms := 82) hz hr (by decide) (by decide) rfl rfl rfl rfl rfl hd (fun hd => ?_)
  have hz : izero I 5 := iz_m hz (by decide)
  have hr : rle ((2, 6, 4) :: ((2, 5, 3) :: (rl))) 5 := rl_m hr (by decide)
  refine sg_putR co_X0 fl_0_18 (by decide) rfl rfl rfl rfl hd (fun hd => ?_)
  have hr : rle ((2, 7, 5) :: ((2, 6, 4) :: ((2, 5, 3) :: (rl)))) 5 := rl_c hr (by decide)
  refine go_aload_n rfl hd (fun hd => ?_)
  refine go_iconst hd (fun hd => ?_)
  refine sg_newI (n' := 6) (sl' := 57) (mc := 15) (ms := 77) hz hr (by decide) (by decide) rfl rfl rfl rfl rfl hd (fun hd => ?_)
  have hz : izero I 6 := iz_m hz (by decide)
  have hr : rle ((2, 7, 5) :: ((2, 6, 4) :: ((2, 5, 3) :: (rl)))) 6 := rl_m hr (by decide)
  refine sg_putR co_X0 fl_0_21 (by decide) rfl rfl rfl rfl hd (fun hd => ?_)
  have hr : rle ((2, 8, 6) :: ((2, 7, 5) :: ((2, 6, 4) :: ((2, 5, 3) :: (rl))))) 6 := rl_c hr (by decide)
  refine go_aload_n rfl hd (fun hd => ?_)
  refine go_iconst hd (fun hd => ?_)
  refine sg_newI (n' := 7) (sl' := 62) (mc := 14) (ms := 72) hz hr (by decide) (by decide) rfl rfl rfl rfl rfl hd (fun hd => ?_)
  have hz : izero I 7 := iz_m hz (by decide)
  have hr : rle ((2, 8, 6) :: ((2, 7, 5) :: ((2, 6, 4) :: ((2, 5, 3) :: (rl))))) 7 := rl_m hr (by decide)
  refine sg_putR co_X0 fl_0_24 (by decide) rfl rfl rfl rfl hd (fun hd => ?_)
  have hr : rle ((2, 9, 7) :: ((2, 8, 6) :: ((2, 7, 5) :: ((2, 6, 4) :: ((2, 5, 3) :: (rl)))))) 7 := rl_c hr (by decide)
  refine go_aload_n rfl hd (fun hd => ?_)
  refine go_iconst hd (fun hd => ?_)
  refine sg_newI (n' := 8) (sl' := 67) (mc := 13) (ms := 67) hz hr (by decide) (by decide) rfl rfl rfl rfl rfl hd (fun hd => ?_)
  have hz : izero I 8 := iz_m hz (by decide)
  have hr : rle ((2, 9, 7) :: ((2, 8, 6) :: ((2, 7, 5) :: ((2, 6, 4) :: ((2, 5, 3) :: (rl)))))) 8 := rl_m hr (by decide)
  refine sg_putR co_X0 fl_0_27 (by decide) rfl rfl rfl rfl hd (fun hd => ?_)
  have hr : rle ((2, 10, 8) :: ((2, 9, 7) :: ((2, 8, 6) :: ((2, 7, 5) :: ((2, 6, 4) :: ((2, 5, 3) :: (rl))))))) 8 := rl_c hr (by decide)
  refine go_aload_n rfl hd (fun hd => ?_)
  refine go_iconst hd (fun hd => ?_)
  refine go_iconst hd (fun hd => ?_)
  refine sg_multi (n' := 14) (sl' := 92) (mc := 7) (ms := 42) hz hr cl_0_30 (by decide) (by decide) (by decide) (by decide) rfl (by decide) rfl rfl rfl rfl hd (fun hd => ?_)
  show jm_Go (d + 1) 7 42 md_City_init 56 [some (.inr (.inl 2))] [.inr (.inl 9), .inr (.inl 2)] (stg L 14 92 (grl 9 5 ++ ((2, 10, 8) :: ((2, 9, 7) :: ((2, 8, 6) :: ((2, 7, 5) :: ((2, 6, 4) :: ((2, 5, 3) :: (rl)))))))) I) K
  have hz : izero I 14 := iz_m hz (by decide)
  have hr : rle (grl 9 5 ++ ((2, 10, 8) :: ((2, 9, 7) :: ((2, 8, 6) :: ((2, 7, 5) :: ((2, 6, 4) :: ((2, 5, 3) :: (rl)))))))) 14 := rl_a (rl_g (by decide)) (rl_m hr (by decide))
  refine sg_putR co_X0 fl_0_32 (by decide) rfl rfl rfl rfl hd (fun hd => ?_)
  have hr : rle ((2, 11, 9) :: (grl 9 5 ++ ((2, 10, 8) :: ((2, 9, 7) :: ((2, 8, 6) :: ((2, 7, 5) :: ((2, 6, 4) :: ((2, 5, 3) :: (rl))))))))) 14 := rl_c hr (by decide)
  refine go_aload_n rfl hd (fun hd => ?_)
  refine go_bipush (by decide) hd (fun hd => ?_)
  refine go_bipush (by decide) hd (fun hd => ?_)
  refine sg_multi (n' := 21) (sl' := 134) (mc := 0) (ms := 0) hz hr cl_0_30 (by decide) (by decide) (by decide) (by decide) rfl (by decide) rfl rfl rfl rfl hd (fun hd => ?_)
  show jm_Go (d + 1) 0 0 md_City_init 68 [some (.inr (.inl 2))] [.inr (.inl 15), .inr (.inl 2)] (stg L 21 134 (grl 15 6 ++ ((2, 11, 9) :: (grl 9 5 ++ ((2, 10, 8) :: ((2, 9, 7) :: ((2, 8, 6) :: ((2, 7, 5) :: ((2, 6, 4) :: ((2, 5, 3) :: (rl)))))))))) I) K
  have hz : izero I 21 := iz_m hz (by decide)
  have hr : rle (grl 15 6 ++ ((2, 11, 9) :: (grl 9 5 ++ ((2, 10, 8) :: ((2, 9, 7) :: ((2, 8, 6) :: ((2, 7, 5) :: ((2, 6, 4) :: ((2, 5, 3) :: (rl)))))))))) 21 := rl_a (rl_g (by decide)) (rl_m hr (by decide))
  refine sg_putR co_X0 fl_0_35 (by decide) rfl rfl rfl rfl hd (fun hd => ?_)
  have hr : rle ((2, 12, 15) :: (grl 15 6 ++ ((2, 11, 9) :: (grl 9 5 ++ ((2, 10, 8) :: ((2, 9, 7) :: ((2, 8, 6) :: ((2, 7, 5) :: ((2, 6, 4) :: ((2, 5, 3) :: (rl))))))))))) 21 := rl_c hr (by decide)
  refine go_aload_n rfl hd (fun hd => ?_)
  have hd2 := jm_d2 hd
  refine go_virtual (mc1 := 0) (ms1 := 0) (mc2 := 0) (ms2 := 0) 2 0 [] [] mk_City_beAsAtFirst co_X0 rfl ml_0_38 in_City_beAsAtFirst se_City_beAsAtFirst rfl rfl (by decide) rfl (Nat.le_of_ble_eq_true rfl) rfl rfl rfl hd (jm_Go.mono (b_City_beAsAtFirst_0 (P := stP L 21 134 ((2, 12, 15) :: (grl 15 6 ++ ((2, 11, 9) :: (grl 9 5 ++ ((2, 10, 8) :: ((2, 9, 7) :: ((2, 8, 6) :: ((2, 7, 5) :: ((2, 6, 4) :: ((2, 5, 3) :: (rl)))))))))))) (Q := fun v J => v = none ∧ J = bAF I 2) (tt_2) ⟨rfl, rfl⟩) (fun v M hv => ?_))
  obtain ⟨J, rfl, rfl, rfl⟩ := hv
  have hd := hd2
  exact go_vreturn hd rfl k
theorem tt_22 {L : Nat} {rl : List (Nat × Nat × Nat)} : jx_City (stP L 41 253 ((22, 12, 35) :: (grl 35 6 ++ ((22, 11, 29) :: (grl 29 5 ++ ((22, 10, 28) :: ((22, 9, 27) :: ((22, 8, 26) :: ((22, 7, 25) :: ((22, 6, 24) :: ((22, 5, 23) :: (rl)))))))))))) 22 := by
  unfold jx_City
  refine ⟨by decide, rfl, rfl, rfl, rfl, rfl, rfl, rfl, rfl, rfl, rfl, rfl, rfl, rfl, rfl, rfl, rfl, rfl, rfl, rfl, rfl, rfl, rfl, rfl, rfl, rfl, rfl, rfl, rfl, fun i hi => ?_, fun i hi => ?_⟩
  · rcases (show i = 0 ∨ i = 1 ∨ i = 2 ∨ i = 3 ∨ i = 4 by omega) with rfl | rfl | rfl | rfl | rfl <;> rfl
  · rcases (show i = 0 ∨ i = 1 ∨ i = 2 ∨ i = 3 ∨ i = 4 ∨ i = 5 by omega) with rfl | rfl | rfl | rfl | rfl | rfl <;> rfl
def rk_22 : List (Nat × Nat × Nat) := (22, 12, 35) :: (grl 35 6 ++ ((22, 11, 29) :: (grl 29 5 ++ ((22, 10, 28) :: ((22, 9, 27) :: ((22, 8, 26) :: ((22, 7, 25) :: ((22, 6, 24) :: ((22, 5, 23) :: ([]))))))))))
theorem kk_22 {L d : Nat} {rl : List (Nat × Nat × Nat)} {I : jm_I} {K : Option jm_V → jm_M → Prop} (hz : izero I 22) (hr : rle rl 22) (k : K none (stg L 41 253 (rk_22 ++ rl) (bAF I 22))) : jm_Call (d + 1) 19 106 md_City_init [.inr (.inl 22)] (stg L 22 147 rl I) K := by
  show jm_Go (d + 1) 19 106 md_City_init 0 [some (.inr (.inl 22))] [] (stg L 22 147 (rl) I) K
  have hd := dc_City_init_0
  refine go_aload_n rfl hd (fun hd => ?_)
  refine go_objinit ml_0_3 w_oi1 w_oi2 (Nat.le_of_ble_eq_true rfl) hd (fun hd => ?_)
  refine go_aload_n rfl hd (fun hd => ?_)
  refine go_bipush (by decide) hd (fun hd => ?_)
  refine sg_newI (n' := 23) (sl' := 155) (mc := 18) (ms := 98) hz hr (by decide) (by decide) rfl rfl rfl rfl rfl hd (fun hd => ?_)
  have hz : izero I 23 := iz_m hz (by decide)
  have hr : rle (rl) 23 := rl_m hr (by decide)
  refine sg_putR co_X0 fl_0_9 (by decide) rfl rfl rfl rfl hd (fun hd => ?_)
  have hr : rle ((22, 5, 23) :: (rl)) 23 := rl_c hr (by decide)
  refine go_aload_n rfl hd (fun hd => ?_)
  refine go_bipush (by decide) hd (fun hd => ?_)
  refine sg_newI (n' := 24) (sl' := 163) (mc := 17) (ms := 90) hz hr (by decide) (by decide) rfl rfl rfl rfl rfl hd (fun hd => ?_)
  have hz : izero I 24 := iz_m hz (by decide)
  have hr : rle ((22, 5, 23) :: (rl)) 24 := rl_m hr (by decide)
  refine sg_putR co_X0 fl_0_15 (by decide) rfl rfl rfl rfl hd (fun hd => ?_)
  have hr : rle ((22, 6, 24) :: ((22, 5, 23) :: (rl))) 24 := rl_c hr (by decide)
  refine go_aload_n rfl hd (fun hd => ?_)
  refine go_bipush (by decide) hd (fun hd => ?_)
  refine sg_newI (n' := 25) (sl' := 171) (mc := 16) (ms := 82) hz hr (by decide) (by decide) rfl rfl rfl rfl rfl hd (fun hd => ?_)
  have hz : izero I 25 := iz_m hz (by decide)
  have hr : rle ((22, 6, 24) :: ((22, 5, 23) :: (rl))) 25 := rl_m hr (by decide)
  refine sg_putR co_X0 fl_0_18 (by decide) rfl rfl rfl rfl hd (fun hd => ?_)
  have hr : rle ((22, 7, 25) :: ((22, 6, 24) :: ((22, 5, 23) :: (rl)))) 25 := rl_c hr (by decide)
  refine go_aload_n rfl hd (fun hd => ?_)
  refine go_iconst hd (fun hd => ?_)
  refine sg_newI (n' := 26) (sl' := 176) (mc := 15) (ms := 77) hz hr (by decide) (by decide) rfl rfl rfl rfl rfl hd (fun hd => ?_)
  have hz : izero I 26 := iz_m hz (by decide)
  have hr : rle ((22, 7, 25) :: ((22, 6, 24) :: ((22, 5, 23) :: (rl)))) 26 := rl_m hr (by decide)
  refine sg_putR co_X0 fl_0_21 (by decide) rfl rfl rfl rfl hd (fun hd => ?_)
  have hr : rle ((22, 8, 26) :: ((22, 7, 25) :: ((22, 6, 24) :: ((22, 5, 23) :: (rl))))) 26 := rl_c hr (by decide)
  refine go_aload_n rfl hd (fun hd => ?_)
  refine go_iconst hd (fun hd => ?_)
  refine sg_newI (n' := 27) (sl' := 181) (mc := 14) (ms := 72) hz hr (by decide) (by decide) rfl rfl rfl rfl rfl hd (fun hd => ?_)
  have hz : izero I 27 := iz_m hz (by decide)
  have hr : rle ((22, 8, 26) :: ((22, 7, 25) :: ((22, 6, 24) :: ((22, 5, 23) :: (rl))))) 27 := rl_m hr (by decide)
  refine sg_putR co_X0 fl_0_24 (by decide) rfl rfl rfl rfl hd (fun hd => ?_)
  have hr : rle ((22, 9, 27) :: ((22, 8, 26) :: ((22, 7, 25) :: ((22, 6, 24) :: ((22, 5, 23) :: (rl)))))) 27 := rl_c hr (by decide)
  refine go_aload_n rfl hd (fun hd => ?_)
  refine go_iconst hd (fun hd => ?_)
  refine sg_newI (n' := 28) (sl' := 186) (mc := 13) (ms := 67) hz hr (by decide) (by decide) rfl rfl rfl rfl rfl hd (fun hd => ?_)
  have hz : izero I 28 := iz_m hz (by decide)
  have hr : rle ((22, 9, 27) :: ((22, 8, 26) :: ((22, 7, 25) :: ((22, 6, 24) :: ((22, 5, 23) :: (rl)))))) 28 := rl_m hr (by decide)
  refine sg_putR co_X0 fl_0_27 (by decide) rfl rfl rfl rfl hd (fun hd => ?_)
  have hr : rle ((22, 10, 28) :: ((22, 9, 27) :: ((22, 8, 26) :: ((22, 7, 25) :: ((22, 6, 24) :: ((22, 5, 23) :: (rl))))))) 28 := rl_c hr (by decide)
  refine go_aload_n rfl hd (fun hd => ?_)
  refine go_iconst hd (fun hd => ?_)
  refine go_iconst hd (fun hd => ?_)
  refine sg_multi (n' := 34) (sl' := 211) (mc := 7) (ms := 42) hz hr cl_0_30 (by decide) (by decide) (by decide) (by decide) rfl (by decide) rfl rfl rfl rfl hd (fun hd => ?_)
  show jm_Go (d + 1) 7 42 md_City_init 56 [some (.inr (.inl 22))] [.inr (.inl 29), .inr (.inl 22)] (stg L 34 211 (grl 29 5 ++ ((22, 10, 28) :: ((22, 9, 27) :: ((22, 8, 26) :: ((22, 7, 25) :: ((22, 6, 24) :: ((22, 5, 23) :: (rl)))))))) I) K
  have hz : izero I 34 := iz_m hz (by decide)
  have hr : rle (grl 29 5 ++ ((22, 10, 28) :: ((22, 9, 27) :: ((22, 8, 26) :: ((22, 7, 25) :: ((22, 6, 24) :: ((22, 5, 23) :: (rl)))))))) 34 := rl_a (rl_g (by decide)) (rl_m hr (by decide))
  refine sg_putR co_X0 fl_0_32 (by decide) rfl rfl rfl rfl hd (fun hd => ?_)
  have hr : rle ((22, 11, 29) :: (grl 29 5 ++ ((22, 10, 28) :: ((22, 9, 27) :: ((22, 8, 26) :: ((22, 7, 25) :: ((22, 6, 24) :: ((22, 5, 23) :: (rl))))))))) 34 := rl_c hr (by decide)
  refine go_aload_n rfl hd (fun hd => ?_)
  refine go_bipush (by decide) hd (fun hd => ?_)
  refine go_bipush (by decide) hd (fun hd => ?_)
  refine sg_multi (n' := 41) (sl' := 253) (mc := 0) (ms := 0) hz hr cl_0_30 (by decide) (by decide) (by decide) (by decide) rfl (by decide) rfl rfl rfl rfl hd (fun hd => ?_)
  show jm_Go (d + 1) 0 0 md_City_init 68 [some (.inr (.inl 22))] [.inr (.inl 35), .inr (.inl 22)] (stg L 41 253 (grl 35 6 ++ ((22, 11, 29) :: (grl 29 5 ++ ((22, 10, 28) :: ((22, 9, 27) :: ((22, 8, 26) :: ((22, 7, 25) :: ((22, 6, 24) :: ((22, 5, 23) :: (rl)))))))))) I) K
  have hz : izero I 41 := iz_m hz (by decide)
  have hr : rle (grl 35 6 ++ ((22, 11, 29) :: (grl 29 5 ++ ((22, 10, 28) :: ((22, 9, 27) :: ((22, 8, 26) :: ((22, 7, 25) :: ((22, 6, 24) :: ((22, 5, 23) :: (rl)))))))))) 41 := rl_a (rl_g (by decide)) (rl_m hr (by decide))
  refine sg_putR co_X0 fl_0_35 (by decide) rfl rfl rfl rfl hd (fun hd => ?_)
  have hr : rle ((22, 12, 35) :: (grl 35 6 ++ ((22, 11, 29) :: (grl 29 5 ++ ((22, 10, 28) :: ((22, 9, 27) :: ((22, 8, 26) :: ((22, 7, 25) :: ((22, 6, 24) :: ((22, 5, 23) :: (rl))))))))))) 41 := rl_c hr (by decide)
  refine go_aload_n rfl hd (fun hd => ?_)
  have hd2 := jm_d2 hd
  refine go_virtual (mc1 := 0) (ms1 := 0) (mc2 := 0) (ms2 := 0) 22 0 [] [] mk_City_beAsAtFirst co_X0 rfl ml_0_38 in_City_beAsAtFirst se_City_beAsAtFirst rfl rfl (by decide) rfl (Nat.le_of_ble_eq_true rfl) rfl rfl rfl hd (jm_Go.mono (b_City_beAsAtFirst_0 (P := stP L 41 253 ((22, 12, 35) :: (grl 35 6 ++ ((22, 11, 29) :: (grl 29 5 ++ ((22, 10, 28) :: ((22, 9, 27) :: ((22, 8, 26) :: ((22, 7, 25) :: ((22, 6, 24) :: ((22, 5, 23) :: (rl)))))))))))) (Q := fun v J => v = none ∧ J = bAF I 22) (tt_22) ⟨rfl, rfl⟩) (fun v M hv => ?_))
  obtain ⟨J, rfl, rfl, rfl⟩ := hv
  have hd := hd2
  exact go_vreturn hd rfl k
