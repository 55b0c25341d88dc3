/-! ===== the constructors (by program, wip/gen/gen12.py) ===== -/
theorem dc_History_init_0 : jm_dc md_History_init.2.1 0 [(.aload_n 0, 1), (.invokespecial 3, 3), (.aload_n 0, 1), (.bipush 10, 2), (.anewarray 9, 3), (.putfield 11, 3), (.iconst 0, 1), (.istore_n 1, 1), (.iload_n 1, 1), (.bipush 10, 2), (.if_icmp .ge 22, 3)] = true := by decide +kernel
theorem dc_History_init_21 : jm_dc md_History_init.2.1 21 [(.aload_n 0, 1), (.getfield 11, 3), (.iload_n 1, 1), (.new 9, 3), (.dup, 1), (.invokespecial 17, 3), (.aastore, 1), (.iinc 1 1, 3), (.goto (-22), 3)] = true := by decide +kernel
theorem dc_History_init_15 : jm_dc md_History_init.2.1 15 [(.iload_n 1, 1), (.bipush 10, 2), (.if_icmp .ge 22, 3)] = true := by decide +kernel
theorem dc_History_init_40 : jm_dc md_History_init.2.1 40 [(.return_, 1)] = true := by decide +kernel
def rk_49 : List (Nat × Nat × Nat) := (50, 9, 96) :: (rk_96 ++ ((50, 8, 91) :: (rk_91 ++ ((50, 7, 86) :: (rk_86 ++ ((50, 6, 81) :: (rk_81 ++ ((50, 5, 76) :: (rk_76 ++ ((50, 4, 71) :: (rk_71 ++ ((50, 3, 66) :: (rk_66 ++ ((50, 2, 61) :: (rk_61 ++ ((50, 1, 56) :: (rk_56 ++ ((50, 0, 51) :: (rk_51 ++ ((49, 0, 50) :: ([])))))))))))))))))))))
theorem kk_49 {L d : Nat} {rl : List (Nat × Nat × Nat)} {I : jm_I} {K : Option jm_V → jm_M → Prop} (hz : izero I 49) (hr : rle rl 49) (k : K none (stg L 100 761 (rk_49 ++ rl) I)) : jm_Call (d + 1) 51 270 md_History_init [.inr (.inl 49)] (stg L 49 491 rl I) K := by
  show jm_Go (d + 1) 51 270 md_History_init 0 [some (.inr (.inl 49)), none] [] (stg L 49 491 (rl) I) K
  have hd := dc_History_init_0
  refine go_aload_n rfl hd (fun hd => ?_)
  refine go_objinit ml_4_3 w_oi1 w_oi2 (Nat.le_of_ble_eq_true rfl) hd (fun hd => ?_)
  refine go_aload_n rfl hd (fun hd => ?_)
  refine go_bipush (by decide) hd (fun hd => ?_)
  refine sg_newO (n' := 50) (sl' := 501) (mc := 50) (ms := 260) hz hr cl_4_9 (by decide) (by decide) rfl rfl rfl rfl rfl hd (fun hd => ?_)
  have hz : izero I 50 := iz_m hz (by decide)
  have hr : rle (rl) 50 := rl_m hr (by decide)
  refine sg_putR co_X4 fl_4_11 (by decide) rfl rfl rfl rfl hd (fun hd => ?_)
  have hr : rle ((49, 0, 50) :: (rl)) 50 := rl_c hr (by decide)
  refine go_iconst hd (fun hd => ?_)
  refine go_istore_n (by decide) hd (fun hd => ?_)
  refine go_iload_n rfl hd (fun hd => ?_)
  refine go_bipush (by decide) hd (fun hd => ?_)
  refine go_icmp_ge (t := 40) (by decide) ⟨by decide, by decide⟩ ⟨by decide, by decide⟩ hd (fun h => absurd h (by decide)) (fun _ => ?_)
  show jm_Go (d + 1) 50 260 md_History_init 21 [some (.inr (.inl 49)), some (.inl 0)] [] (stg L 50 501 ((49, 0, 50) :: (rl)) I) K
  have hd := dc_History_init_21
  refine go_aload_n rfl hd (fun hd => ?_)
  refine go_getR (b := 50) co_X4 fl_4_11 (by decide) rfl rfl rfl hd (fun hd => ?_)
  refine go_iload_n rfl hd (fun hd => ?_)
  refine sg_new (c := 5) (n' := 51) (sl' := 507) (mc := 49) (ms := 254) hz hr co_X5 cl_4_9 w_ni_5 w_it_5 rfl rfl rfl rfl rfl hd (fun hd => ?_)
  have hz : izero I 51 := iz_m hz (by decide)
  have hr : rle ((49, 0, 50) :: (rl)) 51 := rl_m hr (by decide)
  refine go_dup rfl hd (fun hd => ?_)
  have hd2 := jm_d2 hd
  refine go_initN (mc1 := 4) (ms1 := 20) (mc2 := 45) (ms2 := 234) "StillMinutes" 51 [.inr (.inl 51), .inl 0, .inr (.inl 50)] mk_Moment_init rfl rfl nl_4_17 in_Moment_init (by decide) (Nat.le_of_ble_eq_true rfl) rfl rfl rfl hd (kk_51 hz hr ?_)
  show jm_Go (d + 1) 45 234 md_History_init 33 [some (.inr (.inl 49)), some (.inl 0)] [.inr (.inl 51), .inl 0, .inr (.inl 50)] (stg L 55 527 (rk_51 ++ ((49, 0, 50) :: (rl))) I) K
  have hd := hd2
  have hz : izero I 55 := iz_m hz (by decide)
  have hr : rle (rk_51 ++ ((49, 0, 50) :: (rl))) 55 := rl_a (by decide) (rl_m hr (by decide))
  refine sg_aastore (m := 10) rfl rfl (by decide) (by decide) (by decide) hd (fun hd => ?_)
  show jm_Go (d + 1) 45 234 md_History_init 34 [some (.inr (.inl 49)), some (.inl 0)] [] (stg L 55 527 ((50, 0, 51) :: (rk_51 ++ ((49, 0, 50) :: (rl)))) I) K
  have hr : rle ((50, 0, 51) :: (rk_51 ++ ((49, 0, 50) :: (rl)))) 55 := rl_c hr (by decide)
  refine go_iinc rfl hd (fun hd => ?_)
  refine go_goto (t := 15) (by decide) hd ?_
  show jm_Go (d + 1) 45 234 md_History_init 15 [some (.inr (.inl 49)), some (.inl 1)] [] (stg L 55 527 ((50, 0, 51) :: (rk_51 ++ ((49, 0, 50) :: (rl)))) I) K
  have hd := dc_History_init_15
  refine go_iload_n rfl hd (fun hd => ?_)
  refine go_bipush (by decide) hd (fun hd => ?_)
  refine go_icmp_ge (t := 40) (by decide) ⟨by decide, by decide⟩ ⟨by decide, by decide⟩ hd (fun h => absurd h (by decide)) (fun _ => ?_)
  show jm_Go (d + 1) 45 234 md_History_init 21 [some (.inr (.inl 49)), some (.inl 1)] [] (stg L 55 527 ((50, 0, 51) :: (rk_51 ++ ((49, 0, 50) :: (rl)))) I) K
  have hd := dc_History_init_21
  refine go_aload_n rfl hd (fun hd => ?_)
  refine go_getR (b := 50) co_X4 fl_4_11 (by decide) rfl rfl rfl hd (fun hd => ?_)
  refine go_iload_n rfl hd (fun hd => ?_)
  refine sg_new (c := 5) (n' := 56) (sl' := 533) (mc := 44) (ms := 228) hz hr co_X5 cl_4_9 w_ni_5 w_it_5 rfl rfl rfl rfl rfl hd (fun hd => ?_)
  have hz : izero I 56 := iz_m hz (by decide)
  have hr : rle ((50, 0, 51) :: (rk_51 ++ ((49, 0, 50) :: (rl)))) 56 := rl_m hr (by decide)
  refine go_dup rfl hd (fun hd => ?_)
  have hd2 := jm_d2 hd
  refine go_initN (mc1 := 4) (ms1 := 20) (mc2 := 40) (ms2 := 208) "StillMinutes" 56 [.inr (.inl 56), .inl 1, .inr (.inl 50)] mk_Moment_init rfl rfl nl_4_17 in_Moment_init (by decide) (Nat.le_of_ble_eq_true rfl) rfl rfl rfl hd (kk_56 hz hr ?_)
  show jm_Go (d + 1) 40 208 md_History_init 33 [some (.inr (.inl 49)), some (.inl 1)] [.inr (.inl 56), .inl 1, .inr (.inl 50)] (stg L 60 553 (rk_56 ++ ((50, 0, 51) :: (rk_51 ++ ((49, 0, 50) :: (rl))))) I) K
  have hd := hd2
  have hz : izero I 60 := iz_m hz (by decide)
  have hr : rle (rk_56 ++ ((50, 0, 51) :: (rk_51 ++ ((49, 0, 50) :: (rl))))) 60 := rl_a (by decide) (rl_m hr (by decide))
  refine sg_aastore (m := 10) rfl rfl (by decide) (by decide) (by decide) hd (fun hd => ?_)
  show jm_Go (d + 1) 40 208 md_History_init 34 [some (.inr (.inl 49)), some (.inl 1)] [] (stg L 60 553 ((50, 1, 56) :: (rk_56 ++ ((50, 0, 51) :: (rk_51 ++ ((49, 0, 50) :: (rl)))))) I) K
  have hr : rle ((50, 1, 56) :: (rk_56 ++ ((50, 0, 51) :: (rk_51 ++ ((49, 0, 50) :: (rl)))))) 60 := rl_c hr (by decide)
  refine go_iinc rfl hd (fun hd => ?_)
  refine go_goto (t := 15) (by decide) hd ?_
  show jm_Go (d + 1) 40 208 md_History_init 15 [some (.inr (.inl 49)), some (.inl 2)] [] (stg L 60 553 ((50, 1, 56) :: (rk_56 ++ ((50, 0, 51) :: (rk_51 ++ ((49, 0, 50) :: (rl)))))) I) K
  have hd := dc_History_init_15
  refine go_iload_n rfl hd (fun hd => ?_)
  refine go_bipush (by decide) hd (fun hd => ?_)
  refine go_icmp_ge (t := 40) (by decide) ⟨by decide, by decide⟩ ⟨by decide, by decide⟩ hd (fun h => absurd h (by decide)) (fun _ => ?_)
  show jm_Go (d + 1) 40 208 md_History_init 21 [some (.inr (.inl 49)), some (.inl 2)] [] (stg L 60 553 ((50, 1, 56) :: (rk_56 ++ ((50, 0, 51) :: (rk_51 ++ ((49, 0, 50) :: (rl)))))) I) K
  have hd := dc_History_init_21
  refine go_aload_n rfl hd (fun hd => ?_)
  refine go_getR (b := 50) co_X4 fl_4_11 (by decide) rfl rfl rfl hd (fun hd => ?_)
  refine go_iload_n rfl hd (fun hd => ?_)
  refine sg_new (c := 5) (n' := 61) (sl' := 559) (mc := 39) (ms := 202) hz hr co_X5 cl_4_9 w_ni_5 w_it_5 rfl rfl rfl rfl rfl hd (fun hd => ?_)
  have hz : izero I 61 := iz_m hz (by decide)
  have hr : rle ((50, 1, 56) :: (rk_56 ++ ((50, 0, 51) :: (rk_51 ++ ((49, 0, 50) :: (rl)))))) 61 := rl_m hr (by decide)
  refine go_dup rfl hd (fun hd => ?_)
  have hd2 := jm_d2 hd
  refine go_initN (mc1 := 4) (ms1 := 20) (mc2 := 35) (ms2 := 182) "StillMinutes" 61 [.inr (.inl 61), .inl 2, .inr (.inl 50)] mk_Moment_init rfl rfl nl_4_17 in_Moment_init (by decide) (Nat.le_of_ble_eq_true rfl) rfl rfl rfl hd (kk_61 hz hr ?_)
  show jm_Go (d + 1) 35 182 md_History_init 33 [some (.inr (.inl 49)), some (.inl 2)] [.inr (.inl 61), .inl 2, .inr (.inl 50)] (stg L 65 579 (rk_61 ++ ((50, 1, 56) :: (rk_56 ++ ((50, 0, 51) :: (rk_51 ++ ((49, 0, 50) :: (rl))))))) I) K
  have hd := hd2
  have hz : izero I 65 := iz_m hz (by decide)
  have hr : rle (rk_61 ++ ((50, 1, 56) :: (rk_56 ++ ((50, 0, 51) :: (rk_51 ++ ((49, 0, 50) :: (rl))))))) 65 := rl_a (by decide) (rl_m hr (by decide))
  refine sg_aastore (m := 10) rfl rfl (by decide) (by decide) (by decide) hd (fun hd => ?_)
  show jm_Go (d + 1) 35 182 md_History_init 34 [some (.inr (.inl 49)), some (.inl 2)] [] (stg L 65 579 ((50, 2, 61) :: (rk_61 ++ ((50, 1, 56) :: (rk_56 ++ ((50, 0, 51) :: (rk_51 ++ ((49, 0, 50) :: (rl)))))))) I) K
  have hr : rle ((50, 2, 61) :: (rk_61 ++ ((50, 1, 56) :: (rk_56 ++ ((50, 0, 51) :: (rk_51 ++ ((49, 0, 50) :: (rl)))))))) 65 := rl_c hr (by decide)
  refine go_iinc rfl hd (fun hd => ?_)
  refine go_goto (t := 15) (by decide) hd ?_
  show jm_Go (d + 1) 35 182 md_History_init 15 [some (.inr (.inl 49)), some (.inl 3)] [] (stg L 65 579 ((50, 2, 61) :: (rk_61 ++ ((50, 1, 56) :: (rk_56 ++ ((50, 0, 51) :: (rk_51 ++ ((49, 0, 50) :: (rl)))))))) I) K
  have hd := dc_History_init_15
  refine go_iload_n rfl hd (fun hd => ?_)
  refine go_bipush (by decide) hd (fun hd => ?_)
  refine go_icmp_ge (t := 40) (by decide) ⟨by decide, by decide⟩ ⟨by decide, by decide⟩ hd (fun h => absurd h (by decide)) (fun _ => ?_)
  show jm_Go (d + 1) 35 182 md_History_init 21 [some (.inr (.inl 49)), some (.inl 3)] [] (stg L 65 579 ((50, 2, 61) :: (rk_61 ++ ((50, 1, 56) :: (rk_56 ++ ((50, 0, 51) :: (rk_51 ++ ((49, 0, 50) :: (rl)))))))) I) K
  have hd := dc_History_init_21
  refine go_aload_n rfl hd (fun hd => ?_)
  refine go_getR (b := 50) co_X4 fl_4_11 (by decide) rfl rfl rfl hd (fun hd => ?_)
  refine go_iload_n rfl hd (fun hd => ?_)
  refine sg_new (c := 5) (n' := 66) (sl' := 585) (mc := 34) (ms := 176) hz hr co_X5 cl_4_9 w_ni_5 w_it_5 rfl rfl rfl rfl rfl hd (fun hd => ?_)
  have hz : izero I 66 := iz_m hz (by decide)
  have hr : rle ((50, 2, 61) :: (rk_61 ++ ((50, 1, 56) :: (rk_56 ++ ((50, 0, 51) :: (rk_51 ++ ((49, 0, 50) :: (rl)))))))) 66 := rl_m hr (by decide)
  refine go_dup rfl hd (fun hd => ?_)
  have hd2 := jm_d2 hd
  refine go_initN (mc1 := 4) (ms1 := 20) (mc2 := 30) (ms2 := 156) "StillMinutes" 66 [.inr (.inl 66), .inl 3, .inr (.inl 50)] mk_Moment_init rfl rfl nl_4_17 in_Moment_init (by decide) (Nat.le_of_ble_eq_true rfl) rfl rfl rfl hd (kk_66 hz hr ?_)
  show jm_Go (d + 1) 30 156 md_History_init 33 [some (.inr (.inl 49)), some (.inl 3)] [.inr (.inl 66), .inl 3, .inr (.inl 50)] (stg L 70 605 (rk_66 ++ ((50, 2, 61) :: (rk_61 ++ ((50, 1, 56) :: (rk_56 ++ ((50, 0, 51) :: (rk_51 ++ ((49, 0, 50) :: (rl))))))))) I) K
  have hd := hd2
  have hz : izero I 70 := iz_m hz (by decide)
  have hr : rle (rk_66 ++ ((50, 2, 61) :: (rk_61 ++ ((50, 1, 56) :: (rk_56 ++ ((50, 0, 51) :: (rk_51 ++ ((49, 0, 50) :: (rl))))))))) 70 := rl_a (by decide) (rl_m hr (by decide))
  refine sg_aastore (m := 10) rfl rfl (by decide) (by decide) (by decide) hd (fun hd => ?_)
  show jm_Go (d + 1) 30 156 md_History_init 34 [some (.inr (.inl 49)), some (.inl 3)] [] (stg L 70 605 ((50, 3, 66) :: (rk_66 ++ ((50, 2, 61) :: (rk_61 ++ ((50, 1, 56) :: (rk_56 ++ ((50, 0, 51) :: (rk_51 ++ ((49, 0, 50) :: (rl)))))))))) I) K
  have hr : rle ((50, 3, 66) :: (rk_66 ++ ((50, 2, 61) :: (rk_61 ++ ((50, 1, 56) :: (rk_56 ++ ((50, 0, 51) :: (rk_51 ++ ((49, 0, 50) :: (rl)))))))))) 70 := rl_c hr (by decide)
  refine go_iinc rfl hd (fun hd => ?_)
  refine go_goto (t := 15) (by decide) hd ?_
  show jm_Go (d + 1) 30 156 md_History_init 15 [some (.inr (.inl 49)), some (.inl 4)] [] (stg L 70 605 ((50, 3, 66) :: (rk_66 ++ ((50, 2, 61) :: (rk_61 ++ ((50, 1, 56) :: (rk_56 ++ ((50, 0, 51) :: (rk_51 ++ ((49, 0, 50) :: (rl)))))))))) I) K
  have hd := dc_History_init_15
  refine go_iload_n rfl hd (fun hd => ?_)
  refine go_bipush (by decide) hd (fun hd => ?_)
  refine go_icmp_ge (t := 40) (by decide) ⟨by decide, by decide⟩ ⟨by decide, by decide⟩ hd (fun h => absurd h (by decide)) (fun _ => ?_)
  show jm_Go (d + 1) 30 156 md_History_init 21 [some (.inr (.inl 49)), some (.inl 4)] [] (stg L 70 605 ((50, 3, 66) :: (rk_66 ++ ((50, 2, 61) :: (rk_61 ++ ((50, 1, 56) :: (rk_56 ++ ((50, 0, 51) :: (rk_51 ++ ((49, 0, 50) :: (rl)))))))))) I) K
  have hd := dc_History_init_21
  refine go_aload_n rfl hd (fun hd => ?_)
  refine go_getR (b := 50) co_X4 fl_4_11 (by decide) rfl rfl rfl hd (fun hd => ?_)
  refine go_iload_n rfl hd (fun hd => ?_)
  refine sg_new (c := 5) (n' := 71) (sl' := 611) (mc := 29) (ms := 150) hz hr co_X5 cl_4_9 w_ni_5 w_it_5 rfl rfl rfl rfl rfl hd (fun hd => ?_)
  have hz : izero I 71 := iz_m hz (by decide)
  have hr : rle ((50, 3, 66) :: (rk_66 ++ ((50, 2, 61) :: (rk_61 ++ ((50, 1, 56) :: (rk_56 ++ ((50, 0, 51) :: (rk_51 ++ ((49, 0, 50) :: (rl)))))))))) 71 := rl_m hr (by decide)
  refine go_dup rfl hd (fun hd => ?_)
  have hd2 := jm_d2 hd
  refine go_initN (mc1 := 4) (ms1 := 20) (mc2 := 25) (ms2 := 130) "StillMinutes" 71 [.inr (.inl 71), .inl 4, .inr (.inl 50)] mk_Moment_init rfl rfl nl_4_17 in_Moment_init (by decide) (Nat.le_of_ble_eq_true rfl) rfl rfl rfl hd (kk_71 hz hr ?_)
  show jm_Go (d + 1) 25 130 md_History_init 33 [some (.inr (.inl 49)), some (.inl 4)] [.inr (.inl 71), .inl 4, .inr (.inl 50)] (stg L 75 631 (rk_71 ++ ((50, 3, 66) :: (rk_66 ++ ((50, 2, 61) :: (rk_61 ++ ((50, 1, 56) :: (rk_56 ++ ((50, 0, 51) :: (rk_51 ++ ((49, 0, 50) :: (rl))))))))))) I) K
  have hd := hd2
  have hz : izero I 75 := iz_m hz (by decide)
  have hr : rle (rk_71 ++ ((50, 3, 66) :: (rk_66 ++ ((50, 2, 61) :: (rk_61 ++ ((50, 1, 56) :: (rk_56 ++ ((50, 0, 51) :: (rk_51 ++ ((49, 0, 50) :: (rl))))))))))) 75 := rl_a (by decide) (rl_m hr (by decide))
  refine sg_aastore (m := 10) rfl rfl (by decide) (by decide) (by decide) hd (fun hd => ?_)
  show jm_Go (d + 1) 25 130 md_History_init 34 [some (.inr (.inl 49)), some (.inl 4)] [] (stg L 75 631 ((50, 4, 71) :: (rk_71 ++ ((50, 3, 66) :: (rk_66 ++ ((50, 2, 61) :: (rk_61 ++ ((50, 1, 56) :: (rk_56 ++ ((50, 0, 51) :: (rk_51 ++ ((49, 0, 50) :: (rl)))))))))))) I) K
  have hr : rle ((50, 4, 71) :: (rk_71 ++ ((50, 3, 66) :: (rk_66 ++ ((50, 2, 61) :: (rk_61 ++ ((50, 1, 56) :: (rk_56 ++ ((50, 0, 51) :: (rk_51 ++ ((49, 0, 50) :: (rl)))))))))))) 75 := rl_c hr (by decide)
  refine go_iinc rfl hd (fun hd => ?_)
  refine go_goto (t := 15) (by decide) hd ?_
  show jm_Go (d + 1) 25 130 md_History_init 15 [some (.inr (.inl 49)), some (.inl 5)] [] (stg L 75 631 ((50, 4, 71) :: (rk_71 ++ ((50, 3, 66) :: (rk_66 ++ ((50, 2, 61) :: (rk_61 ++ ((50, 1, 56) :: (rk_56 ++ ((50, 0, 51) :: (rk_51 ++ ((49, 0, 50) :: (rl)))))))))))) I) K
  have hd := dc_History_init_15
  refine go_iload_n rfl hd (fun hd => ?_)
  refine go_bipush (by decide) hd (fun hd => ?_)
  refine go_icmp_ge (t := 40) (by decide) ⟨by decide, by decide⟩ ⟨by decide, by decide⟩ hd (fun h => absurd h (by decide)) (fun _ => ?_)
  show jm_Go (d + 1) 25 130 md_History_init 21 [some (.inr (.inl 49)), some (.inl 5)] [] (stg L 75 631 ((50, 4, 71) :: (rk_71 ++ ((50, 3, 66) :: (rk_66 ++ ((50, 2, 61) :: (rk_61 ++ ((50, 1, 56) :: (rk_56 ++ ((50, 0, 51) :: (rk_51 ++ ((49, 0, 50) :: (rl)))))))))))) I) K
  have hd := dc_History_init_21
  refine go_aload_n rfl hd (fun hd => ?_)
  refine go_getR (b := 50) co_X4 fl_4_11 (by decide) rfl rfl rfl hd (fun hd => ?_)
  refine go_iload_n rfl hd (fun hd => ?_)
  refine sg_new (c := 5) (n' := 76) (sl' := 637) (mc := 24) (ms := 124) hz hr co_X5 cl_4_9 w_ni_5 w_it_5 rfl rfl rfl rfl rfl hd (fun hd => ?_)
  have hz : izero I 76 := iz_m hz (by decide)
  have hr : rle ((50, 4, 71) :: (rk_71 ++ ((50, 3, 66) :: (rk_66 ++ ((50, 2, 61) :: (rk_61 ++ ((50, 1, 56) :: (rk_56 ++ ((50, 0, 51) :: (rk_51 ++ ((49, 0, 50) :: (rl)))))))))))) 76 := rl_m hr (by decide)
  refine go_dup rfl hd (fun hd => ?_)
  have hd2 := jm_d2 hd
  refine go_initN (mc1 := 4) (ms1 := 20) (mc2 := 20) (ms2 := 104) "StillMinutes" 76 [.inr (.inl 76), .inl 5, .inr (.inl 50)] mk_Moment_init rfl rfl nl_4_17 in_Moment_init (by decide) (Nat.le_of_ble_eq_true rfl) rfl rfl rfl hd (kk_76 hz hr ?_)
  show jm_Go (d + 1) 20 104 md_History_init 33 [some (.inr (.inl 49)), some (.inl 5)] [.inr (.inl 76), .inl 5, .inr (.inl 50)] (stg L 80 657 (rk_76 ++ ((50, 4, 71) :: (rk_71 ++ ((50, 3, 66) :: (rk_66 ++ ((50, 2, 61) :: (rk_61 ++ ((50, 1, 56) :: (rk_56 ++ ((50, 0, 51) :: (rk_51 ++ ((49, 0, 50) :: (rl))))))))))))) I) K
  have hd := hd2
  have hz : izero I 80 := iz_m hz (by decide)
  have hr : rle (rk_76 ++ ((50, 4, 71) :: (rk_71 ++ ((50, 3, 66) :: (rk_66 ++ ((50, 2, 61) :: (rk_61 ++ ((50, 1, 56) :: (rk_56 ++ ((50, 0, 51) :: (rk_51 ++ ((49, 0, 50) :: (rl))))))))))))) 80 := rl_a (by decide) (rl_m hr (by decide))
  refine sg_aastore (m := 10) rfl rfl (by decide) (by decide) (by decide) hd (fun hd => ?_)
  show jm_Go (d + 1) 20 104 md_History_init 34 [some (.inr (.inl 49)), some (.inl 5)] [] (stg L 80 657 ((50, 5, 76) :: (rk_76 ++ ((50, 4, 71) :: (rk_71 ++ ((50, 3, 66) :: (rk_66 ++ ((50, 2, 61) :: (rk_61 ++ ((50, 1, 56) :: (rk_56 ++ ((50, 0, 51) :: (rk_51 ++ ((49, 0, 50) :: (rl)))))))))))))) I) K
  have hr : rle ((50, 5, 76) :: (rk_76 ++ ((50, 4, 71) :: (rk_71 ++ ((50, 3, 66) :: (rk_66 ++ ((50, 2, 61) :: (rk_61 ++ ((50, 1, 56) :: (rk_56 ++ ((50, 0, 51) :: (rk_51 ++ ((49, 0, 50) :: (rl)))))))))))))) 80 := rl_c hr (by decide)
  refine go_iinc rfl hd (fun hd => ?_)
  refine go_goto (t := 15) (by decide) hd ?_
  show jm_Go (d + 1) 20 104 md_History_init 15 [some (.inr (.inl 49)), some (.inl 6)] [] (stg L 80 657 ((50, 5, 76) :: (rk_76 ++ ((50, 4, 71) :: (rk_71 ++ ((50, 3, 66) :: (rk_66 ++ ((50, 2, 61) :: (rk_61 ++ ((50, 1, 56) :: (rk_56 ++ ((50, 0, 51) :: (rk_51 ++ ((49, 0, 50) :: (rl)))))))))))))) I) K
  have hd := dc_History_init_15
  refine go_iload_n rfl hd (fun hd => ?_)
  refine go_bipush (by decide) hd (fun hd => ?_)
  refine go_icmp_ge (t := 40) (by decide) ⟨by decide, by decide⟩ ⟨by decide, by decide⟩ hd (fun h => absurd h (by decide)) (fun _ => ?_)
  show jm_Go (d + 1) 20 104 md_History_init 21 [some (.inr (.inl 49)), some (.inl 6)] [] (stg L 80 657 ((50, 5, 76) :: (rk_76 ++ ((50, 4, 71) :: (rk_71 ++ ((50, 3, 66) :: (rk_66 ++ ((50, 2, 61) :: (rk_61 ++ ((50, 1, 56) :: (rk_56 ++ ((50, 0, 51) :: (rk_51 ++ ((49, 0, 50) :: (rl)))))))))))))) I) K
  have hd := dc_History_init_21
  refine go_aload_n rfl hd (fun hd => ?_)
  refine go_getR (b := 50) co_X4 fl_4_11 (by decide) rfl rfl rfl hd (fun hd => ?_)
  refine go_iload_n rfl hd (fun hd => ?_)
  refine sg_new (c := 5) (n' := 81) (sl' := 663) (mc := 19) (ms := 98) hz hr co_X5 cl_4_9 w_ni_5 w_it_5 rfl rfl rfl rfl rfl hd (fun hd => ?_)
  have hz : izero I 81 := iz_m hz (by decide)
  have hr : rle ((50, 5, 76) :: (rk_76 ++ ((50, 4, 71) :: (rk_71 ++ ((50, 3, 66) :: (rk_66 ++ ((50, 2, 61) :: (rk_61 ++ ((50, 1, 56) :: (rk_56 ++ ((50, 0, 51) :: (rk_51 ++ ((49, 0, 50) :: (rl)))))))))))))) 81 := rl_m hr (by decide)
  refine go_dup rfl hd (fun hd => ?_)
  have hd2 := jm_d2 hd
  refine go_initN (mc1 := 4) (ms1 := 20) (mc2 := 15) (ms2 := 78) "StillMinutes" 81 [.inr (.inl 81), .inl 6, .inr (.inl 50)] mk_Moment_init rfl rfl nl_4_17 in_Moment_init (by decide) (Nat.le_of_ble_eq_true rfl) rfl rfl rfl hd (kk_81 hz hr ?_)
  show jm_Go (d + 1) 15 78 md_History_init 33 [some (.inr (.inl 49)), some (.inl 6)] [.inr (.inl 81), .inl 6, .inr (.inl 50)] (stg L 85 683 (rk_81 ++ ((50, 5, 76) :: (rk_76 ++ ((50, 4, 71) :: (rk_71 ++ ((50, 3, 66) :: (rk_66 ++ ((50, 2, 61) :: (rk_61 ++ ((50, 1, 56) :: (rk_56 ++ ((50, 0, 51) :: (rk_51 ++ ((49, 0, 50) :: (rl))))))))))))))) I) K
  have hd := hd2
  have hz : izero I 85 := iz_m hz (by decide)
  have hr : rle (rk_81 ++ ((50, 5, 76) :: (rk_76 ++ ((50, 4, 71) :: (rk_71 ++ ((50, 3, 66) :: (rk_66 ++ ((50, 2, 61) :: (rk_61 ++ ((50, 1, 56) :: (rk_56 ++ ((50, 0, 51) :: (rk_51 ++ ((49, 0, 50) :: (rl))))))))))))))) 85 := rl_a (by decide) (rl_m hr (by decide))
  refine sg_aastore (m := 10) rfl rfl (by decide) (by decide) (by decide) hd (fun hd => ?_)
  show jm_Go (d + 1) 15 78 md_History_init 34 [some (.inr (.inl 49)), some (.inl 6)] [] (stg L 85 683 ((50, 6, 81) :: (rk_81 ++ ((50, 5, 76) :: (rk_76 ++ ((50, 4, 71) :: (rk_71 ++ ((50, 3, 66) :: (rk_66 ++ ((50, 2, 61) :: (rk_61 ++ ((50, 1, 56) :: (rk_56 ++ ((50, 0, 51) :: (rk_51 ++ ((49, 0, 50) :: (rl)))))))))))))))) I) K
  have hr : rle ((50, 6, 81) :: (rk_81 ++ ((50, 5, 76) :: (rk_76 ++ ((50, 4, 71) :: (rk_71 ++ ((50, 3, 66) :: (rk_66 ++ ((50, 2, 61) :: (rk_61 ++ ((50, 1, 56) :: (rk_56 ++ ((50, 0, 51) :: (rk_51 ++ ((49, 0, 50) :: (rl)))))))))))))))) 85 := rl_c hr (by decide)
  refine go_iinc rfl hd (fun hd => ?_)
  refine go_goto (t := 15) (by decide) hd ?_
  show jm_Go (d + 1) 15 78 md_History_init 15 [some (.inr (.inl 49)), some (.inl 7)] [] (stg L 85 683 ((50, 6, 81) :: (rk_81 ++ ((50, 5, 76) :: (rk_76 ++ ((50, 4, 71) :: (rk_71 ++ ((50, 3, 66) :: (rk_66 ++ ((50, 2, 61) :: (rk_61 ++ ((50, 1, 56) :: (rk_56 ++ ((50, 0, 51) :: (rk_51 ++ ((49, 0, 50) :: (rl)))))))))))))))) I) K
  have hd := dc_History_init_15
  refine go_iload_n rfl hd (fun hd => ?_)
  refine go_bipush (by decide) hd (fun hd => ?_)
  refine go_icmp_ge (t := 40) (by decide) ⟨by decide, by decide⟩ ⟨by decide, by decide⟩ hd (fun h => absurd h (by decide)) (fun _ => ?_)
  show jm_Go (d + 1) 15 78 md_History_init 21 [some (.inr (.inl 49)), some (.inl 7)] [] (stg L 85 683 ((50, 6, 81) :: (rk_81 ++ ((50, 5, 76) :: (rk_76 ++ ((50, 4, 71) :: (rk_71 ++ ((50, 3, 66) :: (rk_66 ++ ((50, 2, 61) :: (rk_61 ++ ((50, 1, 56) :: (rk_56 ++ ((50, 0, 51) :: (rk_51 ++ ((49, 0, 50) :: (rl)))))))))))))))) I) K
  have hd := dc_History_init_21
  refine go_aload_n rfl hd (fun hd => ?_)
  refine go_getR (b := 50) co_X4 fl_4_11 (by decide) rfl rfl rfl hd (fun hd => ?_)
  refine go_iload_n rfl hd (fun hd => ?_)
  refine sg_new (c := 5) (n' := 86) (sl' := 689) (mc := 14) (ms := 72) hz hr co_X5 cl_4_9 w_ni_5 w_it_5 rfl rfl rfl rfl rfl hd (fun hd => ?_)
  have hz : izero I 86 := iz_m hz (by decide)
  have hr : rle ((50, 6, 81) :: (rk_81 ++ ((50, 5, 76) :: (rk_76 ++ ((50, 4, 71) :: (rk_71 ++ ((50, 3, 66) :: (rk_66 ++ ((50, 2, 61) :: (rk_61 ++ ((50, 1, 56) :: (rk_56 ++ ((50, 0, 51) :: (rk_51 ++ ((49, 0, 50) :: (rl)))))))))))))))) 86 := rl_m hr (by decide)
  refine go_dup rfl hd (fun hd => ?_)
  have hd2 := jm_d2 hd
  refine go_initN (mc1 := 4) (ms1 := 20) (mc2 := 10) (ms2 := 52) "StillMinutes" 86 [.inr (.inl 86), .inl 7, .inr (.inl 50)] mk_Moment_init rfl rfl nl_4_17 in_Moment_init (by decide) (Nat.le_of_ble_eq_true rfl) rfl rfl rfl hd (kk_86 hz hr ?_)
  show jm_Go (d + 1) 10 52 md_History_init 33 [some (.inr (.inl 49)), some (.inl 7)] [.inr (.inl 86), .inl 7, .inr (.inl 50)] (stg L 90 709 (rk_86 ++ ((50, 6, 81) :: (rk_81 ++ ((50, 5, 76) :: (rk_76 ++ ((50, 4, 71) :: (rk_71 ++ ((50, 3, 66) :: (rk_66 ++ ((50, 2, 61) :: (rk_61 ++ ((50, 1, 56) :: (rk_56 ++ ((50, 0, 51) :: (rk_51 ++ ((49, 0, 50) :: (rl))))))))))))))))) I) K
  have hd := hd2
  have hz : izero I 90 := iz_m hz (by decide)
  have hr : rle (rk_86 ++ ((50, 6, 81) :: (rk_81 ++ ((50, 5, 76) :: (rk_76 ++ ((50, 4, 71) :: (rk_71 ++ ((50, 3, 66) :: (rk_66 ++ ((50, 2, 61) :: (rk_61 ++ ((50, 1, 56) :: (rk_56 ++ ((50, 0, 51) :: (rk_51 ++ ((49, 0, 50) :: (rl))))))))))))))))) 90 := rl_a (by decide) (rl_m hr (by decide))
  refine sg_aastore (m := 10) rfl rfl (by decide) (by decide) (by decide) hd (fun hd => ?_)
  show jm_Go (d + 1) 10 52 md_History_init 34 [some (.inr (.inl 49)), some (.inl 7)] [] (stg L 90 709 ((50, 7, 86) :: (rk_86 ++ ((50, 6, 81) :: (rk_81 ++ ((50, 5, 76) :: (rk_76 ++ ((50, 4, 71) :: (rk_71 ++ ((50, 3, 66) :: (rk_66 ++ ((50, 2, 61) :: (rk_61 ++ ((50, 1, 56) :: (rk_56 ++ ((50, 0, 51) :: (rk_51 ++ ((49, 0, 50) :: (rl)))))))))))))))))) I) K
  have hr : rle ((50, 7, 86) :: (rk_86 ++ ((50, 6, 81) :: (rk_81 ++ ((50, 5, 76) :: (rk_76 ++ ((50, 4, 71) :: (rk_71 ++ ((50, 3, 66) :: (rk_66 ++ ((50, 2, 61) :: (rk_61 ++ ((50, 1, 56) :: (rk_56 ++ ((50, 0, 51) :: (rk_51 ++ ((49, 0, 50) :: (rl)))))))))))))))))) 90 := rl_c hr (by decide)
  refine go_iinc rfl hd (fun hd => ?_)
  refine go_goto (t := 15) (by decide) hd ?_
  show jm_Go (d + 1) 10 52 md_History_init 15 [some (.inr (.inl 49)), some (.inl 8)] [] (stg L 90 709 ((50, 7, 86) :: (rk_86 ++ ((50, 6, 81) :: (rk_81 ++ ((50, 5, 76) :: (rk_76 ++ ((50, 4, 71) :: (rk_71 ++ ((50, 3, 66) :: (rk_66 ++ ((50, 2, 61) :: (rk_61 ++ ((50, 1, 56) :: (rk_56 ++ ((50, 0, 51) :: (rk_51 ++ ((49, 0, 50) :: (rl)))))))))))))))))) I) K
  have hd := dc_History_init_15
  refine go_iload_n rfl hd (fun hd => ?_)
  refine go_bipush (by decide) hd (fun hd => ?_)
  refine go_icmp_ge (t := 40) (by decide) ⟨by decide, by decide⟩ ⟨by decide, by decide⟩ hd (fun h => absurd h (by decide)) (fun _ => ?_)
  show jm_Go (d + 1) 10 52 md_History_init 21 [some (.inr (.inl 49)), some (.inl 8)] [] (stg L 90 709 ((50, 7, 86) :: (rk_86 ++ ((50, 6, 81) :: (rk_81 ++ ((50, 5, 76) :: (rk_76 ++ ((50, 4, 71) :: (rk_71 ++ ((50, 3, 66) :: (rk_66 ++ ((50, 2, 61) :: (rk_61 ++ ((50, 1, 56) :: (rk_56 ++ ((50, 0, 51) :: (rk_51 ++ ((49, 0, 50) :: (rl)))))))))))))))))) I) K
  have hd := dc_History_init_21
  refine go_aload_n rfl hd (fun hd => ?_)
  refine go_getR (b := 50) co_X4 fl_4_11 (by decide) rfl rfl rfl hd (fun hd => ?_)
  refine go_iload_n rfl hd (fun hd => ?_)
  refine sg_new (c := 5) (n' := 91) (sl' := 715) (mc := 9) (ms := 46) hz hr co_X5 cl_4_9 w_ni_5 w_it_5 rfl rfl rfl rfl rfl hd (fun hd => ?_)
  have hz : izero I 91 := iz_m hz (by decide)
  have hr : rle ((50, 7, 86) :: (rk_86 ++ ((50, 6, 81) :: (rk_81 ++ ((50, 5, 76) :: (rk_76 ++ ((50, 4, 71) :: (rk_71 ++ ((50, 3, 66) :: (rk_66 ++ ((50, 2, 61) :: (rk_61 ++ ((50, 1, 56) :: (rk_56 ++ ((50, 0, 51) :: (rk_51 ++ ((49, 0, 50) :: (rl)))))))))))))))))) 91 := rl_m hr (by decide)
  refine go_dup rfl hd (fun hd => ?_)
  have hd2 := jm_d2 hd
  refine go_initN (mc1 := 4) (ms1 := 20) (mc2 := 5) (ms2 := 26) "StillMinutes" 91 [.inr (.inl 91), .inl 8, .inr (.inl 50)] mk_Moment_init rfl rfl nl_4_17 in_Moment_init (by decide) (Nat.le_of_ble_eq_true rfl) rfl rfl rfl hd (kk_91 hz hr ?_)
  show jm_Go (d + 1) 5 26 md_History_init 33 [some (.inr (.inl 49)), some (.inl 8)] [.inr (.inl 91), .inl 8, .inr (.inl 50)] (stg L 95 735 (rk_91 ++ ((50, 7, 86) :: (rk_86 ++ ((50, 6, 81) :: (rk_81 ++ ((50, 5, 76) :: (rk_76 ++ ((50, 4, 71) :: (rk_71 ++ ((50, 3, 66) :: (rk_66 ++ ((50, 2, 61) :: (rk_61 ++ ((50, 1, 56) :: (rk_56 ++ ((50, 0, 51) :: (rk_51 ++ ((49, 0, 50) :: (rl))))))))))))))))))) I) K
  have hd := hd2
  have hz : izero I 95 := iz_m hz (by decide)
  have hr : rle (rk_91 ++ ((50, 7, 86) :: (rk_86 ++ ((50, 6, 81) :: (rk_81 ++ ((50, 5, 76) :: (rk_76 ++ ((50, 4, 71) :: (rk_71 ++ ((50, 3, 66) :: (rk_66 ++ ((50, 2, 61) :: (rk_61 ++ ((50, 1, 56) :: (rk_56 ++ ((50, 0, 51) :: (rk_51 ++ ((49, 0, 50) :: (rl))))))))))))))))))) 95 := rl_a (by decide) (rl_m hr (by decide))
  refine sg_aastore (m := 10) rfl rfl (by decide) (by decide) (by decide) hd (fun hd => ?_)
  show jm_Go (d + 1) 5 26 md_History_init 34 [some (.inr (.inl 49)), some (.inl 8)] [] (stg L 95 735 ((50, 8, 91) :: (rk_91 ++ ((50, 7, 86) :: (rk_86 ++ ((50, 6, 81) :: (rk_81 ++ ((50, 5, 76) :: (rk_76 ++ ((50, 4, 71) :: (rk_71 ++ ((50, 3, 66) :: (rk_66 ++ ((50, 2, 61) :: (rk_61 ++ ((50, 1, 56) :: (rk_56 ++ ((50, 0, 51) :: (rk_51 ++ ((49, 0, 50) :: (rl)))))))))))))))))))) I) K
  have hr : rle ((50, 8, 91) :: (rk_91 ++ ((50, 7, 86) :: (rk_86 ++ ((50, 6, 81) :: (rk_81 ++ ((50, 5, 76) :: (rk_76 ++ ((50, 4, 71) :: (rk_71 ++ ((50, 3, 66) :: (rk_66 ++ ((50, 2, 61) :: (rk_61 ++ ((50, 1, 56) :: (rk_56 ++ ((50, 0, 51) :: (rk_51 ++ ((49, 0, 50) :: (rl)))))))))))))))))))) 95 := rl_c hr (by decide)
  refine go_iinc rfl hd (fun hd => ?_)
  refine go_goto (t := 15) (by decide) hd ?_
  show jm_Go (d + 1) 5 26 md_History_init 15 [some (.inr (.inl 49)), some (.inl 9)] [] (stg L 95 735 ((50, 8, 91) :: (rk_91 ++ ((50, 7, 86) :: (rk_86 ++ ((50, 6, 81) :: (rk_81 ++ ((50, 5, 76) :: (rk_76 ++ ((50, 4, 71) :: (rk_71 ++ ((50, 3, 66) :: (rk_66 ++ ((50, 2, 61) :: (rk_61 ++ ((50, 1, 56) :: (rk_56 ++ ((50, 0, 51) :: (rk_51 ++ ((49, 0, 50) :: (rl)))))))))))))))))))) I) K
  have hd := dc_History_init_15
  refine go_iload_n rfl hd (fun hd => ?_)
  refine go_bipush (by decide) hd (fun hd => ?_)
  refine go_icmp_ge (t := 40) (by decide) ⟨by decide, by decide⟩ ⟨by decide, by decide⟩ hd (fun h => absurd h (by decide)) (fun _ => ?_)
  show jm_Go (d + 1) 5 26 md_History_init 21 [some (.inr (.inl 49)), some (.inl 9)] [] (stg L 95 735 ((50, 8, 91) :: (rk_91 ++ ((50, 7, 86) :: (rk_86 ++ ((50, 6, 81) :: (rk_81 ++ ((50, 5, 76) :: (rk_76 ++ ((50, 4, 71) :: (rk_71 ++ ((50, 3, 66) :: (rk_66 ++ ((50, 2, 61) :: (rk_61 ++ ((50, 1, 56) :: (rk_56 ++ ((50, 0, 51) :: (rk_51 ++ ((49, 0, 50) :: (rl)))))))))))))))))))) I) K
  have hd := dc_History_init_21
  refine go_aload_n rfl hd (fun hd => ?_)
  refine go_getR (b := 50) co_X4 fl_4_11 (by decide) rfl rfl rfl hd (fun hd => ?_)
  refine go_iload_n rfl hd (fun hd => ?_)
  refine sg_new (c := 5) (n' := 96) (sl' := 741) (mc := 4) (ms := 20) hz hr co_X5 cl_4_9 w_ni_5 w_it_5 rfl rfl rfl rfl rfl hd (fun hd => ?_)
  have hz : izero I 96 := iz_m hz (by decide)
  have hr : rle ((50, 8, 91) :: (rk_91 ++ ((50, 7, 86) :: (rk_86 ++ ((50, 6, 81) :: (rk_81 ++ ((50, 5, 76) :: (rk_76 ++ ((50, 4, 71) :: (rk_71 ++ ((50, 3, 66) :: (rk_66 ++ ((50, 2, 61) :: (rk_61 ++ ((50, 1, 56) :: (rk_56 ++ ((50, 0, 51) :: (rk_51 ++ ((49, 0, 50) :: (rl)))))))))))))))))))) 96 := rl_m hr (by decide)
  refine go_dup rfl hd (fun hd => ?_)
  have hd2 := jm_d2 hd
  refine go_initN (mc1 := 4) (ms1 := 20) (mc2 := 0) (ms2 := 0) "StillMinutes" 96 [.inr (.inl 96), .inl 9, .inr (.inl 50)] mk_Moment_init rfl rfl nl_4_17 in_Moment_init (by decide) (Nat.le_of_ble_eq_true rfl) rfl rfl rfl hd (kk_96 hz hr ?_)
  show jm_Go (d + 1) 0 0 md_History_init 33 [some (.inr (.inl 49)), some (.inl 9)] [.inr (.inl 96), .inl 9, .inr (.inl 50)] (stg L 100 761 (rk_96 ++ ((50, 8, 91) :: (rk_91 ++ ((50, 7, 86) :: (rk_86 ++ ((50, 6, 81) :: (rk_81 ++ ((50, 5, 76) :: (rk_76 ++ ((50, 4, 71) :: (rk_71 ++ ((50, 3, 66) :: (rk_66 ++ ((50, 2, 61) :: (rk_61 ++ ((50, 1, 56) :: (rk_56 ++ ((50, 0, 51) :: (rk_51 ++ ((49, 0, 50) :: (rl))))))))))))))))))))) I) K
  have hd := hd2
  have hz : izero I 100 := iz_m hz (by decide)
  have hr : rle (rk_96 ++ ((50, 8, 91) :: (rk_91 ++ ((50, 7, 86) :: (rk_86 ++ ((50, 6, 81) :: (rk_81 ++ ((50, 5, 76) :: (rk_76 ++ ((50, 4, 71) :: (rk_71 ++ ((50, 3, 66) :: (rk_66 ++ ((50, 2, 61) :: (rk_61 ++ ((50, 1, 56) :: (rk_56 ++ ((50, 0, 51) :: (rk_51 ++ ((49, 0, 50) :: (rl))))))))))))))))))))) 100 := rl_a (by decide) (rl_m hr (by decide))
  refine sg_aastore (m := 10) rfl rfl (by decide) (by decide) (by decide) hd (fun hd => ?_)
  show jm_Go (d + 1) 0 0 md_History_init 34 [some (.inr (.inl 49)), some (.inl 9)] [] (stg L 100 761 ((50, 9, 96) :: (rk_96 ++ ((50, 8, 91) :: (rk_91 ++ ((50, 7, 86) :: (rk_86 ++ ((50, 6, 81) :: (rk_81 ++ ((50, 5, 76) :: (rk_76 ++ ((50, 4, 71) :: (rk_71 ++ ((50, 3, 66) :: (rk_66 ++ ((50, 2, 61) :: (rk_61 ++ ((50, 1, 56) :: (rk_56 ++ ((50, 0, 51) :: (rk_51 ++ ((49, 0, 50) :: (rl)))))))))))))))))))))) I) K
  have hr : rle ((50, 9, 96) :: (rk_96 ++ ((50, 8, 91) :: (rk_91 ++ ((50, 7, 86) :: (rk_86 ++ ((50, 6, 81) :: (rk_81 ++ ((50, 5, 76) :: (rk_76 ++ ((50, 4, 71) :: (rk_71 ++ ((50, 3, 66) :: (rk_66 ++ ((50, 2, 61) :: (rk_61 ++ ((50, 1, 56) :: (rk_56 ++ ((50, 0, 51) :: (rk_51 ++ ((49, 0, 50) :: (rl)))))))))))))))))))))) 100 := rl_c hr (by decide)
  refine go_iinc rfl hd (fun hd => ?_)
  refine go_goto (t := 15) (by decide) hd ?_
  show jm_Go (d + 1) 0 0 md_History_init 15 [some (.inr (.inl 49)), some (.inl 10)] [] (stg L 100 761 ((50, 9, 96) :: (rk_96 ++ ((50, 8, 91) :: (rk_91 ++ ((50, 7, 86) :: (rk_86 ++ ((50, 6, 81) :: (rk_81 ++ ((50, 5, 76) :: (rk_76 ++ ((50, 4, 71) :: (rk_71 ++ ((50, 3, 66) :: (rk_66 ++ ((50, 2, 61) :: (rk_61 ++ ((50, 1, 56) :: (rk_56 ++ ((50, 0, 51) :: (rk_51 ++ ((49, 0, 50) :: (rl)))))))))))))))))))))) I) K
  have hd := dc_History_init_15
  refine go_iload_n rfl hd (fun hd => ?_)
  refine go_bipush (by decide) hd (fun hd => ?_)
  refine go_icmp_ge (t := 40) (by decide) ⟨by decide, by decide⟩ ⟨by decide, by decide⟩ hd (fun _ => ?_) (fun h => absurd (by decide) h)
  show jm_Go (d + 1) 0 0 md_History_init 40 [some (.inr (.inl 49)), some (.inl 10)] [] (stg L 100 761 ((50, 9, 96) :: (rk_96 ++ ((50, 8, 91) :: (rk_91 ++ ((50, 7, 86) :: (rk_86 ++ ((50, 6, 81) :: (rk_81 ++ ((50, 5, 76) :: (rk_76 ++ ((50, 4, 71) :: (rk_71 ++ ((50, 3, 66) :: (rk_66 ++ ((50, 2, 61) :: (rk_61 ++ ((50, 1, 56) :: (rk_56 ++ ((50, 0, 51) :: (rk_51 ++ ((49, 0, 50) :: (rl)))))))))))))))))))))) I) K
  have hd := dc_History_init_40
  exact go_vreturn hd rfl k
theorem dc_CityReader_init_0 : jm_dc md_CityReader_init.2.1 0 [(.aload_n 0, 1), (.invokespecial 3, 3), (.return_, 1)] = true := by decide +kernel
def rk_42 : List (Nat × Nat × Nat) := []
theorem kk_42 {L d : Nat} {rl : List (Nat × Nat × Nat)} {I : jm_I} {K : Option jm_V → jm_M → Prop} (hz : izero I 42) (hr : rle rl 42) (k : K none (stg L 42 262 (rk_42 ++ rl) I)) : jm_Call d 0 0 md_CityReader_init [.inr (.inl 42)] (stg L 42 262 rl I) K := by
  show jm_Go d 0 0 md_CityReader_init 0 [some (.inr (.inl 42))] [] (stg L 42 262 (rl) I) K
  have hd := dc_CityReader_init_0
  refine go_aload_n rfl hd (fun hd => ?_)
  refine go_objinit ml_1_3 w_oi1 w_oi2 (Nat.le_of_ble_eq_true rfl) hd (fun hd => ?_)
  exact go_vreturn hd rfl k
theorem dc_Finds_init_0 : jm_dc md_Finds_init.2.1 0 [(.aload_n 0, 1), (.invokespecial 3, 3), (.aload_n 0, 1), (.iconst 4, 1), (.newarray .int, 2), (.putfield 9, 3), (.aload_n 0, 1), (.iconst 4, 1), (.newarray .int, 2), (.putfield 15, 3), (.aload_n 0, 1), (.iconst 4, 1), (.newarray .int, 2), (.putfield 18, 3), (.return_, 1)] = true := by decide +kernel
def rk_103 : List (Nat × Nat × Nat) := (103, 3, 106) :: ((103, 2, 105) :: ((103, 1, 104) :: ([])))
theorem kk_103 {L d : Nat} {rl : List (Nat × Nat × Nat)} {I : jm_I} {K : Option jm_V → jm_M → Prop} (hz : izero I 103) (hr : rle rl 103) (k : K none (stg L 106 781 (rk_103 ++ rl) I)) : jm_Call d 3 12 md_Finds_init [.inr (.inl 103)] (stg L 103 769 rl I) K := by
  show jm_Go d 3 12 md_Finds_init 0 [some (.inr (.inl 103))] [] (stg L 103 769 (rl) I) K
  have hd := dc_Finds_init_0
  refine go_aload_n rfl hd (fun hd => ?_)
  refine go_objinit ml_3_3 w_oi1 w_oi2 (Nat.le_of_ble_eq_true rfl) hd (fun hd => ?_)
  refine go_aload_n rfl hd (fun hd => ?_)
  refine go_iconst hd (fun hd => ?_)
  refine sg_newI (n' := 104) (sl' := 773) (mc := 2) (ms := 8) hz hr (by decide) (by decide) rfl rfl rfl rfl rfl hd (fun hd => ?_)
  have hz : izero I 104 := iz_m hz (by decide)
  have hr : rle (rl) 104 := rl_m hr (by decide)
  refine sg_putR co_X3 fl_3_9 (by decide) rfl rfl rfl rfl hd (fun hd => ?_)
  have hr : rle ((103, 1, 104) :: (rl)) 104 := rl_c hr (by decide)
  refine go_aload_n rfl hd (fun hd => ?_)
  refine go_iconst hd (fun hd => ?_)
  refine sg_newI (n' := 105) (sl' := 777) (mc := 1) (ms := 4) hz hr (by decide) (by decide) rfl rfl rfl rfl rfl hd (fun hd => ?_)
  have hz : izero I 105 := iz_m hz (by decide)
  have hr : rle ((103, 1, 104) :: (rl)) 105 := rl_m hr (by decide)
  refine sg_putR co_X3 fl_3_15 (by decide) rfl rfl rfl rfl hd (fun hd => ?_)
  have hr : rle ((103, 2, 105) :: ((103, 1, 104) :: (rl))) 105 := rl_c hr (by decide)
  refine go_aload_n rfl hd (fun hd => ?_)
  refine go_iconst hd (fun hd => ?_)
  refine sg_newI (n' := 106) (sl' := 781) (mc := 0) (ms := 0) hz hr (by decide) (by decide) rfl rfl rfl rfl rfl hd (fun hd => ?_)
  have hz : izero I 106 := iz_m hz (by decide)
  have hr : rle ((103, 2, 105) :: ((103, 1, 104) :: (rl))) 106 := rl_m hr (by decide)
  refine sg_putR co_X3 fl_3_18 (by decide) rfl rfl rfl rfl hd (fun hd => ?_)
  have hr : rle ((103, 3, 106) :: ((103, 2, 105) :: ((103, 1, 104) :: (rl)))) 106 := rl_c hr (by decide)
  exact go_vreturn hd rfl k
theorem dc_PressTable_init_0 : jm_dc md_PressTable_init.2.1 0 [(.aload_n 0, 1), (.invokespecial 3, 3), (.aload_n 0, 1), (.bipush 32, 2), (.bipush 13, 2), (.multianewarray 9 2, 4), (.putfield 11, 3), (.aload_n 0, 1), (.iconst 5, 1), (.bipush 10, 2), (.multianewarray 9 2, 4), (.putfield 16, 3), (.aload_n 0, 1), (.bipush 32, 2), (.newarray .boolean, 2), (.putfield 19, 3), (.return_, 1)] = true := by decide +kernel
def rk_107 : List (Nat × Nat × Nat) := (107, 6, 147) :: ((107, 5, 141) :: (grl 141 5 ++ ((107, 4, 108) :: (grl 108 32 ++ ([])))))
theorem kk_107 {L d : Nat} {rl : List (Nat × Nat × Nat)} {I : jm_I} {K : Option jm_V → jm_M → Prop} (hz : izero I 107) (hr : rle rl 107) (k : K none (stg L 147 1323 (rk_107 ++ rl) I)) : jm_Call d 40 535 md_PressTable_init [.inr (.inl 107)] (stg L 107 788 rl I) K := by
  show jm_Go d 40 535 md_PressTable_init 0 [some (.inr (.inl 107))] [] (stg L 107 788 (rl) I) K
  have hd := dc_PressTable_init_0
  refine go_aload_n rfl hd (fun hd => ?_)
  refine go_objinit ml_6_3 w_oi1 w_oi2 (Nat.le_of_ble_eq_true rfl) hd (fun hd => ?_)
  refine go_aload_n rfl hd (fun hd => ?_)
  refine go_bipush (by decide) hd (fun hd => ?_)
  refine go_bipush (by decide) hd (fun hd => ?_)
  refine sg_multi (n' := 140) (sl' := 1236) (mc := 7) (ms := 87) hz hr cl_6_9 (by decide) (by decide) (by decide) (by decide) rfl (by decide) rfl rfl rfl rfl hd (fun hd => ?_)
  show jm_Go d 7 87 md_PressTable_init 13 [some (.inr (.inl 107))] [.inr (.inl 108), .inr (.inl 107)] (stg L 140 1236 (grl 108 32 ++ (rl)) I) K
  have hz : izero I 140 := iz_m hz (by decide)
  have hr : rle (grl 108 32 ++ (rl)) 140 := rl_a (rl_g (by decide)) (rl_m hr (by decide))
  refine sg_putR co_X6 fl_6_11 (by decide) rfl rfl rfl rfl hd (fun hd => ?_)
  have hr : rle ((107, 4, 108) :: (grl 108 32 ++ (rl))) 140 := rl_c hr (by decide)
  refine go_aload_n rfl hd (fun hd => ?_)
  refine go_iconst hd (fun hd => ?_)
  refine go_bipush (by decide) hd (fun hd => ?_)
  refine sg_multi (n' := 146) (sl' := 1291) (mc := 1) (ms := 32) hz hr cl_6_9 (by decide) (by decide) (by decide) (by decide) rfl (by decide) rfl rfl rfl rfl hd (fun hd => ?_)
  show jm_Go d 1 32 md_PressTable_init 24 [some (.inr (.inl 107))] [.inr (.inl 141), .inr (.inl 107)] (stg L 146 1291 (grl 141 5 ++ ((107, 4, 108) :: (grl 108 32 ++ (rl)))) I) K
  have hz : izero I 146 := iz_m hz (by decide)
  have hr : rle (grl 141 5 ++ ((107, 4, 108) :: (grl 108 32 ++ (rl)))) 146 := rl_a (rl_g (by decide)) (rl_m hr (by decide))
  refine sg_putR co_X6 fl_6_16 (by decide) rfl rfl rfl rfl hd (fun hd => ?_)
  have hr : rle ((107, 5, 141) :: (grl 141 5 ++ ((107, 4, 108) :: (grl 108 32 ++ (rl))))) 146 := rl_c hr (by decide)
  refine go_aload_n rfl hd (fun hd => ?_)
  refine go_bipush (by decide) hd (fun hd => ?_)
  refine sg_newZ (n' := 147) (sl' := 1323) (mc := 0) (ms := 0) hz hr (by decide) (by decide) rfl rfl rfl rfl rfl hd (fun hd => ?_)
  have hz : izero I 147 := iz_m hz (by decide)
  have hr : rle ((107, 5, 141) :: (grl 141 5 ++ ((107, 4, 108) :: (grl 108 32 ++ (rl))))) 147 := rl_m hr (by decide)
  refine sg_putR co_X6 fl_6_19 (by decide) rfl rfl rfl rfl hd (fun hd => ?_)
  have hr : rle ((107, 6, 147) :: ((107, 5, 141) :: (grl 141 5 ++ ((107, 4, 108) :: (grl 108 32 ++ (rl)))))) 147 := rl_c hr (by decide)
  exact go_vreturn hd rfl k
theorem dc_DoneSearch_init_0 : jm_dc md_DoneSearch_init.2.1 0 [(.aload_n 0, 1), (.invokespecial 3, 3), (.aload_n 0, 1), (.bipush 6, 2), (.newarray .int, 2), (.putfield 9, 3), (.aload_n 0, 1), (.bipush 6, 2), (.newarray .int, 2), (.putfield 15, 3), (.return_, 1)] = true := by decide +kernel
def rk_148 : List (Nat × Nat × Nat) := (148, 1, 150) :: ((148, 0, 149) :: ([]))
theorem kk_148 {L d : Nat} {rl : List (Nat × Nat × Nat)} {I : jm_I} {K : Option jm_V → jm_M → Prop} (hz : izero I 148) (hr : rle rl 148) (k : K none (stg L 150 1337 (rk_148 ++ rl) I)) : jm_Call d 2 12 md_DoneSearch_init [.inr (.inl 148)] (stg L 148 1325 rl I) K := by
  show jm_Go d 2 12 md_DoneSearch_init 0 [some (.inr (.inl 148))] [] (stg L 148 1325 (rl) I) K
  have hd := dc_DoneSearch_init_0
  refine go_aload_n rfl hd (fun hd => ?_)
  refine go_objinit ml_2_3 w_oi1 w_oi2 (Nat.le_of_ble_eq_true rfl) hd (fun hd => ?_)
  refine go_aload_n rfl hd (fun hd => ?_)
  refine go_bipush (by decide) hd (fun hd => ?_)
  refine sg_newI (n' := 149) (sl' := 1331) (mc := 1) (ms := 6) hz hr (by decide) (by decide) rfl rfl rfl rfl rfl hd (fun hd => ?_)
  have hz : izero I 149 := iz_m hz (by decide)
  have hr : rle (rl) 149 := rl_m hr (by decide)
  refine sg_putR co_X2 fl_2_9 (by decide) rfl rfl rfl rfl hd (fun hd => ?_)
  have hr : rle ((148, 0, 149) :: (rl)) 149 := rl_c hr (by decide)
  refine go_aload_n rfl hd (fun hd => ?_)
  refine go_bipush (by decide) hd (fun hd => ?_)
  refine sg_newI (n' := 150) (sl' := 1337) (mc := 0) (ms := 0) hz hr (by decide) (by decide) rfl rfl rfl rfl rfl hd (fun hd => ?_)
  have hz : izero I 150 := iz_m hz (by decide)
  have hr : rle ((148, 0, 149) :: (rl)) 150 := rl_m hr (by decide)
  refine sg_putR co_X2 fl_2_15 (by decide) rfl rfl rfl rfl hd (fun hd => ?_)
  have hr : rle ((148, 1, 150) :: ((148, 0, 149) :: (rl))) 150 := rl_c hr (by decide)
  exact go_vreturn hd rfl k
theorem dc_TakingGame_init_0 : jm_dc md_TakingGame_init.2.1 0 [(.aload_n 0, 1), (.invokespecial 3, 3), (.aload_n 0, 1), (.iconst 5, 1), (.newarray .int, 2), (.putfield 9, 3), (.aload_n 0, 1), (.iconst 2, 1), (.newarray .int, 2), (.putfield 15, 3), (.aload_n 0, 1), (.iconst 2, 1), (.newarray .int, 2), (.putfield 18, 3), (.aload_n 0, 1), (.iconst 2, 1), (.newarray .boolean, 2), (.putfield 21, 3), (.return_, 1)] = true := by decide +kernel
def rk_151 : List (Nat × Nat × Nat) := (151, 5, 155) :: ((151, 4, 154) :: ((151, 3, 153) :: ((151, 2, 152) :: ([]))))
theorem kk_151 {L d : Nat} {rl : List (Nat × Nat × Nat)} {I : jm_I} {K : Option jm_V → jm_M → Prop} (hz : izero I 151) (hr : rle rl 151) (k : K none (stg L 155 1354 (rk_151 ++ rl) I)) : jm_Call d 4 11 md_TakingGame_init [.inr (.inl 151)] (stg L 151 1343 rl I) K := by
  show jm_Go d 4 11 md_TakingGame_init 0 [some (.inr (.inl 151))] [] (stg L 151 1343 (rl) I) K
  have hd := dc_TakingGame_init_0
  refine go_aload_n rfl hd (fun hd => ?_)
  refine go_objinit ml_7_3 w_oi1 w_oi2 (Nat.le_of_ble_eq_true rfl) hd (fun hd => ?_)
  refine go_aload_n rfl hd (fun hd => ?_)
  refine go_iconst hd (fun hd => ?_)
  refine sg_newI (n' := 152) (sl' := 1348) (mc := 3) (ms := 6) hz hr (by decide) (by decide) rfl rfl rfl rfl rfl hd (fun hd => ?_)
  have hz : izero I 152 := iz_m hz (by decide)
  have hr : rle (rl) 152 := rl_m hr (by decide)
  refine sg_putR co_X7 fl_7_9 (by decide) rfl rfl rfl rfl hd (fun hd => ?_)
  have hr : rle ((151, 2, 152) :: (rl)) 152 := rl_c hr (by decide)
  refine go_aload_n rfl hd (fun hd => ?_)
  refine go_iconst hd (fun hd => ?_)
  refine sg_newI (n' := 153) (sl' := 1350) (mc := 2) (ms := 4) hz hr (by decide) (by decide) rfl rfl rfl rfl rfl hd (fun hd => ?_)
  have hz : izero I 153 := iz_m hz (by decide)
  have hr : rle ((151, 2, 152) :: (rl)) 153 := rl_m hr (by decide)
  refine sg_putR co_X7 fl_7_15 (by decide) rfl rfl rfl rfl hd (fun hd => ?_)
  have hr : rle ((151, 3, 153) :: ((151, 2, 152) :: (rl))) 153 := rl_c hr (by decide)
  refine go_aload_n rfl hd (fun hd => ?_)
  refine go_iconst hd (fun hd => ?_)
  refine sg_newI (n' := 154) (sl' := 1352) (mc := 1) (ms := 2) hz hr (by decide) (by decide) rfl rfl rfl rfl rfl hd (fun hd => ?_)
  have hz : izero I 154 := iz_m hz (by decide)
  have hr : rle ((151, 3, 153) :: ((151, 2, 152) :: (rl))) 154 := rl_m hr (by decide)
  refine sg_putR co_X7 fl_7_18 (by decide) rfl rfl rfl rfl hd (fun hd => ?_)
  have hr : rle ((151, 4, 154) :: ((151, 3, 153) :: ((151, 2, 152) :: (rl)))) 154 := rl_c hr (by decide)
  refine go_aload_n rfl hd (fun hd => ?_)
  refine go_iconst hd (fun hd => ?_)
  refine sg_newZ (n' := 155) (sl' := 1354) (mc := 0) (ms := 0) hz hr (by decide) (by decide) rfl rfl rfl rfl rfl hd (fun hd => ?_)
  have hz : izero I 155 := iz_m hz (by decide)
  have hr : rle ((151, 4, 154) :: ((151, 3, 153) :: ((151, 2, 152) :: (rl)))) 155 := rl_m hr (by decide)
  refine sg_putR co_X7 fl_7_21 (by decide) rfl rfl rfl rfl hd (fun hd => ?_)
  have hr : rle ((151, 5, 155) :: ((151, 4, 154) :: ((151, 3, 153) :: ((151, 2, 152) :: (rl))))) 155 := rl_c hr (by decide)
  exact go_vreturn hd rfl k
theorem dc_M_init_0 : jm_dc md_M_init.2.1 0 [(.aload_n 0, 1), (.invokespecial 1, 3), (.aload_n 0, 1), (.iconst 2, 1), (.putfield 7, 3), (.aload_n 0, 1), (.bipush 24, 2), (.newarray .int, 2), (.putfield 13, 3), (.aload_n 0, 1), (.bipush 10, 2), (.putfield 17, 3), (.aload_n 0, 1), (.iconst 5, 1), (.newarray .int, 2), (.putfield 20, 3), (.aload_n 0, 1), (.bipush 20, 2), (.newarray .int, 2), (.putfield 23, 3), (.aload_n 0, 1), (.bipush 27, 2), (.newarray .int, 2), (.putfield 26, 3), (.aload_n 0, 1), (.sipush 270, 3), (.newarray .int, 2), (.putfield 29, 3), (.aload_n 0, 1), (.bipush 54, 2), (.newarray .int, 2), (.putfield 32, 3), (.aload_n 0, 1), (.iconst 2, 1), (.newarray .boolean, 2), (.putfield 35, 3), (.aload_n 0, 1), (.bipush 12, 2), (.newarray .int, 2), (.putfield 39, 3), (.aload_n 0, 1), (.sipush 200, 3), (.newarray .int, 2), (.putfield 42, 3), (.aload_n 0, 1), (.iconst 2, 1), (.newarray .int, 2), (.putfield 45, 3), (.aload_n 0, 1), (.bipush 24, 2), (.newarray .int, 2), (.putfield 48, 3), (.aload_n 0, 1), (.bipush 10, 2), (.newarray .int, 2), (.putfield 51, 3), (.aload_n 0, 1), (.iconst 5, 1), (.newarray .int, 2), (.putfield 54, 3), (.aload_n 0, 1), (.bipush 20, 2), (.newarray .int, 2), (.putfield 57, 3), (.aload_n 0, 1), (.bipush 36, 2), (.newarray .int, 2), (.putfield 60, 3), (.aload_n 0, 1), (.sipush 320, 3), (.newarray .int, 2), (.putfield 63, 3), (.aload_n 0, 1), (.sipush 320, 3), (.newarray .int, 2), (.putfield 66, 3), (.aload_n 0, 1), (.bipush 6, 2), (.newarray .int, 2), (.putfield 69, 3), (.aload_n 0, 1), (.bipush 6, 2), (.newarray .int, 2), (.putfield 72, 3), (.aload_n 0, 1), (.bipush 90, 2), (.newarray .int, 2), (.putfield 75, 3), (.return_, 1)] = true := by decide +kernel
def rk_167 : List (Nat × Nat × Nat) := (167, 38, 187) :: ((167, 37, 186) :: ((167, 36, 185) :: ((167, 34, 184) :: ((167, 33, 183) :: ((167, 32, 182) :: ((167, 31, 181) :: ((167, 30, 180) :: ((167, 28, 179) :: ((167, 26, 178) :: ((167, 23, 177) :: ((167, 16, 176) :: ((167, 14, 175) :: ((167, 12, 174) :: ((167, 11, 173) :: ((167, 9, 172) :: ((167, 8, 171) :: ((167, 7, 170) :: ((167, 6, 169) :: ((167, 2, 168) :: ([]))))))))))))))))))))
theorem kk_167 {L d : Nat} {rl : List (Nat × Nat × Nat)} {I : jm_I} {K : Option jm_V → jm_M → Prop} (hz : izero I 167) (hr : rle rl 167) (k : K none (stg L 187 2904 (rk_167 ++ rl) (jm_up (jm_up I 167 0 2) 167 3 10))) : jm_Call d 20 1453 md_M_init [.inr (.inl 167)] (stg L 167 1451 rl I) K := by
  show jm_Go d 20 1453 md_M_init 0 [some (.inr (.inl 167))] [] (stg L 167 1451 (rl) I) K
  have hd := dc_M_init_0
  refine go_aload_n rfl hd (fun hd => ?_)
  refine go_objinit ml_9_1 w_oi1 w_oi2 (Nat.le_of_ble_eq_true rfl) hd (fun hd => ?_)
  refine go_aload_n rfl hd (fun hd => ?_)
  refine go_iconst hd (fun hd => ?_)
  refine go_putI co_X9 fl_9_7 (by decide) rfl rfl hd (fun hd => ?_)
  show jm_Go d 20 1453 md_M_init 9 [some (.inr (.inl 167))] [] (stg L 167 1451 (rl) (jm_up I 167 0 2)) K
  have hz : izero (jm_up I 167 0 2) 167 := iz_u hz (by decide)
  refine go_aload_n rfl hd (fun hd => ?_)
  refine go_bipush (by decide) hd (fun hd => ?_)
  refine sg_newI (n' := 168) (sl' := 1475) (mc := 19) (ms := 1429) hz hr (by decide) (by decide) rfl rfl rfl rfl rfl hd (fun hd => ?_)
  have hz : izero (jm_up I 167 0 2) 168 := iz_m hz (by decide)
  have hr : rle (rl) 168 := rl_m hr (by decide)
  refine sg_putR co_X9 fl_9_13 (by decide) rfl rfl rfl rfl hd (fun hd => ?_)
  have hr : rle ((167, 2, 168) :: (rl)) 168 := rl_c hr (by decide)
  refine go_aload_n rfl hd (fun hd => ?_)
  refine go_bipush (by decide) hd (fun hd => ?_)
  refine go_putI co_X9 fl_9_17 (by decide) rfl rfl hd (fun hd => ?_)
  show jm_Go d 19 1429 md_M_init 23 [some (.inr (.inl 167))] [] (stg L 168 1475 ((167, 2, 168) :: (rl)) (jm_up (jm_up I 167 0 2) 167 3 10)) K
  have hz : izero (jm_up (jm_up I 167 0 2) 167 3 10) 168 := iz_u hz (by decide)
  refine go_aload_n rfl hd (fun hd => ?_)
  refine go_iconst hd (fun hd => ?_)
  refine sg_newI (n' := 169) (sl' := 1480) (mc := 18) (ms := 1424) hz hr (by decide) (by decide) rfl rfl rfl rfl rfl hd (fun hd => ?_)
  have hz : izero (jm_up (jm_up I 167 0 2) 167 3 10) 169 := iz_m hz (by decide)
  have hr : rle ((167, 2, 168) :: (rl)) 169 := rl_m hr (by decide)
  refine sg_putR co_X9 fl_9_20 (by decide) rfl rfl rfl rfl hd (fun hd => ?_)
  have hr : rle ((167, 6, 169) :: ((167, 2, 168) :: (rl))) 169 := rl_c hr (by decide)
  refine go_aload_n rfl hd (fun hd => ?_)
  refine go_bipush (by decide) hd (fun hd => ?_)
  refine sg_newI (n' := 170) (sl' := 1500) (mc := 17) (ms := 1404) hz hr (by decide) (by decide) rfl rfl rfl rfl rfl hd (fun hd => ?_)
  have hz : izero (jm_up (jm_up I 167 0 2) 167 3 10) 170 := iz_m hz (by decide)
  have hr : rle ((167, 6, 169) :: ((167, 2, 168) :: (rl))) 170 := rl_m hr (by decide)
  refine sg_putR co_X9 fl_9_23 (by decide) rfl rfl rfl rfl hd (fun hd => ?_)
  have hr : rle ((167, 7, 170) :: ((167, 6, 169) :: ((167, 2, 168) :: (rl)))) 170 := rl_c hr (by decide)
  refine go_aload_n rfl hd (fun hd => ?_)
  refine go_bipush (by decide) hd (fun hd => ?_)
  refine sg_newI (n' := 171) (sl' := 1527) (mc := 16) (ms := 1377) hz hr (by decide) (by decide) rfl rfl rfl rfl rfl hd (fun hd => ?_)
  have hz : izero (jm_up (jm_up I 167 0 2) 167 3 10) 171 := iz_m hz (by decide)
  have hr : rle ((167, 7, 170) :: ((167, 6, 169) :: ((167, 2, 168) :: (rl)))) 171 := rl_m hr (by decide)
  refine sg_putR co_X9 fl_9_26 (by decide) rfl rfl rfl rfl hd (fun hd => ?_)
  have hr : rle ((167, 8, 171) :: ((167, 7, 170) :: ((167, 6, 169) :: ((167, 2, 168) :: (rl))))) 171 := rl_c hr (by decide)
  refine go_aload_n rfl hd (fun hd => ?_)
  refine go_sipush (by decide) hd (fun hd => ?_)
  refine sg_newI (n' := 172) (sl' := 1797) (mc := 15) (ms := 1107) hz hr (by decide) (by decide) rfl rfl rfl rfl rfl hd (fun hd => ?_)
  have hz : izero (jm_up (jm_up I 167 0 2) 167 3 10) 172 := iz_m hz (by decide)
  have hr : rle ((167, 8, 171) :: ((167, 7, 170) :: ((167, 6, 169) :: ((167, 2, 168) :: (rl))))) 172 := rl_m hr (by decide)
  refine sg_putR co_X9 fl_9_29 (by decide) rfl rfl rfl rfl hd (fun hd => ?_)
  have hr : rle ((167, 9, 172) :: ((167, 8, 171) :: ((167, 7, 170) :: ((167, 6, 169) :: ((167, 2, 168) :: (rl)))))) 172 := rl_c hr (by decide)
  refine go_aload_n rfl hd (fun hd => ?_)
  refine go_bipush (by decide) hd (fun hd => ?_)
  refine sg_newI (n' := 173) (sl' := 1851) (mc := 14) (ms := 1053) hz hr (by decide) (by decide) rfl rfl rfl rfl rfl hd (fun hd => ?_)
  have hz : izero (jm_up (jm_up I 167 0 2) 167 3 10) 173 := iz_m hz (by decide)
  have hr : rle ((167, 9, 172) :: ((167, 8, 171) :: ((167, 7, 170) :: ((167, 6, 169) :: ((167, 2, 168) :: (rl)))))) 173 := rl_m hr (by decide)
  refine sg_putR co_X9 fl_9_32 (by decide) rfl rfl rfl rfl hd (fun hd => ?_)
  have hr : rle ((167, 11, 173) :: ((167, 9, 172) :: ((167, 8, 171) :: ((167, 7, 170) :: ((167, 6, 169) :: ((167, 2, 168) :: (rl))))))) 173 := rl_c hr (by decide)
  refine go_aload_n rfl hd (fun hd => ?_)
  refine go_iconst hd (fun hd => ?_)
  refine sg_newZ (n' := 174) (sl' := 1853) (mc := 13) (ms := 1051) hz hr (by decide) (by decide) rfl rfl rfl rfl rfl hd (fun hd => ?_)
  have hz : izero (jm_up (jm_up I 167 0 2) 167 3 10) 174 := iz_m hz (by decide)
  have hr : rle ((167, 11, 173) :: ((167, 9, 172) :: ((167, 8, 171) :: ((167, 7, 170) :: ((167, 6, 169) :: ((167, 2, 168) :: (rl))))))) 174 := rl_m hr (by decide)
  refine sg_putR co_X9 fl_9_35 (by decide) rfl rfl rfl rfl hd (fun hd => ?_)
  have hr : rle ((167, 12, 174) :: ((167, 11, 173) :: ((167, 9, 172) :: ((167, 8, 171) :: ((167, 7, 170) :: ((167, 6, 169) :: ((167, 2, 168) :: (rl)))))))) 174 := rl_c hr (by decide)
  refine go_aload_n rfl hd (fun hd => ?_)
  refine go_bipush (by decide) hd (fun hd => ?_)
  refine sg_newI (n' := 175) (sl' := 1865) (mc := 12) (ms := 1039) hz hr (by decide) (by decide) rfl rfl rfl rfl rfl hd (fun hd => ?_)
  have hz : izero (jm_up (jm_up I 167 0 2) 167 3 10) 175 := iz_m hz (by decide)
  have hr : rle ((167, 12, 174) :: ((167, 11, 173) :: ((167, 9, 172) :: ((167, 8, 171) :: ((167, 7, 170) :: ((167, 6, 169) :: ((167, 2, 168) :: (rl)))))))) 175 := rl_m hr (by decide)
  refine sg_putR co_X9 fl_9_39 (by decide) rfl rfl rfl rfl hd (fun hd => ?_)
  have hr : rle ((167, 14, 175) :: ((167, 12, 174) :: ((167, 11, 173) :: ((167, 9, 172) :: ((167, 8, 171) :: ((167, 7, 170) :: ((167, 6, 169) :: ((167, 2, 168) :: (rl))))))))) 175 := rl_c hr (by decide)
  refine go_aload_n rfl hd (fun hd => ?_)
  refine go_sipush (by decide) hd (fun hd => ?_)
  refine sg_newI (n' := 176) (sl' := 2065) (mc := 11) (ms := 839) hz hr (by decide) (by decide) rfl rfl rfl rfl rfl hd (fun hd => ?_)
  have hz : izero (jm_up (jm_up I 167 0 2) 167 3 10) 176 := iz_m hz (by decide)
  have hr : rle ((167, 14, 175) :: ((167, 12, 174) :: ((167, 11, 173) :: ((167, 9, 172) :: ((167, 8, 171) :: ((167, 7, 170) :: ((167, 6, 169) :: ((167, 2, 168) :: (rl))))))))) 176 := rl_m hr (by decide)
  refine sg_putR co_X9 fl_9_42 (by decide) rfl rfl rfl rfl hd (fun hd => ?_)
  have hr : rle ((167, 16, 176) :: ((167, 14, 175) :: ((167, 12, 174) :: ((167, 11, 173) :: ((167, 9, 172) :: ((167, 8, 171) :: ((167, 7, 170) :: ((167, 6, 169) :: ((167, 2, 168) :: (rl)))))))))) 176 := rl_c hr (by decide)
  refine go_aload_n rfl hd (fun hd => ?_)
  refine go_iconst hd (fun hd => ?_)
  refine sg_newI (n' := 177) (sl' := 2067) (mc := 10) (ms := 837) hz hr (by decide) (by decide) rfl rfl rfl rfl rfl hd (fun hd => ?_)
  have hz : izero (jm_up (jm_up I 167 0 2) 167 3 10) 177 := iz_m hz (by decide)
  have hr : rle ((167, 16, 176) :: ((167, 14, 175) :: ((167, 12, 174) :: ((167, 11, 173) :: ((167, 9, 172) :: ((167, 8, 171) :: ((167, 7, 170) :: ((167, 6, 169) :: ((167, 2, 168) :: (rl)))))))))) 177 := rl_m hr (by decide)
  refine sg_putR co_X9 fl_9_45 (by decide) rfl rfl rfl rfl hd (fun hd => ?_)
  have hr : rle ((167, 23, 177) :: ((167, 16, 176) :: ((167, 14, 175) :: ((167, 12, 174) :: ((167, 11, 173) :: ((167, 9, 172) :: ((167, 8, 171) :: ((167, 7, 170) :: ((167, 6, 169) :: ((167, 2, 168) :: (rl))))))))))) 177 := rl_c hr (by decide)
  refine go_aload_n rfl hd (fun hd => ?_)
  refine go_bipush (by decide) hd (fun hd => ?_)
  refine sg_newI (n' := 178) (sl' := 2091) (mc := 9) (ms := 813) hz hr (by decide) (by decide) rfl rfl rfl rfl rfl hd (fun hd => ?_)
  have hz : izero (jm_up (jm_up I 167 0 2) 167 3 10) 178 := iz_m hz (by decide)
  have hr : rle ((167, 23, 177) :: ((167, 16, 176) :: ((167, 14, 175) :: ((167, 12, 174) :: ((167, 11, 173) :: ((167, 9, 172) :: ((167, 8, 171) :: ((167, 7, 170) :: ((167, 6, 169) :: ((167, 2, 168) :: (rl))))))))))) 178 := rl_m hr (by decide)
  refine sg_putR co_X9 fl_9_48 (by decide) rfl rfl rfl rfl hd (fun hd => ?_)
  have hr : rle ((167, 26, 178) :: ((167, 23, 177) :: ((167, 16, 176) :: ((167, 14, 175) :: ((167, 12, 174) :: ((167, 11, 173) :: ((167, 9, 172) :: ((167, 8, 171) :: ((167, 7, 170) :: ((167, 6, 169) :: ((167, 2, 168) :: (rl)))))))))))) 178 := rl_c hr (by decide)
  refine go_aload_n rfl hd (fun hd => ?_)
  refine go_bipush (by decide) hd (fun hd => ?_)
  refine sg_newI (n' := 179) (sl' := 2101) (mc := 8) (ms := 803) hz hr (by decide) (by decide) rfl rfl rfl rfl rfl hd (fun hd => ?_)
  have hz : izero (jm_up (jm_up I 167 0 2) 167 3 10) 179 := iz_m hz (by decide)
  have hr : rle ((167, 26, 178) :: ((167, 23, 177) :: ((167, 16, 176) :: ((167, 14, 175) :: ((167, 12, 174) :: ((167, 11, 173) :: ((167, 9, 172) :: ((167, 8, 171) :: ((167, 7, 170) :: ((167, 6, 169) :: ((167, 2, 168) :: (rl)))))))))))) 179 := rl_m hr (by decide)
  refine sg_putR co_X9 fl_9_51 (by decide) rfl rfl rfl rfl hd (fun hd => ?_)
  have hr : rle ((167, 28, 179) :: ((167, 26, 178) :: ((167, 23, 177) :: ((167, 16, 176) :: ((167, 14, 175) :: ((167, 12, 174) :: ((167, 11, 173) :: ((167, 9, 172) :: ((167, 8, 171) :: ((167, 7, 170) :: ((167, 6, 169) :: ((167, 2, 168) :: (rl))))))))))))) 179 := rl_c hr (by decide)
  refine go_aload_n rfl hd (fun hd => ?_)
  refine go_iconst hd (fun hd => ?_)
  refine sg_newI (n' := 180) (sl' := 2106) (mc := 7) (ms := 798) hz hr (by decide) (by decide) rfl rfl rfl rfl rfl hd (fun hd => ?_)
  have hz : izero (jm_up (jm_up I 167 0 2) 167 3 10) 180 := iz_m hz (by decide)
  have hr : rle ((167, 28, 179) :: ((167, 26, 178) :: ((167, 23, 177) :: ((167, 16, 176) :: ((167, 14, 175) :: ((167, 12, 174) :: ((167, 11, 173) :: ((167, 9, 172) :: ((167, 8, 171) :: ((167, 7, 170) :: ((167, 6, 169) :: ((167, 2, 168) :: (rl))))))))))))) 180 := rl_m hr (by decide)
  refine sg_putR co_X9 fl_9_54 (by decide) rfl rfl rfl rfl hd (fun hd => ?_)
  have hr : rle ((167, 30, 180) :: ((167, 28, 179) :: ((167, 26, 178) :: ((167, 23, 177) :: ((167, 16, 176) :: ((167, 14, 175) :: ((167, 12, 174) :: ((167, 11, 173) :: ((167, 9, 172) :: ((167, 8, 171) :: ((167, 7, 170) :: ((167, 6, 169) :: ((167, 2, 168) :: (rl)))))))))))))) 180 := rl_c hr (by decide)
  refine go_aload_n rfl hd (fun hd => ?_)
  refine go_bipush (by decide) hd (fun hd => ?_)
  refine sg_newI (n' := 181) (sl' := 2126) (mc := 6) (ms := 778) hz hr (by decide) (by decide) rfl rfl rfl rfl rfl hd (fun hd => ?_)
  have hz : izero (jm_up (jm_up I 167 0 2) 167 3 10) 181 := iz_m hz (by decide)
  have hr : rle ((167, 30, 180) :: ((167, 28, 179) :: ((167, 26, 178) :: ((167, 23, 177) :: ((167, 16, 176) :: ((167, 14, 175) :: ((167, 12, 174) :: ((167, 11, 173) :: ((167, 9, 172) :: ((167, 8, 171) :: ((167, 7, 170) :: ((167, 6, 169) :: ((167, 2, 168) :: (rl)))))))))))))) 181 := rl_m hr (by decide)
  refine sg_putR co_X9 fl_9_57 (by decide) rfl rfl rfl rfl hd (fun hd => ?_)
  have hr : rle ((167, 31, 181) :: ((167, 30, 180) :: ((167, 28, 179) :: ((167, 26, 178) :: ((167, 23, 177) :: ((167, 16, 176) :: ((167, 14, 175) :: ((167, 12, 174) :: ((167, 11, 173) :: ((167, 9, 172) :: ((167, 8, 171) :: ((167, 7, 170) :: ((167, 6, 169) :: ((167, 2, 168) :: (rl))))))))))))))) 181 := rl_c hr (by decide)
  refine go_aload_n rfl hd (fun hd => ?_)
  refine go_bipush (by decide) hd (fun hd => ?_)
  refine sg_newI (n' := 182) (sl' := 2162) (mc := 5) (ms := 742) hz hr (by decide) (by decide) rfl rfl rfl rfl rfl hd (fun hd => ?_)
  have hz : izero (jm_up (jm_up I 167 0 2) 167 3 10) 182 := iz_m hz (by decide)
  have hr : rle ((167, 31, 181) :: ((167, 30, 180) :: ((167, 28, 179) :: ((167, 26, 178) :: ((167, 23, 177) :: ((167, 16, 176) :: ((167, 14, 175) :: ((167, 12, 174) :: ((167, 11, 173) :: ((167, 9, 172) :: ((167, 8, 171) :: ((167, 7, 170) :: ((167, 6, 169) :: ((167, 2, 168) :: (rl))))))))))))))) 182 := rl_m hr (by decide)
  refine sg_putR co_X9 fl_9_60 (by decide) rfl rfl rfl rfl hd (fun hd => ?_)
  have hr : rle ((167, 32, 182) :: ((167, 31, 181) :: ((167, 30, 180) :: ((167, 28, 179) :: ((167, 26, 178) :: ((167, 23, 177) :: ((167, 16, 176) :: ((167, 14, 175) :: ((167, 12, 174) :: ((167, 11, 173) :: ((167, 9, 172) :: ((167, 8, 171) :: ((167, 7, 170) :: ((167, 6, 169) :: ((167, 2, 168) :: (rl)))))))))))))))) 182 := rl_c hr (by decide)
  refine go_aload_n rfl hd (fun hd => ?_)
  refine go_sipush (by decide) hd (fun hd => ?_)
  refine sg_newI (n' := 183) (sl' := 2482) (mc := 4) (ms := 422) hz hr (by decide) (by decide) rfl rfl rfl rfl rfl hd (fun hd => ?_)
  have hz : izero (jm_up (jm_up I 167 0 2) 167 3 10) 183 := iz_m hz (by decide)
  have hr : rle ((167, 32, 182) :: ((167, 31, 181) :: ((167, 30, 180) :: ((167, 28, 179) :: ((167, 26, 178) :: ((167, 23, 177) :: ((167, 16, 176) :: ((167, 14, 175) :: ((167, 12, 174) :: ((167, 11, 173) :: ((167, 9, 172) :: ((167, 8, 171) :: ((167, 7, 170) :: ((167, 6, 169) :: ((167, 2, 168) :: (rl)))))))))))))))) 183 := rl_m hr (by decide)
  refine sg_putR co_X9 fl_9_63 (by decide) rfl rfl rfl rfl hd (fun hd => ?_)
  have hr : rle ((167, 33, 183) :: ((167, 32, 182) :: ((167, 31, 181) :: ((167, 30, 180) :: ((167, 28, 179) :: ((167, 26, 178) :: ((167, 23, 177) :: ((167, 16, 176) :: ((167, 14, 175) :: ((167, 12, 174) :: ((167, 11, 173) :: ((167, 9, 172) :: ((167, 8, 171) :: ((167, 7, 170) :: ((167, 6, 169) :: ((167, 2, 168) :: (rl))))))))))))))))) 183 := rl_c hr (by decide)
  refine go_aload_n rfl hd (fun hd => ?_)
  refine go_sipush (by decide) hd (fun hd => ?_)
  refine sg_newI (n' := 184) (sl' := 2802) (mc := 3) (ms := 102) hz hr (by decide) (by decide) rfl rfl rfl rfl rfl hd (fun hd => ?_)
  have hz : izero (jm_up (jm_up I 167 0 2) 167 3 10) 184 := iz_m hz (by decide)
  have hr : rle ((167, 33, 183) :: ((167, 32, 182) :: ((167, 31, 181) :: ((167, 30, 180) :: ((167, 28, 179) :: ((167, 26, 178) :: ((167, 23, 177) :: ((167, 16, 176) :: ((167, 14, 175) :: ((167, 12, 174) :: ((167, 11, 173) :: ((167, 9, 172) :: ((167, 8, 171) :: ((167, 7, 170) :: ((167, 6, 169) :: ((167, 2, 168) :: (rl))))))))))))))))) 184 := rl_m hr (by decide)
  refine sg_putR co_X9 fl_9_66 (by decide) rfl rfl rfl rfl hd (fun hd => ?_)
  have hr : rle ((167, 34, 184) :: ((167, 33, 183) :: ((167, 32, 182) :: ((167, 31, 181) :: ((167, 30, 180) :: ((167, 28, 179) :: ((167, 26, 178) :: ((167, 23, 177) :: ((167, 16, 176) :: ((167, 14, 175) :: ((167, 12, 174) :: ((167, 11, 173) :: ((167, 9, 172) :: ((167, 8, 171) :: ((167, 7, 170) :: ((167, 6, 169) :: ((167, 2, 168) :: (rl)))))))))))))))))) 184 := rl_c hr (by decide)
  refine go_aload_n rfl hd (fun hd => ?_)
  refine go_bipush (by decide) hd (fun hd => ?_)
  refine sg_newI (n' := 185) (sl' := 2808) (mc := 2) (ms := 96) hz hr (by decide) (by decide) rfl rfl rfl rfl rfl hd (fun hd => ?_)
  have hz : izero (jm_up (jm_up I 167 0 2) 167 3 10) 185 := iz_m hz (by decide)
  have hr : rle ((167, 34, 184) :: ((167, 33, 183) :: ((167, 32, 182) :: ((167, 31, 181) :: ((167, 30, 180) :: ((167, 28, 179) :: ((167, 26, 178) :: ((167, 23, 177) :: ((167, 16, 176) :: ((167, 14, 175) :: ((167, 12, 174) :: ((167, 11, 173) :: ((167, 9, 172) :: ((167, 8, 171) :: ((167, 7, 170) :: ((167, 6, 169) :: ((167, 2, 168) :: (rl)))))))))))))))))) 185 := rl_m hr (by decide)
  refine sg_putR co_X9 fl_9_69 (by decide) rfl rfl rfl rfl hd (fun hd => ?_)
  have hr : rle ((167, 36, 185) :: ((167, 34, 184) :: ((167, 33, 183) :: ((167, 32, 182) :: ((167, 31, 181) :: ((167, 30, 180) :: ((167, 28, 179) :: ((167, 26, 178) :: ((167, 23, 177) :: ((167, 16, 176) :: ((167, 14, 175) :: ((167, 12, 174) :: ((167, 11, 173) :: ((167, 9, 172) :: ((167, 8, 171) :: ((167, 7, 170) :: ((167, 6, 169) :: ((167, 2, 168) :: (rl))))))))))))))))))) 185 := rl_c hr (by decide)
  refine go_aload_n rfl hd (fun hd => ?_)
  refine go_bipush (by decide) hd (fun hd => ?_)
  refine sg_newI (n' := 186) (sl' := 2814) (mc := 1) (ms := 90) hz hr (by decide) (by decide) rfl rfl rfl rfl rfl hd (fun hd => ?_)
  have hz : izero (jm_up (jm_up I 167 0 2) 167 3 10) 186 := iz_m hz (by decide)
  have hr : rle ((167, 36, 185) :: ((167, 34, 184) :: ((167, 33, 183) :: ((167, 32, 182) :: ((167, 31, 181) :: ((167, 30, 180) :: ((167, 28, 179) :: ((167, 26, 178) :: ((167, 23, 177) :: ((167, 16, 176) :: ((167, 14, 175) :: ((167, 12, 174) :: ((167, 11, 173) :: ((167, 9, 172) :: ((167, 8, 171) :: ((167, 7, 170) :: ((167, 6, 169) :: ((167, 2, 168) :: (rl))))))))))))))))))) 186 := rl_m hr (by decide)
  refine sg_putR co_X9 fl_9_72 (by decide) rfl rfl rfl rfl hd (fun hd => ?_)
  have hr : rle ((167, 37, 186) :: ((167, 36, 185) :: ((167, 34, 184) :: ((167, 33, 183) :: ((167, 32, 182) :: ((167, 31, 181) :: ((167, 30, 180) :: ((167, 28, 179) :: ((167, 26, 178) :: ((167, 23, 177) :: ((167, 16, 176) :: ((167, 14, 175) :: ((167, 12, 174) :: ((167, 11, 173) :: ((167, 9, 172) :: ((167, 8, 171) :: ((167, 7, 170) :: ((167, 6, 169) :: ((167, 2, 168) :: (rl)))))))))))))))))))) 186 := rl_c hr (by decide)
  refine go_aload_n rfl hd (fun hd => ?_)
  refine go_bipush (by decide) hd (fun hd => ?_)
  refine sg_newI (n' := 187) (sl' := 2904) (mc := 0) (ms := 0) hz hr (by decide) (by decide) rfl rfl rfl rfl rfl hd (fun hd => ?_)
  have hz : izero (jm_up (jm_up I 167 0 2) 167 3 10) 187 := iz_m hz (by decide)
  have hr : rle ((167, 37, 186) :: ((167, 36, 185) :: ((167, 34, 184) :: ((167, 33, 183) :: ((167, 32, 182) :: ((167, 31, 181) :: ((167, 30, 180) :: ((167, 28, 179) :: ((167, 26, 178) :: ((167, 23, 177) :: ((167, 16, 176) :: ((167, 14, 175) :: ((167, 12, 174) :: ((167, 11, 173) :: ((167, 9, 172) :: ((167, 8, 171) :: ((167, 7, 170) :: ((167, 6, 169) :: ((167, 2, 168) :: (rl)))))))))))))))))))) 187 := rl_m hr (by decide)
  refine sg_putR co_X9 fl_9_75 (by decide) rfl rfl rfl rfl hd (fun hd => ?_)
  have hr : rle ((167, 38, 187) :: ((167, 37, 186) :: ((167, 36, 185) :: ((167, 34, 184) :: ((167, 33, 183) :: ((167, 32, 182) :: ((167, 31, 181) :: ((167, 30, 180) :: ((167, 28, 179) :: ((167, 26, 178) :: ((167, 23, 177) :: ((167, 16, 176) :: ((167, 14, 175) :: ((167, 12, 174) :: ((167, 11, 173) :: ((167, 9, 172) :: ((167, 8, 171) :: ((167, 7, 170) :: ((167, 6, 169) :: ((167, 2, 168) :: (rl))))))))))))))))))))) 187 := rl_c hr (by decide)
  exact go_vreturn hd rfl k
