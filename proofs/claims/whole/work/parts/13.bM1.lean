/-! ===== a lemma a basic block (by program, wip/gen/gen9.py) ===== -/
theorem b_M_type_0 {L : Nat} {d : Nat} {I : jm_I} {Q : Option jm_V → jm_I → Prop} {x1 : Int}  (k : Cx (jx_0 L) d md_M_in [.inl x1, .inl 0, .inl 255] I (fun v J => Gx (jx_0 L) (d + 1) md_M_type 8 [some (.inr (.inl 167)), some (.inl x1)] (v.toList ++ []) J Q)) : Cx (jx_0 L) (d + 1) md_M_type [.inr (.inl 167), .inl x1] I Q := by
  show jm_Go (d + 1) 0 0 md_M_type 0 [some (.inr (.inl 167)), some (.inl x1)] [] (jx (jx_0 L) I) (jx_Q (jx_0 L) Q)
  have hd : jm_dc md_M_type.2.1 0 [(.iload_n 1, 1), (.iconst 0, 1), (.sipush 255, 3), (.invokestatic 78, 3)] = true := by decide +kernel
  refine go_iload_n rfl hd (fun hd => ?_)
  refine go_iconst hd (fun hd => ?_)
  refine go_sipush (by decide) hd (fun hd => ?_)
  exact gx_static [.inl x1, .inl 0, .inl 255] [] mk_M_in ml_9_78 st_M_in rfl (Nat.le_of_ble_eq_true rfl) rfl (Nat.le_of_ble_eq_true rfl) rfl hd k
theorem b_M_type_8 {L : Nat} {d : Nat} {I : jm_I} {Q : Option jm_V → jm_I → Prop} {o0 : Option jm_V} {o1 : Option jm_V} {s0 : Int}  (hz : (-2147483648 ≤ s0 ∧ s0 < 2147483648)) (kt : ¬ s0 = 0 → Gx (jx_0 L) d md_M_type 13 [o0, o1] [] I Q) (kf : s0 = 0 → Gx (jx_0 L) d md_M_type 11 [o0, o1] [] I Q) : Gx (jx_0 L) d md_M_type 8 [o0, o1] [.inl s0] I Q := by
  have hz1 := hz
  show jm_Go d 0 0 md_M_type 8 [o0, o1] [.inl s0] (jx (jx_0 L) I) (jx_Q (jx_0 L) Q)
  have hd : jm_dc md_M_type.2.1 8 [(.ifCond .ne 5, 3)] = true := by decide +kernel
  exact go_if_ne (by decide) hz1 hd kt kf
theorem b_M_type_11 {L : Nat} {d : Nat} {I : jm_I} {Q : Option jm_V → jm_I → Prop} {o0 : Option jm_V} {o1 : Option jm_V}  (k : Q (some (.inl (-1))) I) : Gx (jx_0 L) d md_M_type 11 [o0, o1] [] I Q := by
  show jm_Go d 0 0 md_M_type 11 [o0, o1] [] (jx (jx_0 L) I) (jx_Q (jx_0 L) Q)
  have hd : jm_dc md_M_type.2.1 11 [(.iconst (-1), 1), (.ireturn, 1)] = true := by decide +kernel
  refine go_iconst hd (fun hd => ?_)
  exact go_ireturn hd rfl ⟨_, rfl, k⟩
theorem b_M_type_13 {L : Nat} {d : Nat} {I : jm_I} {Q : Option jm_V → jm_I → Prop} {o1 : Option jm_V}  (hz : (-2147483648 ≤ I 167 17 ∧ I 167 17 < 2147483648)) (kt : ¬ (I 167 17) = 200 → Gx (jx_0 L) d md_M_type 26 [some (.inr (.inl 167)), o1] [] I Q) (kf : (I 167 17) = 200 → Gx (jx_0 L) d md_M_type 23 [some (.inr (.inl 167)), o1] [] I Q) : Gx (jx_0 L) d md_M_type 13 [some (.inr (.inl 167)), o1] [] I Q := by
  have hz1 := hz
  show jm_Go d 0 0 md_M_type 13 [some (.inr (.inl 167)), o1] [] (jx (jx_0 L) I) (jx_Q (jx_0 L) Q)
  have hd : jm_dc md_M_type.2.1 13 [(.aload_n 0, 1), (.getfield 88, 3), (.sipush 200, 3), (.if_icmp .ne 6, 3)] = true := by decide +kernel
  refine go_aload_n rfl hd (fun hd => ?_)
  refine go_getI co_X9 fl_9_88 (by decide) (Or.inl rfl) rfl hd (fun hd => ?_)
  refine go_sipush (by decide) hd (fun hd => ?_)
  exact go_icmp_ne (by decide) hz1 ⟨by decide, by decide⟩ hd kt kf
theorem b_M_type_23 {L : Nat} {d : Nat} {I : jm_I} {Q : Option jm_V → jm_I → Prop} {o0 : Option jm_V} {o1 : Option jm_V}  (k : Q (some (.inl (-3))) I) : Gx (jx_0 L) d md_M_type 23 [o0, o1] [] I Q := by
  show jm_Go d 0 0 md_M_type 23 [o0, o1] [] (jx (jx_0 L) I) (jx_Q (jx_0 L) Q)
  have hd : jm_dc md_M_type.2.1 23 [(.bipush (-3), 2), (.ireturn, 1)] = true := by decide +kernel
  refine go_bipush (by decide) hd (fun hd => ?_)
  exact go_ireturn hd rfl ⟨_, rfl, k⟩
theorem b_M_type_26 {L : Nat} {d : Nat} {I : jm_I} {Q : Option jm_V → jm_I → Prop} {x1 : Int}  (hz : (0 ≤ I 167 17 ∧ I 167 17 < 200)) (k : Q (some (.inl (((I 167 17) + 1)))) (jm_up (jm_up I 176 ((I 167 17).toNat) x1) 167 17 ((I 167 17) + 1))) : Gx (jx_0 L) d md_M_type 26 [some (.inr (.inl 167)), some (.inl x1)] [] I Q := by
  have hz1 := hz
  show jm_Go d 0 0 md_M_type 26 [some (.inr (.inl 167)), some (.inl x1)] [] (jx (jx_0 L) I) (jx_Q (jx_0 L) Q)
  have hd : jm_dc md_M_type.2.1 26 [(.aload_n 0, 1), (.getfield 42, 3), (.aload_n 0, 1), (.getfield 88, 3), (.iload_n 1, 1), (.iastore, 1), (.aload_n 0, 1), (.dup, 1), (.getfield 88, 3), (.iconst 1, 1), (.iadd, 1), (.putfield 88, 3), (.aload_n 0, 1), (.getfield 88, 3), (.ireturn, 1)] = true := by decide +kernel
  refine go_aload_n rfl hd (fun hd => ?_)
  refine go_getR co_X9 fl_9_42 (by decide) rfl rfl rfl hd (fun hd => ?_)
  refine go_aload_n rfl hd (fun hd => ?_)
  refine go_getI co_X9 fl_9_88 (by decide) (Or.inl rfl) rfl hd (fun hd => ?_)
  refine go_iload_n rfl hd (fun hd => ?_)
  refine go_iastore rfl hz1.1 hz1.2 (by decide) hd (fun hd => ?_)
  refine go_aload_n rfl hd (fun hd => ?_)
  refine go_dup rfl hd (fun hd => ?_)
  refine go_getI co_X9 fl_9_88 (by decide) (Or.inl rfl) rfl hd (fun hd => ?_)
  refine go_iconst hd (fun hd => ?_)
  refine go_iadd hd (fun hd => ?_)
  refine go_putI co_X9 fl_9_88 (by decide) rfl rfl hd (fun hd => ?_)
  refine go_aload_n rfl hd (fun hd => ?_)
  refine go_getI co_X9 fl_9_88 (by decide) (Or.inl rfl) rfl hd (fun hd => ?_)
  exact go_ireturn hd rfl ⟨_, rfl, k⟩
theorem b_M_in_0 {L : Nat} {d : Nat} {I : jm_I} {Q : Option jm_V → jm_I → Prop} {x0 : Int} {x1 : Int} {x2 : Int}  (hz : (-2147483648 ≤ x0 ∧ x0 < 2147483648) ∧ (-2147483648 ≤ x1 ∧ x1 < 2147483648)) (kt : x0 < x1 → Gx (jx_0 L) d md_M_in 14 [some (.inl x0), some (.inl x1), some (.inl x2)] [] I Q) (kf : ¬ (x0 < x1) → Gx (jx_0 L) d md_M_in 5 [some (.inl x0), some (.inl x1), some (.inl x2)] [] I Q) : Cx (jx_0 L) d md_M_in [.inl x0, .inl x1, .inl x2] I Q := by
  obtain ⟨hz1, hz2⟩ := hz
  show jm_Go d 0 0 md_M_in 0 [some (.inl x0), some (.inl x1), some (.inl x2)] [] (jx (jx_0 L) I) (jx_Q (jx_0 L) Q)
  have hd : jm_dc md_M_in.2.1 0 [(.iload_n 0, 1), (.iload_n 1, 1), (.if_icmp .lt 12, 3)] = true := by decide +kernel
  refine go_iload_n rfl hd (fun hd => ?_)
  refine go_iload_n rfl hd (fun hd => ?_)
  exact go_icmp_lt (by decide) hz1 hz2 hd kt kf
theorem b_M_in_5 {L : Nat} {d : Nat} {I : jm_I} {Q : Option jm_V → jm_I → Prop} {x0 : Int} {o1 : Option jm_V} {x2 : Int}  (hz : (-2147483648 ≤ x0 ∧ x0 < 2147483648) ∧ (-2147483648 ≤ x2 ∧ x2 < 2147483648)) (kt : x2 < x0 → Gx (jx_0 L) d md_M_in 14 [some (.inl x0), o1, some (.inl x2)] [] I Q) (kf : ¬ (x2 < x0) → Gx (jx_0 L) d md_M_in 10 [some (.inl x0), o1, some (.inl x2)] [] I Q) : Gx (jx_0 L) d md_M_in 5 [some (.inl x0), o1, some (.inl x2)] [] I Q := by
  obtain ⟨hz1, hz2⟩ := hz
  show jm_Go d 0 0 md_M_in 5 [some (.inl x0), o1, some (.inl x2)] [] (jx (jx_0 L) I) (jx_Q (jx_0 L) Q)
  have hd : jm_dc md_M_in.2.1 5 [(.iload_n 0, 1), (.iload_n 2, 1), (.if_icmp .gt 7, 3)] = true := by decide +kernel
  refine go_iload_n rfl hd (fun hd => ?_)
  refine go_iload_n rfl hd (fun hd => ?_)
  exact go_icmp_gt (by decide) hz1 hz2 hd kt kf
theorem b_M_in_10 {L : Nat} {d : Nat} {I : jm_I} {Q : Option jm_V → jm_I → Prop} {o0 : Option jm_V} {o1 : Option jm_V} {o2 : Option jm_V}  (k : Gx (jx_0 L) d md_M_in 15 [o0, o1, o2] [.inl 1] I Q) : Gx (jx_0 L) d md_M_in 10 [o0, o1, o2] [] I Q := by
  show jm_Go d 0 0 md_M_in 10 [o0, o1, o2] [] (jx (jx_0 L) I) (jx_Q (jx_0 L) Q)
  have hd : jm_dc md_M_in.2.1 10 [(.iconst 1, 1), (.goto 4, 3)] = true := by decide +kernel
  refine go_iconst hd (fun hd => ?_)
  exact go_goto (by decide) hd k
theorem b_M_in_14 {L : Nat} {d : Nat} {I : jm_I} {Q : Option jm_V → jm_I → Prop} {o0 : Option jm_V} {o1 : Option jm_V} {o2 : Option jm_V}  (k : Gx (jx_0 L) d md_M_in 15 [o0, o1, o2] [.inl 0] I Q) : Gx (jx_0 L) d md_M_in 14 [o0, o1, o2] [] I Q := by
  show jm_Go d 0 0 md_M_in 14 [o0, o1, o2] [] (jx (jx_0 L) I) (jx_Q (jx_0 L) Q)
  have hd : jm_dc md_M_in.2.1 14 [(.iconst 0, 1)] = true := by decide +kernel
  refine go_iconst hd (fun hd => ?_)
  exact k
theorem b_M_in_15 {L : Nat} {d : Nat} {I : jm_I} {Q : Option jm_V → jm_I → Prop} {o0 : Option jm_V} {o1 : Option jm_V} {o2 : Option jm_V} {s0 : Int}  (hz : (s0 = 0 ∨ s0 = 1)) (k : Q (some (.inl s0)) I) : Gx (jx_0 L) d md_M_in 15 [o0, o1, o2] [.inl s0] I Q := by
  have hz1 := hz
  show jm_Go d 0 0 md_M_in 15 [o0, o1, o2] [.inl s0] (jx (jx_0 L) I) (jx_Q (jx_0 L) Q)
  have hd : jm_dc md_M_in.2.1 15 [(.ireturn, 1)] = true := by decide +kernel
  exact go_zreturn hd rfl hz1 ⟨_, rfl, k⟩
theorem b_M_clear_0 {L : Nat} {d : Nat} {I : jm_I} {Q : Option jm_V → jm_I → Prop}   (k : Q (some (.inl (I 167 17))) (jm_up I 167 17 0)) : Cx (jx_0 L) d md_M_clear [.inr (.inl 167)] I Q := by
  show jm_Go d 0 0 md_M_clear 0 [some (.inr (.inl 167)), none] [] (jx (jx_0 L) I) (jx_Q (jx_0 L) Q)
  have hd : jm_dc md_M_clear.2.1 0 [(.aload_n 0, 1), (.getfield 88, 3), (.istore_n 1, 1), (.aload_n 0, 1), (.iconst 0, 1), (.putfield 88, 3), (.iload_n 1, 1), (.ireturn, 1)] = true := by decide +kernel
  refine go_aload_n rfl hd (fun hd => ?_)
  refine go_getI co_X9 fl_9_88 (by decide) (Or.inl rfl) rfl hd (fun hd => ?_)
  refine go_istore_n (by decide) hd (fun hd => ?_)
  refine go_aload_n rfl hd (fun hd => ?_)
  refine go_iconst hd (fun hd => ?_)
  refine go_putI co_X9 fl_9_88 (by decide) rfl rfl hd (fun hd => ?_)
  refine go_iload_n rfl hd (fun hd => ?_)
  exact go_ireturn hd rfl ⟨_, rfl, k⟩
theorem b_M_city_0 {L : Nat} {d : Nat} {I : jm_I} {Q : Option jm_V → jm_I → Prop}   (k : Cx (jx_0 L) d md_M_next [.inr (.inl 167)] (jm_up (jm_up (jm_up (jm_up (jm_up (jm_up (jm_up (jm_up I 167 18 0) 167 22 0) 177 0 2) 177 1 10) 167 24 0) 167 25 0) 167 27 0) 167 29 0) (fun v J => Gx (jx_0 L) (d + 1) md_M_city 51 [some (.inr (.inl 167)), some (.inl 0)] (v.toList ++ []) J Q)) : Cx (jx_0 L) (d + 1) md_M_city [.inr (.inl 167)] I Q := by
  show jm_Go (d + 1) 0 0 md_M_city 0 [some (.inr (.inl 167)), none] [] (jx (jx_0 L) I) (jx_Q (jx_0 L) Q)
  have hd : jm_dc md_M_city.2.1 0 [(.aload_n 0, 1), (.iconst 0, 1), (.putfield 91, 3), (.aload_n 0, 1), (.iconst 0, 1), (.putfield 107, 3), (.aload_n 0, 1), (.getfield 45, 3), (.iconst 0, 1), (.iconst 2, 1), (.iastore, 1), (.aload_n 0, 1), (.getfield 45, 3), (.iconst 1, 1), (.bipush 10, 2), (.iastore, 1), (.aload_n 0, 1), (.iconst 0, 1), (.putfield 122, 3), (.aload_n 0, 1), (.iconst 0, 1), (.putfield 125, 3), (.aload_n 0, 1), (.iconst 0, 1), (.putfield 128, 3), (.aload_n 0, 1), (.iconst 0, 1), (.putfield 131, 3), (.iconst 0, 1), (.istore_n 1, 1), (.aload_n 0, 1), (.invokevirtual 111, 3)] = true := by decide +kernel
  refine go_aload_n rfl hd (fun hd => ?_)
  refine go_iconst hd (fun hd => ?_)
  refine go_putI co_X9 fl_9_91 (by decide) rfl rfl hd (fun hd => ?_)
  refine go_aload_n rfl hd (fun hd => ?_)
  refine go_iconst hd (fun hd => ?_)
  refine go_putZ co_X9 fl_9_107 (by decide) rfl rfl (Or.inl rfl) hd (fun hd => ?_)
  refine go_aload_n rfl hd (fun hd => ?_)
  refine go_getR co_X9 fl_9_45 (by decide) rfl rfl rfl hd (fun hd => ?_)
  refine go_iconst hd (fun hd => ?_)
  refine go_iconst hd (fun hd => ?_)
  refine go_iastore rfl (by decide) (by decide) (by decide) hd (fun hd => ?_)
  refine go_aload_n rfl hd (fun hd => ?_)
  refine go_getR co_X9 fl_9_45 (by decide) rfl rfl rfl hd (fun hd => ?_)
  refine go_iconst hd (fun hd => ?_)
  refine go_bipush (by decide) hd (fun hd => ?_)
  refine go_iastore rfl (by decide) (by decide) (by decide) hd (fun hd => ?_)
  refine go_aload_n rfl hd (fun hd => ?_)
  refine go_iconst hd (fun hd => ?_)
  refine go_putZ co_X9 fl_9_122 (by decide) rfl rfl (Or.inl rfl) hd (fun hd => ?_)
  refine go_aload_n rfl hd (fun hd => ?_)
  refine go_iconst hd (fun hd => ?_)
  refine go_putI co_X9 fl_9_125 (by decide) rfl rfl hd (fun hd => ?_)
  refine go_aload_n rfl hd (fun hd => ?_)
  refine go_iconst hd (fun hd => ?_)
  refine go_putI co_X9 fl_9_128 (by decide) rfl rfl hd (fun hd => ?_)
  refine go_aload_n rfl hd (fun hd => ?_)
  refine go_iconst hd (fun hd => ?_)
  refine go_putI co_X9 fl_9_131 (by decide) rfl rfl hd (fun hd => ?_)
  refine go_iconst hd (fun hd => ?_)
  refine go_istore_n (by decide) hd (fun hd => ?_)
  refine go_aload_n rfl hd (fun hd => ?_)
  exact gx_virtual 167 9 [] [] mk_M_next co_X9 rfl ml_9_111 in_M_next se_M_next rfl rfl (Nat.le_of_ble_eq_true rfl) rfl (Nat.le_of_ble_eq_true rfl) rfl hd k
theorem b_M_city_51 {L : Nat} {d : Nat} {I : jm_I} {Q : Option jm_V → jm_I → Prop} {o1 : Option jm_V}  (hz : (-2147483648 ≤ I 167 20 ∧ I 167 20 < 2147483648)) (kt : (I 167 20) = 0 → Gx (jx_0 L) d md_M_city 84 [some (.inr (.inl 167)), o1] [] I Q) (kf : ¬ (I 167 20) = 0 → Gx (jx_0 L) d md_M_city 58 [some (.inr (.inl 167)), o1] [] I Q) : Gx (jx_0 L) d md_M_city 51 [some (.inr (.inl 167)), o1] [] I Q := by
  have hz1 := hz
  show jm_Go d 0 0 md_M_city 51 [some (.inr (.inl 167)), o1] [] (jx (jx_0 L) I) (jx_Q (jx_0 L) Q)
  have hd : jm_dc md_M_city.2.1 51 [(.aload_n 0, 1), (.getfield 101, 3), (.ifCond .eq 29, 3)] = true := by decide +kernel
  refine go_aload_n rfl hd (fun hd => ?_)
  refine go_getI co_X9 fl_9_101 (by decide) (Or.inl rfl) rfl hd (fun hd => ?_)
  exact go_if_eq (by decide) hz1 hd kt kf
theorem b_M_city_58 {L : Nat} {d : Nat} {I : jm_I} {Q : Option jm_V → jm_I → Prop} {o1 : Option jm_V}  (hz : (-2147483648 ≤ I 167 22 ∧ I 167 22 < 2147483648)) (kt : ¬ (I 167 22) = 0 → Gx (jx_0 L) d md_M_city 84 [some (.inr (.inl 167)), o1] [] I Q) (kf : (I 167 22) = 0 → Gx (jx_0 L) d md_M_city 65 [some (.inr (.inl 167)), o1] [] I Q) : Gx (jx_0 L) d md_M_city 58 [some (.inr (.inl 167)), o1] [] I Q := by
  have hz1 := hz
  show jm_Go d 0 0 md_M_city 58 [some (.inr (.inl 167)), o1] [] (jx (jx_0 L) I) (jx_Q (jx_0 L) Q)
  have hd : jm_dc md_M_city.2.1 58 [(.aload_n 0, 1), (.getfield 107, 3), (.ifCond .ne 22, 3)] = true := by decide +kernel
  refine go_aload_n rfl hd (fun hd => ?_)
  refine go_getI co_X9 fl_9_107 (by decide) (Or.inr rfl) rfl hd (fun hd => ?_)
  exact go_if_ne (by decide) hz1 hd kt kf
theorem b_M_city_65 {L : Nat} {d : Nat} {I : jm_I} {Q : Option jm_V → jm_I → Prop} {x1 : Int}  (hz : (-2147483648 ≤ x1 ∧ x1 < 2147483648)) (kt : ¬ x1 = 0 → Gx (jx_0 L) d md_M_city 74 [some (.inr (.inl 167)), some (.inl x1)] [.inr (.inl 167)] I Q) (kf : x1 = 0 → Gx (jx_0 L) d md_M_city 70 [some (.inr (.inl 167)), some (.inl x1)] [.inr (.inl 167)] I Q) : Gx (jx_0 L) d md_M_city 65 [some (.inr (.inl 167)), some (.inl x1)] [] I Q := by
  have hz1 := hz
  show jm_Go d 0 0 md_M_city 65 [some (.inr (.inl 167)), some (.inl x1)] [] (jx (jx_0 L) I) (jx_Q (jx_0 L) Q)
  have hd : jm_dc md_M_city.2.1 65 [(.aload_n 0, 1), (.iload_n 1, 1), (.ifCond .ne 7, 3)] = true := by decide +kernel
  refine go_aload_n rfl hd (fun hd => ?_)
  refine go_iload_n rfl hd (fun hd => ?_)
  exact go_if_ne (by decide) hz1 hd kt kf
theorem b_M_city_70 {L : Nat} {d : Nat} {I : jm_I} {Q : Option jm_V → jm_I → Prop} {o0 : Option jm_V} {o1 : Option jm_V}  (k : Gx (jx_0 L) d md_M_city 75 [o0, o1] [.inl 1, .inr (.inl 167)] I Q) : Gx (jx_0 L) d md_M_city 70 [o0, o1] [.inr (.inl 167)] I Q := by
  show jm_Go d 0 0 md_M_city 70 [o0, o1] [.inr (.inl 167)] (jx (jx_0 L) I) (jx_Q (jx_0 L) Q)
  have hd : jm_dc md_M_city.2.1 70 [(.iconst 1, 1), (.goto 4, 3)] = true := by decide +kernel
  refine go_iconst hd (fun hd => ?_)
  exact go_goto (by decide) hd k
theorem b_M_city_74 {L : Nat} {d : Nat} {I : jm_I} {Q : Option jm_V → jm_I → Prop} {o0 : Option jm_V} {o1 : Option jm_V}  (k : Gx (jx_0 L) d md_M_city 75 [o0, o1] [.inl 0, .inr (.inl 167)] I Q) : Gx (jx_0 L) d md_M_city 74 [o0, o1] [.inr (.inl 167)] I Q := by
  show jm_Go d 0 0 md_M_city 74 [o0, o1] [.inr (.inl 167)] (jx (jx_0 L) I) (jx_Q (jx_0 L) Q)
  have hd : jm_dc md_M_city.2.1 74 [(.iconst 0, 1)] = true := by decide +kernel
  refine go_iconst hd (fun hd => ?_)
  exact k
theorem b_M_city_75 {L : Nat} {d : Nat} {I : jm_I} {Q : Option jm_V → jm_I → Prop} {o0 : Option jm_V} {o1 : Option jm_V} {s1 : Int}  (k : Cx (jx_0 L) d md_M_readItem [.inr (.inl 167), .inl s1] I (fun v J => Gx (jx_0 L) (d + 1) md_M_city 78 [o0, o1] (v.toList ++ []) J Q)) : Gx (jx_0 L) (d + 1) md_M_city 75 [o0, o1] [.inl s1, .inr (.inl 167)] I Q := by
  show jm_Go (d + 1) 0 0 md_M_city 75 [o0, o1] [.inl s1, .inr (.inl 167)] (jx (jx_0 L) I) (jx_Q (jx_0 L) Q)
  have hd : jm_dc md_M_city.2.1 75 [(.invokevirtual 149, 3)] = true := by decide +kernel
  exact gx_virtual 167 9 [.inl s1] [] mk_M_readItem co_X9 rfl ml_9_149 in_M_readItem se_M_readItem rfl rfl (Nat.le_of_ble_eq_true rfl) rfl (Nat.le_of_ble_eq_true rfl) rfl hd k
theorem b_M_city_78 {L : Nat} {d : Nat} {I : jm_I} {Q : Option jm_V → jm_I → Prop} {o0 : Option jm_V} {x1 : Int}  (k : Gx (jx_0 L) d md_M_city 51 [o0, some (.inl (x1 + 1))] [] I Q) : Gx (jx_0 L) d md_M_city 78 [o0, some (.inl x1)] [] I Q := by
  show jm_Go d 0 0 md_M_city 78 [o0, some (.inl x1)] [] (jx (jx_0 L) I) (jx_Q (jx_0 L) Q)
  have hd : jm_dc md_M_city.2.1 78 [(.iinc 1 1, 3), (.goto (-30), 3)] = true := by decide +kernel
  refine go_iinc rfl hd (fun hd => ?_)
  exact go_goto (by decide) hd k
theorem b_M_city_84 {L : Nat} {d : Nat} {I : jm_I} {Q : Option jm_V → jm_I → Prop} {o1 : Option jm_V}  (hz : (-2147483648 ≤ I 167 22 ∧ I 167 22 < 2147483648)) (kt : (I 167 22) = 0 → Gx (jx_0 L) d md_M_city 99 [some (.inr (.inl 167)), o1] [] I Q) (kf : ¬ (I 167 22) = 0 → Gx (jx_0 L) d md_M_city 91 [some (.inr (.inl 167)), o1] [] I Q) : Gx (jx_0 L) d md_M_city 84 [some (.inr (.inl 167)), o1] [] I Q := by
  have hz1 := hz
  show jm_Go d 0 0 md_M_city 84 [some (.inr (.inl 167)), o1] [] (jx (jx_0 L) I) (jx_Q (jx_0 L) Q)
  have hd : jm_dc md_M_city.2.1 84 [(.aload_n 0, 1), (.getfield 107, 3), (.ifCond .eq 11, 3)] = true := by decide +kernel
  refine go_aload_n rfl hd (fun hd => ?_)
  refine go_getI co_X9 fl_9_107 (by decide) (Or.inr rfl) rfl hd (fun hd => ?_)
  exact go_if_eq (by decide) hz1 hd kt kf
theorem b_M_city_91 {L : Nat} {d : Nat} {I : jm_I} {Q : Option jm_V → jm_I → Prop} {o1 : Option jm_V}  (k : Q (some (.inl ((-10) - (I 167 19)))) I) : Gx (jx_0 L) d md_M_city 91 [some (.inr (.inl 167)), o1] [] I Q := by
  show jm_Go d 0 0 md_M_city 91 [some (.inr (.inl 167)), o1] [] (jx (jx_0 L) I) (jx_Q (jx_0 L) Q)
  have hd : jm_dc md_M_city.2.1 91 [(.bipush (-10), 2), (.aload_n 0, 1), (.getfield 98, 3), (.isub, 1), (.ireturn, 1)] = true := by decide +kernel
  refine go_bipush (by decide) hd (fun hd => ?_)
  refine go_aload_n rfl hd (fun hd => ?_)
  refine go_getI co_X9 fl_9_98 (by decide) (Or.inl rfl) rfl hd (fun hd => ?_)
  refine go_isub hd (fun hd => ?_)
  exact go_ireturn hd rfl ⟨_, rfl, k⟩
theorem b_M_city_99 {L : Nat} {d : Nat} {I : jm_I} {Q : Option jm_V → jm_I → Prop} {o1 : Option jm_V}  (k : Cx (jx_0 L) d md_M_settles [.inr (.inl 167)] I (fun v J => Gx (jx_0 L) (d + 1) md_M_city 103 [some (.inr (.inl 167)), o1] (v.toList ++ []) J Q)) : Gx (jx_0 L) (d + 1) md_M_city 99 [some (.inr (.inl 167)), o1] [] I Q := by
  show jm_Go (d + 1) 0 0 md_M_city 99 [some (.inr (.inl 167)), o1] [] (jx (jx_0 L) I) (jx_Q (jx_0 L) Q)
  have hd : jm_dc md_M_city.2.1 99 [(.aload_n 0, 1), (.invokevirtual 152, 3)] = true := by decide +kernel
  refine go_aload_n rfl hd (fun hd => ?_)
  exact gx_virtual 167 9 [] [] mk_M_settles co_X9 rfl ml_9_152 in_M_settles se_M_settles rfl rfl (Nat.le_of_ble_eq_true rfl) rfl (Nat.le_of_ble_eq_true rfl) rfl hd k
theorem b_M_city_103 {L : Nat} {d : Nat} {I : jm_I} {Q : Option jm_V → jm_I → Prop} {o0 : Option jm_V} {x1 : Int}  (k : Q (some (.inl x1)) I) : Gx (jx_0 L) d md_M_city 103 [o0, some (.inl x1)] [] I Q := by
  show jm_Go d 0 0 md_M_city 103 [o0, some (.inl x1)] [] (jx (jx_0 L) I) (jx_Q (jx_0 L) Q)
  have hd : jm_dc md_M_city.2.1 103 [(.iload_n 1, 1), (.ireturn, 1)] = true := by decide +kernel
  refine go_iload_n rfl hd (fun hd => ?_)
  exact go_ireturn hd rfl ⟨_, rfl, k⟩
theorem b_M_next_0 {L : Nat} {d : Nat} {I : jm_I} {Q : Option jm_V → jm_I → Prop}   (k : Cx (jx_0 L) d md_M_letterAt [.inr (.inl 167), .inl (I 167 18)] I (fun v J => Gx (jx_0 L) (d + 1) md_M_next 8 [some (.inr (.inl 167)), none] (v.toList ++ []) J Q)) : Cx (jx_0 L) (d + 1) md_M_next [.inr (.inl 167)] I Q := by
  show jm_Go (d + 1) 0 0 md_M_next 0 [some (.inr (.inl 167)), none] [] (jx (jx_0 L) I) (jx_Q (jx_0 L) Q)
  have hd : jm_dc md_M_next.2.1 0 [(.aload_n 0, 1), (.aload_n 0, 1), (.getfield 91, 3), (.invokevirtual 94, 3)] = true := by decide +kernel
  refine go_aload_n rfl hd (fun hd => ?_)
  refine go_aload_n rfl hd (fun hd => ?_)
  refine go_getI co_X9 fl_9_91 (by decide) (Or.inl rfl) rfl hd (fun hd => ?_)
  exact gx_virtual 167 9 [.inl (I 167 18)] [] mk_M_letterAt co_X9 rfl ml_9_94 in_M_letterAt se_M_letterAt rfl rfl (Nat.le_of_ble_eq_true rfl) rfl (Nat.le_of_ble_eq_true rfl) rfl hd k
theorem b_M_next_8 {L : Nat} {d : Nat} {I : jm_I} {Q : Option jm_V → jm_I → Prop} {o0 : Option jm_V} {o1 : Option jm_V} {s0 : Int}  (hz : (-2147483648 ≤ s0 ∧ s0 < 2147483648)) (kt : ¬ s0 = 32 → Gx (jx_0 L) d md_M_next 26 [o0, o1] [] I Q) (kf : s0 = 32 → Gx (jx_0 L) d md_M_next 13 [o0, o1] [] I Q) : Gx (jx_0 L) d md_M_next 8 [o0, o1] [.inl s0] I Q := by
  have hz1 := hz
  show jm_Go d 0 0 md_M_next 8 [o0, o1] [.inl s0] (jx (jx_0 L) I) (jx_Q (jx_0 L) Q)
  have hd : jm_dc md_M_next.2.1 8 [(.bipush 32, 2), (.if_icmp .ne 16, 3)] = true := by decide +kernel
  refine go_bipush (by decide) hd (fun hd => ?_)
  exact go_icmp_ne (by decide) hz1 ⟨by decide, by decide⟩ hd kt kf
theorem b_M_next_13 {L : Nat} {d : Nat} {I : jm_I} {Q : Option jm_V → jm_I → Prop} {o1 : Option jm_V}  (k : Gx (jx_0 L) d md_M_next 0 [some (.inr (.inl 167)), o1] [] (jm_up I 167 18 ((I 167 18) + 1)) Q) : Gx (jx_0 L) d md_M_next 13 [some (.inr (.inl 167)), o1] [] I Q := by
  show jm_Go d 0 0 md_M_next 13 [some (.inr (.inl 167)), o1] [] (jx (jx_0 L) I) (jx_Q (jx_0 L) Q)
  have hd : jm_dc md_M_next.2.1 13 [(.aload_n 0, 1), (.dup, 1), (.getfield 91, 3), (.iconst 1, 1), (.iadd, 1), (.putfield 91, 3), (.goto (-23), 3)] = true := by decide +kernel
  refine go_aload_n rfl hd (fun hd => ?_)
  refine go_dup rfl hd (fun hd => ?_)
  refine go_getI co_X9 fl_9_91 (by decide) (Or.inl rfl) rfl hd (fun hd => ?_)
  refine go_iconst hd (fun hd => ?_)
  refine go_iadd hd (fun hd => ?_)
  refine go_putI co_X9 fl_9_91 (by decide) rfl rfl hd (fun hd => ?_)
  exact go_goto (by decide) hd k
theorem b_M_next_26 {L : Nat} {d : Nat} {I : jm_I} {Q : Option jm_V → jm_I → Prop} {o1 : Option jm_V}  (k : Cx (jx_0 L) d md_M_letterAt [.inr (.inl 167), .inl (I 167 18)] (jm_up I 167 19 (I 167 18)) (fun v J => Gx (jx_0 L) (d + 1) md_M_next 42 [some (.inr (.inl 167)), o1] (v.toList ++ []) J Q)) : Gx (jx_0 L) (d + 1) md_M_next 26 [some (.inr (.inl 167)), o1] [] I Q := by
  show jm_Go (d + 1) 0 0 md_M_next 26 [some (.inr (.inl 167)), o1] [] (jx (jx_0 L) I) (jx_Q (jx_0 L) Q)
  have hd : jm_dc md_M_next.2.1 26 [(.aload_n 0, 1), (.aload_n 0, 1), (.getfield 91, 3), (.putfield 98, 3), (.aload_n 0, 1), (.aload_n 0, 1), (.getfield 91, 3), (.invokevirtual 94, 3)] = true := by decide +kernel
  refine go_aload_n rfl hd (fun hd => ?_)
  refine go_aload_n rfl hd (fun hd => ?_)
  refine go_getI co_X9 fl_9_91 (by decide) (Or.inl rfl) rfl hd (fun hd => ?_)
  refine go_putI co_X9 fl_9_98 (by decide) rfl rfl hd (fun hd => ?_)
  refine go_aload_n rfl hd (fun hd => ?_)
  refine go_aload_n rfl hd (fun hd => ?_)
  refine go_getI co_X9 fl_9_91 (by decide) (Or.inl rfl) rfl hd (fun hd => ?_)
  exact gx_virtual 167 9 [.inl (I 167 18)] [] mk_M_letterAt co_X9 rfl ml_9_94 in_M_letterAt se_M_letterAt rfl rfl (Nat.le_of_ble_eq_true rfl) rfl (Nat.le_of_ble_eq_true rfl) rfl hd k
theorem b_M_next_42 {L : Nat} {d : Nat} {I : jm_I} {Q : Option jm_V → jm_I → Prop} {o0 : Option jm_V} {o1 : Option jm_V} {s0 : Int}  (hz : (-2147483648 ≤ s0 ∧ s0 < 2147483648)) (kt : 0 ≤ s0 → Gx (jx_0 L) d md_M_next 53 [o0, some (.inl s0)] [] I Q) (kf : ¬ (0 ≤ s0) → Gx (jx_0 L) d md_M_next 47 [o0, some (.inl s0)] [] I Q) : Gx (jx_0 L) d md_M_next 42 [o0, o1] [.inl s0] I Q := by
  have hz1 := hz
  show jm_Go d 0 0 md_M_next 42 [o0, o1] [.inl s0] (jx (jx_0 L) I) (jx_Q (jx_0 L) Q)
  have hd : jm_dc md_M_next.2.1 42 [(.istore_n 1, 1), (.iload_n 1, 1), (.ifCond .ge 9, 3)] = true := by decide +kernel
  refine go_istore_n (by decide) hd (fun hd => ?_)
  refine go_iload_n rfl hd (fun hd => ?_)
  exact go_if_ge (by decide) hz1 hd kt kf
theorem b_M_next_47 {L : Nat} {d : Nat} {I : jm_I} {Q : Option jm_V → jm_I → Prop} {o1 : Option jm_V}  (k : Q none (jm_up I 167 20 0)) : Gx (jx_0 L) d md_M_next 47 [some (.inr (.inl 167)), o1] [] I Q := by
  show jm_Go d 0 0 md_M_next 47 [some (.inr (.inl 167)), o1] [] (jx (jx_0 L) I) (jx_Q (jx_0 L) Q)
  have hd : jm_dc md_M_next.2.1 47 [(.aload_n 0, 1), (.iconst 0, 1), (.putfield 101, 3), (.return_, 1)] = true := by decide +kernel
  refine go_aload_n rfl hd (fun hd => ?_)
  refine go_iconst hd (fun hd => ?_)
  refine go_putI co_X9 fl_9_101 (by decide) rfl rfl hd (fun hd => ?_)
  exact go_vreturn hd rfl ⟨_, rfl, k⟩
theorem b_M_next_53 {L : Nat} {d : Nat} {I : jm_I} {Q : Option jm_V → jm_I → Prop} {x1 : Int}  (hz : (-2147483648 ≤ x1 ∧ x1 < 2147483648)) (kt : x1 = 114 → Gx (jx_0 L) d md_M_next 99 [some (.inr (.inl 167)), some (.inl x1)] [.inr (.inl 167)] (jm_up (jm_up I 167 18 ((I 167 18) + 1)) 167 21 x1) Q) (kf : ¬ x1 = 114 → Gx (jx_0 L) d md_M_next 75 [some (.inr (.inl 167)), some (.inl x1)] [.inr (.inl 167)] (jm_up (jm_up I 167 18 ((I 167 18) + 1)) 167 21 x1) Q) : Gx (jx_0 L) d md_M_next 53 [some (.inr (.inl 167)), some (.inl x1)] [] I Q := by
  have hz1 := hz
  show jm_Go d 0 0 md_M_next 53 [some (.inr (.inl 167)), some (.inl x1)] [] (jx (jx_0 L) I) (jx_Q (jx_0 L) Q)
  have hd : jm_dc md_M_next.2.1 53 [(.aload_n 0, 1), (.dup, 1), (.getfield 91, 3), (.iconst 1, 1), (.iadd, 1), (.putfield 91, 3), (.aload_n 0, 1), (.iload_n 1, 1), (.putfield 104, 3), (.aload_n 0, 1), (.iload_n 1, 1), (.bipush 114, 2), (.if_icmp .eq 27, 3)] = true := by decide +kernel
  refine go_aload_n rfl hd (fun hd => ?_)
  refine go_dup rfl hd (fun hd => ?_)
  refine go_getI co_X9 fl_9_91 (by decide) (Or.inl rfl) rfl hd (fun hd => ?_)
  refine go_iconst hd (fun hd => ?_)
  refine go_iadd hd (fun hd => ?_)
  refine go_putI co_X9 fl_9_91 (by decide) rfl rfl hd (fun hd => ?_)
  refine go_aload_n rfl hd (fun hd => ?_)
  refine go_iload_n rfl hd (fun hd => ?_)
  refine go_putI co_X9 fl_9_104 (by decide) rfl rfl hd (fun hd => ?_)
  refine go_aload_n rfl hd (fun hd => ?_)
  refine go_iload_n rfl hd (fun hd => ?_)
  refine go_bipush (by decide) hd (fun hd => ?_)
  exact go_icmp_eq (by decide) hz1 ⟨by decide, by decide⟩ hd kt kf
theorem b_M_next_75 {L : Nat} {d : Nat} {I : jm_I} {Q : Option jm_V → jm_I → Prop} {o0 : Option jm_V} {x1 : Int}  (hz : (-2147483648 ≤ x1 ∧ x1 < 2147483648)) (kt : x1 = 115 → Gx (jx_0 L) d md_M_next 99 [o0, some (.inl x1)] [.inr (.inl 167)] I Q) (kf : ¬ x1 = 115 → Gx (jx_0 L) d md_M_next 81 [o0, some (.inl x1)] [.inr (.inl 167)] I Q) : Gx (jx_0 L) d md_M_next 75 [o0, some (.inl x1)] [.inr (.inl 167)] I Q := by
  have hz1 := hz
  show jm_Go d 0 0 md_M_next 75 [o0, some (.inl x1)] [.inr (.inl 167)] (jx (jx_0 L) I) (jx_Q (jx_0 L) Q)
  have hd : jm_dc md_M_next.2.1 75 [(.iload_n 1, 1), (.bipush 115, 2), (.if_icmp .eq 21, 3)] = true := by decide +kernel
  refine go_iload_n rfl hd (fun hd => ?_)
  refine go_bipush (by decide) hd (fun hd => ?_)
  exact go_icmp_eq (by decide) hz1 ⟨by decide, by decide⟩ hd kt kf
theorem b_M_next_81 {L : Nat} {d : Nat} {I : jm_I} {Q : Option jm_V → jm_I → Prop} {o0 : Option jm_V} {x1 : Int}  (hz : (-2147483648 ≤ x1 ∧ x1 < 2147483648)) (kt : x1 = 100 → Gx (jx_0 L) d md_M_next 99 [o0, some (.inl x1)] [.inr (.inl 167)] I Q) (kf : ¬ x1 = 100 → Gx (jx_0 L) d md_M_next 87 [o0, some (.inl x1)] [.inr (.inl 167)] I Q) : Gx (jx_0 L) d md_M_next 81 [o0, some (.inl x1)] [.inr (.inl 167)] I Q := by
  have hz1 := hz
  show jm_Go d 0 0 md_M_next 81 [o0, some (.inl x1)] [.inr (.inl 167)] (jx (jx_0 L) I) (jx_Q (jx_0 L) Q)
  have hd : jm_dc md_M_next.2.1 81 [(.iload_n 1, 1), (.bipush 100, 2), (.if_icmp .eq 15, 3)] = true := by decide +kernel
  refine go_iload_n rfl hd (fun hd => ?_)
  refine go_bipush (by decide) hd (fun hd => ?_)
  exact go_icmp_eq (by decide) hz1 ⟨by decide, by decide⟩ hd kt kf
theorem b_M_next_87 {L : Nat} {d : Nat} {I : jm_I} {Q : Option jm_V → jm_I → Prop} {o0 : Option jm_V} {x1 : Int}  (hz : (-2147483648 ≤ x1 ∧ x1 < 2147483648)) (kt : x1 = 112 → Gx (jx_0 L) d md_M_next 99 [o0, some (.inl x1)] [.inr (.inl 167)] I Q) (kf : ¬ x1 = 112 → Gx (jx_0 L) d md_M_next 93 [o0, some (.inl x1)] [.inr (.inl 167)] I Q) : Gx (jx_0 L) d md_M_next 87 [o0, some (.inl x1)] [.inr (.inl 167)] I Q := by
  have hz1 := hz
  show jm_Go d 0 0 md_M_next 87 [o0, some (.inl x1)] [.inr (.inl 167)] (jx (jx_0 L) I) (jx_Q (jx_0 L) Q)
  have hd : jm_dc md_M_next.2.1 87 [(.iload_n 1, 1), (.bipush 112, 2), (.if_icmp .eq 9, 3)] = true := by decide +kernel
  refine go_iload_n rfl hd (fun hd => ?_)
  refine go_bipush (by decide) hd (fun hd => ?_)
  exact go_icmp_eq (by decide) hz1 ⟨by decide, by decide⟩ hd kt kf
theorem b_M_next_93 {L : Nat} {d : Nat} {I : jm_I} {Q : Option jm_V → jm_I → Prop} {o0 : Option jm_V} {x1 : Int}  (hz : (-2147483648 ≤ x1 ∧ x1 < 2147483648)) (kt : ¬ x1 = 116 → Gx (jx_0 L) d md_M_next 103 [o0, some (.inl x1)] [.inr (.inl 167)] I Q) (kf : x1 = 116 → Gx (jx_0 L) d md_M_next 99 [o0, some (.inl x1)] [.inr (.inl 167)] I Q) : Gx (jx_0 L) d md_M_next 93 [o0, some (.inl x1)] [.inr (.inl 167)] I Q := by
  have hz1 := hz
  show jm_Go d 0 0 md_M_next 93 [o0, some (.inl x1)] [.inr (.inl 167)] (jx (jx_0 L) I) (jx_Q (jx_0 L) Q)
  have hd : jm_dc md_M_next.2.1 93 [(.iload_n 1, 1), (.bipush 116, 2), (.if_icmp .ne 7, 3)] = true := by decide +kernel
  refine go_iload_n rfl hd (fun hd => ?_)
  refine go_bipush (by decide) hd (fun hd => ?_)
  exact go_icmp_ne (by decide) hz1 ⟨by decide, by decide⟩ hd kt kf
theorem b_M_next_99 {L : Nat} {d : Nat} {I : jm_I} {Q : Option jm_V → jm_I → Prop} {o0 : Option jm_V} {o1 : Option jm_V}  (k : Gx (jx_0 L) d md_M_next 114 [o0, o1] [.inl 1, .inr (.inl 167)] I Q) : Gx (jx_0 L) d md_M_next 99 [o0, o1] [.inr (.inl 167)] I Q := by
  show jm_Go d 0 0 md_M_next 99 [o0, o1] [.inr (.inl 167)] (jx (jx_0 L) I) (jx_Q (jx_0 L) Q)
  have hd : jm_dc md_M_next.2.1 99 [(.iconst 1, 1), (.goto 14, 3)] = true := by decide +kernel
  refine go_iconst hd (fun hd => ?_)
  exact go_goto (by decide) hd k
theorem b_M_next_103 {L : Nat} {d : Nat} {I : jm_I} {Q : Option jm_V → jm_I → Prop} {o0 : Option jm_V} {x1 : Int}  (hz : (-2147483648 ≤ x1 ∧ x1 < 2147483648)) (kt : ¬ x1 = 59 → Gx (jx_0 L) d md_M_next 113 [o0, some (.inl x1)] [.inr (.inl 167)] I Q) (kf : x1 = 59 → Gx (jx_0 L) d md_M_next 109 [o0, some (.inl x1)] [.inr (.inl 167)] I Q) : Gx (jx_0 L) d md_M_next 103 [o0, some (.inl x1)] [.inr (.inl 167)] I Q := by
  have hz1 := hz
  show jm_Go d 0 0 md_M_next 103 [o0, some (.inl x1)] [.inr (.inl 167)] (jx (jx_0 L) I) (jx_Q (jx_0 L) Q)
  have hd : jm_dc md_M_next.2.1 103 [(.iload_n 1, 1), (.bipush 59, 2), (.if_icmp .ne 7, 3)] = true := by decide +kernel
  refine go_iload_n rfl hd (fun hd => ?_)
  refine go_bipush (by decide) hd (fun hd => ?_)
  exact go_icmp_ne (by decide) hz1 ⟨by decide, by decide⟩ hd kt kf
theorem b_M_next_109 {L : Nat} {d : Nat} {I : jm_I} {Q : Option jm_V → jm_I → Prop} {o0 : Option jm_V} {o1 : Option jm_V}  (k : Gx (jx_0 L) d md_M_next 114 [o0, o1] [.inl 3, .inr (.inl 167)] I Q) : Gx (jx_0 L) d md_M_next 109 [o0, o1] [.inr (.inl 167)] I Q := by
  show jm_Go d 0 0 md_M_next 109 [o0, o1] [.inr (.inl 167)] (jx (jx_0 L) I) (jx_Q (jx_0 L) Q)
  have hd : jm_dc md_M_next.2.1 109 [(.iconst 3, 1), (.goto 4, 3)] = true := by decide +kernel
  refine go_iconst hd (fun hd => ?_)
  exact go_goto (by decide) hd k
theorem b_M_next_113 {L : Nat} {d : Nat} {I : jm_I} {Q : Option jm_V → jm_I → Prop} {o0 : Option jm_V} {o1 : Option jm_V}  (k : Gx (jx_0 L) d md_M_next 114 [o0, o1] [.inl 4, .inr (.inl 167)] I Q) : Gx (jx_0 L) d md_M_next 113 [o0, o1] [.inr (.inl 167)] I Q := by
  show jm_Go d 0 0 md_M_next 113 [o0, o1] [.inr (.inl 167)] (jx (jx_0 L) I) (jx_Q (jx_0 L) Q)
  have hd : jm_dc md_M_next.2.1 113 [(.iconst 4, 1)] = true := by decide +kernel
  refine go_iconst hd (fun hd => ?_)
  exact k
theorem b_M_next_114 {L : Nat} {d : Nat} {I : jm_I} {Q : Option jm_V → jm_I → Prop} {o0 : Option jm_V} {x1 : Int} {s1 : Int}  (k : Cx (jx_0 L) d md_M_in [.inl x1, .inl 48, .inl 57] (jm_up I 167 20 s1) (fun v J => Gx (jx_0 L) (d + 1) md_M_next 125 [o0, some (.inl x1)] (v.toList ++ []) J Q)) : Gx (jx_0 L) (d + 1) md_M_next 114 [o0, some (.inl x1)] [.inl s1, .inr (.inl 167)] I Q := by
  show jm_Go (d + 1) 0 0 md_M_next 114 [o0, some (.inl x1)] [.inl s1, .inr (.inl 167)] (jx (jx_0 L) I) (jx_Q (jx_0 L) Q)
  have hd : jm_dc md_M_next.2.1 114 [(.putfield 101, 3), (.iload_n 1, 1), (.bipush 48, 2), (.bipush 57, 2), (.invokestatic 78, 3)] = true := by decide +kernel
  refine go_putI co_X9 fl_9_101 (by decide) rfl rfl hd (fun hd => ?_)
  refine go_iload_n rfl hd (fun hd => ?_)
  refine go_bipush (by decide) hd (fun hd => ?_)
  refine go_bipush (by decide) hd (fun hd => ?_)
  exact gx_static [.inl x1, .inl 48, .inl 57] [] mk_M_in ml_9_78 st_M_in rfl (Nat.le_of_ble_eq_true rfl) rfl (Nat.le_of_ble_eq_true rfl) rfl hd k
theorem b_M_next_125 {L : Nat} {d : Nat} {I : jm_I} {Q : Option jm_V → jm_I → Prop} {o0 : Option jm_V} {o1 : Option jm_V} {s0 : Int}  (hz : (-2147483648 ≤ s0 ∧ s0 < 2147483648)) (kt : s0 = 0 → Gx (jx_0 L) d md_M_next 251 [o0, o1] [] I Q) (kf : ¬ s0 = 0 → Gx (jx_0 L) d md_M_next 128 [o0, o1] [] I Q) : Gx (jx_0 L) d md_M_next 125 [o0, o1] [.inl s0] I Q := by
  have hz1 := hz
  show jm_Go d 0 0 md_M_next 125 [o0, o1] [.inl s0] (jx (jx_0 L) I) (jx_Q (jx_0 L) Q)
  have hd : jm_dc md_M_next.2.1 125 [(.ifCond .eq 126, 3)] = true := by decide +kernel
  exact go_if_eq (by decide) hz1 hd kt kf
theorem b_M_next_128 {L : Nat} {d : Nat} {I : jm_I} {Q : Option jm_V → jm_I → Prop} {x1 : Int}  (k : Gx (jx_0 L) d md_M_next 136 [some (.inr (.inl 167)), some (.inl x1)] [] (jm_up I 167 21 (x1 - 48)) Q) : Gx (jx_0 L) d md_M_next 128 [some (.inr (.inl 167)), some (.inl x1)] [] I Q := by
  show jm_Go d 0 0 md_M_next 128 [some (.inr (.inl 167)), some (.inl x1)] [] (jx (jx_0 L) I) (jx_Q (jx_0 L) Q)
  have hd : jm_dc md_M_next.2.1 128 [(.aload_n 0, 1), (.iload_n 1, 1), (.bipush 48, 2), (.isub, 1), (.putfield 104, 3)] = true := by decide +kernel
  refine go_aload_n rfl hd (fun hd => ?_)
  refine go_iload_n rfl hd (fun hd => ?_)
  refine go_bipush (by decide) hd (fun hd => ?_)
  refine go_isub hd (fun hd => ?_)
  refine go_putI co_X9 fl_9_104 (by decide) rfl rfl hd (fun hd => ?_)
  exact k
theorem b_M_next_136 {L : Nat} {d : Nat} {I : jm_I} {Q : Option jm_V → jm_I → Prop} {o1 : Option jm_V}  (k : Cx (jx_0 L) d md_M_letterAt [.inr (.inl 167), .inl (I 167 18)] I (fun v J => Gx (jx_0 L) (d + 1) md_M_next 144 [some (.inr (.inl 167)), o1] (v.toList ++ []) J Q)) : Gx (jx_0 L) (d + 1) md_M_next 136 [some (.inr (.inl 167)), o1] [] I Q := by
  show jm_Go (d + 1) 0 0 md_M_next 136 [some (.inr (.inl 167)), o1] [] (jx (jx_0 L) I) (jx_Q (jx_0 L) Q)
  have hd : jm_dc md_M_next.2.1 136 [(.aload_n 0, 1), (.aload_n 0, 1), (.getfield 91, 3), (.invokevirtual 94, 3)] = true := by decide +kernel
  refine go_aload_n rfl hd (fun hd => ?_)
  refine go_aload_n rfl hd (fun hd => ?_)
  refine go_getI co_X9 fl_9_91 (by decide) (Or.inl rfl) rfl hd (fun hd => ?_)
  exact gx_virtual 167 9 [.inl (I 167 18)] [] mk_M_letterAt co_X9 rfl ml_9_94 in_M_letterAt se_M_letterAt rfl rfl (Nat.le_of_ble_eq_true rfl) rfl (Nat.le_of_ble_eq_true rfl) rfl hd k
theorem b_M_next_144 {L : Nat} {d : Nat} {I : jm_I} {Q : Option jm_V → jm_I → Prop} {o0 : Option jm_V} {o1 : Option jm_V} {s0 : Int}  (k : Cx (jx_0 L) d md_M_in [.inl s0, .inl 48, .inl 57] I (fun v J => Gx (jx_0 L) (d + 1) md_M_next 151 [o0, o1] (v.toList ++ []) J Q)) : Gx (jx_0 L) (d + 1) md_M_next 144 [o0, o1] [.inl s0] I Q := by
  show jm_Go (d + 1) 0 0 md_M_next 144 [o0, o1] [.inl s0] (jx (jx_0 L) I) (jx_Q (jx_0 L) Q)
  have hd : jm_dc md_M_next.2.1 144 [(.bipush 48, 2), (.bipush 57, 2), (.invokestatic 78, 3)] = true := by decide +kernel
  refine go_bipush (by decide) hd (fun hd => ?_)
  refine go_bipush (by decide) hd (fun hd => ?_)
  exact gx_static [.inl s0, .inl 48, .inl 57] [] mk_M_in ml_9_78 st_M_in rfl (Nat.le_of_ble_eq_true rfl) rfl (Nat.le_of_ble_eq_true rfl) rfl hd k
theorem b_M_next_151 {L : Nat} {d : Nat} {I : jm_I} {Q : Option jm_V → jm_I → Prop} {o0 : Option jm_V} {o1 : Option jm_V} {s0 : Int}  (hz : (-2147483648 ≤ s0 ∧ s0 < 2147483648)) (kt : s0 = 0 → Gx (jx_0 L) d md_M_next 210 [o0, o1] [] I Q) (kf : ¬ s0 = 0 → Gx (jx_0 L) d md_M_next 154 [o0, o1] [] I Q) : Gx (jx_0 L) d md_M_next 151 [o0, o1] [.inl s0] I Q := by
  have hz1 := hz
  show jm_Go d 0 0 md_M_next 151 [o0, o1] [.inl s0] (jx (jx_0 L) I) (jx_Q (jx_0 L) Q)
  have hd : jm_dc md_M_next.2.1 151 [(.ifCond .eq 59, 3)] = true := by decide +kernel
  exact go_if_eq (by decide) hz1 hd kt kf
theorem b_M_next_154 {L : Nat} {d : Nat} {I : jm_I} {Q : Option jm_V → jm_I → Prop} {o1 : Option jm_V}  (hz : (-2147483648 ≤ (I 167 18) - (I 167 19) ∧ (I 167 18) - (I 167 19) < 2147483648)) (kt : 2 ≤ ((I 167 18) - (I 167 19)) → Gx (jx_0 L) d md_M_next 190 [some (.inr (.inl 167)), o1] [.inr (.inl 167)] I Q) (kf : ¬ (2 ≤ ((I 167 18) - (I 167 19))) → Gx (jx_0 L) d md_M_next 168 [some (.inr (.inl 167)), o1] [.inr (.inl 167)] I Q) : Gx (jx_0 L) d md_M_next 154 [some (.inr (.inl 167)), o1] [] I Q := by
  have hz1 := hz
  show jm_Go d 0 0 md_M_next 154 [some (.inr (.inl 167)), o1] [] (jx (jx_0 L) I) (jx_Q (jx_0 L) Q)
  have hd : jm_dc md_M_next.2.1 154 [(.aload_n 0, 1), (.aload_n 0, 1), (.getfield 91, 3), (.aload_n 0, 1), (.getfield 98, 3), (.isub, 1), (.iconst 2, 1), (.if_icmp .ge 25, 3)] = true := by decide +kernel
  refine go_aload_n rfl hd (fun hd => ?_)
  refine go_aload_n rfl hd (fun hd => ?_)
  refine go_getI co_X9 fl_9_91 (by decide) (Or.inl rfl) rfl hd (fun hd => ?_)
  refine go_aload_n rfl hd (fun hd => ?_)
  refine go_getI co_X9 fl_9_98 (by decide) (Or.inl rfl) rfl hd (fun hd => ?_)
  refine go_isub hd (fun hd => ?_)
  refine go_iconst hd (fun hd => ?_)
  exact go_icmp_ge (by decide) hz1 ⟨by decide, by decide⟩ hd kt kf
theorem b_M_next_168 {L : Nat} {d : Nat} {I : jm_I} {Q : Option jm_V → jm_I → Prop} {o1 : Option jm_V}  (k : Cx (jx_0 L) d md_M_letterAt [.inr (.inl 167), .inl (I 167 18)] I (fun v J => Gx (jx_0 L) (d + 1) md_M_next 183 [some (.inr (.inl 167)), o1] (v.toList ++ [.inl (10 * (I 167 21)), .inr (.inl 167)]) J Q)) : Gx (jx_0 L) (d + 1) md_M_next 168 [some (.inr (.inl 167)), o1] [.inr (.inl 167)] I Q := by
  show jm_Go (d + 1) 0 0 md_M_next 168 [some (.inr (.inl 167)), o1] [.inr (.inl 167)] (jx (jx_0 L) I) (jx_Q (jx_0 L) Q)
  have hd : jm_dc md_M_next.2.1 168 [(.bipush 10, 2), (.aload_n 0, 1), (.getfield 104, 3), (.imul, 1), (.aload_n 0, 1), (.aload_n 0, 1), (.getfield 91, 3), (.invokevirtual 94, 3)] = true := by decide +kernel
  refine go_bipush (by decide) hd (fun hd => ?_)
  refine go_aload_n rfl hd (fun hd => ?_)
  refine go_getI co_X9 fl_9_104 (by decide) (Or.inl rfl) rfl hd (fun hd => ?_)
  refine go_imul hd (fun hd => ?_)
  refine go_aload_n rfl hd (fun hd => ?_)
  refine go_aload_n rfl hd (fun hd => ?_)
  refine go_getI co_X9 fl_9_91 (by decide) (Or.inl rfl) rfl hd (fun hd => ?_)
  exact gx_virtual 167 9 [.inl (I 167 18)] [.inl (10 * (I 167 21)), .inr (.inl 167)] mk_M_letterAt co_X9 rfl ml_9_94 in_M_letterAt se_M_letterAt rfl rfl (Nat.le_of_ble_eq_true rfl) rfl (Nat.le_of_ble_eq_true rfl) rfl hd k
theorem b_M_next_183 {L : Nat} {d : Nat} {I : jm_I} {Q : Option jm_V → jm_I → Prop} {o0 : Option jm_V} {o1 : Option jm_V} {s1 : Int} {s2 : Int}  (k : Gx (jx_0 L) d md_M_next 194 [o0, o1] [.inl ((s1 + s2) - 48), .inr (.inl 167)] I Q) : Gx (jx_0 L) d md_M_next 183 [o0, o1] [.inl s2, .inl s1, .inr (.inl 167)] I Q := by
  show jm_Go d 0 0 md_M_next 183 [o0, o1] [.inl s2, .inl s1, .inr (.inl 167)] (jx (jx_0 L) I) (jx_Q (jx_0 L) Q)
  have hd : jm_dc md_M_next.2.1 183 [(.iadd, 1), (.bipush 48, 2), (.isub, 1), (.goto 7, 3)] = true := by decide +kernel
  refine go_iadd hd (fun hd => ?_)
  refine go_bipush (by decide) hd (fun hd => ?_)
  refine go_isub hd (fun hd => ?_)
  exact go_goto (by decide) hd k
theorem b_M_next_190 {L : Nat} {d : Nat} {I : jm_I} {Q : Option jm_V → jm_I → Prop} {o1 : Option jm_V}  (k : Gx (jx_0 L) d md_M_next 194 [some (.inr (.inl 167)), o1] [.inl (I 167 21), .inr (.inl 167)] I Q) : Gx (jx_0 L) d md_M_next 190 [some (.inr (.inl 167)), o1] [.inr (.inl 167)] I Q := by
  show jm_Go d 0 0 md_M_next 190 [some (.inr (.inl 167)), o1] [.inr (.inl 167)] (jx (jx_0 L) I) (jx_Q (jx_0 L) Q)
  have hd : jm_dc md_M_next.2.1 190 [(.aload_n 0, 1), (.getfield 104, 3)] = true := by decide +kernel
  refine go_aload_n rfl hd (fun hd => ?_)
  refine go_getI co_X9 fl_9_104 (by decide) (Or.inl rfl) rfl hd (fun hd => ?_)
  exact k
theorem b_M_next_194 {L : Nat} {d : Nat} {I : jm_I} {Q : Option jm_V → jm_I → Prop} {o1 : Option jm_V} {s1 : Int}  (k : Gx (jx_0 L) d md_M_next 136 [some (.inr (.inl 167)), o1] [] (jm_up (jm_up I 167 21 s1) 167 18 ((I 167 18) + 1)) Q) : Gx (jx_0 L) d md_M_next 194 [some (.inr (.inl 167)), o1] [.inl s1, .inr (.inl 167)] I Q := by
  show jm_Go d 0 0 md_M_next 194 [some (.inr (.inl 167)), o1] [.inl s1, .inr (.inl 167)] (jx (jx_0 L) I) (jx_Q (jx_0 L) Q)
  have hd : jm_dc md_M_next.2.1 194 [(.putfield 104, 3), (.aload_n 0, 1), (.dup, 1), (.getfield 91, 3), (.iconst 1, 1), (.iadd, 1), (.putfield 91, 3), (.goto (-71), 3)] = true := by decide +kernel
  refine go_putI co_X9 fl_9_104 (by decide) rfl rfl hd (fun hd => ?_)
  refine go_aload_n rfl hd (fun hd => ?_)
  refine go_dup rfl hd (fun hd => ?_)
  refine go_getI co_X9 fl_9_91 (by decide) (Or.inl rfl) rfl hd (fun hd => ?_)
  refine go_iconst hd (fun hd => ?_)
  refine go_iadd hd (fun hd => ?_)
  refine go_putI co_X9 fl_9_91 (by decide) rfl rfl hd (fun hd => ?_)
  exact go_goto (by decide) hd k
theorem b_M_next_210 {L : Nat} {d : Nat} {I : jm_I} {Q : Option jm_V → jm_I → Prop} {o1 : Option jm_V}  (hz : (-2147483648 ≤ (I 167 18) - (I 167 19) ∧ (I 167 18) - (I 167 19) < 2147483648)) (kt : 3 ≤ ((I 167 18) - (I 167 19)) → Gx (jx_0 L) d md_M_next 247 [some (.inr (.inl 167)), o1] [.inr (.inl 167)] I Q) (kf : ¬ (3 ≤ ((I 167 18) - (I 167 19))) → Gx (jx_0 L) d md_M_next 224 [some (.inr (.inl 167)), o1] [.inr (.inl 167)] I Q) : Gx (jx_0 L) d md_M_next 210 [some (.inr (.inl 167)), o1] [] I Q := by
  have hz1 := hz
  show jm_Go d 0 0 md_M_next 210 [some (.inr (.inl 167)), o1] [] (jx (jx_0 L) I) (jx_Q (jx_0 L) Q)
  have hd : jm_dc md_M_next.2.1 210 [(.aload_n 0, 1), (.aload_n 0, 1), (.getfield 91, 3), (.aload_n 0, 1), (.getfield 98, 3), (.isub, 1), (.iconst 3, 1), (.if_icmp .ge 26, 3)] = true := by decide +kernel
  refine go_aload_n rfl hd (fun hd => ?_)
  refine go_aload_n rfl hd (fun hd => ?_)
  refine go_getI co_X9 fl_9_91 (by decide) (Or.inl rfl) rfl hd (fun hd => ?_)
  refine go_aload_n rfl hd (fun hd => ?_)
  refine go_getI co_X9 fl_9_98 (by decide) (Or.inl rfl) rfl hd (fun hd => ?_)
  refine go_isub hd (fun hd => ?_)
  refine go_iconst hd (fun hd => ?_)
  exact go_icmp_ge (by decide) hz1 ⟨by decide, by decide⟩ hd kt kf
theorem b_M_next_224 {L : Nat} {d : Nat} {I : jm_I} {Q : Option jm_V → jm_I → Prop} {o0 : Option jm_V} {x1 : Int}  (hz : (-2147483648 ≤ x1 ∧ x1 < 2147483648)) (kt : ¬ x1 = 48 → Gx (jx_0 L) d md_M_next 243 [o0, some (.inl x1)] [.inr (.inl 167)] I Q) (kf : x1 = 48 → Gx (jx_0 L) d md_M_next 230 [o0, some (.inl x1)] [.inr (.inl 167)] I Q) : Gx (jx_0 L) d md_M_next 224 [o0, some (.inl x1)] [.inr (.inl 167)] I Q := by
  have hz1 := hz
  show jm_Go d 0 0 md_M_next 224 [o0, some (.inl x1)] [.inr (.inl 167)] (jx (jx_0 L) I) (jx_Q (jx_0 L) Q)
  have hd : jm_dc md_M_next.2.1 224 [(.iload_n 1, 1), (.bipush 48, 2), (.if_icmp .ne 16, 3)] = true := by decide +kernel
  refine go_iload_n rfl hd (fun hd => ?_)
  refine go_bipush (by decide) hd (fun hd => ?_)
  exact go_icmp_ne (by decide) hz1 ⟨by decide, by decide⟩ hd kt kf
theorem b_M_next_230 {L : Nat} {d : Nat} {I : jm_I} {Q : Option jm_V → jm_I → Prop} {o1 : Option jm_V}  (hz : (-2147483648 ≤ (I 167 18) - (I 167 19) ∧ (I 167 18) - (I 167 19) < 2147483648)) (kt : ¬ ((I 167 18) - (I 167 19)) = 1 → Gx (jx_0 L) d md_M_next 247 [some (.inr (.inl 167)), o1] [.inr (.inl 167)] I Q) (kf : ((I 167 18) - (I 167 19)) = 1 → Gx (jx_0 L) d md_M_next 243 [some (.inr (.inl 167)), o1] [.inr (.inl 167)] I Q) : Gx (jx_0 L) d md_M_next 230 [some (.inr (.inl 167)), o1] [.inr (.inl 167)] I Q := by
  have hz1 := hz
  show jm_Go d 0 0 md_M_next 230 [some (.inr (.inl 167)), o1] [.inr (.inl 167)] (jx (jx_0 L) I) (jx_Q (jx_0 L) Q)
  have hd : jm_dc md_M_next.2.1 230 [(.aload_n 0, 1), (.getfield 91, 3), (.aload_n 0, 1), (.getfield 98, 3), (.isub, 1), (.iconst 1, 1), (.if_icmp .ne 7, 3)] = true := by decide +kernel
  refine go_aload_n rfl hd (fun hd => ?_)
  refine go_getI co_X9 fl_9_91 (by decide) (Or.inl rfl) rfl hd (fun hd => ?_)
  refine go_aload_n rfl hd (fun hd => ?_)
  refine go_getI co_X9 fl_9_98 (by decide) (Or.inl rfl) rfl hd (fun hd => ?_)
  refine go_isub hd (fun hd => ?_)
  refine go_iconst hd (fun hd => ?_)
  exact go_icmp_ne (by decide) hz1 ⟨by decide, by decide⟩ hd kt kf
theorem b_M_next_243 {L : Nat} {d : Nat} {I : jm_I} {Q : Option jm_V → jm_I → Prop} {o0 : Option jm_V} {o1 : Option jm_V}  (k : Gx (jx_0 L) d md_M_next 248 [o0, o1] [.inl 2, .inr (.inl 167)] I Q) : Gx (jx_0 L) d md_M_next 243 [o0, o1] [.inr (.inl 167)] I Q := by
  show jm_Go d 0 0 md_M_next 243 [o0, o1] [.inr (.inl 167)] (jx (jx_0 L) I) (jx_Q (jx_0 L) Q)
  have hd : jm_dc md_M_next.2.1 243 [(.iconst 2, 1), (.goto 4, 3)] = true := by decide +kernel
  refine go_iconst hd (fun hd => ?_)
  exact go_goto (by decide) hd k
theorem b_M_next_247 {L : Nat} {d : Nat} {I : jm_I} {Q : Option jm_V → jm_I → Prop} {o0 : Option jm_V} {o1 : Option jm_V}  (k : Gx (jx_0 L) d md_M_next 248 [o0, o1] [.inl 4, .inr (.inl 167)] I Q) : Gx (jx_0 L) d md_M_next 247 [o0, o1] [.inr (.inl 167)] I Q := by
  show jm_Go d 0 0 md_M_next 247 [o0, o1] [.inr (.inl 167)] (jx (jx_0 L) I) (jx_Q (jx_0 L) Q)
  have hd : jm_dc md_M_next.2.1 247 [(.iconst 4, 1)] = true := by decide +kernel
  refine go_iconst hd (fun hd => ?_)
  exact k
theorem b_M_next_248 {L : Nat} {d : Nat} {I : jm_I} {Q : Option jm_V → jm_I → Prop} {o0 : Option jm_V} {o1 : Option jm_V} {s1 : Int}  (k : Gx (jx_0 L) d md_M_next 251 [o0, o1] [] (jm_up I 167 20 s1) Q) : Gx (jx_0 L) d md_M_next 248 [o0, o1] [.inl s1, .inr (.inl 167)] I Q := by
  show jm_Go d 0 0 md_M_next 248 [o0, o1] [.inl s1, .inr (.inl 167)] (jx (jx_0 L) I) (jx_Q (jx_0 L) Q)
  have hd : jm_dc md_M_next.2.1 248 [(.putfield 101, 3)] = true := by decide +kernel
  refine go_putI co_X9 fl_9_101 (by decide) rfl rfl hd (fun hd => ?_)
  exact k
theorem b_M_next_251 {L : Nat} {d : Nat} {I : jm_I} {Q : Option jm_V → jm_I → Prop} {o0 : Option jm_V} {o1 : Option jm_V}  (k : Q none I) : Gx (jx_0 L) d md_M_next 251 [o0, o1] [] I Q := by
  show jm_Go d 0 0 md_M_next 251 [o0, o1] [] (jx (jx_0 L) I) (jx_Q (jx_0 L) Q)
  have hd : jm_dc md_M_next.2.1 251 [(.return_, 1)] = true := by decide +kernel
  exact go_vreturn hd rfl ⟨_, rfl, k⟩
theorem b_M_letterAt_0 {L : Nat} {d : Nat} {I : jm_I} {Q : Option jm_V → jm_I → Prop} {x1 : Int}  (hz : (-2147483648 ≤ x1 ∧ x1 < 2147483648) ∧ (-2147483648 ≤ I 167 17 ∧ I 167 17 < 2147483648)) (kt : (I 167 17) ≤ x1 → Gx (jx_0 L) d md_M_letterAt 17 [some (.inr (.inl 167)), some (.inl x1)] [] I Q) (kf : ¬ ((I 167 17) ≤ x1) → Gx (jx_0 L) d md_M_letterAt 8 [some (.inr (.inl 167)), some (.inl x1)] [] I Q) : Cx (jx_0 L) d md_M_letterAt [.inr (.inl 167), .inl x1] I Q := by
  obtain ⟨hz1, hz2⟩ := hz
  show jm_Go d 0 0 md_M_letterAt 0 [some (.inr (.inl 167)), some (.inl x1)] [] (jx (jx_0 L) I) (jx_Q (jx_0 L) Q)
  have hd : jm_dc md_M_letterAt.2.1 0 [(.iload_n 1, 1), (.aload_n 0, 1), (.getfield 88, 3), (.if_icmp .ge 12, 3)] = true := by decide +kernel
  refine go_iload_n rfl hd (fun hd => ?_)
  refine go_aload_n rfl hd (fun hd => ?_)
  refine go_getI co_X9 fl_9_88 (by decide) (Or.inl rfl) rfl hd (fun hd => ?_)
  exact go_icmp_ge (by decide) hz1 hz2 hd kt kf
theorem b_M_letterAt_8 {L : Nat} {d : Nat} {I : jm_I} {Q : Option jm_V → jm_I → Prop} {x1 : Int}  (hz : (0 ≤ x1 ∧ x1 < 200)) (k : Gx (jx_0 L) d md_M_letterAt 18 [some (.inr (.inl 167)), some (.inl x1)] [.inl (I 176 x1.toNat)] I Q) : Gx (jx_0 L) d md_M_letterAt 8 [some (.inr (.inl 167)), some (.inl x1)] [] I Q := by
  have hz1 := hz
  show jm_Go d 0 0 md_M_letterAt 8 [some (.inr (.inl 167)), some (.inl x1)] [] (jx (jx_0 L) I) (jx_Q (jx_0 L) Q)
  have hd : jm_dc md_M_letterAt.2.1 8 [(.aload_n 0, 1), (.getfield 42, 3), (.iload_n 1, 1), (.iaload, 1), (.goto 4, 3)] = true := by decide +kernel
  refine go_aload_n rfl hd (fun hd => ?_)
  refine go_getR co_X9 fl_9_42 (by decide) rfl rfl rfl hd (fun hd => ?_)
  refine go_iload_n rfl hd (fun hd => ?_)
  refine go_iaload rfl hz1.1 hz1.2 (by decide) hd (fun hd => ?_)
  exact go_goto (by decide) hd k
theorem b_M_letterAt_17 {L : Nat} {d : Nat} {I : jm_I} {Q : Option jm_V → jm_I → Prop} {o0 : Option jm_V} {o1 : Option jm_V}  (k : Gx (jx_0 L) d md_M_letterAt 18 [o0, o1] [.inl (-1)] I Q) : Gx (jx_0 L) d md_M_letterAt 17 [o0, o1] [] I Q := by
  show jm_Go d 0 0 md_M_letterAt 17 [o0, o1] [] (jx (jx_0 L) I) (jx_Q (jx_0 L) Q)
  have hd : jm_dc md_M_letterAt.2.1 17 [(.iconst (-1), 1)] = true := by decide +kernel
  refine go_iconst hd (fun hd => ?_)
  exact k
theorem b_M_letterAt_18 {L : Nat} {d : Nat} {I : jm_I} {Q : Option jm_V → jm_I → Prop} {o0 : Option jm_V} {o1 : Option jm_V} {s0 : Int}  (k : Q (some (.inl s0)) I) : Gx (jx_0 L) d md_M_letterAt 18 [o0, o1] [.inl s0] I Q := by
  show jm_Go d 0 0 md_M_letterAt 18 [o0, o1] [.inl s0] (jx (jx_0 L) I) (jx_Q (jx_0 L) Q)
  have hd : jm_dc md_M_letterAt.2.1 18 [(.ireturn, 1)] = true := by decide +kernel
  exact go_ireturn hd rfl ⟨_, rfl, k⟩
theorem b_M_readItem_0 {L : Nat} {d : Nat} {I : jm_I} {Q : Option jm_V → jm_I → Prop} {x1 : Int}  (hz : (-2147483648 ≤ I 167 20 ∧ I 167 20 < 2147483648)) (kt : ¬ (I 167 20) = 1 → Gx (jx_0 L) d md_M_readItem 15 [some (.inr (.inl 167)), some (.inl x1), none] [] I Q) (kf : (I 167 20) = 1 → Gx (jx_0 L) d md_M_readItem 8 [some (.inr (.inl 167)), some (.inl x1), none] [] I Q) : Cx (jx_0 L) d md_M_readItem [.inr (.inl 167), .inl x1] I Q := by
  have hz1 := hz
  show jm_Go d 0 0 md_M_readItem 0 [some (.inr (.inl 167)), some (.inl x1), none] [] (jx (jx_0 L) I) (jx_Q (jx_0 L) Q)
  have hd : jm_dc md_M_readItem.2.1 0 [(.aload_n 0, 1), (.getfield 101, 3), (.iconst 1, 1), (.if_icmp .ne 10, 3)] = true := by decide +kernel
  refine go_aload_n rfl hd (fun hd => ?_)
  refine go_getI co_X9 fl_9_101 (by decide) (Or.inl rfl) rfl hd (fun hd => ?_)
  refine go_iconst hd (fun hd => ?_)
  exact go_icmp_ne (by decide) hz1 ⟨by decide, by decide⟩ hd kt kf
theorem b_M_readItem_8 {L : Nat} {d : Nat} {I : jm_I} {Q : Option jm_V → jm_I → Prop} {o1 : Option jm_V} {o2 : Option jm_V}  (k : Gx (jx_0 L) d md_M_readItem 16 [some (.inr (.inl 167)), o1, o2] [.inl (I 167 21)] I Q) : Gx (jx_0 L) d md_M_readItem 8 [some (.inr (.inl 167)), o1, o2] [] I Q := by
  show jm_Go d 0 0 md_M_readItem 8 [some (.inr (.inl 167)), o1, o2] [] (jx (jx_0 L) I) (jx_Q (jx_0 L) Q)
  have hd : jm_dc md_M_readItem.2.1 8 [(.aload_n 0, 1), (.getfield 104, 3), (.goto 4, 3)] = true := by decide +kernel
  refine go_aload_n rfl hd (fun hd => ?_)
  refine go_getI co_X9 fl_9_104 (by decide) (Or.inl rfl) rfl hd (fun hd => ?_)
  exact go_goto (by decide) hd k
theorem b_M_readItem_15 {L : Nat} {d : Nat} {I : jm_I} {Q : Option jm_V → jm_I → Prop} {o0 : Option jm_V} {o1 : Option jm_V} {o2 : Option jm_V}  (k : Gx (jx_0 L) d md_M_readItem 16 [o0, o1, o2] [.inl 0] I Q) : Gx (jx_0 L) d md_M_readItem 15 [o0, o1, o2] [] I Q := by
  show jm_Go d 0 0 md_M_readItem 15 [o0, o1, o2] [] (jx (jx_0 L) I) (jx_Q (jx_0 L) Q)
  have hd : jm_dc md_M_readItem.2.1 15 [(.iconst 0, 1)] = true := by decide +kernel
  refine go_iconst hd (fun hd => ?_)
  exact k
theorem b_M_readItem_16 {L : Nat} {d : Nat} {I : jm_I} {Q : Option jm_V → jm_I → Prop} {o0 : Option jm_V} {o1 : Option jm_V} {o2 : Option jm_V} {s0 : Int}  (hz : (-2147483648 ≤ s0 ∧ s0 < 2147483648)) (k0 : s0 = 100 → Gx (jx_0 L) d md_M_readItem 83 [o0, o1, some (.inl s0)] [] I Q) (k1 : s0 = 112 → Gx (jx_0 L) d md_M_readItem 90 [o0, o1, some (.inl s0)] [] I Q) (k2 : s0 = 114 → Gx (jx_0 L) d md_M_readItem 68 [o0, o1, some (.inl s0)] [] I Q) (k3 : s0 = 115 → Gx (jx_0 L) d md_M_readItem 76 [o0, o1, some (.inl s0)] [] I Q) (k4 : s0 = 116 → Gx (jx_0 L) d md_M_readItem 97 [o0, o1, some (.inl s0)] [] I Q) (kd : ¬ s0 = 100 → ¬ s0 = 112 → ¬ s0 = 114 → ¬ s0 = 115 → ¬ s0 = 116 → Gx (jx_0 L) d md_M_readItem 104 [o0, o1, some (.inl s0)] [] I Q) : Gx (jx_0 L) d md_M_readItem 16 [o0, o1, o2] [.inl s0] I Q := by
  have hz1 := hz
  show jm_Go d 0 0 md_M_readItem 16 [o0, o1, o2] [.inl s0] (jx (jx_0 L) I) (jx_Q (jx_0 L) Q)
  have hd : jm_dc md_M_readItem.2.1 16 [(.istore_n 2, 1), (.iload_n 2, 1), (.lookupswitch 86 #[(100, 65), (112, 72), (114, 50), (115, 58), (116, 79)], 50)] = true := by decide +kernel
  refine go_istore_n (by decide) hd (fun hd => ?_)
  refine go_iload_n rfl hd (fun hd => ?_)
  by_cases hq0 : s0 = 100
  · exact go_lookup (a := s0) (off := 65) (t := 83) hz1 (by decide) (by rw [hq0]; rfl) (by decide) hd (k0 hq0)
  by_cases hq1 : s0 = 112
  · exact go_lookup (a := s0) (off := 72) (t := 90) hz1 (by decide) (by rw [hq1]; rfl) (by decide) hd (k1 hq1)
  by_cases hq2 : s0 = 114
  · exact go_lookup (a := s0) (off := 50) (t := 68) hz1 (by decide) (by rw [hq2]; rfl) (by decide) hd (k2 hq2)
  by_cases hq3 : s0 = 115
  · exact go_lookup (a := s0) (off := 58) (t := 76) hz1 (by decide) (by rw [hq3]; rfl) (by decide) hd (k3 hq3)
  by_cases hq4 : s0 = 116
  · exact go_lookup (a := s0) (off := 79) (t := 97) hz1 (by decide) (by rw [hq4]; rfl) (by decide) hd (k4 hq4)
  exact go_lookup (a := s0) (off := 86) (t := 104) hz1 (by decide) (by simp [Op.lookupswitch.offset, hq0, hq1, hq2, hq3, hq4, Ne.symm hq0, Ne.symm hq1, Ne.symm hq2, Ne.symm hq3, Ne.symm hq4]) (by decide) hd (kd hq0 hq1 hq2 hq3 hq4)
theorem b_M_readItem_68 {L : Nat} {d : Nat} {I : jm_I} {Q : Option jm_V → jm_I → Prop} {x1 : Int} {o2 : Option jm_V}  (k : Cx (jx_0 L) d md_M_readRooms [.inr (.inl 167), .inl x1] I (fun v J => Gx (jx_0 L) (d + 1) md_M_readItem 73 [some (.inr (.inl 167)), some (.inl x1), o2] (v.toList ++ []) J Q)) : Gx (jx_0 L) (d + 1) md_M_readItem 68 [some (.inr (.inl 167)), some (.inl x1), o2] [] I Q := by
  show jm_Go (d + 1) 0 0 md_M_readItem 68 [some (.inr (.inl 167)), some (.inl x1), o2] [] (jx (jx_0 L) I) (jx_Q (jx_0 L) Q)
  have hd : jm_dc md_M_readItem.2.1 68 [(.aload_n 0, 1), (.iload_n 1, 1), (.invokevirtual 134, 3)] = true := by decide +kernel
  refine go_aload_n rfl hd (fun hd => ?_)
  refine go_iload_n rfl hd (fun hd => ?_)
  exact gx_virtual 167 9 [.inl x1] [] mk_M_readRooms co_X9 rfl ml_9_134 in_M_readRooms se_M_readRooms rfl rfl (Nat.le_of_ble_eq_true rfl) rfl (Nat.le_of_ble_eq_true rfl) rfl hd k
theorem b_M_readItem_73 {L : Nat} {d : Nat} {I : jm_I} {Q : Option jm_V → jm_I → Prop} {o0 : Option jm_V} {o1 : Option jm_V} {o2 : Option jm_V}  (k : Gx (jx_0 L) d md_M_readItem 109 [o0, o1, o2] [] I Q) : Gx (jx_0 L) d md_M_readItem 73 [o0, o1, o2] [] I Q := by
  show jm_Go d 0 0 md_M_readItem 73 [o0, o1, o2] [] (jx (jx_0 L) I) (jx_Q (jx_0 L) Q)
  have hd : jm_dc md_M_readItem.2.1 73 [(.goto 36, 3)] = true := by decide +kernel
  exact go_goto (by decide) hd k
theorem b_M_readItem_76 {L : Nat} {d : Nat} {I : jm_I} {Q : Option jm_V → jm_I → Prop} {o1 : Option jm_V} {o2 : Option jm_V}  (k : Cx (jx_0 L) d md_M_readSteps [.inr (.inl 167)] I (fun v J => Gx (jx_0 L) (d + 1) md_M_readItem 80 [some (.inr (.inl 167)), o1, o2] (v.toList ++ []) J Q)) : Gx (jx_0 L) (d + 1) md_M_readItem 76 [some (.inr (.inl 167)), o1, o2] [] I Q := by
  show jm_Go (d + 1) 0 0 md_M_readItem 76 [some (.inr (.inl 167)), o1, o2] [] (jx (jx_0 L) I) (jx_Q (jx_0 L) Q)
  have hd : jm_dc md_M_readItem.2.1 76 [(.aload_n 0, 1), (.invokevirtual 137, 3)] = true := by decide +kernel
  refine go_aload_n rfl hd (fun hd => ?_)
  exact gx_virtual 167 9 [] [] mk_M_readSteps co_X9 rfl ml_9_137 in_M_readSteps se_M_readSteps rfl rfl (Nat.le_of_ble_eq_true rfl) rfl (Nat.le_of_ble_eq_true rfl) rfl hd k
theorem b_M_readItem_80 {L : Nat} {d : Nat} {I : jm_I} {Q : Option jm_V → jm_I → Prop} {o0 : Option jm_V} {o1 : Option jm_V} {o2 : Option jm_V}  (k : Gx (jx_0 L) d md_M_readItem 109 [o0, o1, o2] [] I Q) : Gx (jx_0 L) d md_M_readItem 80 [o0, o1, o2] [] I Q := by
  show jm_Go d 0 0 md_M_readItem 80 [o0, o1, o2] [] (jx (jx_0 L) I) (jx_Q (jx_0 L) Q)
  have hd : jm_dc md_M_readItem.2.1 80 [(.goto 29, 3)] = true := by decide +kernel
  exact go_goto (by decide) hd k
theorem b_M_readItem_83 {L : Nat} {d : Nat} {I : jm_I} {Q : Option jm_V → jm_I → Prop} {o1 : Option jm_V} {o2 : Option jm_V}  (k : Cx (jx_0 L) d md_M_readDoor [.inr (.inl 167)] I (fun v J => Gx (jx_0 L) (d + 1) md_M_readItem 87 [some (.inr (.inl 167)), o1, o2] (v.toList ++ []) J Q)) : Gx (jx_0 L) (d + 1) md_M_readItem 83 [some (.inr (.inl 167)), o1, o2] [] I Q := by
  show jm_Go (d + 1) 0 0 md_M_readItem 83 [some (.inr (.inl 167)), o1, o2] [] (jx (jx_0 L) I) (jx_Q (jx_0 L) Q)
  have hd : jm_dc md_M_readItem.2.1 83 [(.aload_n 0, 1), (.invokevirtual 140, 3)] = true := by decide +kernel
  refine go_aload_n rfl hd (fun hd => ?_)
  exact gx_virtual 167 9 [] [] mk_M_readDoor co_X9 rfl ml_9_140 in_M_readDoor se_M_readDoor rfl rfl (Nat.le_of_ble_eq_true rfl) rfl (Nat.le_of_ble_eq_true rfl) rfl hd k
theorem b_M_readItem_87 {L : Nat} {d : Nat} {I : jm_I} {Q : Option jm_V → jm_I → Prop} {o0 : Option jm_V} {o1 : Option jm_V} {o2 : Option jm_V}  (k : Gx (jx_0 L) d md_M_readItem 109 [o0, o1, o2] [] I Q) : Gx (jx_0 L) d md_M_readItem 87 [o0, o1, o2] [] I Q := by
  show jm_Go d 0 0 md_M_readItem 87 [o0, o1, o2] [] (jx (jx_0 L) I) (jx_Q (jx_0 L) Q)
  have hd : jm_dc md_M_readItem.2.1 87 [(.goto 22, 3)] = true := by decide +kernel
  exact go_goto (by decide) hd k
theorem b_M_readItem_90 {L : Nat} {d : Nat} {I : jm_I} {Q : Option jm_V → jm_I → Prop} {o1 : Option jm_V} {o2 : Option jm_V}  (k : Cx (jx_0 L) d md_M_readPerson [.inr (.inl 167)] I (fun v J => Gx (jx_0 L) (d + 1) md_M_readItem 94 [some (.inr (.inl 167)), o1, o2] (v.toList ++ []) J Q)) : Gx (jx_0 L) (d + 1) md_M_readItem 90 [some (.inr (.inl 167)), o1, o2] [] I Q := by
  show jm_Go (d + 1) 0 0 md_M_readItem 90 [some (.inr (.inl 167)), o1, o2] [] (jx (jx_0 L) I) (jx_Q (jx_0 L) Q)
  have hd : jm_dc md_M_readItem.2.1 90 [(.aload_n 0, 1), (.invokevirtual 143, 3)] = true := by decide +kernel
  refine go_aload_n rfl hd (fun hd => ?_)
  exact gx_virtual 167 9 [] [] mk_M_readPerson co_X9 rfl ml_9_143 in_M_readPerson se_M_readPerson rfl rfl (Nat.le_of_ble_eq_true rfl) rfl (Nat.le_of_ble_eq_true rfl) rfl hd k
theorem b_M_readItem_94 {L : Nat} {d : Nat} {I : jm_I} {Q : Option jm_V → jm_I → Prop} {o0 : Option jm_V} {o1 : Option jm_V} {o2 : Option jm_V}  (k : Gx (jx_0 L) d md_M_readItem 109 [o0, o1, o2] [] I Q) : Gx (jx_0 L) d md_M_readItem 94 [o0, o1, o2] [] I Q := by
  show jm_Go d 0 0 md_M_readItem 94 [o0, o1, o2] [] (jx (jx_0 L) I) (jx_Q (jx_0 L) Q)
  have hd : jm_dc md_M_readItem.2.1 94 [(.goto 15, 3)] = true := by decide +kernel
  exact go_goto (by decide) hd k
theorem b_M_readItem_97 {L : Nat} {d : Nat} {I : jm_I} {Q : Option jm_V → jm_I → Prop} {o1 : Option jm_V} {o2 : Option jm_V}  (k : Cx (jx_0 L) d md_M_readThing [.inr (.inl 167)] I (fun v J => Gx (jx_0 L) (d + 1) md_M_readItem 101 [some (.inr (.inl 167)), o1, o2] (v.toList ++ []) J Q)) : Gx (jx_0 L) (d + 1) md_M_readItem 97 [some (.inr (.inl 167)), o1, o2] [] I Q := by
  show jm_Go (d + 1) 0 0 md_M_readItem 97 [some (.inr (.inl 167)), o1, o2] [] (jx (jx_0 L) I) (jx_Q (jx_0 L) Q)
  have hd : jm_dc md_M_readItem.2.1 97 [(.aload_n 0, 1), (.invokevirtual 146, 3)] = true := by decide +kernel
  refine go_aload_n rfl hd (fun hd => ?_)
  exact gx_virtual 167 9 [] [] mk_M_readThing co_X9 rfl ml_9_146 in_M_readThing se_M_readThing rfl rfl (Nat.le_of_ble_eq_true rfl) rfl (Nat.le_of_ble_eq_true rfl) rfl hd k
theorem b_M_readItem_101 {L : Nat} {d : Nat} {I : jm_I} {Q : Option jm_V → jm_I → Prop} {o0 : Option jm_V} {o1 : Option jm_V} {o2 : Option jm_V}  (k : Gx (jx_0 L) d md_M_readItem 109 [o0, o1, o2] [] I Q) : Gx (jx_0 L) d md_M_readItem 101 [o0, o1, o2] [] I Q := by
  show jm_Go d 0 0 md_M_readItem 101 [o0, o1, o2] [] (jx (jx_0 L) I) (jx_Q (jx_0 L) Q)
  have hd : jm_dc md_M_readItem.2.1 101 [(.goto 8, 3)] = true := by decide +kernel
  exact go_goto (by decide) hd k
theorem b_M_readItem_104 {L : Nat} {d : Nat} {I : jm_I} {Q : Option jm_V → jm_I → Prop} {o1 : Option jm_V} {o2 : Option jm_V}  (k : Gx (jx_0 L) d md_M_readItem 109 [some (.inr (.inl 167)), o1, o2] [] (jm_up I 167 22 1) Q) : Gx (jx_0 L) d md_M_readItem 104 [some (.inr (.inl 167)), o1, o2] [] I Q := by
  show jm_Go d 0 0 md_M_readItem 104 [some (.inr (.inl 167)), o1, o2] [] (jx (jx_0 L) I) (jx_Q (jx_0 L) Q)
  have hd : jm_dc md_M_readItem.2.1 104 [(.aload_n 0, 1), (.iconst 1, 1), (.putfield 107, 3)] = true := by decide +kernel
  refine go_aload_n rfl hd (fun hd => ?_)
  refine go_iconst hd (fun hd => ?_)
  refine go_putZ co_X9 fl_9_107 (by decide) rfl rfl (Or.inr rfl) hd (fun hd => ?_)
  exact k
theorem b_M_readItem_109 {L : Nat} {d : Nat} {I : jm_I} {Q : Option jm_V → jm_I → Prop} {o0 : Option jm_V} {o1 : Option jm_V} {o2 : Option jm_V}  (k : Q none I) : Gx (jx_0 L) d md_M_readItem 109 [o0, o1, o2] [] I Q := by
  show jm_Go d 0 0 md_M_readItem 109 [o0, o1, o2] [] (jx (jx_0 L) I) (jx_Q (jx_0 L) Q)
  have hd : jm_dc md_M_readItem.2.1 109 [(.return_, 1)] = true := by decide +kernel
  exact go_vreturn hd rfl ⟨_, rfl, k⟩
theorem b_M_readRooms_0 {L : Nat} {d : Nat} {I : jm_I} {Q : Option jm_V → jm_I → Prop} {x1 : Int}  (k : Cx (jx_0 L) d md_M_must [.inr (.inl 167), .inl x1] I (fun v J => Gx (jx_0 L) (d + 1) md_M_readRooms 5 [some (.inr (.inl 167)), some (.inl x1)] (v.toList ++ []) J Q)) : Cx (jx_0 L) (d + 1) md_M_readRooms [.inr (.inl 167), .inl x1] I Q := by
  show jm_Go (d + 1) 0 0 md_M_readRooms 0 [some (.inr (.inl 167)), some (.inl x1)] [] (jx (jx_0 L) I) (jx_Q (jx_0 L) Q)
  have hd : jm_dc md_M_readRooms.2.1 0 [(.aload_n 0, 1), (.iload_n 1, 1), (.invokevirtual 114, 3)] = true := by decide +kernel
  refine go_aload_n rfl hd (fun hd => ?_)
  refine go_iload_n rfl hd (fun hd => ?_)
  exact gx_virtual 167 9 [.inl x1] [] mk_M_must co_X9 rfl ml_9_114 in_M_must se_M_must rfl rfl (Nat.le_of_ble_eq_true rfl) rfl (Nat.le_of_ble_eq_true rfl) rfl hd k
theorem b_M_readRooms_5 {L : Nat} {d : Nat} {I : jm_I} {Q : Option jm_V → jm_I → Prop} {o1 : Option jm_V}  (hz : (-2147483648 ≤ I 167 22 ∧ I 167 22 < 2147483648)) (kt : (I 167 22) = 0 → Gx (jx_0 L) d md_M_readRooms 13 [some (.inr (.inl 167)), o1] [] I Q) (kf : ¬ (I 167 22) = 0 → Gx (jx_0 L) d md_M_readRooms 12 [some (.inr (.inl 167)), o1] [] I Q) : Gx (jx_0 L) d md_M_readRooms 5 [some (.inr (.inl 167)), o1] [] I Q := by
  have hz1 := hz
  show jm_Go d 0 0 md_M_readRooms 5 [some (.inr (.inl 167)), o1] [] (jx (jx_0 L) I) (jx_Q (jx_0 L) Q)
  have hd : jm_dc md_M_readRooms.2.1 5 [(.aload_n 0, 1), (.getfield 107, 3), (.ifCond .eq 4, 3)] = true := by decide +kernel
  refine go_aload_n rfl hd (fun hd => ?_)
  refine go_getI co_X9 fl_9_107 (by decide) (Or.inr rfl) rfl hd (fun hd => ?_)
  exact go_if_eq (by decide) hz1 hd kt kf
theorem b_M_readRooms_12 {L : Nat} {d : Nat} {I : jm_I} {Q : Option jm_V → jm_I → Prop} {o0 : Option jm_V} {o1 : Option jm_V}  (k : Q none I) : Gx (jx_0 L) d md_M_readRooms 12 [o0, o1] [] I Q := by
  show jm_Go d 0 0 md_M_readRooms 12 [o0, o1] [] (jx (jx_0 L) I) (jx_Q (jx_0 L) Q)
  have hd : jm_dc md_M_readRooms.2.1 12 [(.return_, 1)] = true := by decide +kernel
  exact go_vreturn hd rfl ⟨_, rfl, k⟩
theorem b_M_readRooms_13 {L : Nat} {d : Nat} {I : jm_I} {Q : Option jm_V → jm_I → Prop} {o1 : Option jm_V}  (k : Cx (jx_0 L) d md_M_readInto [.inr (.inl 167), .inr (.inl 177), .inl 0, .inl 2, .inl 6] I (fun v J => Gx (jx_0 L) (d + 1) md_M_readRooms 25 [some (.inr (.inl 167)), o1] (v.toList ++ []) J Q)) : Gx (jx_0 L) (d + 1) md_M_readRooms 13 [some (.inr (.inl 167)), o1] [] I Q := by
  show jm_Go (d + 1) 0 0 md_M_readRooms 13 [some (.inr (.inl 167)), o1] [] (jx (jx_0 L) I) (jx_Q (jx_0 L) Q)
  have hd : jm_dc md_M_readRooms.2.1 13 [(.aload_n 0, 1), (.aload_n 0, 1), (.getfield 45, 3), (.iconst 0, 1), (.iconst 2, 1), (.bipush 6, 2), (.invokevirtual 118, 3)] = true := by decide +kernel
  refine go_aload_n rfl hd (fun hd => ?_)
  refine go_aload_n rfl hd (fun hd => ?_)
  refine go_getR co_X9 fl_9_45 (by decide) rfl rfl rfl hd (fun hd => ?_)
  refine go_iconst hd (fun hd => ?_)
  refine go_iconst hd (fun hd => ?_)
  refine go_bipush (by decide) hd (fun hd => ?_)
  exact gx_virtual 167 9 [.inr (.inl 177), .inl 0, .inl 2, .inl 6] [] mk_M_readInto co_X9 rfl ml_9_118 in_M_readInto se_M_readInto rfl rfl (Nat.le_of_ble_eq_true rfl) rfl (Nat.le_of_ble_eq_true rfl) rfl hd k
theorem b_M_readRooms_25 {L : Nat} {d : Nat} {I : jm_I} {Q : Option jm_V → jm_I → Prop} {o1 : Option jm_V} {s0 : Int}  (hz : (-2147483648 ≤ I 167 20 ∧ I 167 20 < 2147483648)) (kt : ¬ (I 167 20) = 3 → Gx (jx_0 L) d md_M_readRooms 39 [some (.inr (.inl 167)), o1] [.inr (.inl 167)] I Q) (kf : (I 167 20) = 3 → Gx (jx_0 L) d md_M_readRooms 35 [some (.inr (.inl 167)), o1] [.inr (.inl 167)] I Q) : Gx (jx_0 L) d md_M_readRooms 25 [some (.inr (.inl 167)), o1] [.inl s0] I Q := by
  have hz1 := hz
  show jm_Go d 0 0 md_M_readRooms 25 [some (.inr (.inl 167)), o1] [.inl s0] (jx (jx_0 L) I) (jx_Q (jx_0 L) Q)
  have hd : jm_dc md_M_readRooms.2.1 25 [(.pop, 1), (.aload_n 0, 1), (.aload_n 0, 1), (.getfield 101, 3), (.iconst 3, 1), (.if_icmp .ne 7, 3)] = true := by decide +kernel
  refine go_pop rfl hd (fun hd => ?_)
  refine go_aload_n rfl hd (fun hd => ?_)
  refine go_aload_n rfl hd (fun hd => ?_)
  refine go_getI co_X9 fl_9_101 (by decide) (Or.inl rfl) rfl hd (fun hd => ?_)
  refine go_iconst hd (fun hd => ?_)
  exact go_icmp_ne (by decide) hz1 ⟨by decide, by decide⟩ hd kt kf
theorem b_M_readRooms_35 {L : Nat} {d : Nat} {I : jm_I} {Q : Option jm_V → jm_I → Prop} {o0 : Option jm_V} {o1 : Option jm_V}  (k : Gx (jx_0 L) d md_M_readRooms 40 [o0, o1] [.inl 1, .inr (.inl 167)] I Q) : Gx (jx_0 L) d md_M_readRooms 35 [o0, o1] [.inr (.inl 167)] I Q := by
  show jm_Go d 0 0 md_M_readRooms 35 [o0, o1] [.inr (.inl 167)] (jx (jx_0 L) I) (jx_Q (jx_0 L) Q)
  have hd : jm_dc md_M_readRooms.2.1 35 [(.iconst 1, 1), (.goto 4, 3)] = true := by decide +kernel
  refine go_iconst hd (fun hd => ?_)
  exact go_goto (by decide) hd k
theorem b_M_readRooms_39 {L : Nat} {d : Nat} {I : jm_I} {Q : Option jm_V → jm_I → Prop} {o0 : Option jm_V} {o1 : Option jm_V}  (k : Gx (jx_0 L) d md_M_readRooms 40 [o0, o1] [.inl 0, .inr (.inl 167)] I Q) : Gx (jx_0 L) d md_M_readRooms 39 [o0, o1] [.inr (.inl 167)] I Q := by
  show jm_Go d 0 0 md_M_readRooms 39 [o0, o1] [.inr (.inl 167)] (jx (jx_0 L) I) (jx_Q (jx_0 L) Q)
  have hd : jm_dc md_M_readRooms.2.1 39 [(.iconst 0, 1)] = true := by decide +kernel
  refine go_iconst hd (fun hd => ?_)
  exact k
theorem b_M_readRooms_40 {L : Nat} {d : Nat} {I : jm_I} {Q : Option jm_V → jm_I → Prop} {o0 : Option jm_V} {o1 : Option jm_V} {s1 : Int}  (k : Cx (jx_0 L) d md_M_must [.inr (.inl 167), .inl s1] I (fun v J => Gx (jx_0 L) (d + 1) md_M_readRooms 43 [o0, o1] (v.toList ++ []) J Q)) : Gx (jx_0 L) (d + 1) md_M_readRooms 40 [o0, o1] [.inl s1, .inr (.inl 167)] I Q := by
  show jm_Go (d + 1) 0 0 md_M_readRooms 40 [o0, o1] [.inl s1, .inr (.inl 167)] (jx (jx_0 L) I) (jx_Q (jx_0 L) Q)
  have hd : jm_dc md_M_readRooms.2.1 40 [(.invokevirtual 114, 3)] = true := by decide +kernel
  exact gx_virtual 167 9 [.inl s1] [] mk_M_must co_X9 rfl ml_9_114 in_M_must se_M_must rfl rfl (Nat.le_of_ble_eq_true rfl) rfl (Nat.le_of_ble_eq_true rfl) rfl hd k
theorem b_M_readRooms_43 {L : Nat} {d : Nat} {I : jm_I} {Q : Option jm_V → jm_I → Prop} {o0 : Option jm_V} {o1 : Option jm_V}  (k : Q none I) : Gx (jx_0 L) d md_M_readRooms 43 [o0, o1] [] I Q := by
  show jm_Go d 0 0 md_M_readRooms 43 [o0, o1] [] (jx (jx_0 L) I) (jx_Q (jx_0 L) Q)
  have hd : jm_dc md_M_readRooms.2.1 43 [(.return_, 1)] = true := by decide +kernel
  exact go_vreturn hd rfl ⟨_, rfl, k⟩
theorem b_M_must_0 {L : Nat} {d : Nat} {I : jm_I} {Q : Option jm_V → jm_I → Prop} {x1 : Int}  (hz : (-2147483648 ≤ I 167 22 ∧ I 167 22 < 2147483648)) (kt : ¬ (I 167 22) = 0 → Gx (jx_0 L) d md_M_must 12 [some (.inr (.inl 167)), some (.inl x1)] [.inr (.inl 167)] I Q) (kf : (I 167 22) = 0 → Gx (jx_0 L) d md_M_must 8 [some (.inr (.inl 167)), some (.inl x1)] [.inr (.inl 167)] I Q) : Cx (jx_0 L) d md_M_must [.inr (.inl 167), .inl x1] I Q := by
  have hz1 := hz
  show jm_Go d 0 0 md_M_must 0 [some (.inr (.inl 167)), some (.inl x1)] [] (jx (jx_0 L) I) (jx_Q (jx_0 L) Q)
  have hd : jm_dc md_M_must.2.1 0 [(.aload_n 0, 1), (.aload_n 0, 1), (.getfield 107, 3), (.ifCond .ne 7, 3)] = true := by decide +kernel
  refine go_aload_n rfl hd (fun hd => ?_)
  refine go_aload_n rfl hd (fun hd => ?_)
  refine go_getI co_X9 fl_9_107 (by decide) (Or.inr rfl) rfl hd (fun hd => ?_)
  exact go_if_ne (by decide) hz1 hd kt kf
theorem b_M_must_8 {L : Nat} {d : Nat} {I : jm_I} {Q : Option jm_V → jm_I → Prop} {o0 : Option jm_V} {x1 : Int}  (hz : (-2147483648 ≤ x1 ∧ x1 < 2147483648)) (kt : ¬ x1 = 0 → Gx (jx_0 L) d md_M_must 16 [o0, some (.inl x1)] [.inr (.inl 167)] I Q) (kf : x1 = 0 → Gx (jx_0 L) d md_M_must 12 [o0, some (.inl x1)] [.inr (.inl 167)] I Q) : Gx (jx_0 L) d md_M_must 8 [o0, some (.inl x1)] [.inr (.inl 167)] I Q := by
  have hz1 := hz
  show jm_Go d 0 0 md_M_must 8 [o0, some (.inl x1)] [.inr (.inl 167)] (jx (jx_0 L) I) (jx_Q (jx_0 L) Q)
  have hd : jm_dc md_M_must.2.1 8 [(.iload_n 1, 1), (.ifCond .ne 7, 3)] = true := by decide +kernel
  refine go_iload_n rfl hd (fun hd => ?_)
  exact go_if_ne (by decide) hz1 hd kt kf
theorem b_M_must_12 {L : Nat} {d : Nat} {I : jm_I} {Q : Option jm_V → jm_I → Prop} {o0 : Option jm_V} {o1 : Option jm_V}  (k : Gx (jx_0 L) d md_M_must 17 [o0, o1] [.inl 1, .inr (.inl 167)] I Q) : Gx (jx_0 L) d md_M_must 12 [o0, o1] [.inr (.inl 167)] I Q := by
  show jm_Go d 0 0 md_M_must 12 [o0, o1] [.inr (.inl 167)] (jx (jx_0 L) I) (jx_Q (jx_0 L) Q)
  have hd : jm_dc md_M_must.2.1 12 [(.iconst 1, 1), (.goto 4, 3)] = true := by decide +kernel
  refine go_iconst hd (fun hd => ?_)
  exact go_goto (by decide) hd k
theorem b_M_must_16 {L : Nat} {d : Nat} {I : jm_I} {Q : Option jm_V → jm_I → Prop} {o0 : Option jm_V} {o1 : Option jm_V}  (k : Gx (jx_0 L) d md_M_must 17 [o0, o1] [.inl 0, .inr (.inl 167)] I Q) : Gx (jx_0 L) d md_M_must 16 [o0, o1] [.inr (.inl 167)] I Q := by
  show jm_Go d 0 0 md_M_must 16 [o0, o1] [.inr (.inl 167)] (jx (jx_0 L) I) (jx_Q (jx_0 L) Q)
  have hd : jm_dc md_M_must.2.1 16 [(.iconst 0, 1)] = true := by decide +kernel
  refine go_iconst hd (fun hd => ?_)
  exact k
theorem b_M_must_17 {L : Nat} {d : Nat} {I : jm_I} {Q : Option jm_V → jm_I → Prop} {o1 : Option jm_V} {s1 : Int}  (hz : (s1 = 0 ∨ s1 = 1) ∧ (-2147483648 ≤ s1 ∧ s1 < 2147483648)) (kt : ¬ s1 = 0 → Gx (jx_0 L) d md_M_must 31 [some (.inr (.inl 167)), o1] [] (jm_up I 167 22 s1) Q) (kf : s1 = 0 → Gx (jx_0 L) d md_M_must 27 [some (.inr (.inl 167)), o1] [] (jm_up I 167 22 s1) Q) : Gx (jx_0 L) d md_M_must 17 [some (.inr (.inl 167)), o1] [.inl s1, .inr (.inl 167)] I Q := by
  obtain ⟨hz1, hz2⟩ := hz
  show jm_Go d 0 0 md_M_must 17 [some (.inr (.inl 167)), o1] [.inl s1, .inr (.inl 167)] (jx (jx_0 L) I) (jx_Q (jx_0 L) Q)
  have hd : jm_dc md_M_must.2.1 17 [(.putfield 107, 3), (.aload_n 0, 1), (.getfield 107, 3), (.ifCond .ne 7, 3)] = true := by decide +kernel
  refine go_putZ co_X9 fl_9_107 (by decide) rfl rfl hz1 hd (fun hd => ?_)
  refine go_aload_n rfl hd (fun hd => ?_)
  refine go_getI co_X9 fl_9_107 (by decide) (Or.inr rfl) rfl hd (fun hd => ?_)
  exact go_if_ne (by decide) hz2 hd kt kf
theorem b_M_must_27 {L : Nat} {d : Nat} {I : jm_I} {Q : Option jm_V → jm_I → Prop} {o1 : Option jm_V}  (k : Cx (jx_0 L) d md_M_next [.inr (.inl 167)] I (fun v J => Gx (jx_0 L) (d + 1) md_M_must 31 [some (.inr (.inl 167)), o1] (v.toList ++ []) J Q)) : Gx (jx_0 L) (d + 1) md_M_must 27 [some (.inr (.inl 167)), o1] [] I Q := by
  show jm_Go (d + 1) 0 0 md_M_must 27 [some (.inr (.inl 167)), o1] [] (jx (jx_0 L) I) (jx_Q (jx_0 L) Q)
  have hd : jm_dc md_M_must.2.1 27 [(.aload_n 0, 1), (.invokevirtual 111, 3)] = true := by decide +kernel
  refine go_aload_n rfl hd (fun hd => ?_)
  exact gx_virtual 167 9 [] [] mk_M_next co_X9 rfl ml_9_111 in_M_next se_M_next rfl rfl (Nat.le_of_ble_eq_true rfl) rfl (Nat.le_of_ble_eq_true rfl) rfl hd k
theorem b_M_must_31 {L : Nat} {d : Nat} {I : jm_I} {Q : Option jm_V → jm_I → Prop} {o0 : Option jm_V} {o1 : Option jm_V}  (k : Q none I) : Gx (jx_0 L) d md_M_must 31 [o0, o1] [] I Q := by
  show jm_Go d 0 0 md_M_must 31 [o0, o1] [] (jx (jx_0 L) I) (jx_Q (jx_0 L) Q)
  have hd : jm_dc md_M_must.2.1 31 [(.return_, 1)] = true := by decide +kernel
  exact go_vreturn hd rfl ⟨_, rfl, k⟩
theorem b_M_readInto_0 {L : Nat} {d : Nat} {I : jm_I} {Q : Option jm_V → jm_I → Prop} {a1 na1 : Nat} {x2 : Int} {x3 : Int} {x4 : Int} (ha1 : (jx_0 L).2.1 a1 = (20, na1)) (hz : (-2147483648 ≤ I 167 20 ∧ I 167 20 < 2147483648)) (kt : ¬ (I 167 20) = 2 → Gx (jx_0 L) d md_M_readInto 30 [some (.inr (.inl 167)), some (.inr (.inl a1)), some (.inl x2), some (.inl x3), some (.inl x4), some (.inl (I 167 21))] [.inr (.inl 167)] I Q) (kf : (I 167 20) = 2 → Gx (jx_0 L) d md_M_readInto 15 [some (.inr (.inl 167)), some (.inr (.inl a1)), some (.inl x2), some (.inl x3), some (.inl x4), some (.inl (I 167 21))] [.inr (.inl 167)] I Q) : Cx (jx_0 L) d md_M_readInto [.inr (.inl 167), .inr (.inl a1), .inl x2, .inl x3, .inl x4] I Q := by
  have hz1 := hz
  show jm_Go d 0 0 md_M_readInto 0 [some (.inr (.inl 167)), some (.inr (.inl a1)), some (.inl x2), some (.inl x3), some (.inl x4), none] [] (jx (jx_0 L) I) (jx_Q (jx_0 L) Q)
  have hd : jm_dc md_M_readInto.2.1 0 [(.aload_n 0, 1), (.getfield 104, 3), (.istore 5, 2), (.aload_n 0, 1), (.aload_n 0, 1), (.getfield 101, 3), (.iconst 2, 1), (.if_icmp .ne 18, 3)] = true := by decide +kernel
  refine go_aload_n rfl hd (fun hd => ?_)
  refine go_getI co_X9 fl_9_104 (by decide) (Or.inl rfl) rfl hd (fun hd => ?_)
  refine go_istore (by decide) hd (fun hd => ?_)
  refine go_aload_n rfl hd (fun hd => ?_)
  refine go_aload_n rfl hd (fun hd => ?_)
  refine go_getI co_X9 fl_9_101 (by decide) (Or.inl rfl) rfl hd (fun hd => ?_)
  refine go_iconst hd (fun hd => ?_)
  exact go_icmp_ne (by decide) hz1 ⟨by decide, by decide⟩ hd kt kf
theorem b_M_readInto_15 {L : Nat} {d : Nat} {I : jm_I} {Q : Option jm_V → jm_I → Prop} {o0 : Option jm_V} {o1 : Option jm_V} {o2 : Option jm_V} {x3 : Int} {x4 : Int} {x5 : Int}  (k : Cx (jx_0 L) d md_M_in [.inl x5, .inl x3, .inl x4] I (fun v J => Gx (jx_0 L) (d + 1) md_M_readInto 23 [o0, o1, o2, some (.inl x3), some (.inl x4), some (.inl x5)] (v.toList ++ [.inr (.inl 167)]) J Q)) : Gx (jx_0 L) (d + 1) md_M_readInto 15 [o0, o1, o2, some (.inl x3), some (.inl x4), some (.inl x5)] [.inr (.inl 167)] I Q := by
  show jm_Go (d + 1) 0 0 md_M_readInto 15 [o0, o1, o2, some (.inl x3), some (.inl x4), some (.inl x5)] [.inr (.inl 167)] (jx (jx_0 L) I) (jx_Q (jx_0 L) Q)
  have hd : jm_dc md_M_readInto.2.1 15 [(.iload 5, 2), (.iload_n 3, 1), (.iload 4, 2), (.invokestatic 78, 3)] = true := by decide +kernel
  refine go_iload rfl hd (fun hd => ?_)
  refine go_iload_n rfl hd (fun hd => ?_)
  refine go_iload rfl hd (fun hd => ?_)
  exact gx_static [.inl x5, .inl x3, .inl x4] [.inr (.inl 167)] mk_M_in ml_9_78 st_M_in rfl (Nat.le_of_ble_eq_true rfl) rfl (Nat.le_of_ble_eq_true rfl) rfl hd k
theorem b_M_readInto_23 {L : Nat} {d : Nat} {I : jm_I} {Q : Option jm_V → jm_I → Prop} {o0 : Option jm_V} {o1 : Option jm_V} {o2 : Option jm_V} {o3 : Option jm_V} {o4 : Option jm_V} {o5 : Option jm_V} {s1 : Int}  (hz : (-2147483648 ≤ s1 ∧ s1 < 2147483648)) (kt : s1 = 0 → Gx (jx_0 L) d md_M_readInto 30 [o0, o1, o2, o3, o4, o5] [.inr (.inl 167)] I Q) (kf : ¬ s1 = 0 → Gx (jx_0 L) d md_M_readInto 26 [o0, o1, o2, o3, o4, o5] [.inr (.inl 167)] I Q) : Gx (jx_0 L) d md_M_readInto 23 [o0, o1, o2, o3, o4, o5] [.inl s1, .inr (.inl 167)] I Q := by
  have hz1 := hz
  show jm_Go d 0 0 md_M_readInto 23 [o0, o1, o2, o3, o4, o5] [.inl s1, .inr (.inl 167)] (jx (jx_0 L) I) (jx_Q (jx_0 L) Q)
  have hd : jm_dc md_M_readInto.2.1 23 [(.ifCond .eq 7, 3)] = true := by decide +kernel
  exact go_if_eq (by decide) hz1 hd kt kf
theorem b_M_readInto_26 {L : Nat} {d : Nat} {I : jm_I} {Q : Option jm_V → jm_I → Prop} {o0 : Option jm_V} {o1 : Option jm_V} {o2 : Option jm_V} {o3 : Option jm_V} {o4 : Option jm_V} {o5 : Option jm_V}  (k : Gx (jx_0 L) d md_M_readInto 31 [o0, o1, o2, o3, o4, o5] [.inl 1, .inr (.inl 167)] I Q) : Gx (jx_0 L) d md_M_readInto 26 [o0, o1, o2, o3, o4, o5] [.inr (.inl 167)] I Q := by
  show jm_Go d 0 0 md_M_readInto 26 [o0, o1, o2, o3, o4, o5] [.inr (.inl 167)] (jx (jx_0 L) I) (jx_Q (jx_0 L) Q)
  have hd : jm_dc md_M_readInto.2.1 26 [(.iconst 1, 1), (.goto 4, 3)] = true := by decide +kernel
  refine go_iconst hd (fun hd => ?_)
  exact go_goto (by decide) hd k
theorem b_M_readInto_30 {L : Nat} {d : Nat} {I : jm_I} {Q : Option jm_V → jm_I → Prop} {o0 : Option jm_V} {o1 : Option jm_V} {o2 : Option jm_V} {o3 : Option jm_V} {o4 : Option jm_V} {o5 : Option jm_V}  (k : Gx (jx_0 L) d md_M_readInto 31 [o0, o1, o2, o3, o4, o5] [.inl 0, .inr (.inl 167)] I Q) : Gx (jx_0 L) d md_M_readInto 30 [o0, o1, o2, o3, o4, o5] [.inr (.inl 167)] I Q := by
  show jm_Go d 0 0 md_M_readInto 30 [o0, o1, o2, o3, o4, o5] [.inr (.inl 167)] (jx (jx_0 L) I) (jx_Q (jx_0 L) Q)
  have hd : jm_dc md_M_readInto.2.1 30 [(.iconst 0, 1)] = true := by decide +kernel
  refine go_iconst hd (fun hd => ?_)
  exact k
theorem b_M_readInto_31 {L : Nat} {d : Nat} {I : jm_I} {Q : Option jm_V → jm_I → Prop} {o0 : Option jm_V} {o1 : Option jm_V} {o2 : Option jm_V} {o3 : Option jm_V} {o4 : Option jm_V} {o5 : Option jm_V} {s1 : Int}  (k : Cx (jx_0 L) d md_M_must [.inr (.inl 167), .inl s1] I (fun v J => Gx (jx_0 L) (d + 1) md_M_readInto 34 [o0, o1, o2, o3, o4, o5] (v.toList ++ []) J Q)) : Gx (jx_0 L) (d + 1) md_M_readInto 31 [o0, o1, o2, o3, o4, o5] [.inl s1, .inr (.inl 167)] I Q := by
  show jm_Go (d + 1) 0 0 md_M_readInto 31 [o0, o1, o2, o3, o4, o5] [.inl s1, .inr (.inl 167)] (jx (jx_0 L) I) (jx_Q (jx_0 L) Q)
  have hd : jm_dc md_M_readInto.2.1 31 [(.invokevirtual 114, 3)] = true := by decide +kernel
  exact gx_virtual 167 9 [.inl s1] [] mk_M_must co_X9 rfl ml_9_114 in_M_must se_M_must rfl rfl (Nat.le_of_ble_eq_true rfl) rfl (Nat.le_of_ble_eq_true rfl) rfl hd k
theorem b_M_readInto_34 {L : Nat} {d : Nat} {I : jm_I} {Q : Option jm_V → jm_I → Prop} {o1 : Option jm_V} {o2 : Option jm_V} {o3 : Option jm_V} {o4 : Option jm_V} {o5 : Option jm_V}  (hz : (-2147483648 ≤ I 167 22 ∧ I 167 22 < 2147483648)) (kt : ¬ (I 167 22) = 0 → Gx (jx_0 L) d md_M_readInto 46 [some (.inr (.inl 167)), o1, o2, o3, o4, o5] [] I Q) (kf : (I 167 22) = 0 → Gx (jx_0 L) d md_M_readInto 41 [some (.inr (.inl 167)), o1, o2, o3, o4, o5] [] I Q) : Gx (jx_0 L) d md_M_readInto 34 [some (.inr (.inl 167)), o1, o2, o3, o4, o5] [] I Q := by
  have hz1 := hz
  show jm_Go d 0 0 md_M_readInto 34 [some (.inr (.inl 167)), o1, o2, o3, o4, o5] [] (jx (jx_0 L) I) (jx_Q (jx_0 L) Q)
  have hd : jm_dc md_M_readInto.2.1 34 [(.aload_n 0, 1), (.getfield 107, 3), (.ifCond .ne 8, 3)] = true := by decide +kernel
  refine go_aload_n rfl hd (fun hd => ?_)
  refine go_getI co_X9 fl_9_107 (by decide) (Or.inr rfl) rfl hd (fun hd => ?_)
  exact go_if_ne (by decide) hz1 hd kt kf
theorem b_M_readInto_41 {L : Nat} {d : Nat} {I : jm_I} {Q : Option jm_V → jm_I → Prop} {o0 : Option jm_V} {a1 na1 : Nat} {x2 : Int} {o3 : Option jm_V} {o4 : Option jm_V} {x5 : Int} (ha1 : (jx_0 L).2.1 a1 = (20, na1)) (hz : (0 ≤ x2 ∧ x2 < na1) ∧ (na1 < 2147483648)) (k : Gx (jx_0 L) d md_M_readInto 46 [o0, some (.inr (.inl a1)), some (.inl x2), o3, o4, some (.inl x5)] [] (jm_up I a1 (x2.toNat) x5) Q) : Gx (jx_0 L) d md_M_readInto 41 [o0, some (.inr (.inl a1)), some (.inl x2), o3, o4, some (.inl x5)] [] I Q := by
  obtain ⟨hz1, hz2⟩ := hz
  show jm_Go d 0 0 md_M_readInto 41 [o0, some (.inr (.inl a1)), some (.inl x2), o3, o4, some (.inl x5)] [] (jx (jx_0 L) I) (jx_Q (jx_0 L) Q)
  have hd : jm_dc md_M_readInto.2.1 41 [(.aload_n 1, 1), (.iload_n 2, 1), (.iload 5, 2), (.iastore, 1)] = true := by decide +kernel
  refine go_aload_n rfl hd (fun hd => ?_)
  refine go_iload_n rfl hd (fun hd => ?_)
  refine go_iload rfl hd (fun hd => ?_)
  refine go_iastore ha1 hz1.1 hz1.2 hz2 hd (fun hd => ?_)
  exact k
theorem b_M_readInto_46 {L : Nat} {d : Nat} {I : jm_I} {Q : Option jm_V → jm_I → Prop} {o0 : Option jm_V} {o1 : Option jm_V} {o2 : Option jm_V} {o3 : Option jm_V} {o4 : Option jm_V} {x5 : Int}  (k : Q (some (.inl x5)) I) : Gx (jx_0 L) d md_M_readInto 46 [o0, o1, o2, o3, o4, some (.inl x5)] [] I Q := by
  show jm_Go d 0 0 md_M_readInto 46 [o0, o1, o2, o3, o4, some (.inl x5)] [] (jx (jx_0 L) I) (jx_Q (jx_0 L) Q)
  have hd : jm_dc md_M_readInto.2.1 46 [(.iload 5, 2), (.ireturn, 1)] = true := by decide +kernel
  refine go_iload rfl hd (fun hd => ?_)
  exact go_ireturn hd rfl ⟨_, rfl, k⟩
theorem b_M_readSteps_0 {L : Nat} {d : Nat} {I : jm_I} {Q : Option jm_V → jm_I → Prop}   (hz : (-2147483648 ≤ I 167 24 ∧ I 167 24 < 2147483648)) (kt : ¬ (I 167 24) = 0 → Gx (jx_0 L) d md_M_readSteps 12 [some (.inr (.inl 167))] [.inr (.inl 167)] I Q) (kf : (I 167 24) = 0 → Gx (jx_0 L) d md_M_readSteps 8 [some (.inr (.inl 167))] [.inr (.inl 167)] I Q) : Cx (jx_0 L) d md_M_readSteps [.inr (.inl 167)] I Q := by
  have hz1 := hz
  show jm_Go d 0 0 md_M_readSteps 0 [some (.inr (.inl 167))] [] (jx (jx_0 L) I) (jx_Q (jx_0 L) Q)
  have hd : jm_dc md_M_readSteps.2.1 0 [(.aload_n 0, 1), (.aload_n 0, 1), (.getfield 122, 3), (.ifCond .ne 7, 3)] = true := by decide +kernel
  refine go_aload_n rfl hd (fun hd => ?_)
  refine go_aload_n rfl hd (fun hd => ?_)
  refine go_getI co_X9 fl_9_122 (by decide) (Or.inr rfl) rfl hd (fun hd => ?_)
  exact go_if_ne (by decide) hz1 hd kt kf
theorem b_M_readSteps_8 {L : Nat} {d : Nat} {I : jm_I} {Q : Option jm_V → jm_I → Prop} {o0 : Option jm_V}  (k : Gx (jx_0 L) d md_M_readSteps 13 [o0] [.inl 1, .inr (.inl 167)] I Q) : Gx (jx_0 L) d md_M_readSteps 8 [o0] [.inr (.inl 167)] I Q := by
  show jm_Go d 0 0 md_M_readSteps 8 [o0] [.inr (.inl 167)] (jx (jx_0 L) I) (jx_Q (jx_0 L) Q)
  have hd : jm_dc md_M_readSteps.2.1 8 [(.iconst 1, 1), (.goto 4, 3)] = true := by decide +kernel
  refine go_iconst hd (fun hd => ?_)
  exact go_goto (by decide) hd k
theorem b_M_readSteps_12 {L : Nat} {d : Nat} {I : jm_I} {Q : Option jm_V → jm_I → Prop} {o0 : Option jm_V}  (k : Gx (jx_0 L) d md_M_readSteps 13 [o0] [.inl 0, .inr (.inl 167)] I Q) : Gx (jx_0 L) d md_M_readSteps 12 [o0] [.inr (.inl 167)] I Q := by
  show jm_Go d 0 0 md_M_readSteps 12 [o0] [.inr (.inl 167)] (jx (jx_0 L) I) (jx_Q (jx_0 L) Q)
  have hd : jm_dc md_M_readSteps.2.1 12 [(.iconst 0, 1)] = true := by decide +kernel
  refine go_iconst hd (fun hd => ?_)
  exact k
theorem b_M_readSteps_13 {L : Nat} {d : Nat} {I : jm_I} {Q : Option jm_V → jm_I → Prop} {o0 : Option jm_V} {s1 : Int}  (k : Cx (jx_0 L) d md_M_must [.inr (.inl 167), .inl s1] I (fun v J => Gx (jx_0 L) (d + 1) md_M_readSteps 16 [o0] (v.toList ++ []) J Q)) : Gx (jx_0 L) (d + 1) md_M_readSteps 13 [o0] [.inl s1, .inr (.inl 167)] I Q := by
  show jm_Go (d + 1) 0 0 md_M_readSteps 13 [o0] [.inl s1, .inr (.inl 167)] (jx (jx_0 L) I) (jx_Q (jx_0 L) Q)
  have hd : jm_dc md_M_readSteps.2.1 13 [(.invokevirtual 114, 3)] = true := by decide +kernel
  exact gx_virtual 167 9 [.inl s1] [] mk_M_must co_X9 rfl ml_9_114 in_M_must se_M_must rfl rfl (Nat.le_of_ble_eq_true rfl) rfl (Nat.le_of_ble_eq_true rfl) rfl hd k
theorem b_M_readSteps_16 {L : Nat} {d : Nat} {I : jm_I} {Q : Option jm_V → jm_I → Prop}   (hz : (-2147483648 ≤ I 167 22 ∧ I 167 22 < 2147483648)) (kt : (I 167 22) = 0 → Gx (jx_0 L) d md_M_readSteps 24 [some (.inr (.inl 167))] [] I Q) (kf : ¬ (I 167 22) = 0 → Gx (jx_0 L) d md_M_readSteps 23 [some (.inr (.inl 167))] [] I Q) : Gx (jx_0 L) d md_M_readSteps 16 [some (.inr (.inl 167))] [] I Q := by
  have hz1 := hz
  show jm_Go d 0 0 md_M_readSteps 16 [some (.inr (.inl 167))] [] (jx (jx_0 L) I) (jx_Q (jx_0 L) Q)
  have hd : jm_dc md_M_readSteps.2.1 16 [(.aload_n 0, 1), (.getfield 107, 3), (.ifCond .eq 4, 3)] = true := by decide +kernel
  refine go_aload_n rfl hd (fun hd => ?_)
  refine go_getI co_X9 fl_9_107 (by decide) (Or.inr rfl) rfl hd (fun hd => ?_)
  exact go_if_eq (by decide) hz1 hd kt kf
theorem b_M_readSteps_23 {L : Nat} {d : Nat} {I : jm_I} {Q : Option jm_V → jm_I → Prop} {o0 : Option jm_V}  (k : Q none I) : Gx (jx_0 L) d md_M_readSteps 23 [o0] [] I Q := by
  show jm_Go d 0 0 md_M_readSteps 23 [o0] [] (jx (jx_0 L) I) (jx_Q (jx_0 L) Q)
  have hd : jm_dc md_M_readSteps.2.1 23 [(.return_, 1)] = true := by decide +kernel
  exact go_vreturn hd rfl ⟨_, rfl, k⟩
theorem b_M_readSteps_24 {L : Nat} {d : Nat} {I : jm_I} {Q : Option jm_V → jm_I → Prop}   (k : Cx (jx_0 L) d md_M_readInto [.inr (.inl 167), .inr (.inl 177), .inl 1, .inl 1, .inl 20] I (fun v J => Gx (jx_0 L) (d + 1) md_M_readSteps 36 [some (.inr (.inl 167))] (v.toList ++ []) J Q)) : Gx (jx_0 L) (d + 1) md_M_readSteps 24 [some (.inr (.inl 167))] [] I Q := by
  show jm_Go (d + 1) 0 0 md_M_readSteps 24 [some (.inr (.inl 167))] [] (jx (jx_0 L) I) (jx_Q (jx_0 L) Q)
  have hd : jm_dc md_M_readSteps.2.1 24 [(.aload_n 0, 1), (.aload_n 0, 1), (.getfield 45, 3), (.iconst 1, 1), (.iconst 1, 1), (.bipush 20, 2), (.invokevirtual 118, 3)] = true := by decide +kernel
  refine go_aload_n rfl hd (fun hd => ?_)
  refine go_aload_n rfl hd (fun hd => ?_)
  refine go_getR co_X9 fl_9_45 (by decide) rfl rfl rfl hd (fun hd => ?_)
  refine go_iconst hd (fun hd => ?_)
  refine go_iconst hd (fun hd => ?_)
  refine go_bipush (by decide) hd (fun hd => ?_)
  exact gx_virtual 167 9 [.inr (.inl 177), .inl 1, .inl 1, .inl 20] [] mk_M_readInto co_X9 rfl ml_9_118 in_M_readInto se_M_readInto rfl rfl (Nat.le_of_ble_eq_true rfl) rfl (Nat.le_of_ble_eq_true rfl) rfl hd k
theorem b_M_readSteps_36 {L : Nat} {d : Nat} {I : jm_I} {Q : Option jm_V → jm_I → Prop} {s0 : Int}  (hz : (-2147483648 ≤ I 167 20 ∧ I 167 20 < 2147483648)) (kt : ¬ (I 167 20) = 3 → Gx (jx_0 L) d md_M_readSteps 50 [some (.inr (.inl 167))] [.inr (.inl 167)] I Q) (kf : (I 167 20) = 3 → Gx (jx_0 L) d md_M_readSteps 46 [some (.inr (.inl 167))] [.inr (.inl 167)] I Q) : Gx (jx_0 L) d md_M_readSteps 36 [some (.inr (.inl 167))] [.inl s0] I Q := by
  have hz1 := hz
  show jm_Go d 0 0 md_M_readSteps 36 [some (.inr (.inl 167))] [.inl s0] (jx (jx_0 L) I) (jx_Q (jx_0 L) Q)
  have hd : jm_dc md_M_readSteps.2.1 36 [(.pop, 1), (.aload_n 0, 1), (.aload_n 0, 1), (.getfield 101, 3), (.iconst 3, 1), (.if_icmp .ne 7, 3)] = true := by decide +kernel
  refine go_pop rfl hd (fun hd => ?_)
  refine go_aload_n rfl hd (fun hd => ?_)
  refine go_aload_n rfl hd (fun hd => ?_)
  refine go_getI co_X9 fl_9_101 (by decide) (Or.inl rfl) rfl hd (fun hd => ?_)
  refine go_iconst hd (fun hd => ?_)
  exact go_icmp_ne (by decide) hz1 ⟨by decide, by decide⟩ hd kt kf
theorem b_M_readSteps_46 {L : Nat} {d : Nat} {I : jm_I} {Q : Option jm_V → jm_I → Prop} {o0 : Option jm_V}  (k : Gx (jx_0 L) d md_M_readSteps 51 [o0] [.inl 1, .inr (.inl 167)] I Q) : Gx (jx_0 L) d md_M_readSteps 46 [o0] [.inr (.inl 167)] I Q := by
  show jm_Go d 0 0 md_M_readSteps 46 [o0] [.inr (.inl 167)] (jx (jx_0 L) I) (jx_Q (jx_0 L) Q)
  have hd : jm_dc md_M_readSteps.2.1 46 [(.iconst 1, 1), (.goto 4, 3)] = true := by decide +kernel
  refine go_iconst hd (fun hd => ?_)
  exact go_goto (by decide) hd k
theorem b_M_readSteps_50 {L : Nat} {d : Nat} {I : jm_I} {Q : Option jm_V → jm_I → Prop} {o0 : Option jm_V}  (k : Gx (jx_0 L) d md_M_readSteps 51 [o0] [.inl 0, .inr (.inl 167)] I Q) : Gx (jx_0 L) d md_M_readSteps 50 [o0] [.inr (.inl 167)] I Q := by
  show jm_Go d 0 0 md_M_readSteps 50 [o0] [.inr (.inl 167)] (jx (jx_0 L) I) (jx_Q (jx_0 L) Q)
  have hd : jm_dc md_M_readSteps.2.1 50 [(.iconst 0, 1)] = true := by decide +kernel
  refine go_iconst hd (fun hd => ?_)
  exact k
theorem b_M_readSteps_51 {L : Nat} {d : Nat} {I : jm_I} {Q : Option jm_V → jm_I → Prop} {o0 : Option jm_V} {s1 : Int}  (k : Cx (jx_0 L) d md_M_must [.inr (.inl 167), .inl s1] I (fun v J => Gx (jx_0 L) (d + 1) md_M_readSteps 54 [o0] (v.toList ++ []) J Q)) : Gx (jx_0 L) (d + 1) md_M_readSteps 51 [o0] [.inl s1, .inr (.inl 167)] I Q := by
  show jm_Go (d + 1) 0 0 md_M_readSteps 51 [o0] [.inl s1, .inr (.inl 167)] (jx (jx_0 L) I) (jx_Q (jx_0 L) Q)
  have hd : jm_dc md_M_readSteps.2.1 51 [(.invokevirtual 114, 3)] = true := by decide +kernel
  exact gx_virtual 167 9 [.inl s1] [] mk_M_must co_X9 rfl ml_9_114 in_M_must se_M_must rfl rfl (Nat.le_of_ble_eq_true rfl) rfl (Nat.le_of_ble_eq_true rfl) rfl hd k
theorem b_M_readSteps_54 {L : Nat} {d : Nat} {I : jm_I} {Q : Option jm_V → jm_I → Prop}   (k : Q none (jm_up I 167 24 1)) : Gx (jx_0 L) d md_M_readSteps 54 [some (.inr (.inl 167))] [] I Q := by
  show jm_Go d 0 0 md_M_readSteps 54 [some (.inr (.inl 167))] [] (jx (jx_0 L) I) (jx_Q (jx_0 L) Q)
  have hd : jm_dc md_M_readSteps.2.1 54 [(.aload_n 0, 1), (.iconst 1, 1), (.putfield 122, 3), (.return_, 1)] = true := by decide +kernel
  refine go_aload_n rfl hd (fun hd => ?_)
  refine go_iconst hd (fun hd => ?_)
  refine go_putZ co_X9 fl_9_122 (by decide) rfl rfl (Or.inr rfl) hd (fun hd => ?_)
  exact go_vreturn hd rfl ⟨_, rfl, k⟩
theorem b_M_readDoor_0 {L : Nat} {d : Nat} {I : jm_I} {Q : Option jm_V → jm_I → Prop}   (hz : (-2147483648 ≤ I 167 25 ∧ I 167 25 < 2147483648)) (kt : 8 ≤ (I 167 25) → Gx (jx_0 L) d md_M_readDoor 14 [some (.inr (.inl 167)), none, none, none] [.inr (.inl 167)] I Q) (kf : ¬ (8 ≤ (I 167 25)) → Gx (jx_0 L) d md_M_readDoor 10 [some (.inr (.inl 167)), none, none, none] [.inr (.inl 167)] I Q) : Cx (jx_0 L) d md_M_readDoor [.inr (.inl 167)] I Q := by
  have hz1 := hz
  show jm_Go d 0 0 md_M_readDoor 0 [some (.inr (.inl 167)), none, none, none] [] (jx (jx_0 L) I) (jx_Q (jx_0 L) Q)
  have hd : jm_dc md_M_readDoor.2.1 0 [(.aload_n 0, 1), (.aload_n 0, 1), (.getfield 125, 3), (.bipush 8, 2), (.if_icmp .ge 7, 3)] = true := by decide +kernel
  refine go_aload_n rfl hd (fun hd => ?_)
  refine go_aload_n rfl hd (fun hd => ?_)
  refine go_getI co_X9 fl_9_125 (by decide) (Or.inl rfl) rfl hd (fun hd => ?_)
  refine go_bipush (by decide) hd (fun hd => ?_)
  exact go_icmp_ge (by decide) hz1 ⟨by decide, by decide⟩ hd kt kf
theorem b_M_readDoor_10 {L : Nat} {d : Nat} {I : jm_I} {Q : Option jm_V → jm_I → Prop} {o0 : Option jm_V} {o1 : Option jm_V} {o2 : Option jm_V} {o3 : Option jm_V}  (k : Gx (jx_0 L) d md_M_readDoor 15 [o0, o1, o2, o3] [.inl 1, .inr (.inl 167)] I Q) : Gx (jx_0 L) d md_M_readDoor 10 [o0, o1, o2, o3] [.inr (.inl 167)] I Q := by
  show jm_Go d 0 0 md_M_readDoor 10 [o0, o1, o2, o3] [.inr (.inl 167)] (jx (jx_0 L) I) (jx_Q (jx_0 L) Q)
  have hd : jm_dc md_M_readDoor.2.1 10 [(.iconst 1, 1), (.goto 4, 3)] = true := by decide +kernel
  refine go_iconst hd (fun hd => ?_)
  exact go_goto (by decide) hd k
theorem b_M_readDoor_14 {L : Nat} {d : Nat} {I : jm_I} {Q : Option jm_V → jm_I → Prop} {o0 : Option jm_V} {o1 : Option jm_V} {o2 : Option jm_V} {o3 : Option jm_V}  (k : Gx (jx_0 L) d md_M_readDoor 15 [o0, o1, o2, o3] [.inl 0, .inr (.inl 167)] I Q) : Gx (jx_0 L) d md_M_readDoor 14 [o0, o1, o2, o3] [.inr (.inl 167)] I Q := by
  show jm_Go d 0 0 md_M_readDoor 14 [o0, o1, o2, o3] [.inr (.inl 167)] (jx (jx_0 L) I) (jx_Q (jx_0 L) Q)
  have hd : jm_dc md_M_readDoor.2.1 14 [(.iconst 0, 1)] = true := by decide +kernel
  refine go_iconst hd (fun hd => ?_)
  exact k
theorem b_M_readDoor_15 {L : Nat} {d : Nat} {I : jm_I} {Q : Option jm_V → jm_I → Prop} {o0 : Option jm_V} {o1 : Option jm_V} {o2 : Option jm_V} {o3 : Option jm_V} {s1 : Int}  (k : Cx (jx_0 L) d md_M_must [.inr (.inl 167), .inl s1] I (fun v J => Gx (jx_0 L) (d + 1) md_M_readDoor 18 [o0, o1, o2, o3] (v.toList ++ []) J Q)) : Gx (jx_0 L) (d + 1) md_M_readDoor 15 [o0, o1, o2, o3] [.inl s1, .inr (.inl 167)] I Q := by
  show jm_Go (d + 1) 0 0 md_M_readDoor 15 [o0, o1, o2, o3] [.inl s1, .inr (.inl 167)] (jx (jx_0 L) I) (jx_Q (jx_0 L) Q)
  have hd : jm_dc md_M_readDoor.2.1 15 [(.invokevirtual 114, 3)] = true := by decide +kernel
  exact gx_virtual 167 9 [.inl s1] [] mk_M_must co_X9 rfl ml_9_114 in_M_must se_M_must rfl rfl (Nat.le_of_ble_eq_true rfl) rfl (Nat.le_of_ble_eq_true rfl) rfl hd k
theorem b_M_readDoor_18 {L : Nat} {d : Nat} {I : jm_I} {Q : Option jm_V → jm_I → Prop} {o1 : Option jm_V} {o2 : Option jm_V} {o3 : Option jm_V}  (hz : (-2147483648 ≤ I 167 22 ∧ I 167 22 < 2147483648)) (kt : (I 167 22) = 0 → Gx (jx_0 L) d md_M_readDoor 26 [some (.inr (.inl 167)), o1, o2, o3] [] I Q) (kf : ¬ (I 167 22) = 0 → Gx (jx_0 L) d md_M_readDoor 25 [some (.inr (.inl 167)), o1, o2, o3] [] I Q) : Gx (jx_0 L) d md_M_readDoor 18 [some (.inr (.inl 167)), o1, o2, o3] [] I Q := by
  have hz1 := hz
  show jm_Go d 0 0 md_M_readDoor 18 [some (.inr (.inl 167)), o1, o2, o3] [] (jx (jx_0 L) I) (jx_Q (jx_0 L) Q)
  have hd : jm_dc md_M_readDoor.2.1 18 [(.aload_n 0, 1), (.getfield 107, 3), (.ifCond .eq 4, 3)] = true := by decide +kernel
  refine go_aload_n rfl hd (fun hd => ?_)
  refine go_getI co_X9 fl_9_107 (by decide) (Or.inr rfl) rfl hd (fun hd => ?_)
  exact go_if_eq (by decide) hz1 hd kt kf
theorem b_M_readDoor_25 {L : Nat} {d : Nat} {I : jm_I} {Q : Option jm_V → jm_I → Prop} {o0 : Option jm_V} {o1 : Option jm_V} {o2 : Option jm_V} {o3 : Option jm_V}  (k : Q none I) : Gx (jx_0 L) d md_M_readDoor 25 [o0, o1, o2, o3] [] I Q := by
  show jm_Go d 0 0 md_M_readDoor 25 [o0, o1, o2, o3] [] (jx (jx_0 L) I) (jx_Q (jx_0 L) Q)
  have hd : jm_dc md_M_readDoor.2.1 25 [(.return_, 1)] = true := by decide +kernel
  exact go_vreturn hd rfl ⟨_, rfl, k⟩
theorem b_M_readDoor_26 {L : Nat} {d : Nat} {I : jm_I} {Q : Option jm_V → jm_I → Prop} {o1 : Option jm_V} {o2 : Option jm_V} {o3 : Option jm_V}  (k : Cx (jx_0 L) d md_M_readInto [.inr (.inl 167), .inr (.inl 178), .inl (3 * (I 167 25)), .inl 0, .inl ((I 177 0) - 1)] I (fun v J => Gx (jx_0 L) (d + 1) md_M_readDoor 51 [some (.inr (.inl 167)), some (.inl (3 * (I 167 25))), o2, o3] (v.toList ++ []) J Q)) : Gx (jx_0 L) (d + 1) md_M_readDoor 26 [some (.inr (.inl 167)), o1, o2, o3] [] I Q := by
  show jm_Go (d + 1) 0 0 md_M_readDoor 26 [some (.inr (.inl 167)), o1, o2, o3] [] (jx (jx_0 L) I) (jx_Q (jx_0 L) Q)
  have hd : jm_dc md_M_readDoor.2.1 26 [(.iconst 3, 1), (.aload_n 0, 1), (.getfield 125, 3), (.imul, 1), (.istore_n 1, 1), (.aload_n 0, 1), (.aload_n 0, 1), (.getfield 48, 3), (.iload_n 1, 1), (.iconst 0, 1), (.aload_n 0, 1), (.getfield 45, 3), (.iconst 0, 1), (.iaload, 1), (.iconst 1, 1), (.isub, 1), (.invokevirtual 118, 3)] = true := by decide +kernel
  refine go_iconst hd (fun hd => ?_)
  refine go_aload_n rfl hd (fun hd => ?_)
  refine go_getI co_X9 fl_9_125 (by decide) (Or.inl rfl) rfl hd (fun hd => ?_)
  refine go_imul hd (fun hd => ?_)
  refine go_istore_n (by decide) hd (fun hd => ?_)
  refine go_aload_n rfl hd (fun hd => ?_)
  refine go_aload_n rfl hd (fun hd => ?_)
  refine go_getR co_X9 fl_9_48 (by decide) rfl rfl rfl hd (fun hd => ?_)
  refine go_iload_n rfl hd (fun hd => ?_)
  refine go_iconst hd (fun hd => ?_)
  refine go_aload_n rfl hd (fun hd => ?_)
  refine go_getR co_X9 fl_9_45 (by decide) rfl rfl rfl hd (fun hd => ?_)
  refine go_iconst hd (fun hd => ?_)
  refine go_iaload rfl (by decide) (by decide) (by decide) hd (fun hd => ?_)
  refine go_iconst hd (fun hd => ?_)
  refine go_isub hd (fun hd => ?_)
  exact gx_virtual 167 9 [.inr (.inl 178), .inl (3 * (I 167 25)), .inl 0, .inl ((I 177 0) - 1)] [] mk_M_readInto co_X9 rfl ml_9_118 in_M_readInto se_M_readInto rfl rfl (Nat.le_of_ble_eq_true rfl) rfl (Nat.le_of_ble_eq_true rfl) rfl hd k
theorem b_M_readDoor_51 {L : Nat} {d : Nat} {I : jm_I} {Q : Option jm_V → jm_I → Prop} {o1 : Option jm_V} {o2 : Option jm_V} {o3 : Option jm_V} {s0 : Int}  (hz : (-2147483648 ≤ I 167 20 ∧ I 167 20 < 2147483648)) (kt : ¬ (I 167 20) = 2 → Gx (jx_0 L) d md_M_readDoor 91 [some (.inr (.inl 167)), o1, some (.inl s0), some (.inl (I 167 21))] [.inr (.inl 167)] I Q) (kf : (I 167 20) = 2 → Gx (jx_0 L) d md_M_readDoor 66 [some (.inr (.inl 167)), o1, some (.inl s0), some (.inl (I 167 21))] [.inr (.inl 167)] I Q) : Gx (jx_0 L) d md_M_readDoor 51 [some (.inr (.inl 167)), o1, o2, o3] [.inl s0] I Q := by
  have hz1 := hz
  show jm_Go d 0 0 md_M_readDoor 51 [some (.inr (.inl 167)), o1, o2, o3] [.inl s0] (jx (jx_0 L) I) (jx_Q (jx_0 L) Q)
  have hd : jm_dc md_M_readDoor.2.1 51 [(.istore_n 2, 1), (.aload_n 0, 1), (.getfield 104, 3), (.istore_n 3, 1), (.aload_n 0, 1), (.aload_n 0, 1), (.getfield 101, 3), (.iconst 2, 1), (.if_icmp .ne 28, 3)] = true := by decide +kernel
  refine go_istore_n (by decide) hd (fun hd => ?_)
  refine go_aload_n rfl hd (fun hd => ?_)
  refine go_getI co_X9 fl_9_104 (by decide) (Or.inl rfl) rfl hd (fun hd => ?_)
  refine go_istore_n (by decide) hd (fun hd => ?_)
  refine go_aload_n rfl hd (fun hd => ?_)
  refine go_aload_n rfl hd (fun hd => ?_)
  refine go_getI co_X9 fl_9_101 (by decide) (Or.inl rfl) rfl hd (fun hd => ?_)
  refine go_iconst hd (fun hd => ?_)
  exact go_icmp_ne (by decide) hz1 ⟨by decide, by decide⟩ hd kt kf
theorem b_M_readDoor_66 {L : Nat} {d : Nat} {I : jm_I} {Q : Option jm_V → jm_I → Prop} {o1 : Option jm_V} {o2 : Option jm_V} {x3 : Int}  (k : Cx (jx_0 L) d md_M_in [.inl x3, .inl 0, .inl ((I 177 0) - 1)] I (fun v J => Gx (jx_0 L) (d + 1) md_M_readDoor 79 [some (.inr (.inl 167)), o1, o2, some (.inl x3)] (v.toList ++ [.inr (.inl 167)]) J Q)) : Gx (jx_0 L) (d + 1) md_M_readDoor 66 [some (.inr (.inl 167)), o1, o2, some (.inl x3)] [.inr (.inl 167)] I Q := by
  show jm_Go (d + 1) 0 0 md_M_readDoor 66 [some (.inr (.inl 167)), o1, o2, some (.inl x3)] [.inr (.inl 167)] (jx (jx_0 L) I) (jx_Q (jx_0 L) Q)
  have hd : jm_dc md_M_readDoor.2.1 66 [(.iload_n 3, 1), (.iconst 0, 1), (.aload_n 0, 1), (.getfield 45, 3), (.iconst 0, 1), (.iaload, 1), (.iconst 1, 1), (.isub, 1), (.invokestatic 78, 3)] = true := by decide +kernel
  refine go_iload_n rfl hd (fun hd => ?_)
  refine go_iconst hd (fun hd => ?_)
  refine go_aload_n rfl hd (fun hd => ?_)
  refine go_getR co_X9 fl_9_45 (by decide) rfl rfl rfl hd (fun hd => ?_)
  refine go_iconst hd (fun hd => ?_)
  refine go_iaload rfl (by decide) (by decide) (by decide) hd (fun hd => ?_)
  refine go_iconst hd (fun hd => ?_)
  refine go_isub hd (fun hd => ?_)
  exact gx_static [.inl x3, .inl 0, .inl ((I 177 0) - 1)] [.inr (.inl 167)] mk_M_in ml_9_78 st_M_in rfl (Nat.le_of_ble_eq_true rfl) rfl (Nat.le_of_ble_eq_true rfl) rfl hd k
theorem b_M_readDoor_79 {L : Nat} {d : Nat} {I : jm_I} {Q : Option jm_V → jm_I → Prop} {o0 : Option jm_V} {o1 : Option jm_V} {o2 : Option jm_V} {o3 : Option jm_V} {s1 : Int}  (hz : (-2147483648 ≤ s1 ∧ s1 < 2147483648)) (kt : s1 = 0 → Gx (jx_0 L) d md_M_readDoor 91 [o0, o1, o2, o3] [.inr (.inl 167)] I Q) (kf : ¬ s1 = 0 → Gx (jx_0 L) d md_M_readDoor 82 [o0, o1, o2, o3] [.inr (.inl 167)] I Q) : Gx (jx_0 L) d md_M_readDoor 79 [o0, o1, o2, o3] [.inl s1, .inr (.inl 167)] I Q := by
  have hz1 := hz
  show jm_Go d 0 0 md_M_readDoor 79 [o0, o1, o2, o3] [.inl s1, .inr (.inl 167)] (jx (jx_0 L) I) (jx_Q (jx_0 L) Q)
  have hd : jm_dc md_M_readDoor.2.1 79 [(.ifCond .eq 12, 3)] = true := by decide +kernel
  exact go_if_eq (by decide) hz1 hd kt kf
theorem b_M_readDoor_82 {L : Nat} {d : Nat} {I : jm_I} {Q : Option jm_V → jm_I → Prop} {o0 : Option jm_V} {o1 : Option jm_V} {x2 : Int} {x3 : Int}  (hz : (-2147483648 ≤ x3 ∧ x3 < 2147483648) ∧ (-2147483648 ≤ x2 ∧ x2 < 2147483648)) (kt : x3 = x2 → Gx (jx_0 L) d md_M_readDoor 91 [o0, o1, some (.inl x2), some (.inl x3)] [.inr (.inl 167)] I Q) (kf : ¬ x3 = x2 → Gx (jx_0 L) d md_M_readDoor 87 [o0, o1, some (.inl x2), some (.inl x3)] [.inr (.inl 167)] I Q) : Gx (jx_0 L) d md_M_readDoor 82 [o0, o1, some (.inl x2), some (.inl x3)] [.inr (.inl 167)] I Q := by
  obtain ⟨hz1, hz2⟩ := hz
  show jm_Go d 0 0 md_M_readDoor 82 [o0, o1, some (.inl x2), some (.inl x3)] [.inr (.inl 167)] (jx (jx_0 L) I) (jx_Q (jx_0 L) Q)
  have hd : jm_dc md_M_readDoor.2.1 82 [(.iload_n 3, 1), (.iload_n 2, 1), (.if_icmp .eq 7, 3)] = true := by decide +kernel
  refine go_iload_n rfl hd (fun hd => ?_)
  refine go_iload_n rfl hd (fun hd => ?_)
  exact go_icmp_eq (by decide) hz1 hz2 hd kt kf
theorem b_M_readDoor_87 {L : Nat} {d : Nat} {I : jm_I} {Q : Option jm_V → jm_I → Prop} {o0 : Option jm_V} {o1 : Option jm_V} {o2 : Option jm_V} {o3 : Option jm_V}  (k : Gx (jx_0 L) d md_M_readDoor 92 [o0, o1, o2, o3] [.inl 1, .inr (.inl 167)] I Q) : Gx (jx_0 L) d md_M_readDoor 87 [o0, o1, o2, o3] [.inr (.inl 167)] I Q := by
  show jm_Go d 0 0 md_M_readDoor 87 [o0, o1, o2, o3] [.inr (.inl 167)] (jx (jx_0 L) I) (jx_Q (jx_0 L) Q)
  have hd : jm_dc md_M_readDoor.2.1 87 [(.iconst 1, 1), (.goto 4, 3)] = true := by decide +kernel
  refine go_iconst hd (fun hd => ?_)
  exact go_goto (by decide) hd k
theorem b_M_readDoor_91 {L : Nat} {d : Nat} {I : jm_I} {Q : Option jm_V → jm_I → Prop} {o0 : Option jm_V} {o1 : Option jm_V} {o2 : Option jm_V} {o3 : Option jm_V}  (k : Gx (jx_0 L) d md_M_readDoor 92 [o0, o1, o2, o3] [.inl 0, .inr (.inl 167)] I Q) : Gx (jx_0 L) d md_M_readDoor 91 [o0, o1, o2, o3] [.inr (.inl 167)] I Q := by
  show jm_Go d 0 0 md_M_readDoor 91 [o0, o1, o2, o3] [.inr (.inl 167)] (jx (jx_0 L) I) (jx_Q (jx_0 L) Q)
  have hd : jm_dc md_M_readDoor.2.1 91 [(.iconst 0, 1)] = true := by decide +kernel
  refine go_iconst hd (fun hd => ?_)
  exact k
theorem b_M_readDoor_92 {L : Nat} {d : Nat} {I : jm_I} {Q : Option jm_V → jm_I → Prop} {o0 : Option jm_V} {o1 : Option jm_V} {o2 : Option jm_V} {o3 : Option jm_V} {s1 : Int}  (k : Cx (jx_0 L) d md_M_must [.inr (.inl 167), .inl s1] I (fun v J => Gx (jx_0 L) (d + 1) md_M_readDoor 95 [o0, o1, o2, o3] (v.toList ++ []) J Q)) : Gx (jx_0 L) (d + 1) md_M_readDoor 92 [o0, o1, o2, o3] [.inl s1, .inr (.inl 167)] I Q := by
  show jm_Go (d + 1) 0 0 md_M_readDoor 92 [o0, o1, o2, o3] [.inl s1, .inr (.inl 167)] (jx (jx_0 L) I) (jx_Q (jx_0 L) Q)
  have hd : jm_dc md_M_readDoor.2.1 92 [(.invokevirtual 114, 3)] = true := by decide +kernel
  exact gx_virtual 167 9 [.inl s1] [] mk_M_must co_X9 rfl ml_9_114 in_M_must se_M_must rfl rfl (Nat.le_of_ble_eq_true rfl) rfl (Nat.le_of_ble_eq_true rfl) rfl hd k
theorem b_M_readDoor_95 {L : Nat} {d : Nat} {I : jm_I} {Q : Option jm_V → jm_I → Prop} {x1 : Int} {o2 : Option jm_V} {x3 : Int}  (hz : (0 ≤ x1 + 1 ∧ x1 + 1 < 24)) (k : Cx (jx_0 L) d md_M_readInto [.inr (.inl 167), .inr (.inl 178), .inl (x1 + 2), .inl 0, .inl 1] (jm_up I 178 ((x1 + 1).toNat) x3) (fun v J => Gx (jx_0 L) (d + 1) md_M_readDoor 117 [some (.inr (.inl 167)), some (.inl x1), o2, some (.inl x3)] (v.toList ++ []) J Q)) : Gx (jx_0 L) (d + 1) md_M_readDoor 95 [some (.inr (.inl 167)), some (.inl x1), o2, some (.inl x3)] [] I Q := by
  have hz1 := hz
  show jm_Go (d + 1) 0 0 md_M_readDoor 95 [some (.inr (.inl 167)), some (.inl x1), o2, some (.inl x3)] [] (jx (jx_0 L) I) (jx_Q (jx_0 L) Q)
  have hd : jm_dc md_M_readDoor.2.1 95 [(.aload_n 0, 1), (.getfield 48, 3), (.iload_n 1, 1), (.iconst 1, 1), (.iadd, 1), (.iload_n 3, 1), (.iastore, 1), (.aload_n 0, 1), (.aload_n 0, 1), (.getfield 48, 3), (.iload_n 1, 1), (.iconst 2, 1), (.iadd, 1), (.iconst 0, 1), (.iconst 1, 1), (.invokevirtual 118, 3)] = true := by decide +kernel
  refine go_aload_n rfl hd (fun hd => ?_)
  refine go_getR co_X9 fl_9_48 (by decide) rfl rfl rfl hd (fun hd => ?_)
  refine go_iload_n rfl hd (fun hd => ?_)
  refine go_iconst hd (fun hd => ?_)
  refine go_iadd hd (fun hd => ?_)
  refine go_iload_n rfl hd (fun hd => ?_)
  refine go_iastore rfl hz1.1 hz1.2 (by decide) hd (fun hd => ?_)
  refine go_aload_n rfl hd (fun hd => ?_)
  refine go_aload_n rfl hd (fun hd => ?_)
  refine go_getR co_X9 fl_9_48 (by decide) rfl rfl rfl hd (fun hd => ?_)
  refine go_iload_n rfl hd (fun hd => ?_)
  refine go_iconst hd (fun hd => ?_)
  refine go_iadd hd (fun hd => ?_)
  refine go_iconst hd (fun hd => ?_)
  refine go_iconst hd (fun hd => ?_)
  exact gx_virtual 167 9 [.inr (.inl 178), .inl (x1 + 2), .inl 0, .inl 1] [] mk_M_readInto co_X9 rfl ml_9_118 in_M_readInto se_M_readInto rfl rfl (Nat.le_of_ble_eq_true rfl) rfl (Nat.le_of_ble_eq_true rfl) rfl hd k
theorem b_M_readDoor_117 {L : Nat} {d : Nat} {I : jm_I} {Q : Option jm_V → jm_I → Prop} {o1 : Option jm_V} {o2 : Option jm_V} {o3 : Option jm_V} {s0 : Int}  (hz : (-2147483648 ≤ I 167 20 ∧ I 167 20 < 2147483648)) (kt : ¬ (I 167 20) = 3 → Gx (jx_0 L) d md_M_readDoor 131 [some (.inr (.inl 167)), o1, o2, o3] [.inr (.inl 167)] I Q) (kf : (I 167 20) = 3 → Gx (jx_0 L) d md_M_readDoor 127 [some (.inr (.inl 167)), o1, o2, o3] [.inr (.inl 167)] I Q) : Gx (jx_0 L) d md_M_readDoor 117 [some (.inr (.inl 167)), o1, o2, o3] [.inl s0] I Q := by
  have hz1 := hz
  show jm_Go d 0 0 md_M_readDoor 117 [some (.inr (.inl 167)), o1, o2, o3] [.inl s0] (jx (jx_0 L) I) (jx_Q (jx_0 L) Q)
  have hd : jm_dc md_M_readDoor.2.1 117 [(.pop, 1), (.aload_n 0, 1), (.aload_n 0, 1), (.getfield 101, 3), (.iconst 3, 1), (.if_icmp .ne 7, 3)] = true := by decide +kernel
  refine go_pop rfl hd (fun hd => ?_)
  refine go_aload_n rfl hd (fun hd => ?_)
  refine go_aload_n rfl hd (fun hd => ?_)
  refine go_getI co_X9 fl_9_101 (by decide) (Or.inl rfl) rfl hd (fun hd => ?_)
  refine go_iconst hd (fun hd => ?_)
  exact go_icmp_ne (by decide) hz1 ⟨by decide, by decide⟩ hd kt kf
theorem b_M_readDoor_127 {L : Nat} {d : Nat} {I : jm_I} {Q : Option jm_V → jm_I → Prop} {o0 : Option jm_V} {o1 : Option jm_V} {o2 : Option jm_V} {o3 : Option jm_V}  (k : Gx (jx_0 L) d md_M_readDoor 132 [o0, o1, o2, o3] [.inl 1, .inr (.inl 167)] I Q) : Gx (jx_0 L) d md_M_readDoor 127 [o0, o1, o2, o3] [.inr (.inl 167)] I Q := by
  show jm_Go d 0 0 md_M_readDoor 127 [o0, o1, o2, o3] [.inr (.inl 167)] (jx (jx_0 L) I) (jx_Q (jx_0 L) Q)
  have hd : jm_dc md_M_readDoor.2.1 127 [(.iconst 1, 1), (.goto 4, 3)] = true := by decide +kernel
  refine go_iconst hd (fun hd => ?_)
  exact go_goto (by decide) hd k
theorem b_M_readDoor_131 {L : Nat} {d : Nat} {I : jm_I} {Q : Option jm_V → jm_I → Prop} {o0 : Option jm_V} {o1 : Option jm_V} {o2 : Option jm_V} {o3 : Option jm_V}  (k : Gx (jx_0 L) d md_M_readDoor 132 [o0, o1, o2, o3] [.inl 0, .inr (.inl 167)] I Q) : Gx (jx_0 L) d md_M_readDoor 131 [o0, o1, o2, o3] [.inr (.inl 167)] I Q := by
  show jm_Go d 0 0 md_M_readDoor 131 [o0, o1, o2, o3] [.inr (.inl 167)] (jx (jx_0 L) I) (jx_Q (jx_0 L) Q)
  have hd : jm_dc md_M_readDoor.2.1 131 [(.iconst 0, 1)] = true := by decide +kernel
  refine go_iconst hd (fun hd => ?_)
  exact k
theorem b_M_readDoor_132 {L : Nat} {d : Nat} {I : jm_I} {Q : Option jm_V → jm_I → Prop} {o0 : Option jm_V} {o1 : Option jm_V} {o2 : Option jm_V} {o3 : Option jm_V} {s1 : Int}  (k : Cx (jx_0 L) d md_M_must [.inr (.inl 167), .inl s1] I (fun v J => Gx (jx_0 L) (d + 1) md_M_readDoor 135 [o0, o1, o2, o3] (v.toList ++ []) J Q)) : Gx (jx_0 L) (d + 1) md_M_readDoor 132 [o0, o1, o2, o3] [.inl s1, .inr (.inl 167)] I Q := by
  show jm_Go (d + 1) 0 0 md_M_readDoor 132 [o0, o1, o2, o3] [.inl s1, .inr (.inl 167)] (jx (jx_0 L) I) (jx_Q (jx_0 L) Q)
  have hd : jm_dc md_M_readDoor.2.1 132 [(.invokevirtual 114, 3)] = true := by decide +kernel
  exact gx_virtual 167 9 [.inl s1] [] mk_M_must co_X9 rfl ml_9_114 in_M_must se_M_must rfl rfl (Nat.le_of_ble_eq_true rfl) rfl (Nat.le_of_ble_eq_true rfl) rfl hd k
theorem b_M_readDoor_135 {L : Nat} {d : Nat} {I : jm_I} {Q : Option jm_V → jm_I → Prop} {o1 : Option jm_V} {o2 : Option jm_V} {o3 : Option jm_V}  (k : Q none (jm_up I 167 25 ((I 167 25) + 1))) : Gx (jx_0 L) d md_M_readDoor 135 [some (.inr (.inl 167)), o1, o2, o3] [] I Q := by
  show jm_Go d 0 0 md_M_readDoor 135 [some (.inr (.inl 167)), o1, o2, o3] [] (jx (jx_0 L) I) (jx_Q (jx_0 L) Q)
  have hd : jm_dc md_M_readDoor.2.1 135 [(.aload_n 0, 1), (.dup, 1), (.getfield 125, 3), (.iconst 1, 1), (.iadd, 1), (.putfield 125, 3), (.return_, 1)] = true := by decide +kernel
  refine go_aload_n rfl hd (fun hd => ?_)
  refine go_dup rfl hd (fun hd => ?_)
  refine go_getI co_X9 fl_9_125 (by decide) (Or.inl rfl) rfl hd (fun hd => ?_)
  refine go_iconst hd (fun hd => ?_)
  refine go_iadd hd (fun hd => ?_)
  refine go_putI co_X9 fl_9_125 (by decide) rfl rfl hd (fun hd => ?_)
  exact go_vreturn hd rfl ⟨_, rfl, k⟩
theorem b_M_readPerson_0 {L : Nat} {d : Nat} {I : jm_I} {Q : Option jm_V → jm_I → Prop}   (hz : (-2147483648 ≤ I 167 27 ∧ I 167 27 < 2147483648)) (kt : 5 ≤ (I 167 27) → Gx (jx_0 L) d md_M_readPerson 13 [some (.inr (.inl 167))] [.inr (.inl 167)] I Q) (kf : ¬ (5 ≤ (I 167 27)) → Gx (jx_0 L) d md_M_readPerson 9 [some (.inr (.inl 167))] [.inr (.inl 167)] I Q) : Cx (jx_0 L) d md_M_readPerson [.inr (.inl 167)] I Q := by
  have hz1 := hz
  show jm_Go d 0 0 md_M_readPerson 0 [some (.inr (.inl 167))] [] (jx (jx_0 L) I) (jx_Q (jx_0 L) Q)
  have hd : jm_dc md_M_readPerson.2.1 0 [(.aload_n 0, 1), (.aload_n 0, 1), (.getfield 128, 3), (.iconst 5, 1), (.if_icmp .ge 7, 3)] = true := by decide +kernel
  refine go_aload_n rfl hd (fun hd => ?_)
  refine go_aload_n rfl hd (fun hd => ?_)
  refine go_getI co_X9 fl_9_128 (by decide) (Or.inl rfl) rfl hd (fun hd => ?_)
  refine go_iconst hd (fun hd => ?_)
  exact go_icmp_ge (by decide) hz1 ⟨by decide, by decide⟩ hd kt kf
theorem b_M_readPerson_9 {L : Nat} {d : Nat} {I : jm_I} {Q : Option jm_V → jm_I → Prop} {o0 : Option jm_V}  (k : Gx (jx_0 L) d md_M_readPerson 14 [o0] [.inl 1, .inr (.inl 167)] I Q) : Gx (jx_0 L) d md_M_readPerson 9 [o0] [.inr (.inl 167)] I Q := by
  show jm_Go d 0 0 md_M_readPerson 9 [o0] [.inr (.inl 167)] (jx (jx_0 L) I) (jx_Q (jx_0 L) Q)
  have hd : jm_dc md_M_readPerson.2.1 9 [(.iconst 1, 1), (.goto 4, 3)] = true := by decide +kernel
  refine go_iconst hd (fun hd => ?_)
  exact go_goto (by decide) hd k
theorem b_M_readPerson_13 {L : Nat} {d : Nat} {I : jm_I} {Q : Option jm_V → jm_I → Prop} {o0 : Option jm_V}  (k : Gx (jx_0 L) d md_M_readPerson 14 [o0] [.inl 0, .inr (.inl 167)] I Q) : Gx (jx_0 L) d md_M_readPerson 13 [o0] [.inr (.inl 167)] I Q := by
  show jm_Go d 0 0 md_M_readPerson 13 [o0] [.inr (.inl 167)] (jx (jx_0 L) I) (jx_Q (jx_0 L) Q)
  have hd : jm_dc md_M_readPerson.2.1 13 [(.iconst 0, 1)] = true := by decide +kernel
  refine go_iconst hd (fun hd => ?_)
  exact k
theorem b_M_readPerson_14 {L : Nat} {d : Nat} {I : jm_I} {Q : Option jm_V → jm_I → Prop} {o0 : Option jm_V} {s1 : Int}  (k : Cx (jx_0 L) d md_M_must [.inr (.inl 167), .inl s1] I (fun v J => Gx (jx_0 L) (d + 1) md_M_readPerson 17 [o0] (v.toList ++ []) J Q)) : Gx (jx_0 L) (d + 1) md_M_readPerson 14 [o0] [.inl s1, .inr (.inl 167)] I Q := by
  show jm_Go (d + 1) 0 0 md_M_readPerson 14 [o0] [.inl s1, .inr (.inl 167)] (jx (jx_0 L) I) (jx_Q (jx_0 L) Q)
  have hd : jm_dc md_M_readPerson.2.1 14 [(.invokevirtual 114, 3)] = true := by decide +kernel
  exact gx_virtual 167 9 [.inl s1] [] mk_M_must co_X9 rfl ml_9_114 in_M_must se_M_must rfl rfl (Nat.le_of_ble_eq_true rfl) rfl (Nat.le_of_ble_eq_true rfl) rfl hd k
theorem b_M_readPerson_17 {L : Nat} {d : Nat} {I : jm_I} {Q : Option jm_V → jm_I → Prop}   (hz : (-2147483648 ≤ I 167 22 ∧ I 167 22 < 2147483648)) (kt : (I 167 22) = 0 → Gx (jx_0 L) d md_M_readPerson 25 [some (.inr (.inl 167))] [] I Q) (kf : ¬ (I 167 22) = 0 → Gx (jx_0 L) d md_M_readPerson 24 [some (.inr (.inl 167))] [] I Q) : Gx (jx_0 L) d md_M_readPerson 17 [some (.inr (.inl 167))] [] I Q := by
  have hz1 := hz
  show jm_Go d 0 0 md_M_readPerson 17 [some (.inr (.inl 167))] [] (jx (jx_0 L) I) (jx_Q (jx_0 L) Q)
  have hd : jm_dc md_M_readPerson.2.1 17 [(.aload_n 0, 1), (.getfield 107, 3), (.ifCond .eq 4, 3)] = true := by decide +kernel
  refine go_aload_n rfl hd (fun hd => ?_)
  refine go_getI co_X9 fl_9_107 (by decide) (Or.inr rfl) rfl hd (fun hd => ?_)
  exact go_if_eq (by decide) hz1 hd kt kf
theorem b_M_readPerson_24 {L : Nat} {d : Nat} {I : jm_I} {Q : Option jm_V → jm_I → Prop} {o0 : Option jm_V}  (k : Q none I) : Gx (jx_0 L) d md_M_readPerson 24 [o0] [] I Q := by
  show jm_Go d 0 0 md_M_readPerson 24 [o0] [] (jx (jx_0 L) I) (jx_Q (jx_0 L) Q)
  have hd : jm_dc md_M_readPerson.2.1 24 [(.return_, 1)] = true := by decide +kernel
  exact go_vreturn hd rfl ⟨_, rfl, k⟩
theorem b_M_readPerson_25 {L : Nat} {d : Nat} {I : jm_I} {Q : Option jm_V → jm_I → Prop}   (k : Cx (jx_0 L) d md_M_readInto [.inr (.inl 167), .inr (.inl 179), .inl (2 * (I 167 27)), .inl 0, .inl ((I 177 0) - 1)] I (fun v J => Gx (jx_0 L) (d + 1) md_M_readPerson 48 [some (.inr (.inl 167))] (v.toList ++ []) J Q)) : Gx (jx_0 L) (d + 1) md_M_readPerson 25 [some (.inr (.inl 167))] [] I Q := by
  show jm_Go (d + 1) 0 0 md_M_readPerson 25 [some (.inr (.inl 167))] [] (jx (jx_0 L) I) (jx_Q (jx_0 L) Q)
  have hd : jm_dc md_M_readPerson.2.1 25 [(.aload_n 0, 1), (.aload_n 0, 1), (.getfield 51, 3), (.iconst 2, 1), (.aload_n 0, 1), (.getfield 128, 3), (.imul, 1), (.iconst 0, 1), (.aload_n 0, 1), (.getfield 45, 3), (.iconst 0, 1), (.iaload, 1), (.iconst 1, 1), (.isub, 1), (.invokevirtual 118, 3)] = true := by decide +kernel
  refine go_aload_n rfl hd (fun hd => ?_)
  refine go_aload_n rfl hd (fun hd => ?_)
  refine go_getR co_X9 fl_9_51 (by decide) rfl rfl rfl hd (fun hd => ?_)
  refine go_iconst hd (fun hd => ?_)
  refine go_aload_n rfl hd (fun hd => ?_)
  refine go_getI co_X9 fl_9_128 (by decide) (Or.inl rfl) rfl hd (fun hd => ?_)
  refine go_imul hd (fun hd => ?_)
  refine go_iconst hd (fun hd => ?_)
  refine go_aload_n rfl hd (fun hd => ?_)
  refine go_getR co_X9 fl_9_45 (by decide) rfl rfl rfl hd (fun hd => ?_)
  refine go_iconst hd (fun hd => ?_)
  refine go_iaload rfl (by decide) (by decide) (by decide) hd (fun hd => ?_)
  refine go_iconst hd (fun hd => ?_)
  refine go_isub hd (fun hd => ?_)
  exact gx_virtual 167 9 [.inr (.inl 179), .inl (2 * (I 167 27)), .inl 0, .inl ((I 177 0) - 1)] [] mk_M_readInto co_X9 rfl ml_9_118 in_M_readInto se_M_readInto rfl rfl (Nat.le_of_ble_eq_true rfl) rfl (Nat.le_of_ble_eq_true rfl) rfl hd k
theorem b_M_readPerson_48 {L : Nat} {d : Nat} {I : jm_I} {Q : Option jm_V → jm_I → Prop} {s0 : Int}  (k : Cx (jx_0 L) d md_M_readInto [.inr (.inl 167), .inr (.inl 179), .inl ((2 * (I 167 27)) + 1), .inl 10, .inl 60] I (fun v J => Gx (jx_0 L) (d + 1) md_M_readPerson 69 [some (.inr (.inl 167))] (v.toList ++ []) J Q)) : Gx (jx_0 L) (d + 1) md_M_readPerson 48 [some (.inr (.inl 167))] [.inl s0] I Q := by
  show jm_Go (d + 1) 0 0 md_M_readPerson 48 [some (.inr (.inl 167))] [.inl s0] (jx (jx_0 L) I) (jx_Q (jx_0 L) Q)
  have hd : jm_dc md_M_readPerson.2.1 48 [(.pop, 1), (.aload_n 0, 1), (.aload_n 0, 1), (.getfield 51, 3), (.iconst 2, 1), (.aload_n 0, 1), (.getfield 128, 3), (.imul, 1), (.iconst 1, 1), (.iadd, 1), (.bipush 10, 2), (.bipush 60, 2), (.invokevirtual 118, 3)] = true := by decide +kernel
  refine go_pop rfl hd (fun hd => ?_)
  refine go_aload_n rfl hd (fun hd => ?_)
  refine go_aload_n rfl hd (fun hd => ?_)
  refine go_getR co_X9 fl_9_51 (by decide) rfl rfl rfl hd (fun hd => ?_)
  refine go_iconst hd (fun hd => ?_)
  refine go_aload_n rfl hd (fun hd => ?_)
  refine go_getI co_X9 fl_9_128 (by decide) (Or.inl rfl) rfl hd (fun hd => ?_)
  refine go_imul hd (fun hd => ?_)
  refine go_iconst hd (fun hd => ?_)
  refine go_iadd hd (fun hd => ?_)
  refine go_bipush (by decide) hd (fun hd => ?_)
  refine go_bipush (by decide) hd (fun hd => ?_)
  exact gx_virtual 167 9 [.inr (.inl 179), .inl ((2 * (I 167 27)) + 1), .inl 10, .inl 60] [] mk_M_readInto co_X9 rfl ml_9_118 in_M_readInto se_M_readInto rfl rfl (Nat.le_of_ble_eq_true rfl) rfl (Nat.le_of_ble_eq_true rfl) rfl hd k
theorem b_M_readPerson_69 {L : Nat} {d : Nat} {I : jm_I} {Q : Option jm_V → jm_I → Prop} {s0 : Int}  (hz : (-2147483648 ≤ I 167 20 ∧ I 167 20 < 2147483648)) (kt : ¬ (I 167 20) = 3 → Gx (jx_0 L) d md_M_readPerson 83 [some (.inr (.inl 167))] [.inr (.inl 167)] I Q) (kf : (I 167 20) = 3 → Gx (jx_0 L) d md_M_readPerson 79 [some (.inr (.inl 167))] [.inr (.inl 167)] I Q) : Gx (jx_0 L) d md_M_readPerson 69 [some (.inr (.inl 167))] [.inl s0] I Q := by
  have hz1 := hz
  show jm_Go d 0 0 md_M_readPerson 69 [some (.inr (.inl 167))] [.inl s0] (jx (jx_0 L) I) (jx_Q (jx_0 L) Q)
  have hd : jm_dc md_M_readPerson.2.1 69 [(.pop, 1), (.aload_n 0, 1), (.aload_n 0, 1), (.getfield 101, 3), (.iconst 3, 1), (.if_icmp .ne 7, 3)] = true := by decide +kernel
  refine go_pop rfl hd (fun hd => ?_)
  refine go_aload_n rfl hd (fun hd => ?_)
  refine go_aload_n rfl hd (fun hd => ?_)
  refine go_getI co_X9 fl_9_101 (by decide) (Or.inl rfl) rfl hd (fun hd => ?_)
  refine go_iconst hd (fun hd => ?_)
  exact go_icmp_ne (by decide) hz1 ⟨by decide, by decide⟩ hd kt kf
theorem b_M_readPerson_79 {L : Nat} {d : Nat} {I : jm_I} {Q : Option jm_V → jm_I → Prop} {o0 : Option jm_V}  (k : Gx (jx_0 L) d md_M_readPerson 84 [o0] [.inl 1, .inr (.inl 167)] I Q) : Gx (jx_0 L) d md_M_readPerson 79 [o0] [.inr (.inl 167)] I Q := by
  show jm_Go d 0 0 md_M_readPerson 79 [o0] [.inr (.inl 167)] (jx (jx_0 L) I) (jx_Q (jx_0 L) Q)
  have hd : jm_dc md_M_readPerson.2.1 79 [(.iconst 1, 1), (.goto 4, 3)] = true := by decide +kernel
  refine go_iconst hd (fun hd => ?_)
  exact go_goto (by decide) hd k
theorem b_M_readPerson_83 {L : Nat} {d : Nat} {I : jm_I} {Q : Option jm_V → jm_I → Prop} {o0 : Option jm_V}  (k : Gx (jx_0 L) d md_M_readPerson 84 [o0] [.inl 0, .inr (.inl 167)] I Q) : Gx (jx_0 L) d md_M_readPerson 83 [o0] [.inr (.inl 167)] I Q := by
  show jm_Go d 0 0 md_M_readPerson 83 [o0] [.inr (.inl 167)] (jx (jx_0 L) I) (jx_Q (jx_0 L) Q)
  have hd : jm_dc md_M_readPerson.2.1 83 [(.iconst 0, 1)] = true := by decide +kernel
  refine go_iconst hd (fun hd => ?_)
  exact k
theorem b_M_readPerson_84 {L : Nat} {d : Nat} {I : jm_I} {Q : Option jm_V → jm_I → Prop} {o0 : Option jm_V} {s1 : Int}  (k : Cx (jx_0 L) d md_M_must [.inr (.inl 167), .inl s1] I (fun v J => Gx (jx_0 L) (d + 1) md_M_readPerson 87 [o0] (v.toList ++ []) J Q)) : Gx (jx_0 L) (d + 1) md_M_readPerson 84 [o0] [.inl s1, .inr (.inl 167)] I Q := by
  show jm_Go (d + 1) 0 0 md_M_readPerson 84 [o0] [.inl s1, .inr (.inl 167)] (jx (jx_0 L) I) (jx_Q (jx_0 L) Q)
  have hd : jm_dc md_M_readPerson.2.1 84 [(.invokevirtual 114, 3)] = true := by decide +kernel
  exact gx_virtual 167 9 [.inl s1] [] mk_M_must co_X9 rfl ml_9_114 in_M_must se_M_must rfl rfl (Nat.le_of_ble_eq_true rfl) rfl (Nat.le_of_ble_eq_true rfl) rfl hd k
theorem b_M_readPerson_87 {L : Nat} {d : Nat} {I : jm_I} {Q : Option jm_V → jm_I → Prop}   (k : Q none (jm_up I 167 27 ((I 167 27) + 1))) : Gx (jx_0 L) d md_M_readPerson 87 [some (.inr (.inl 167))] [] I Q := by
  show jm_Go d 0 0 md_M_readPerson 87 [some (.inr (.inl 167))] [] (jx (jx_0 L) I) (jx_Q (jx_0 L) Q)
  have hd : jm_dc md_M_readPerson.2.1 87 [(.aload_n 0, 1), (.dup, 1), (.getfield 128, 3), (.iconst 1, 1), (.iadd, 1), (.putfield 128, 3), (.return_, 1)] = true := by decide +kernel
  refine go_aload_n rfl hd (fun hd => ?_)
  refine go_dup rfl hd (fun hd => ?_)
  refine go_getI co_X9 fl_9_128 (by decide) (Or.inl rfl) rfl hd (fun hd => ?_)
  refine go_iconst hd (fun hd => ?_)
  refine go_iadd hd (fun hd => ?_)
  refine go_putI co_X9 fl_9_128 (by decide) rfl rfl hd (fun hd => ?_)
  exact go_vreturn hd rfl ⟨_, rfl, k⟩
theorem b_M_readThing_0 {L : Nat} {d : Nat} {I : jm_I} {Q : Option jm_V → jm_I → Prop}   (hz : (-2147483648 ≤ I 167 29 ∧ I 167 29 < 2147483648)) (kt : 5 ≤ (I 167 29) → Gx (jx_0 L) d md_M_readThing 13 [some (.inr (.inl 167)), none, none] [.inr (.inl 167)] I Q) (kf : ¬ (5 ≤ (I 167 29)) → Gx (jx_0 L) d md_M_readThing 9 [some (.inr (.inl 167)), none, none] [.inr (.inl 167)] I Q) : Cx (jx_0 L) d md_M_readThing [.inr (.inl 167)] I Q := by
  have hz1 := hz
  show jm_Go d 0 0 md_M_readThing 0 [some (.inr (.inl 167)), none, none] [] (jx (jx_0 L) I) (jx_Q (jx_0 L) Q)
  have hd : jm_dc md_M_readThing.2.1 0 [(.aload_n 0, 1), (.aload_n 0, 1), (.getfield 131, 3), (.iconst 5, 1), (.if_icmp .ge 7, 3)] = true := by decide +kernel
  refine go_aload_n rfl hd (fun hd => ?_)
  refine go_aload_n rfl hd (fun hd => ?_)
  refine go_getI co_X9 fl_9_131 (by decide) (Or.inl rfl) rfl hd (fun hd => ?_)
  refine go_iconst hd (fun hd => ?_)
  exact go_icmp_ge (by decide) hz1 ⟨by decide, by decide⟩ hd kt kf
theorem b_M_readThing_9 {L : Nat} {d : Nat} {I : jm_I} {Q : Option jm_V → jm_I → Prop} {o0 : Option jm_V} {o1 : Option jm_V} {o2 : Option jm_V}  (k : Gx (jx_0 L) d md_M_readThing 14 [o0, o1, o2] [.inl 1, .inr (.inl 167)] I Q) : Gx (jx_0 L) d md_M_readThing 9 [o0, o1, o2] [.inr (.inl 167)] I Q := by
  show jm_Go d 0 0 md_M_readThing 9 [o0, o1, o2] [.inr (.inl 167)] (jx (jx_0 L) I) (jx_Q (jx_0 L) Q)
  have hd : jm_dc md_M_readThing.2.1 9 [(.iconst 1, 1), (.goto 4, 3)] = true := by decide +kernel
  refine go_iconst hd (fun hd => ?_)
  exact go_goto (by decide) hd k
theorem b_M_readThing_13 {L : Nat} {d : Nat} {I : jm_I} {Q : Option jm_V → jm_I → Prop} {o0 : Option jm_V} {o1 : Option jm_V} {o2 : Option jm_V}  (k : Gx (jx_0 L) d md_M_readThing 14 [o0, o1, o2] [.inl 0, .inr (.inl 167)] I Q) : Gx (jx_0 L) d md_M_readThing 13 [o0, o1, o2] [.inr (.inl 167)] I Q := by
  show jm_Go d 0 0 md_M_readThing 13 [o0, o1, o2] [.inr (.inl 167)] (jx (jx_0 L) I) (jx_Q (jx_0 L) Q)
  have hd : jm_dc md_M_readThing.2.1 13 [(.iconst 0, 1)] = true := by decide +kernel
  refine go_iconst hd (fun hd => ?_)
  exact k
theorem b_M_readThing_14 {L : Nat} {d : Nat} {I : jm_I} {Q : Option jm_V → jm_I → Prop} {o0 : Option jm_V} {o1 : Option jm_V} {o2 : Option jm_V} {s1 : Int}  (k : Cx (jx_0 L) d md_M_must [.inr (.inl 167), .inl s1] I (fun v J => Gx (jx_0 L) (d + 1) md_M_readThing 17 [o0, o1, o2] (v.toList ++ []) J Q)) : Gx (jx_0 L) (d + 1) md_M_readThing 14 [o0, o1, o2] [.inl s1, .inr (.inl 167)] I Q := by
  show jm_Go (d + 1) 0 0 md_M_readThing 14 [o0, o1, o2] [.inl s1, .inr (.inl 167)] (jx (jx_0 L) I) (jx_Q (jx_0 L) Q)
  have hd : jm_dc md_M_readThing.2.1 14 [(.invokevirtual 114, 3)] = true := by decide +kernel
  exact gx_virtual 167 9 [.inl s1] [] mk_M_must co_X9 rfl ml_9_114 in_M_must se_M_must rfl rfl (Nat.le_of_ble_eq_true rfl) rfl (Nat.le_of_ble_eq_true rfl) rfl hd k
theorem b_M_readThing_17 {L : Nat} {d : Nat} {I : jm_I} {Q : Option jm_V → jm_I → Prop} {o1 : Option jm_V} {o2 : Option jm_V}  (hz : (-2147483648 ≤ I 167 22 ∧ I 167 22 < 2147483648)) (kt : (I 167 22) = 0 → Gx (jx_0 L) d md_M_readThing 25 [some (.inr (.inl 167)), o1, o2] [] I Q) (kf : ¬ (I 167 22) = 0 → Gx (jx_0 L) d md_M_readThing 24 [some (.inr (.inl 167)), o1, o2] [] I Q) : Gx (jx_0 L) d md_M_readThing 17 [some (.inr (.inl 167)), o1, o2] [] I Q := by
  have hz1 := hz
  show jm_Go d 0 0 md_M_readThing 17 [some (.inr (.inl 167)), o1, o2] [] (jx (jx_0 L) I) (jx_Q (jx_0 L) Q)
  have hd : jm_dc md_M_readThing.2.1 17 [(.aload_n 0, 1), (.getfield 107, 3), (.ifCond .eq 4, 3)] = true := by decide +kernel
  refine go_aload_n rfl hd (fun hd => ?_)
  refine go_getI co_X9 fl_9_107 (by decide) (Or.inr rfl) rfl hd (fun hd => ?_)
  exact go_if_eq (by decide) hz1 hd kt kf
theorem b_M_readThing_24 {L : Nat} {d : Nat} {I : jm_I} {Q : Option jm_V → jm_I → Prop} {o0 : Option jm_V} {o1 : Option jm_V} {o2 : Option jm_V}  (k : Q none I) : Gx (jx_0 L) d md_M_readThing 24 [o0, o1, o2] [] I Q := by
  show jm_Go d 0 0 md_M_readThing 24 [o0, o1, o2] [] (jx (jx_0 L) I) (jx_Q (jx_0 L) Q)
  have hd : jm_dc md_M_readThing.2.1 24 [(.return_, 1)] = true := by decide +kernel
  exact go_vreturn hd rfl ⟨_, rfl, k⟩
theorem b_M_readThing_25 {L : Nat} {d : Nat} {I : jm_I} {Q : Option jm_V → jm_I → Prop} {o1 : Option jm_V} {o2 : Option jm_V}  (k : Cx (jx_0 L) d md_M_readInto [.inr (.inl 167), .inr (.inl 180), .inl (I 167 29), .inl 1, .inl 4] I (fun v J => Gx (jx_0 L) (d + 1) md_M_readThing 39 [some (.inr (.inl 167)), o1, o2] (v.toList ++ []) J Q)) : Gx (jx_0 L) (d + 1) md_M_readThing 25 [some (.inr (.inl 167)), o1, o2] [] I Q := by
  show jm_Go (d + 1) 0 0 md_M_readThing 25 [some (.inr (.inl 167)), o1, o2] [] (jx (jx_0 L) I) (jx_Q (jx_0 L) Q)
  have hd : jm_dc md_M_readThing.2.1 25 [(.aload_n 0, 1), (.aload_n 0, 1), (.getfield 54, 3), (.aload_n 0, 1), (.getfield 131, 3), (.iconst 1, 1), (.iconst 4, 1), (.invokevirtual 118, 3)] = true := by decide +kernel
  refine go_aload_n rfl hd (fun hd => ?_)
  refine go_aload_n rfl hd (fun hd => ?_)
  refine go_getR co_X9 fl_9_54 (by decide) rfl rfl rfl hd (fun hd => ?_)
  refine go_aload_n rfl hd (fun hd => ?_)
  refine go_getI co_X9 fl_9_131 (by decide) (Or.inl rfl) rfl hd (fun hd => ?_)
  refine go_iconst hd (fun hd => ?_)
  refine go_iconst hd (fun hd => ?_)
  exact gx_virtual 167 9 [.inr (.inl 180), .inl (I 167 29), .inl 1, .inl 4] [] mk_M_readInto co_X9 rfl ml_9_118 in_M_readInto se_M_readInto rfl rfl (Nat.le_of_ble_eq_true rfl) rfl (Nat.le_of_ble_eq_true rfl) rfl hd k
theorem b_M_readThing_39 {L : Nat} {d : Nat} {I : jm_I} {Q : Option jm_V → jm_I → Prop} {o0 : Option jm_V} {o1 : Option jm_V} {o2 : Option jm_V} {s0 : Int}  (k : Gx (jx_0 L) d md_M_readThing 42 [o0, some (.inl s0), some (.inl 0)] [] I Q) : Gx (jx_0 L) d md_M_readThing 39 [o0, o1, o2] [.inl s0] I Q := by
  show jm_Go d 0 0 md_M_readThing 39 [o0, o1, o2] [.inl s0] (jx (jx_0 L) I) (jx_Q (jx_0 L) Q)
  have hd : jm_dc md_M_readThing.2.1 39 [(.istore_n 1, 1), (.iconst 0, 1), (.istore_n 2, 1)] = true := by decide +kernel
  refine go_istore_n (by decide) hd (fun hd => ?_)
  refine go_iconst hd (fun hd => ?_)
  refine go_istore_n (by decide) hd (fun hd => ?_)
  exact k
theorem b_M_readThing_42 {L : Nat} {d : Nat} {I : jm_I} {Q : Option jm_V → jm_I → Prop} {o0 : Option jm_V} {x1 : Int} {x2 : Int}  (hz : (-2147483648 ≤ x2 ∧ x2 < 2147483648) ∧ (-2147483648 ≤ x1 ∧ x1 < 2147483648)) (kt : x1 ≤ x2 → Gx (jx_0 L) d md_M_readThing 86 [o0, some (.inl x1), some (.inl x2)] [] I Q) (kf : ¬ (x1 ≤ x2) → Gx (jx_0 L) d md_M_readThing 47 [o0, some (.inl x1), some (.inl x2)] [] I Q) : Gx (jx_0 L) d md_M_readThing 42 [o0, some (.inl x1), some (.inl x2)] [] I Q := by
  obtain ⟨hz1, hz2⟩ := hz
  show jm_Go d 0 0 md_M_readThing 42 [o0, some (.inl x1), some (.inl x2)] [] (jx (jx_0 L) I) (jx_Q (jx_0 L) Q)
  have hd : jm_dc md_M_readThing.2.1 42 [(.iload_n 2, 1), (.iload_n 1, 1), (.if_icmp .ge 42, 3)] = true := by decide +kernel
  refine go_iload_n rfl hd (fun hd => ?_)
  refine go_iload_n rfl hd (fun hd => ?_)
  exact go_icmp_ge (by decide) hz1 hz2 hd kt kf
theorem b_M_readThing_47 {L : Nat} {d : Nat} {I : jm_I} {Q : Option jm_V → jm_I → Prop} {o1 : Option jm_V} {o2 : Option jm_V}  (hz : (-2147483648 ≤ I 167 22 ∧ I 167 22 < 2147483648)) (kt : ¬ (I 167 22) = 0 → Gx (jx_0 L) d md_M_readThing 86 [some (.inr (.inl 167)), o1, o2] [] I Q) (kf : (I 167 22) = 0 → Gx (jx_0 L) d md_M_readThing 54 [some (.inr (.inl 167)), o1, o2] [] I Q) : Gx (jx_0 L) d md_M_readThing 47 [some (.inr (.inl 167)), o1, o2] [] I Q := by
  have hz1 := hz
  show jm_Go d 0 0 md_M_readThing 47 [some (.inr (.inl 167)), o1, o2] [] (jx (jx_0 L) I) (jx_Q (jx_0 L) Q)
  have hd : jm_dc md_M_readThing.2.1 47 [(.aload_n 0, 1), (.getfield 107, 3), (.ifCond .ne 35, 3)] = true := by decide +kernel
  refine go_aload_n rfl hd (fun hd => ?_)
  refine go_getI co_X9 fl_9_107 (by decide) (Or.inr rfl) rfl hd (fun hd => ?_)
  exact go_if_ne (by decide) hz1 hd kt kf
theorem b_M_readThing_54 {L : Nat} {d : Nat} {I : jm_I} {Q : Option jm_V → jm_I → Prop} {o1 : Option jm_V} {x2 : Int}  (k : Cx (jx_0 L) d md_M_readInto [.inr (.inl 167), .inr (.inl 181), .inl ((4 * (I 167 29)) + x2), .inl 0, .inl ((I 177 0) - 1)] I (fun v J => Gx (jx_0 L) (d + 1) md_M_readThing 79 [some (.inr (.inl 167)), o1, some (.inl x2)] (v.toList ++ []) J Q)) : Gx (jx_0 L) (d + 1) md_M_readThing 54 [some (.inr (.inl 167)), o1, some (.inl x2)] [] I Q := by
  show jm_Go (d + 1) 0 0 md_M_readThing 54 [some (.inr (.inl 167)), o1, some (.inl x2)] [] (jx (jx_0 L) I) (jx_Q (jx_0 L) Q)
  have hd : jm_dc md_M_readThing.2.1 54 [(.aload_n 0, 1), (.aload_n 0, 1), (.getfield 57, 3), (.iconst 4, 1), (.aload_n 0, 1), (.getfield 131, 3), (.imul, 1), (.iload_n 2, 1), (.iadd, 1), (.iconst 0, 1), (.aload_n 0, 1), (.getfield 45, 3), (.iconst 0, 1), (.iaload, 1), (.iconst 1, 1), (.isub, 1), (.invokevirtual 118, 3)] = true := by decide +kernel
  refine go_aload_n rfl hd (fun hd => ?_)
  refine go_aload_n rfl hd (fun hd => ?_)
  refine go_getR co_X9 fl_9_57 (by decide) rfl rfl rfl hd (fun hd => ?_)
  refine go_iconst hd (fun hd => ?_)
  refine go_aload_n rfl hd (fun hd => ?_)
  refine go_getI co_X9 fl_9_131 (by decide) (Or.inl rfl) rfl hd (fun hd => ?_)
  refine go_imul hd (fun hd => ?_)
  refine go_iload_n rfl hd (fun hd => ?_)
  refine go_iadd hd (fun hd => ?_)
  refine go_iconst hd (fun hd => ?_)
  refine go_aload_n rfl hd (fun hd => ?_)
  refine go_getR co_X9 fl_9_45 (by decide) rfl rfl rfl hd (fun hd => ?_)
  refine go_iconst hd (fun hd => ?_)
  refine go_iaload rfl (by decide) (by decide) (by decide) hd (fun hd => ?_)
  refine go_iconst hd (fun hd => ?_)
  refine go_isub hd (fun hd => ?_)
  exact gx_virtual 167 9 [.inr (.inl 181), .inl ((4 * (I 167 29)) + x2), .inl 0, .inl ((I 177 0) - 1)] [] mk_M_readInto co_X9 rfl ml_9_118 in_M_readInto se_M_readInto rfl rfl (Nat.le_of_ble_eq_true rfl) rfl (Nat.le_of_ble_eq_true rfl) rfl hd k
theorem b_M_readThing_79 {L : Nat} {d : Nat} {I : jm_I} {Q : Option jm_V → jm_I → Prop} {o0 : Option jm_V} {o1 : Option jm_V} {x2 : Int} {s0 : Int}  (k : Gx (jx_0 L) d md_M_readThing 42 [o0, o1, some (.inl (x2 + 1))] [] I Q) : Gx (jx_0 L) d md_M_readThing 79 [o0, o1, some (.inl x2)] [.inl s0] I Q := by
  show jm_Go d 0 0 md_M_readThing 79 [o0, o1, some (.inl x2)] [.inl s0] (jx (jx_0 L) I) (jx_Q (jx_0 L) Q)
  have hd : jm_dc md_M_readThing.2.1 79 [(.pop, 1), (.iinc 2 1, 3), (.goto (-41), 3)] = true := by decide +kernel
  refine go_pop rfl hd (fun hd => ?_)
  refine go_iinc rfl hd (fun hd => ?_)
  exact go_goto (by decide) hd k
theorem b_M_readThing_86 {L : Nat} {d : Nat} {I : jm_I} {Q : Option jm_V → jm_I → Prop} {o1 : Option jm_V} {o2 : Option jm_V}  (hz : (-2147483648 ≤ I 167 20 ∧ I 167 20 < 2147483648)) (kt : ¬ (I 167 20) = 3 → Gx (jx_0 L) d md_M_readThing 99 [some (.inr (.inl 167)), o1, o2] [.inr (.inl 167)] I Q) (kf : (I 167 20) = 3 → Gx (jx_0 L) d md_M_readThing 95 [some (.inr (.inl 167)), o1, o2] [.inr (.inl 167)] I Q) : Gx (jx_0 L) d md_M_readThing 86 [some (.inr (.inl 167)), o1, o2] [] I Q := by
  have hz1 := hz
  show jm_Go d 0 0 md_M_readThing 86 [some (.inr (.inl 167)), o1, o2] [] (jx (jx_0 L) I) (jx_Q (jx_0 L) Q)
  have hd : jm_dc md_M_readThing.2.1 86 [(.aload_n 0, 1), (.aload_n 0, 1), (.getfield 101, 3), (.iconst 3, 1), (.if_icmp .ne 7, 3)] = true := by decide +kernel
  refine go_aload_n rfl hd (fun hd => ?_)
  refine go_aload_n rfl hd (fun hd => ?_)
  refine go_getI co_X9 fl_9_101 (by decide) (Or.inl rfl) rfl hd (fun hd => ?_)
  refine go_iconst hd (fun hd => ?_)
  exact go_icmp_ne (by decide) hz1 ⟨by decide, by decide⟩ hd kt kf
theorem b_M_readThing_95 {L : Nat} {d : Nat} {I : jm_I} {Q : Option jm_V → jm_I → Prop} {o0 : Option jm_V} {o1 : Option jm_V} {o2 : Option jm_V}  (k : Gx (jx_0 L) d md_M_readThing 100 [o0, o1, o2] [.inl 1, .inr (.inl 167)] I Q) : Gx (jx_0 L) d md_M_readThing 95 [o0, o1, o2] [.inr (.inl 167)] I Q := by
  show jm_Go d 0 0 md_M_readThing 95 [o0, o1, o2] [.inr (.inl 167)] (jx (jx_0 L) I) (jx_Q (jx_0 L) Q)
  have hd : jm_dc md_M_readThing.2.1 95 [(.iconst 1, 1), (.goto 4, 3)] = true := by decide +kernel
  refine go_iconst hd (fun hd => ?_)
  exact go_goto (by decide) hd k
theorem b_M_readThing_99 {L : Nat} {d : Nat} {I : jm_I} {Q : Option jm_V → jm_I → Prop} {o0 : Option jm_V} {o1 : Option jm_V} {o2 : Option jm_V}  (k : Gx (jx_0 L) d md_M_readThing 100 [o0, o1, o2] [.inl 0, .inr (.inl 167)] I Q) : Gx (jx_0 L) d md_M_readThing 99 [o0, o1, o2] [.inr (.inl 167)] I Q := by
  show jm_Go d 0 0 md_M_readThing 99 [o0, o1, o2] [.inr (.inl 167)] (jx (jx_0 L) I) (jx_Q (jx_0 L) Q)
  have hd : jm_dc md_M_readThing.2.1 99 [(.iconst 0, 1)] = true := by decide +kernel
  refine go_iconst hd (fun hd => ?_)
  exact k
theorem b_M_readThing_100 {L : Nat} {d : Nat} {I : jm_I} {Q : Option jm_V → jm_I → Prop} {o0 : Option jm_V} {o1 : Option jm_V} {o2 : Option jm_V} {s1 : Int}  (k : Cx (jx_0 L) d md_M_must [.inr (.inl 167), .inl s1] I (fun v J => Gx (jx_0 L) (d + 1) md_M_readThing 103 [o0, o1, o2] (v.toList ++ []) J Q)) : Gx (jx_0 L) (d + 1) md_M_readThing 100 [o0, o1, o2] [.inl s1, .inr (.inl 167)] I Q := by
  show jm_Go (d + 1) 0 0 md_M_readThing 100 [o0, o1, o2] [.inl s1, .inr (.inl 167)] (jx (jx_0 L) I) (jx_Q (jx_0 L) Q)
  have hd : jm_dc md_M_readThing.2.1 100 [(.invokevirtual 114, 3)] = true := by decide +kernel
  exact gx_virtual 167 9 [.inl s1] [] mk_M_must co_X9 rfl ml_9_114 in_M_must se_M_must rfl rfl (Nat.le_of_ble_eq_true rfl) rfl (Nat.le_of_ble_eq_true rfl) rfl hd k
theorem b_M_readThing_103 {L : Nat} {d : Nat} {I : jm_I} {Q : Option jm_V → jm_I → Prop} {o1 : Option jm_V} {o2 : Option jm_V}  (k : Q none (jm_up I 167 29 ((I 167 29) + 1))) : Gx (jx_0 L) d md_M_readThing 103 [some (.inr (.inl 167)), o1, o2] [] I Q := by
  show jm_Go d 0 0 md_M_readThing 103 [some (.inr (.inl 167)), o1, o2] [] (jx (jx_0 L) I) (jx_Q (jx_0 L) Q)
  have hd : jm_dc md_M_readThing.2.1 103 [(.aload_n 0, 1), (.dup, 1), (.getfield 131, 3), (.iconst 1, 1), (.iadd, 1), (.putfield 131, 3), (.return_, 1)] = true := by decide +kernel
  refine go_aload_n rfl hd (fun hd => ?_)
  refine go_dup rfl hd (fun hd => ?_)
  refine go_getI co_X9 fl_9_131 (by decide) (Or.inl rfl) rfl hd (fun hd => ?_)
  refine go_iconst hd (fun hd => ?_)
  refine go_iadd hd (fun hd => ?_)
  refine go_putI co_X9 fl_9_131 (by decide) rfl rfl hd (fun hd => ?_)
  exact go_vreturn hd rfl ⟨_, rfl, k⟩
theorem b_M_settles_0 {L : Nat} {d : Nat} {I : jm_I} {Q : Option jm_V → jm_I → Prop}   (k : Gx (jx_0 L) d md_M_settles 46 [some (.inr (.inl 167)), some (.inl 0)] [] (jm_up (jm_up (jm_up (jm_up (jm_up I 167 0 (I 177 0)) 167 3 (I 177 1)) 167 1 (I 167 25)) 167 4 (I 167 27)) 167 5 (I 167 29)) Q) : Cx (jx_0 L) d md_M_settles [.inr (.inl 167)] I Q := by
  show jm_Go d 0 0 md_M_settles 0 [some (.inr (.inl 167)), none] [] (jx (jx_0 L) I) (jx_Q (jx_0 L) Q)
  have hd : jm_dc md_M_settles.2.1 0 [(.aload_n 0, 1), (.aload_n 0, 1), (.getfield 45, 3), (.iconst 0, 1), (.iaload, 1), (.putfield 7, 3), (.aload_n 0, 1), (.aload_n 0, 1), (.getfield 45, 3), (.iconst 1, 1), (.iaload, 1), (.putfield 17, 3), (.aload_n 0, 1), (.aload_n 0, 1), (.getfield 125, 3), (.putfield 155, 3), (.aload_n 0, 1), (.aload_n 0, 1), (.getfield 128, 3), (.putfield 82, 3), (.aload_n 0, 1), (.aload_n 0, 1), (.getfield 131, 3), (.putfield 85, 3), (.iconst 0, 1), (.istore_n 1, 1)] = true := by decide +kernel
  refine go_aload_n rfl hd (fun hd => ?_)
  refine go_aload_n rfl hd (fun hd => ?_)
  refine go_getR co_X9 fl_9_45 (by decide) rfl rfl rfl hd (fun hd => ?_)
  refine go_iconst hd (fun hd => ?_)
  refine go_iaload rfl (by decide) (by decide) (by decide) hd (fun hd => ?_)
  refine go_putI co_X9 fl_9_7 (by decide) rfl rfl hd (fun hd => ?_)
  refine go_aload_n rfl hd (fun hd => ?_)
  refine go_aload_n rfl hd (fun hd => ?_)
  refine go_getR co_X9 fl_9_45 (by decide) rfl rfl rfl hd (fun hd => ?_)
  refine go_iconst hd (fun hd => ?_)
  refine go_iaload rfl (by decide) (by decide) (by decide) hd (fun hd => ?_)
  refine go_putI co_X9 fl_9_17 (by decide) rfl rfl hd (fun hd => ?_)
  refine go_aload_n rfl hd (fun hd => ?_)
  refine go_aload_n rfl hd (fun hd => ?_)
  refine go_getI co_X9 fl_9_125 (by decide) (Or.inl rfl) rfl hd (fun hd => ?_)
  refine go_putI co_X9 fl_9_155 (by decide) rfl rfl hd (fun hd => ?_)
  refine go_aload_n rfl hd (fun hd => ?_)
  refine go_aload_n rfl hd (fun hd => ?_)
  refine go_getI co_X9 fl_9_128 (by decide) (Or.inl rfl) rfl hd (fun hd => ?_)
  refine go_putI co_X9 fl_9_82 (by decide) rfl rfl hd (fun hd => ?_)
  refine go_aload_n rfl hd (fun hd => ?_)
  refine go_aload_n rfl hd (fun hd => ?_)
  refine go_getI co_X9 fl_9_131 (by decide) (Or.inl rfl) rfl hd (fun hd => ?_)
  refine go_putI co_X9 fl_9_85 (by decide) rfl rfl hd (fun hd => ?_)
  refine go_iconst hd (fun hd => ?_)
  refine go_istore_n (by decide) hd (fun hd => ?_)
  exact k
theorem b_M_settles_46 {L : Nat} {d : Nat} {I : jm_I} {Q : Option jm_V → jm_I → Prop} {o0 : Option jm_V} {x1 : Int}  (hz : (-2147483648 ≤ x1 ∧ x1 < 2147483648)) (kt : 24 ≤ x1 → Gx (jx_0 L) d md_M_settles 70 [o0, some (.inl x1)] [] I Q) (kf : ¬ (24 ≤ x1) → Gx (jx_0 L) d md_M_settles 52 [o0, some (.inl x1)] [] I Q) : Gx (jx_0 L) d md_M_settles 46 [o0, some (.inl x1)] [] I Q := by
  have hz1 := hz
  show jm_Go d 0 0 md_M_settles 46 [o0, some (.inl x1)] [] (jx (jx_0 L) I) (jx_Q (jx_0 L) Q)
  have hd : jm_dc md_M_settles.2.1 46 [(.iload_n 1, 1), (.bipush 24, 2), (.if_icmp .ge 21, 3)] = true := by decide +kernel
  refine go_iload_n rfl hd (fun hd => ?_)
  refine go_bipush (by decide) hd (fun hd => ?_)
  exact go_icmp_ge (by decide) hz1 ⟨by decide, by decide⟩ hd kt kf
theorem b_M_settles_52 {L : Nat} {d : Nat} {I : jm_I} {Q : Option jm_V → jm_I → Prop} {x1 : Int}  (hz : (0 ≤ x1 ∧ x1 < 24) ∧ (0 ≤ x1 ∧ x1 < 24)) (k : Gx (jx_0 L) d md_M_settles 46 [some (.inr (.inl 167)), some (.inl (x1 + 1))] [] (jm_up I 168 (x1.toNat) (I 178 x1.toNat)) Q) : Gx (jx_0 L) d md_M_settles 52 [some (.inr (.inl 167)), some (.inl x1)] [] I Q := by
  obtain ⟨hz1, hz2⟩ := hz
  show jm_Go d 0 0 md_M_settles 52 [some (.inr (.inl 167)), some (.inl x1)] [] (jx (jx_0 L) I) (jx_Q (jx_0 L) Q)
  have hd : jm_dc md_M_settles.2.1 52 [(.aload_n 0, 1), (.getfield 13, 3), (.iload_n 1, 1), (.aload_n 0, 1), (.getfield 48, 3), (.iload_n 1, 1), (.iaload, 1), (.iastore, 1), (.iinc 1 1, 3), (.goto (-21), 3)] = true := by decide +kernel
  refine go_aload_n rfl hd (fun hd => ?_)
  refine go_getR co_X9 fl_9_13 (by decide) rfl rfl rfl hd (fun hd => ?_)
  refine go_iload_n rfl hd (fun hd => ?_)
  refine go_aload_n rfl hd (fun hd => ?_)
  refine go_getR co_X9 fl_9_48 (by decide) rfl rfl rfl hd (fun hd => ?_)
  refine go_iload_n rfl hd (fun hd => ?_)
  refine go_iaload rfl hz1.1 hz1.2 (by decide) hd (fun hd => ?_)
  refine go_iastore rfl hz2.1 hz2.2 (by decide) hd (fun hd => ?_)
  refine go_iinc rfl hd (fun hd => ?_)
  exact go_goto (by decide) hd k
theorem b_M_settles_70 {L : Nat} {d : Nat} {I : jm_I} {Q : Option jm_V → jm_I → Prop} {o0 : Option jm_V} {o1 : Option jm_V}  (k : Gx (jx_0 L) d md_M_settles 72 [o0, some (.inl 0)] [] I Q) : Gx (jx_0 L) d md_M_settles 70 [o0, o1] [] I Q := by
  show jm_Go d 0 0 md_M_settles 70 [o0, o1] [] (jx (jx_0 L) I) (jx_Q (jx_0 L) Q)
  have hd : jm_dc md_M_settles.2.1 70 [(.iconst 0, 1), (.istore_n 1, 1)] = true := by decide +kernel
  refine go_iconst hd (fun hd => ?_)
  refine go_istore_n (by decide) hd (fun hd => ?_)
  exact k
theorem b_M_settles_72 {L : Nat} {d : Nat} {I : jm_I} {Q : Option jm_V → jm_I → Prop} {o0 : Option jm_V} {x1 : Int}  (hz : (-2147483648 ≤ x1 ∧ x1 < 2147483648)) (kt : 20 ≤ x1 → Gx (jx_0 L) d md_M_settles 96 [o0, some (.inl x1)] [] I Q) (kf : ¬ (20 ≤ x1) → Gx (jx_0 L) d md_M_settles 78 [o0, some (.inl x1)] [] I Q) : Gx (jx_0 L) d md_M_settles 72 [o0, some (.inl x1)] [] I Q := by
  have hz1 := hz
  show jm_Go d 0 0 md_M_settles 72 [o0, some (.inl x1)] [] (jx (jx_0 L) I) (jx_Q (jx_0 L) Q)
  have hd : jm_dc md_M_settles.2.1 72 [(.iload_n 1, 1), (.bipush 20, 2), (.if_icmp .ge 21, 3)] = true := by decide +kernel
  refine go_iload_n rfl hd (fun hd => ?_)
  refine go_bipush (by decide) hd (fun hd => ?_)
  exact go_icmp_ge (by decide) hz1 ⟨by decide, by decide⟩ hd kt kf
theorem b_M_settles_78 {L : Nat} {d : Nat} {I : jm_I} {Q : Option jm_V → jm_I → Prop} {x1 : Int}  (hz : (0 ≤ x1 ∧ x1 < 20) ∧ (0 ≤ x1 ∧ x1 < 20)) (k : Gx (jx_0 L) d md_M_settles 72 [some (.inr (.inl 167)), some (.inl (x1 + 1))] [] (jm_up I 170 (x1.toNat) (I 181 x1.toNat)) Q) : Gx (jx_0 L) d md_M_settles 78 [some (.inr (.inl 167)), some (.inl x1)] [] I Q := by
  obtain ⟨hz1, hz2⟩ := hz
  show jm_Go d 0 0 md_M_settles 78 [some (.inr (.inl 167)), some (.inl x1)] [] (jx (jx_0 L) I) (jx_Q (jx_0 L) Q)
  have hd : jm_dc md_M_settles.2.1 78 [(.aload_n 0, 1), (.getfield 23, 3), (.iload_n 1, 1), (.aload_n 0, 1), (.getfield 57, 3), (.iload_n 1, 1), (.iaload, 1), (.iastore, 1), (.iinc 1 1, 3), (.goto (-21), 3)] = true := by decide +kernel
  refine go_aload_n rfl hd (fun hd => ?_)
  refine go_getR co_X9 fl_9_23 (by decide) rfl rfl rfl hd (fun hd => ?_)
  refine go_iload_n rfl hd (fun hd => ?_)
  refine go_aload_n rfl hd (fun hd => ?_)
  refine go_getR co_X9 fl_9_57 (by decide) rfl rfl rfl hd (fun hd => ?_)
  refine go_iload_n rfl hd (fun hd => ?_)
  refine go_iaload rfl hz1.1 hz1.2 (by decide) hd (fun hd => ?_)
  refine go_iastore rfl hz2.1 hz2.2 (by decide) hd (fun hd => ?_)
  refine go_iinc rfl hd (fun hd => ?_)
  exact go_goto (by decide) hd k
theorem b_M_settles_96 {L : Nat} {d : Nat} {I : jm_I} {Q : Option jm_V → jm_I → Prop} {o0 : Option jm_V} {o1 : Option jm_V}  (k : Gx (jx_0 L) d md_M_settles 98 [o0, some (.inl 0)] [] I Q) : Gx (jx_0 L) d md_M_settles 96 [o0, o1] [] I Q := by
  show jm_Go d 0 0 md_M_settles 96 [o0, o1] [] (jx (jx_0 L) I) (jx_Q (jx_0 L) Q)
  have hd : jm_dc md_M_settles.2.1 96 [(.iconst 0, 1), (.istore_n 1, 1)] = true := by decide +kernel
  refine go_iconst hd (fun hd => ?_)
  refine go_istore_n (by decide) hd (fun hd => ?_)
  exact k
theorem b_M_settles_98 {L : Nat} {d : Nat} {I : jm_I} {Q : Option jm_V → jm_I → Prop} {o0 : Option jm_V} {x1 : Int}  (hz : (-2147483648 ≤ x1 ∧ x1 < 2147483648)) (kt : 27 ≤ x1 → Gx (jx_0 L) d md_M_settles 117 [o0, some (.inl x1)] [] I Q) (kf : ¬ (27 ≤ x1) → Gx (jx_0 L) d md_M_settles 104 [o0, some (.inl x1)] [] I Q) : Gx (jx_0 L) d md_M_settles 98 [o0, some (.inl x1)] [] I Q := by
  have hz1 := hz
  show jm_Go d 0 0 md_M_settles 98 [o0, some (.inl x1)] [] (jx (jx_0 L) I) (jx_Q (jx_0 L) Q)
  have hd : jm_dc md_M_settles.2.1 98 [(.iload_n 1, 1), (.bipush 27, 2), (.if_icmp .ge 16, 3)] = true := by decide +kernel
  refine go_iload_n rfl hd (fun hd => ?_)
  refine go_bipush (by decide) hd (fun hd => ?_)
  exact go_icmp_ge (by decide) hz1 ⟨by decide, by decide⟩ hd kt kf
theorem b_M_settles_104 {L : Nat} {d : Nat} {I : jm_I} {Q : Option jm_V → jm_I → Prop} {x1 : Int}  (hz : (0 ≤ x1 ∧ x1 < 27)) (k : Gx (jx_0 L) d md_M_settles 98 [some (.inr (.inl 167)), some (.inl (x1 + 1))] [] (jm_up I 171 (x1.toNat) 0) Q) : Gx (jx_0 L) d md_M_settles 104 [some (.inr (.inl 167)), some (.inl x1)] [] I Q := by
  have hz1 := hz
  show jm_Go d 0 0 md_M_settles 104 [some (.inr (.inl 167)), some (.inl x1)] [] (jx (jx_0 L) I) (jx_Q (jx_0 L) Q)
  have hd : jm_dc md_M_settles.2.1 104 [(.aload_n 0, 1), (.getfield 26, 3), (.iload_n 1, 1), (.iconst 0, 1), (.iastore, 1), (.iinc 1 1, 3), (.goto (-16), 3)] = true := by decide +kernel
  refine go_aload_n rfl hd (fun hd => ?_)
  refine go_getR co_X9 fl_9_26 (by decide) rfl rfl rfl hd (fun hd => ?_)
  refine go_iload_n rfl hd (fun hd => ?_)
  refine go_iconst hd (fun hd => ?_)
  refine go_iastore rfl hz1.1 hz1.2 (by decide) hd (fun hd => ?_)
  refine go_iinc rfl hd (fun hd => ?_)
  exact go_goto (by decide) hd k
theorem b_M_settles_117 {L : Nat} {d : Nat} {I : jm_I} {Q : Option jm_V → jm_I → Prop} {o0 : Option jm_V} {o1 : Option jm_V}  (k : Gx (jx_0 L) d md_M_settles 119 [o0, some (.inl 0)] [] I Q) : Gx (jx_0 L) d md_M_settles 117 [o0, o1] [] I Q := by
  show jm_Go d 0 0 md_M_settles 117 [o0, o1] [] (jx (jx_0 L) I) (jx_Q (jx_0 L) Q)
  have hd : jm_dc md_M_settles.2.1 117 [(.iconst 0, 1), (.istore_n 1, 1)] = true := by decide +kernel
  refine go_iconst hd (fun hd => ?_)
  refine go_istore_n (by decide) hd (fun hd => ?_)
  exact k
theorem b_M_settles_119 {L : Nat} {d : Nat} {I : jm_I} {Q : Option jm_V → jm_I → Prop} {o0 : Option jm_V} {x1 : Int}  (hz : (-2147483648 ≤ x1 ∧ x1 < 2147483648)) (kt : 5 ≤ x1 → Gx (jx_0 L) d md_M_settles 176 [o0, some (.inl x1)] [] I Q) (kf : ¬ (5 ≤ x1) → Gx (jx_0 L) d md_M_settles 124 [o0, some (.inl x1)] [] I Q) : Gx (jx_0 L) d md_M_settles 119 [o0, some (.inl x1)] [] I Q := by
  have hz1 := hz
  show jm_Go d 0 0 md_M_settles 119 [o0, some (.inl x1)] [] (jx (jx_0 L) I) (jx_Q (jx_0 L) Q)
  have hd : jm_dc md_M_settles.2.1 119 [(.iload_n 1, 1), (.iconst 5, 1), (.if_icmp .ge 55, 3)] = true := by decide +kernel
  refine go_iload_n rfl hd (fun hd => ?_)
  refine go_iconst hd (fun hd => ?_)
  exact go_icmp_ge (by decide) hz1 ⟨by decide, by decide⟩ hd kt kf
theorem b_M_settles_124 {L : Nat} {d : Nat} {I : jm_I} {Q : Option jm_V → jm_I → Prop} {x1 : Int}  (hz : (0 ≤ 2 * x1 ∧ 2 * x1 < 10) ∧ (0 ≤ 1 + x1 ∧ 1 + x1 < 27) ∧ (0 ≤ (2 * x1) + 1 ∧ (2 * x1) + 1 < 10) ∧ (0 ≤ 6 + x1 ∧ 6 + x1 < 27) ∧ (0 ≤ 11 + x1 ∧ 11 + x1 < 27)) (k : Gx (jx_0 L) d md_M_settles 119 [some (.inr (.inl 167)), some (.inl (x1 + 1))] [] (jm_up (jm_up (jm_up I 171 ((1 + x1).toNat) (I 179 (2 * x1).toNat)) 171 ((6 + x1).toNat) (I 179 ((2 * x1) + 1).toNat)) 171 ((11 + x1).toNat) (-9)) Q) : Gx (jx_0 L) d md_M_settles 124 [some (.inr (.inl 167)), some (.inl x1)] [] I Q := by
  obtain ⟨hz1, hz2, hz3, hz4, hz5⟩ := hz
  show jm_Go d 0 0 md_M_settles 124 [some (.inr (.inl 167)), some (.inl x1)] [] (jx (jx_0 L) I) (jx_Q (jx_0 L) Q)
  have hd : jm_dc md_M_settles.2.1 124 [(.aload_n 0, 1), (.getfield 26, 3), (.iconst 1, 1), (.iload_n 1, 1), (.iadd, 1), (.aload_n 0, 1), (.getfield 51, 3), (.iconst 2, 1), (.iload_n 1, 1), (.imul, 1), (.iaload, 1), (.iastore, 1), (.aload_n 0, 1), (.getfield 26, 3), (.bipush 6, 2), (.iload_n 1, 1), (.iadd, 1), (.aload_n 0, 1), (.getfield 51, 3), (.iconst 2, 1), (.iload_n 1, 1), (.imul, 1), (.iconst 1, 1), (.iadd, 1), (.iaload, 1), (.iastore, 1), (.aload_n 0, 1), (.getfield 26, 3), (.bipush 11, 2), (.iload_n 1, 1), (.iadd, 1), (.bipush (-9), 2), (.iastore, 1), (.iinc 1 1, 3), (.goto (-54), 3)] = true := by decide +kernel
  refine go_aload_n rfl hd (fun hd => ?_)
  refine go_getR co_X9 fl_9_26 (by decide) rfl rfl rfl hd (fun hd => ?_)
  refine go_iconst hd (fun hd => ?_)
  refine go_iload_n rfl hd (fun hd => ?_)
  refine go_iadd hd (fun hd => ?_)
  refine go_aload_n rfl hd (fun hd => ?_)
  refine go_getR co_X9 fl_9_51 (by decide) rfl rfl rfl hd (fun hd => ?_)
  refine go_iconst hd (fun hd => ?_)
  refine go_iload_n rfl hd (fun hd => ?_)
  refine go_imul hd (fun hd => ?_)
  refine go_iaload rfl hz1.1 hz1.2 (by decide) hd (fun hd => ?_)
  refine go_iastore rfl hz2.1 hz2.2 (by decide) hd (fun hd => ?_)
  refine go_aload_n rfl hd (fun hd => ?_)
  refine go_getR co_X9 fl_9_26 (by decide) rfl rfl rfl hd (fun hd => ?_)
  refine go_bipush (by decide) hd (fun hd => ?_)
  refine go_iload_n rfl hd (fun hd => ?_)
  refine go_iadd hd (fun hd => ?_)
  refine go_aload_n rfl hd (fun hd => ?_)
  refine go_getR co_X9 fl_9_51 (by decide) rfl rfl rfl hd (fun hd => ?_)
  refine go_iconst hd (fun hd => ?_)
  refine go_iload_n rfl hd (fun hd => ?_)
  refine go_imul hd (fun hd => ?_)
  refine go_iconst hd (fun hd => ?_)
  refine go_iadd hd (fun hd => ?_)
  refine go_iaload rfl hz3.1 hz3.2 (by decide) hd (fun hd => ?_)
  refine go_iastore rfl hz4.1 hz4.2 (by decide) hd (fun hd => ?_)
  refine go_aload_n rfl hd (fun hd => ?_)
  refine go_getR co_X9 fl_9_26 (by decide) rfl rfl rfl hd (fun hd => ?_)
  refine go_bipush (by decide) hd (fun hd => ?_)
  refine go_iload_n rfl hd (fun hd => ?_)
  refine go_iadd hd (fun hd => ?_)
  refine go_bipush (by decide) hd (fun hd => ?_)
  refine go_iastore rfl hz5.1 hz5.2 (by decide) hd (fun hd => ?_)
  refine go_iinc rfl hd (fun hd => ?_)
  exact go_goto (by decide) hd k
theorem b_M_settles_176 {L : Nat} {d : Nat} {I : jm_I} {Q : Option jm_V → jm_I → Prop} {o0 : Option jm_V} {o1 : Option jm_V}  (k : Gx (jx_0 L) d md_M_settles 178 [o0, some (.inl 0)] [] I Q) : Gx (jx_0 L) d md_M_settles 176 [o0, o1] [] I Q := by
  show jm_Go d 0 0 md_M_settles 176 [o0, o1] [] (jx (jx_0 L) I) (jx_Q (jx_0 L) Q)
  have hd : jm_dc md_M_settles.2.1 176 [(.iconst 0, 1), (.istore_n 1, 1)] = true := by decide +kernel
  refine go_iconst hd (fun hd => ?_)
  refine go_istore_n (by decide) hd (fun hd => ?_)
  exact k
theorem b_M_settles_178 {L : Nat} {d : Nat} {I : jm_I} {Q : Option jm_V → jm_I → Prop} {o0 : Option jm_V} {x1 : Int}  (hz : (-2147483648 ≤ x1 ∧ x1 < 2147483648)) (kt : 5 ≤ x1 → Gx (jx_0 L) d md_M_settles 218 [o0, some (.inl x1)] [] I Q) (kf : ¬ (5 ≤ x1) → Gx (jx_0 L) d md_M_settles 183 [o0, some (.inl x1)] [] I Q) : Gx (jx_0 L) d md_M_settles 178 [o0, some (.inl x1)] [] I Q := by
  have hz1 := hz
  show jm_Go d 0 0 md_M_settles 178 [o0, some (.inl x1)] [] (jx (jx_0 L) I) (jx_Q (jx_0 L) Q)
  have hd : jm_dc md_M_settles.2.1 178 [(.iload_n 1, 1), (.iconst 5, 1), (.if_icmp .ge 38, 3)] = true := by decide +kernel
  refine go_iload_n rfl hd (fun hd => ?_)
  refine go_iconst hd (fun hd => ?_)
  exact go_icmp_ge (by decide) hz1 ⟨by decide, by decide⟩ hd kt kf
theorem b_M_settles_183 {L : Nat} {d : Nat} {I : jm_I} {Q : Option jm_V → jm_I → Prop} {x1 : Int}  (hz : (0 ≤ x1 ∧ x1 < 5) ∧ (0 ≤ x1 ∧ x1 < 5) ∧ (0 ≤ 4 * x1 ∧ 4 * x1 < 20) ∧ (0 ≤ 17 + x1 ∧ 17 + x1 < 27)) (k : Gx (jx_0 L) d md_M_settles 178 [some (.inr (.inl 167)), some (.inl (x1 + 1))] [] (jm_up (jm_up I 169 (x1.toNat) (I 180 x1.toNat)) 171 ((17 + x1).toNat) (I 181 (4 * x1).toNat)) Q) : Gx (jx_0 L) d md_M_settles 183 [some (.inr (.inl 167)), some (.inl x1)] [] I Q := by
  obtain ⟨hz1, hz2, hz3, hz4⟩ := hz
  show jm_Go d 0 0 md_M_settles 183 [some (.inr (.inl 167)), some (.inl x1)] [] (jx (jx_0 L) I) (jx_Q (jx_0 L) Q)
  have hd : jm_dc md_M_settles.2.1 183 [(.aload_n 0, 1), (.getfield 20, 3), (.iload_n 1, 1), (.aload_n 0, 1), (.getfield 54, 3), (.iload_n 1, 1), (.iaload, 1), (.iastore, 1), (.aload_n 0, 1), (.getfield 26, 3), (.bipush 17, 2), (.iload_n 1, 1), (.iadd, 1), (.aload_n 0, 1), (.getfield 57, 3), (.iconst 4, 1), (.iload_n 1, 1), (.imul, 1), (.iaload, 1), (.iastore, 1), (.iinc 1 1, 3), (.goto (-37), 3)] = true := by decide +kernel
  refine go_aload_n rfl hd (fun hd => ?_)
  refine go_getR co_X9 fl_9_20 (by decide) rfl rfl rfl hd (fun hd => ?_)
  refine go_iload_n rfl hd (fun hd => ?_)
  refine go_aload_n rfl hd (fun hd => ?_)
  refine go_getR co_X9 fl_9_54 (by decide) rfl rfl rfl hd (fun hd => ?_)
  refine go_iload_n rfl hd (fun hd => ?_)
  refine go_iaload rfl hz1.1 hz1.2 (by decide) hd (fun hd => ?_)
  refine go_iastore rfl hz2.1 hz2.2 (by decide) hd (fun hd => ?_)
  refine go_aload_n rfl hd (fun hd => ?_)
  refine go_getR co_X9 fl_9_26 (by decide) rfl rfl rfl hd (fun hd => ?_)
  refine go_bipush (by decide) hd (fun hd => ?_)
  refine go_iload_n rfl hd (fun hd => ?_)
  refine go_iadd hd (fun hd => ?_)
  refine go_aload_n rfl hd (fun hd => ?_)
  refine go_getR co_X9 fl_9_57 (by decide) rfl rfl rfl hd (fun hd => ?_)
  refine go_iconst hd (fun hd => ?_)
  refine go_iload_n rfl hd (fun hd => ?_)
  refine go_imul hd (fun hd => ?_)
  refine go_iaload rfl hz3.1 hz3.2 (by decide) hd (fun hd => ?_)
  refine go_iastore rfl hz4.1 hz4.2 (by decide) hd (fun hd => ?_)
  refine go_iinc rfl hd (fun hd => ?_)
  exact go_goto (by decide) hd k
theorem b_M_settles_218 {L : Nat} {d : Nat} {I : jm_I} {Q : Option jm_V → jm_I → Prop} {o1 : Option jm_V}  (k : Q none (jm_up (jm_up (jm_up (jm_up (jm_up I 167 10 0) 167 13 0) 174 0 0) 174 1 0) 167 17 0)) : Gx (jx_0 L) d md_M_settles 218 [some (.inr (.inl 167)), o1] [] I Q := by
  show jm_Go d 0 0 md_M_settles 218 [some (.inr (.inl 167)), o1] [] (jx (jx_0 L) I) (jx_Q (jx_0 L) Q)
  have hd : jm_dc md_M_settles.2.1 218 [(.aload_n 0, 1), (.iconst 0, 1), (.putfield 158, 3), (.aload_n 0, 1), (.iconst 0, 1), (.putfield 161, 3), (.aload_n 0, 1), (.getfield 35, 3), (.iconst 0, 1), (.iconst 0, 1), (.bastore, 1), (.aload_n 0, 1), (.getfield 35, 3), (.iconst 1, 1), (.iconst 0, 1), (.bastore, 1), (.aload_n 0, 1), (.iconst 0, 1), (.putfield 88, 3), (.return_, 1)] = true := by decide +kernel
  refine go_aload_n rfl hd (fun hd => ?_)
  refine go_iconst hd (fun hd => ?_)
  refine go_putI co_X9 fl_9_158 (by decide) rfl rfl hd (fun hd => ?_)
  refine go_aload_n rfl hd (fun hd => ?_)
  refine go_iconst hd (fun hd => ?_)
  refine go_putI co_X9 fl_9_161 (by decide) rfl rfl hd (fun hd => ?_)
  refine go_aload_n rfl hd (fun hd => ?_)
  refine go_getR co_X9 fl_9_35 (by decide) rfl rfl rfl hd (fun hd => ?_)
  refine go_iconst hd (fun hd => ?_)
  refine go_iconst hd (fun hd => ?_)
  refine go_zastore rfl (by decide) (by decide) (by decide) (Or.inl rfl) hd (fun hd => ?_)
  refine go_aload_n rfl hd (fun hd => ?_)
  refine go_getR co_X9 fl_9_35 (by decide) rfl rfl rfl hd (fun hd => ?_)
  refine go_iconst hd (fun hd => ?_)
  refine go_iconst hd (fun hd => ?_)
  refine go_zastore rfl (by decide) (by decide) (by decide) (Or.inl rfl) hd (fun hd => ?_)
  refine go_aload_n rfl hd (fun hd => ?_)
  refine go_iconst hd (fun hd => ?_)
  refine go_putI co_X9 fl_9_88 (by decide) rfl rfl hd (fun hd => ?_)
  exact go_vreturn hd rfl ⟨_, rfl, k⟩
theorem b_M_door_0 {L : Nat} {d : Nat} {I : jm_I} {Q : Option jm_V → jm_I → Prop} {x1 : Int} {x2 : Int}  (k : Cx (jx_0 L) d md_M_in [.inl x1, .inl 0, .inl ((I 167 1) - 1)] I (fun v J => Gx (jx_0 L) (d + 1) md_M_door 11 [some (.inr (.inl 167)), some (.inl x1), some (.inl x2)] (v.toList ++ []) J Q)) : Cx (jx_0 L) (d + 1) md_M_door [.inr (.inl 167), .inl x1, .inl x2] I Q := by
  show jm_Go (d + 1) 0 0 md_M_door 0 [some (.inr (.inl 167)), some (.inl x1), some (.inl x2)] [] (jx (jx_0 L) I) (jx_Q (jx_0 L) Q)
  have hd : jm_dc md_M_door.2.1 0 [(.iload_n 1, 1), (.iconst 0, 1), (.aload_n 0, 1), (.getfield 155, 3), (.iconst 1, 1), (.isub, 1), (.invokestatic 78, 3)] = true := by decide +kernel
  refine go_iload_n rfl hd (fun hd => ?_)
  refine go_iconst hd (fun hd => ?_)
  refine go_aload_n rfl hd (fun hd => ?_)
  refine go_getI co_X9 fl_9_155 (by decide) (Or.inl rfl) rfl hd (fun hd => ?_)
  refine go_iconst hd (fun hd => ?_)
  refine go_isub hd (fun hd => ?_)
  exact gx_static [.inl x1, .inl 0, .inl ((I 167 1) - 1)] [] mk_M_in ml_9_78 st_M_in rfl (Nat.le_of_ble_eq_true rfl) rfl (Nat.le_of_ble_eq_true rfl) rfl hd k
theorem b_M_door_11 {L : Nat} {d : Nat} {I : jm_I} {Q : Option jm_V → jm_I → Prop} {o0 : Option jm_V} {o1 : Option jm_V} {o2 : Option jm_V} {s0 : Int}  (hz : (-2147483648 ≤ s0 ∧ s0 < 2147483648)) (kt : s0 = 0 → Gx (jx_0 L) d md_M_door 36 [o0, o1, o2] [] I Q) (kf : ¬ s0 = 0 → Gx (jx_0 L) d md_M_door 14 [o0, o1, o2] [] I Q) : Gx (jx_0 L) d md_M_door 11 [o0, o1, o2] [.inl s0] I Q := by
  have hz1 := hz
  show jm_Go d 0 0 md_M_door 11 [o0, o1, o2] [.inl s0] (jx (jx_0 L) I) (jx_Q (jx_0 L) Q)
  have hd : jm_dc md_M_door.2.1 11 [(.ifCond .eq 25, 3)] = true := by decide +kernel
  exact go_if_eq (by decide) hz1 hd kt kf
theorem b_M_door_14 {L : Nat} {d : Nat} {I : jm_I} {Q : Option jm_V → jm_I → Prop} {o0 : Option jm_V} {o1 : Option jm_V} {x2 : Int}  (k : Cx (jx_0 L) d md_M_in [.inl x2, .inl 0, .inl 2] I (fun v J => Gx (jx_0 L) (d + 1) md_M_door 20 [o0, o1, some (.inl x2)] (v.toList ++ []) J Q)) : Gx (jx_0 L) (d + 1) md_M_door 14 [o0, o1, some (.inl x2)] [] I Q := by
  show jm_Go (d + 1) 0 0 md_M_door 14 [o0, o1, some (.inl x2)] [] (jx (jx_0 L) I) (jx_Q (jx_0 L) Q)
  have hd : jm_dc md_M_door.2.1 14 [(.iload_n 2, 1), (.iconst 0, 1), (.iconst 2, 1), (.invokestatic 78, 3)] = true := by decide +kernel
  refine go_iload_n rfl hd (fun hd => ?_)
  refine go_iconst hd (fun hd => ?_)
  refine go_iconst hd (fun hd => ?_)
  exact gx_static [.inl x2, .inl 0, .inl 2] [] mk_M_in ml_9_78 st_M_in rfl (Nat.le_of_ble_eq_true rfl) rfl (Nat.le_of_ble_eq_true rfl) rfl hd k
theorem b_M_door_20 {L : Nat} {d : Nat} {I : jm_I} {Q : Option jm_V → jm_I → Prop} {o0 : Option jm_V} {o1 : Option jm_V} {o2 : Option jm_V} {s0 : Int}  (hz : (-2147483648 ≤ s0 ∧ s0 < 2147483648)) (kt : s0 = 0 → Gx (jx_0 L) d md_M_door 36 [o0, o1, o2] [] I Q) (kf : ¬ s0 = 0 → Gx (jx_0 L) d md_M_door 23 [o0, o1, o2] [] I Q) : Gx (jx_0 L) d md_M_door 20 [o0, o1, o2] [.inl s0] I Q := by
  have hz1 := hz
  show jm_Go d 0 0 md_M_door 20 [o0, o1, o2] [.inl s0] (jx (jx_0 L) I) (jx_Q (jx_0 L) Q)
  have hd : jm_dc md_M_door.2.1 20 [(.ifCond .eq 16, 3)] = true := by decide +kernel
  exact go_if_eq (by decide) hz1 hd kt kf
theorem b_M_door_23 {L : Nat} {d : Nat} {I : jm_I} {Q : Option jm_V → jm_I → Prop} {x1 : Int} {x2 : Int}  (hz : (0 ≤ (3 * x1) + x2 ∧ (3 * x1) + x2 < 24)) (k : Gx (jx_0 L) d md_M_door 37 [some (.inr (.inl 167)), some (.inl x1), some (.inl x2)] [.inl (I 168 ((3 * x1) + x2).toNat)] I Q) : Gx (jx_0 L) d md_M_door 23 [some (.inr (.inl 167)), some (.inl x1), some (.inl x2)] [] I Q := by
  have hz1 := hz
  show jm_Go d 0 0 md_M_door 23 [some (.inr (.inl 167)), some (.inl x1), some (.inl x2)] [] (jx (jx_0 L) I) (jx_Q (jx_0 L) Q)
  have hd : jm_dc md_M_door.2.1 23 [(.aload_n 0, 1), (.getfield 13, 3), (.iconst 3, 1), (.iload_n 1, 1), (.imul, 1), (.iload_n 2, 1), (.iadd, 1), (.iaload, 1), (.goto 4, 3)] = true := by decide +kernel
  refine go_aload_n rfl hd (fun hd => ?_)
  refine go_getR co_X9 fl_9_13 (by decide) rfl rfl rfl hd (fun hd => ?_)
  refine go_iconst hd (fun hd => ?_)
  refine go_iload_n rfl hd (fun hd => ?_)
  refine go_imul hd (fun hd => ?_)
  refine go_iload_n rfl hd (fun hd => ?_)
  refine go_iadd hd (fun hd => ?_)
  refine go_iaload rfl hz1.1 hz1.2 (by decide) hd (fun hd => ?_)
  exact go_goto (by decide) hd k
theorem b_M_door_36 {L : Nat} {d : Nat} {I : jm_I} {Q : Option jm_V → jm_I → Prop} {o0 : Option jm_V} {o1 : Option jm_V} {o2 : Option jm_V}  (k : Gx (jx_0 L) d md_M_door 37 [o0, o1, o2] [.inl (-1)] I Q) : Gx (jx_0 L) d md_M_door 36 [o0, o1, o2] [] I Q := by
  show jm_Go d 0 0 md_M_door 36 [o0, o1, o2] [] (jx (jx_0 L) I) (jx_Q (jx_0 L) Q)
  have hd : jm_dc md_M_door.2.1 36 [(.iconst (-1), 1)] = true := by decide +kernel
  refine go_iconst hd (fun hd => ?_)
  exact k
theorem b_M_door_37 {L : Nat} {d : Nat} {I : jm_I} {Q : Option jm_V → jm_I → Prop} {o0 : Option jm_V} {o1 : Option jm_V} {o2 : Option jm_V} {s0 : Int}  (k : Q (some (.inl s0)) I) : Gx (jx_0 L) d md_M_door 37 [o0, o1, o2] [.inl s0] I Q := by
  show jm_Go d 0 0 md_M_door 37 [o0, o1, o2] [.inl s0] (jx (jx_0 L) I) (jx_Q (jx_0 L) Q)
  have hd : jm_dc md_M_door.2.1 37 [(.ireturn, 1)] = true := by decide +kernel
  exact go_ireturn hd rfl ⟨_, rfl, k⟩
theorem b_M_person_0 {L : Nat} {d : Nat} {I : jm_I} {Q : Option jm_V → jm_I → Prop} {x1 : Int} {x2 : Int}  (k : Cx (jx_0 L) d md_M_isPerson [.inr (.inl 167), .inl x1] I (fun v J => Gx (jx_0 L) (d + 1) md_M_person 5 [some (.inr (.inl 167)), some (.inl x1), some (.inl x2)] (v.toList ++ []) J Q)) : Cx (jx_0 L) (d + 1) md_M_person [.inr (.inl 167), .inl x1, .inl x2] I Q := by
  show jm_Go (d + 1) 0 0 md_M_person 0 [some (.inr (.inl 167)), some (.inl x1), some (.inl x2)] [] (jx (jx_0 L) I) (jx_Q (jx_0 L) Q)
  have hd : jm_dc md_M_person.2.1 0 [(.aload_n 0, 1), (.iload_n 1, 1), (.invokevirtual 164, 3)] = true := by decide +kernel
  refine go_aload_n rfl hd (fun hd => ?_)
  refine go_iload_n rfl hd (fun hd => ?_)
  exact gx_virtual 167 9 [.inl x1] [] mk_M_isPerson co_X9 rfl ml_9_164 in_M_isPerson se_M_isPerson rfl rfl (Nat.le_of_ble_eq_true rfl) rfl (Nat.le_of_ble_eq_true rfl) rfl hd k
theorem b_M_person_5 {L : Nat} {d : Nat} {I : jm_I} {Q : Option jm_V → jm_I → Prop} {o0 : Option jm_V} {o1 : Option jm_V} {o2 : Option jm_V} {s0 : Int}  (hz : (-2147483648 ≤ s0 ∧ s0 < 2147483648)) (kt : ¬ s0 = 0 → Gx (jx_0 L) d md_M_person 10 [o0, o1, o2] [] I Q) (kf : s0 = 0 → Gx (jx_0 L) d md_M_person 8 [o0, o1, o2] [] I Q) : Gx (jx_0 L) d md_M_person 5 [o0, o1, o2] [.inl s0] I Q := by
  have hz1 := hz
  show jm_Go d 0 0 md_M_person 5 [o0, o1, o2] [.inl s0] (jx (jx_0 L) I) (jx_Q (jx_0 L) Q)
  have hd : jm_dc md_M_person.2.1 5 [(.ifCond .ne 5, 3)] = true := by decide +kernel
  exact go_if_ne (by decide) hz1 hd kt kf
theorem b_M_person_8 {L : Nat} {d : Nat} {I : jm_I} {Q : Option jm_V → jm_I → Prop} {o0 : Option jm_V} {o1 : Option jm_V} {o2 : Option jm_V}  (k : Q (some (.inl (-1))) I) : Gx (jx_0 L) d md_M_person 8 [o0, o1, o2] [] I Q := by
  show jm_Go d 0 0 md_M_person 8 [o0, o1, o2] [] (jx (jx_0 L) I) (jx_Q (jx_0 L) Q)
  have hd : jm_dc md_M_person.2.1 8 [(.iconst (-1), 1), (.ireturn, 1)] = true := by decide +kernel
  refine go_iconst hd (fun hd => ?_)
  exact go_ireturn hd rfl ⟨_, rfl, k⟩
theorem b_M_person_10 {L : Nat} {d : Nat} {I : jm_I} {Q : Option jm_V → jm_I → Prop} {o0 : Option jm_V} {o1 : Option jm_V} {x2 : Int}  (hz : (-2147483648 ≤ x2 ∧ x2 < 2147483648)) (k0 : x2 = 0 → Gx (jx_0 L) d md_M_person 40 [o0, o1, some (.inl x2)] [] I Q) (k1 : x2 = 1 → Gx (jx_0 L) d md_M_person 49 [o0, o1, some (.inl x2)] [] I Q) (k2 : x2 = 2 → Gx (jx_0 L) d md_M_person 59 [o0, o1, some (.inl x2)] [] I Q) (k3 : x2 = 3 → Gx (jx_0 L) d md_M_person 79 [o0, o1, some (.inl x2)] [] I Q) (kd : (x2 < 0 ∨ 3 < x2) → Gx (jx_0 L) d md_M_person 89 [o0, o1, some (.inl x2)] [] I Q) : Gx (jx_0 L) d md_M_person 10 [o0, o1, some (.inl x2)] [] I Q := by
  have hz1 := hz
  show jm_Go d 0 0 md_M_person 10 [o0, o1, some (.inl x2)] [] (jx (jx_0 L) I) (jx_Q (jx_0 L) Q)
  have hd : jm_dc md_M_person.2.1 10 [(.iload_n 2, 1), (.tableswitch 78 0 3 #[29, 38, 48, 68], 29)] = true := by decide +kernel
  refine go_iload_n rfl hd (fun hd => ?_)
  by_cases hq : x2 < 0 ∨ 3 < x2
  · exact go_tableOut (a := x2) hz1 hq (by decide) hd (kd hq)
  · rcases (show x2 = 0 ∨ x2 = 1 ∨ x2 = 2 ∨ x2 = 3 by omega) with hq0 | hq1 | hq2 | hq3
    · exact go_tableIn (a := x2) (off := 29) (t := 40) hz1 (by omega) (by omega) (by rw [hq0]; rfl) (by decide) hd (k0 hq0)
    · exact go_tableIn (a := x2) (off := 38) (t := 49) hz1 (by omega) (by omega) (by rw [hq1]; rfl) (by decide) hd (k1 hq1)
    · exact go_tableIn (a := x2) (off := 48) (t := 59) hz1 (by omega) (by omega) (by rw [hq2]; rfl) (by decide) hd (k2 hq2)
    · exact go_tableIn (a := x2) (off := 68) (t := 79) hz1 (by omega) (by omega) (by rw [hq3]; rfl) (by decide) hd (k3 hq3)
theorem b_M_person_40 {L : Nat} {d : Nat} {I : jm_I} {Q : Option jm_V → jm_I → Prop} {x1 : Int} {o2 : Option jm_V}  (hz : (0 ≤ 1 + x1 ∧ 1 + x1 < 27)) (k : Q (some (.inl (I 171 (1 + x1).toNat))) I) : Gx (jx_0 L) d md_M_person 40 [some (.inr (.inl 167)), some (.inl x1), o2] [] I Q := by
  have hz1 := hz
  show jm_Go d 0 0 md_M_person 40 [some (.inr (.inl 167)), some (.inl x1), o2] [] (jx (jx_0 L) I) (jx_Q (jx_0 L) Q)
  have hd : jm_dc md_M_person.2.1 40 [(.aload_n 0, 1), (.getfield 26, 3), (.iconst 1, 1), (.iload_n 1, 1), (.iadd, 1), (.iaload, 1), (.ireturn, 1)] = true := by decide +kernel
  refine go_aload_n rfl hd (fun hd => ?_)
  refine go_getR co_X9 fl_9_26 (by decide) rfl rfl rfl hd (fun hd => ?_)
  refine go_iconst hd (fun hd => ?_)
  refine go_iload_n rfl hd (fun hd => ?_)
  refine go_iadd hd (fun hd => ?_)
  refine go_iaload rfl hz1.1 hz1.2 (by decide) hd (fun hd => ?_)
  exact go_ireturn hd rfl ⟨_, rfl, k⟩
theorem b_M_person_49 {L : Nat} {d : Nat} {I : jm_I} {Q : Option jm_V → jm_I → Prop} {x1 : Int} {o2 : Option jm_V}  (hz : (0 ≤ 6 + x1 ∧ 6 + x1 < 27)) (k : Q (some (.inl (I 171 (6 + x1).toNat))) I) : Gx (jx_0 L) d md_M_person 49 [some (.inr (.inl 167)), some (.inl x1), o2] [] I Q := by
  have hz1 := hz
  show jm_Go d 0 0 md_M_person 49 [some (.inr (.inl 167)), some (.inl x1), o2] [] (jx (jx_0 L) I) (jx_Q (jx_0 L) Q)
  have hd : jm_dc md_M_person.2.1 49 [(.aload_n 0, 1), (.getfield 26, 3), (.bipush 6, 2), (.iload_n 1, 1), (.iadd, 1), (.iaload, 1), (.ireturn, 1)] = true := by decide +kernel
  refine go_aload_n rfl hd (fun hd => ?_)
  refine go_getR co_X9 fl_9_26 (by decide) rfl rfl rfl hd (fun hd => ?_)
  refine go_bipush (by decide) hd (fun hd => ?_)
  refine go_iload_n rfl hd (fun hd => ?_)
  refine go_iadd hd (fun hd => ?_)
  refine go_iaload rfl hz1.1 hz1.2 (by decide) hd (fun hd => ?_)
  exact go_ireturn hd rfl ⟨_, rfl, k⟩
theorem b_M_person_59 {L : Nat} {d : Nat} {I : jm_I} {Q : Option jm_V → jm_I → Prop} {x1 : Int} {o2 : Option jm_V}  (k : Cx (jx_0 L) d md_M_has [.inl (I 171 16), .inl x1] I (fun v J => Gx (jx_0 L) (d + 1) md_M_person 70 [some (.inr (.inl 167)), some (.inl x1), o2] (v.toList ++ []) J Q)) : Gx (jx_0 L) (d + 1) md_M_person 59 [some (.inr (.inl 167)), some (.inl x1), o2] [] I Q := by
  show jm_Go (d + 1) 0 0 md_M_person 59 [some (.inr (.inl 167)), some (.inl x1), o2] [] (jx (jx_0 L) I) (jx_Q (jx_0 L) Q)
  have hd : jm_dc md_M_person.2.1 59 [(.aload_n 0, 1), (.getfield 26, 3), (.bipush 16, 2), (.iaload, 1), (.iload_n 1, 1), (.invokestatic 168, 3)] = true := by decide +kernel
  refine go_aload_n rfl hd (fun hd => ?_)
  refine go_getR co_X9 fl_9_26 (by decide) rfl rfl rfl hd (fun hd => ?_)
  refine go_bipush (by decide) hd (fun hd => ?_)
  refine go_iaload rfl (by decide) (by decide) (by decide) hd (fun hd => ?_)
  refine go_iload_n rfl hd (fun hd => ?_)
  exact gx_static [.inl (I 171 16), .inl x1] [] mk_M_has ml_9_168 st_M_has rfl (Nat.le_of_ble_eq_true rfl) rfl (Nat.le_of_ble_eq_true rfl) rfl hd k
theorem b_M_person_70 {L : Nat} {d : Nat} {I : jm_I} {Q : Option jm_V → jm_I → Prop} {o0 : Option jm_V} {o1 : Option jm_V} {o2 : Option jm_V} {s0 : Int}  (hz : (-2147483648 ≤ s0 ∧ s0 < 2147483648)) (kt : s0 = 0 → Gx (jx_0 L) d md_M_person 77 [o0, o1, o2] [] I Q) (kf : ¬ s0 = 0 → Gx (jx_0 L) d md_M_person 73 [o0, o1, o2] [] I Q) : Gx (jx_0 L) d md_M_person 70 [o0, o1, o2] [.inl s0] I Q := by
  have hz1 := hz
  show jm_Go d 0 0 md_M_person 70 [o0, o1, o2] [.inl s0] (jx (jx_0 L) I) (jx_Q (jx_0 L) Q)
  have hd : jm_dc md_M_person.2.1 70 [(.ifCond .eq 7, 3)] = true := by decide +kernel
  exact go_if_eq (by decide) hz1 hd kt kf
theorem b_M_person_73 {L : Nat} {d : Nat} {I : jm_I} {Q : Option jm_V → jm_I → Prop} {o0 : Option jm_V} {o1 : Option jm_V} {o2 : Option jm_V}  (k : Gx (jx_0 L) d md_M_person 78 [o0, o1, o2] [.inl 1] I Q) : Gx (jx_0 L) d md_M_person 73 [o0, o1, o2] [] I Q := by
  show jm_Go d 0 0 md_M_person 73 [o0, o1, o2] [] (jx (jx_0 L) I) (jx_Q (jx_0 L) Q)
  have hd : jm_dc md_M_person.2.1 73 [(.iconst 1, 1), (.goto 4, 3)] = true := by decide +kernel
  refine go_iconst hd (fun hd => ?_)
  exact go_goto (by decide) hd k
theorem b_M_person_77 {L : Nat} {d : Nat} {I : jm_I} {Q : Option jm_V → jm_I → Prop} {o0 : Option jm_V} {o1 : Option jm_V} {o2 : Option jm_V}  (k : Gx (jx_0 L) d md_M_person 78 [o0, o1, o2] [.inl 0] I Q) : Gx (jx_0 L) d md_M_person 77 [o0, o1, o2] [] I Q := by
  show jm_Go d 0 0 md_M_person 77 [o0, o1, o2] [] (jx (jx_0 L) I) (jx_Q (jx_0 L) Q)
  have hd : jm_dc md_M_person.2.1 77 [(.iconst 0, 1)] = true := by decide +kernel
  refine go_iconst hd (fun hd => ?_)
  exact k
theorem b_M_person_78 {L : Nat} {d : Nat} {I : jm_I} {Q : Option jm_V → jm_I → Prop} {o0 : Option jm_V} {o1 : Option jm_V} {o2 : Option jm_V} {s0 : Int}  (k : Q (some (.inl s0)) I) : Gx (jx_0 L) d md_M_person 78 [o0, o1, o2] [.inl s0] I Q := by
  show jm_Go d 0 0 md_M_person 78 [o0, o1, o2] [.inl s0] (jx (jx_0 L) I) (jx_Q (jx_0 L) Q)
  have hd : jm_dc md_M_person.2.1 78 [(.ireturn, 1)] = true := by decide +kernel
  exact go_ireturn hd rfl ⟨_, rfl, k⟩
theorem b_M_person_79 {L : Nat} {d : Nat} {I : jm_I} {Q : Option jm_V → jm_I → Prop} {x1 : Int} {o2 : Option jm_V}  (hz : (0 ≤ 11 + x1 ∧ 11 + x1 < 27)) (k : Q (some (.inl (I 171 (11 + x1).toNat))) I) : Gx (jx_0 L) d md_M_person 79 [some (.inr (.inl 167)), some (.inl x1), o2] [] I Q := by
  have hz1 := hz
  show jm_Go d 0 0 md_M_person 79 [some (.inr (.inl 167)), some (.inl x1), o2] [] (jx (jx_0 L) I) (jx_Q (jx_0 L) Q)
  have hd : jm_dc md_M_person.2.1 79 [(.aload_n 0, 1), (.getfield 26, 3), (.bipush 11, 2), (.iload_n 1, 1), (.iadd, 1), (.iaload, 1), (.ireturn, 1)] = true := by decide +kernel
  refine go_aload_n rfl hd (fun hd => ?_)
  refine go_getR co_X9 fl_9_26 (by decide) rfl rfl rfl hd (fun hd => ?_)
  refine go_bipush (by decide) hd (fun hd => ?_)
  refine go_iload_n rfl hd (fun hd => ?_)
  refine go_iadd hd (fun hd => ?_)
  refine go_iaload rfl hz1.1 hz1.2 (by decide) hd (fun hd => ?_)
  exact go_ireturn hd rfl ⟨_, rfl, k⟩
theorem b_M_person_89 {L : Nat} {d : Nat} {I : jm_I} {Q : Option jm_V → jm_I → Prop} {o0 : Option jm_V} {o1 : Option jm_V} {o2 : Option jm_V}  (k : Q (some (.inl (-1))) I) : Gx (jx_0 L) d md_M_person 89 [o0, o1, o2] [] I Q := by
  show jm_Go d 0 0 md_M_person 89 [o0, o1, o2] [] (jx (jx_0 L) I) (jx_Q (jx_0 L) Q)
  have hd : jm_dc md_M_person.2.1 89 [(.iconst (-1), 1), (.ireturn, 1)] = true := by decide +kernel
  refine go_iconst hd (fun hd => ?_)
  exact go_ireturn hd rfl ⟨_, rfl, k⟩
theorem b_M_isPerson_0 {L : Nat} {d : Nat} {I : jm_I} {Q : Option jm_V → jm_I → Prop} {x1 : Int}  (k : Cx (jx_0 L) d md_M_in [.inl x1, .inl 0, .inl ((I 167 4) - 1)] I (fun v J => Gx (jx_0 L) (d + 1) md_M_isPerson 11 [some (.inr (.inl 167)), some (.inl x1)] (v.toList ++ []) J Q)) : Cx (jx_0 L) (d + 1) md_M_isPerson [.inr (.inl 167), .inl x1] I Q := by
  show jm_Go (d + 1) 0 0 md_M_isPerson 0 [some (.inr (.inl 167)), some (.inl x1)] [] (jx (jx_0 L) I) (jx_Q (jx_0 L) Q)
  have hd : jm_dc md_M_isPerson.2.1 0 [(.iload_n 1, 1), (.iconst 0, 1), (.aload_n 0, 1), (.getfield 82, 3), (.iconst 1, 1), (.isub, 1), (.invokestatic 78, 3)] = true := by decide +kernel
  refine go_iload_n rfl hd (fun hd => ?_)
  refine go_iconst hd (fun hd => ?_)
  refine go_aload_n rfl hd (fun hd => ?_)
  refine go_getI co_X9 fl_9_82 (by decide) (Or.inl rfl) rfl hd (fun hd => ?_)
  refine go_iconst hd (fun hd => ?_)
  refine go_isub hd (fun hd => ?_)
  exact gx_static [.inl x1, .inl 0, .inl ((I 167 4) - 1)] [] mk_M_in ml_9_78 st_M_in rfl (Nat.le_of_ble_eq_true rfl) rfl (Nat.le_of_ble_eq_true rfl) rfl hd k
theorem b_M_isPerson_11 {L : Nat} {d : Nat} {I : jm_I} {Q : Option jm_V → jm_I → Prop} {o0 : Option jm_V} {o1 : Option jm_V} {s0 : Int}  (hz : (s0 = 0 ∨ s0 = 1)) (k : Q (some (.inl s0)) I) : Gx (jx_0 L) d md_M_isPerson 11 [o0, o1] [.inl s0] I Q := by
  have hz1 := hz
  show jm_Go d 0 0 md_M_isPerson 11 [o0, o1] [.inl s0] (jx (jx_0 L) I) (jx_Q (jx_0 L) Q)
  have hd : jm_dc md_M_isPerson.2.1 11 [(.ireturn, 1)] = true := by decide +kernel
  exact go_zreturn hd rfl hz1 ⟨_, rfl, k⟩
theorem b_M_has_0 {L : Nat} {d : Nat} {I : jm_I} {Q : Option jm_V → jm_I → Prop} {x0 : Int} {x1 : Int}  (hz : (-2147483648 ≤ jb_and (jb_shr x0 x1) 1 ∧ jb_and (jb_shr x0 x1) 1 < 2147483648)) (kt : ¬ (jb_and (jb_shr x0 x1) 1) = 1 → Gx (jx_0 L) d md_M_has 13 [some (.inl x0), some (.inl x1)] [] I Q) (kf : (jb_and (jb_shr x0 x1) 1) = 1 → Gx (jx_0 L) d md_M_has 9 [some (.inl x0), some (.inl x1)] [] I Q) : Cx (jx_0 L) d md_M_has [.inl x0, .inl x1] I Q := by
  have hz1 := hz
  show jm_Go d 0 0 md_M_has 0 [some (.inl x0), some (.inl x1)] [] (jx (jx_0 L) I) (jx_Q (jx_0 L) Q)
  have hd : jm_dc md_M_has.2.1 0 [(.iload_n 0, 1), (.iload_n 1, 1), (.ishr, 1), (.iconst 1, 1), (.iand, 1), (.iconst 1, 1), (.if_icmp .ne 7, 3)] = true := by decide +kernel
  refine go_iload_n rfl hd (fun hd => ?_)
  refine go_iload_n rfl hd (fun hd => ?_)
  refine go_ishr hd (fun hd => ?_)
  refine go_iconst hd (fun hd => ?_)
  refine go_iand hd (fun hd => ?_)
  refine go_iconst hd (fun hd => ?_)
  exact go_icmp_ne (by decide) hz1 ⟨by decide, by decide⟩ hd kt kf
theorem b_M_has_9 {L : Nat} {d : Nat} {I : jm_I} {Q : Option jm_V → jm_I → Prop} {o0 : Option jm_V} {o1 : Option jm_V}  (k : Gx (jx_0 L) d md_M_has 14 [o0, o1] [.inl 1] I Q) : Gx (jx_0 L) d md_M_has 9 [o0, o1] [] I Q := by
  show jm_Go d 0 0 md_M_has 9 [o0, o1] [] (jx (jx_0 L) I) (jx_Q (jx_0 L) Q)
  have hd : jm_dc md_M_has.2.1 9 [(.iconst 1, 1), (.goto 4, 3)] = true := by decide +kernel
  refine go_iconst hd (fun hd => ?_)
  exact go_goto (by decide) hd k
theorem b_M_has_13 {L : Nat} {d : Nat} {I : jm_I} {Q : Option jm_V → jm_I → Prop} {o0 : Option jm_V} {o1 : Option jm_V}  (k : Gx (jx_0 L) d md_M_has 14 [o0, o1] [.inl 0] I Q) : Gx (jx_0 L) d md_M_has 13 [o0, o1] [] I Q := by
  show jm_Go d 0 0 md_M_has 13 [o0, o1] [] (jx (jx_0 L) I) (jx_Q (jx_0 L) Q)
  have hd : jm_dc md_M_has.2.1 13 [(.iconst 0, 1)] = true := by decide +kernel
  refine go_iconst hd (fun hd => ?_)
  exact k
theorem b_M_has_14 {L : Nat} {d : Nat} {I : jm_I} {Q : Option jm_V → jm_I → Prop} {o0 : Option jm_V} {o1 : Option jm_V} {s0 : Int}  (hz : (s0 = 0 ∨ s0 = 1)) (k : Q (some (.inl s0)) I) : Gx (jx_0 L) d md_M_has 14 [o0, o1] [.inl s0] I Q := by
  have hz1 := hz
  show jm_Go d 0 0 md_M_has 14 [o0, o1] [.inl s0] (jx (jx_0 L) I) (jx_Q (jx_0 L) Q)
  have hd : jm_dc md_M_has.2.1 14 [(.ireturn, 1)] = true := by decide +kernel
  exact go_zreturn hd rfl hz1 ⟨_, rfl, k⟩
theorem b_M_thing_0 {L : Nat} {d : Nat} {I : jm_I} {Q : Option jm_V → jm_I → Prop} {x1 : Int} {x2 : Int}  (k : Cx (jx_0 L) d md_M_isThing [.inr (.inl 167), .inl x1] I (fun v J => Gx (jx_0 L) (d + 1) md_M_thing 5 [some (.inr (.inl 167)), some (.inl x1), some (.inl x2)] (v.toList ++ []) J Q)) : Cx (jx_0 L) (d + 1) md_M_thing [.inr (.inl 167), .inl x1, .inl x2] I Q := by
  show jm_Go (d + 1) 0 0 md_M_thing 0 [some (.inr (.inl 167)), some (.inl x1), some (.inl x2)] [] (jx (jx_0 L) I) (jx_Q (jx_0 L) Q)
  have hd : jm_dc md_M_thing.2.1 0 [(.aload_n 0, 1), (.iload_n 1, 1), (.invokevirtual 172, 3)] = true := by decide +kernel
  refine go_aload_n rfl hd (fun hd => ?_)
  refine go_iload_n rfl hd (fun hd => ?_)
  exact gx_virtual 167 9 [.inl x1] [] mk_M_isThing co_X9 rfl ml_9_172 in_M_isThing se_M_isThing rfl rfl (Nat.le_of_ble_eq_true rfl) rfl (Nat.le_of_ble_eq_true rfl) rfl hd k
theorem b_M_thing_5 {L : Nat} {d : Nat} {I : jm_I} {Q : Option jm_V → jm_I → Prop} {o0 : Option jm_V} {o1 : Option jm_V} {o2 : Option jm_V} {s0 : Int}  (hz : (-2147483648 ≤ s0 ∧ s0 < 2147483648)) (kt : s0 = 0 → Gx (jx_0 L) d md_M_thing 17 [o0, o1, o2] [] I Q) (kf : ¬ s0 = 0 → Gx (jx_0 L) d md_M_thing 8 [o0, o1, o2] [] I Q) : Gx (jx_0 L) d md_M_thing 5 [o0, o1, o2] [.inl s0] I Q := by
  have hz1 := hz
  show jm_Go d 0 0 md_M_thing 5 [o0, o1, o2] [.inl s0] (jx (jx_0 L) I) (jx_Q (jx_0 L) Q)
  have hd : jm_dc md_M_thing.2.1 5 [(.ifCond .eq 12, 3)] = true := by decide +kernel
  exact go_if_eq (by decide) hz1 hd kt kf
theorem b_M_thing_8 {L : Nat} {d : Nat} {I : jm_I} {Q : Option jm_V → jm_I → Prop} {o0 : Option jm_V} {o1 : Option jm_V} {x2 : Int}  (k : Cx (jx_0 L) d md_M_in [.inl x2, .inl 0, .inl 2] I (fun v J => Gx (jx_0 L) (d + 1) md_M_thing 14 [o0, o1, some (.inl x2)] (v.toList ++ []) J Q)) : Gx (jx_0 L) (d + 1) md_M_thing 8 [o0, o1, some (.inl x2)] [] I Q := by
  show jm_Go (d + 1) 0 0 md_M_thing 8 [o0, o1, some (.inl x2)] [] (jx (jx_0 L) I) (jx_Q (jx_0 L) Q)
  have hd : jm_dc md_M_thing.2.1 8 [(.iload_n 2, 1), (.iconst 0, 1), (.iconst 2, 1), (.invokestatic 78, 3)] = true := by decide +kernel
  refine go_iload_n rfl hd (fun hd => ?_)
  refine go_iconst hd (fun hd => ?_)
  refine go_iconst hd (fun hd => ?_)
  exact gx_static [.inl x2, .inl 0, .inl 2] [] mk_M_in ml_9_78 st_M_in rfl (Nat.le_of_ble_eq_true rfl) rfl (Nat.le_of_ble_eq_true rfl) rfl hd k
theorem b_M_thing_14 {L : Nat} {d : Nat} {I : jm_I} {Q : Option jm_V → jm_I → Prop} {o0 : Option jm_V} {o1 : Option jm_V} {o2 : Option jm_V} {s0 : Int}  (hz : (-2147483648 ≤ s0 ∧ s0 < 2147483648)) (kt : ¬ s0 = 0 → Gx (jx_0 L) d md_M_thing 19 [o0, o1, o2] [] I Q) (kf : s0 = 0 → Gx (jx_0 L) d md_M_thing 17 [o0, o1, o2] [] I Q) : Gx (jx_0 L) d md_M_thing 14 [o0, o1, o2] [.inl s0] I Q := by
  have hz1 := hz
  show jm_Go d 0 0 md_M_thing 14 [o0, o1, o2] [.inl s0] (jx (jx_0 L) I) (jx_Q (jx_0 L) Q)
  have hd : jm_dc md_M_thing.2.1 14 [(.ifCond .ne 5, 3)] = true := by decide +kernel
  exact go_if_ne (by decide) hz1 hd kt kf
theorem b_M_thing_17 {L : Nat} {d : Nat} {I : jm_I} {Q : Option jm_V → jm_I → Prop} {o0 : Option jm_V} {o1 : Option jm_V} {o2 : Option jm_V}  (k : Q (some (.inl (-1))) I) : Gx (jx_0 L) d md_M_thing 17 [o0, o1, o2] [] I Q := by
  show jm_Go d 0 0 md_M_thing 17 [o0, o1, o2] [] (jx (jx_0 L) I) (jx_Q (jx_0 L) Q)
  have hd : jm_dc md_M_thing.2.1 17 [(.iconst (-1), 1), (.ireturn, 1)] = true := by decide +kernel
  refine go_iconst hd (fun hd => ?_)
  exact go_ireturn hd rfl ⟨_, rfl, k⟩
theorem b_M_thing_19 {L : Nat} {d : Nat} {I : jm_I} {Q : Option jm_V → jm_I → Prop} {o0 : Option jm_V} {o1 : Option jm_V} {x2 : Int}  (hz : (-2147483648 ≤ x2 ∧ x2 < 2147483648)) (kt : ¬ x2 = 0 → Gx (jx_0 L) d md_M_thing 35 [o0, o1, some (.inl x2)] [] I Q) (kf : x2 = 0 → Gx (jx_0 L) d md_M_thing 23 [o0, o1, some (.inl x2)] [] I Q) : Gx (jx_0 L) d md_M_thing 19 [o0, o1, some (.inl x2)] [] I Q := by
  have hz1 := hz
  show jm_Go d 0 0 md_M_thing 19 [o0, o1, some (.inl x2)] [] (jx (jx_0 L) I) (jx_Q (jx_0 L) Q)
  have hd : jm_dc md_M_thing.2.1 19 [(.iload_n 2, 1), (.ifCond .ne 15, 3)] = true := by decide +kernel
  refine go_iload_n rfl hd (fun hd => ?_)
  exact go_if_ne (by decide) hz1 hd kt kf
theorem b_M_thing_23 {L : Nat} {d : Nat} {I : jm_I} {Q : Option jm_V → jm_I → Prop} {x1 : Int} {o2 : Option jm_V}  (hz : (0 ≤ 17 + x1 ∧ 17 + x1 < 27)) (k : Gx (jx_0 L) d md_M_thing 58 [some (.inr (.inl 167)), some (.inl x1), o2] [.inl (I 171 (17 + x1).toNat)] I Q) : Gx (jx_0 L) d md_M_thing 23 [some (.inr (.inl 167)), some (.inl x1), o2] [] I Q := by
  have hz1 := hz
  show jm_Go d 0 0 md_M_thing 23 [some (.inr (.inl 167)), some (.inl x1), o2] [] (jx (jx_0 L) I) (jx_Q (jx_0 L) Q)
  have hd : jm_dc md_M_thing.2.1 23 [(.aload_n 0, 1), (.getfield 26, 3), (.bipush 17, 2), (.iload_n 1, 1), (.iadd, 1), (.iaload, 1), (.goto 26, 3)] = true := by decide +kernel
  refine go_aload_n rfl hd (fun hd => ?_)
  refine go_getR co_X9 fl_9_26 (by decide) rfl rfl rfl hd (fun hd => ?_)
  refine go_bipush (by decide) hd (fun hd => ?_)
  refine go_iload_n rfl hd (fun hd => ?_)
  refine go_iadd hd (fun hd => ?_)
  refine go_iaload rfl hz1.1 hz1.2 (by decide) hd (fun hd => ?_)
  exact go_goto (by decide) hd k
theorem b_M_thing_35 {L : Nat} {d : Nat} {I : jm_I} {Q : Option jm_V → jm_I → Prop} {o0 : Option jm_V} {o1 : Option jm_V} {x2 : Int}  (hz : (-2147483648 ≤ x2 ∧ x2 < 2147483648)) (kt : ¬ x2 = 1 → Gx (jx_0 L) d md_M_thing 52 [o0, o1, some (.inl x2)] [] I Q) (kf : x2 = 1 → Gx (jx_0 L) d md_M_thing 40 [o0, o1, some (.inl x2)] [] I Q) : Gx (jx_0 L) d md_M_thing 35 [o0, o1, some (.inl x2)] [] I Q := by
  have hz1 := hz
  show jm_Go d 0 0 md_M_thing 35 [o0, o1, some (.inl x2)] [] (jx (jx_0 L) I) (jx_Q (jx_0 L) Q)
  have hd : jm_dc md_M_thing.2.1 35 [(.iload_n 2, 1), (.iconst 1, 1), (.if_icmp .ne 15, 3)] = true := by decide +kernel
  refine go_iload_n rfl hd (fun hd => ?_)
  refine go_iconst hd (fun hd => ?_)
  exact go_icmp_ne (by decide) hz1 ⟨by decide, by decide⟩ hd kt kf
theorem b_M_thing_40 {L : Nat} {d : Nat} {I : jm_I} {Q : Option jm_V → jm_I → Prop} {x1 : Int} {o2 : Option jm_V}  (hz : (0 ≤ 22 + x1 ∧ 22 + x1 < 27)) (k : Gx (jx_0 L) d md_M_thing 58 [some (.inr (.inl 167)), some (.inl x1), o2] [.inl (I 171 (22 + x1).toNat)] I Q) : Gx (jx_0 L) d md_M_thing 40 [some (.inr (.inl 167)), some (.inl x1), o2] [] I Q := by
  have hz1 := hz
  show jm_Go d 0 0 md_M_thing 40 [some (.inr (.inl 167)), some (.inl x1), o2] [] (jx (jx_0 L) I) (jx_Q (jx_0 L) Q)
  have hd : jm_dc md_M_thing.2.1 40 [(.aload_n 0, 1), (.getfield 26, 3), (.bipush 22, 2), (.iload_n 1, 1), (.iadd, 1), (.iaload, 1), (.goto 9, 3)] = true := by decide +kernel
  refine go_aload_n rfl hd (fun hd => ?_)
  refine go_getR co_X9 fl_9_26 (by decide) rfl rfl rfl hd (fun hd => ?_)
  refine go_bipush (by decide) hd (fun hd => ?_)
  refine go_iload_n rfl hd (fun hd => ?_)
  refine go_iadd hd (fun hd => ?_)
  refine go_iaload rfl hz1.1 hz1.2 (by decide) hd (fun hd => ?_)
  exact go_goto (by decide) hd k
theorem b_M_thing_52 {L : Nat} {d : Nat} {I : jm_I} {Q : Option jm_V → jm_I → Prop} {x1 : Int} {o2 : Option jm_V}  (hz : (0 ≤ x1 ∧ x1 < 5)) (k : Gx (jx_0 L) d md_M_thing 58 [some (.inr (.inl 167)), some (.inl x1), o2] [.inl (I 169 x1.toNat)] I Q) : Gx (jx_0 L) d md_M_thing 52 [some (.inr (.inl 167)), some (.inl x1), o2] [] I Q := by
  have hz1 := hz
  show jm_Go d 0 0 md_M_thing 52 [some (.inr (.inl 167)), some (.inl x1), o2] [] (jx (jx_0 L) I) (jx_Q (jx_0 L) Q)
  have hd : jm_dc md_M_thing.2.1 52 [(.aload_n 0, 1), (.getfield 20, 3), (.iload_n 1, 1), (.iaload, 1)] = true := by decide +kernel
  refine go_aload_n rfl hd (fun hd => ?_)
  refine go_getR co_X9 fl_9_20 (by decide) rfl rfl rfl hd (fun hd => ?_)
  refine go_iload_n rfl hd (fun hd => ?_)
  refine go_iaload rfl hz1.1 hz1.2 (by decide) hd (fun hd => ?_)
  exact k
theorem b_M_thing_58 {L : Nat} {d : Nat} {I : jm_I} {Q : Option jm_V → jm_I → Prop} {o0 : Option jm_V} {o1 : Option jm_V} {o2 : Option jm_V} {s0 : Int}  (k : Q (some (.inl s0)) I) : Gx (jx_0 L) d md_M_thing 58 [o0, o1, o2] [.inl s0] I Q := by
  show jm_Go d 0 0 md_M_thing 58 [o0, o1, o2] [.inl s0] (jx (jx_0 L) I) (jx_Q (jx_0 L) Q)
  have hd : jm_dc md_M_thing.2.1 58 [(.ireturn, 1)] = true := by decide +kernel
  exact go_ireturn hd rfl ⟨_, rfl, k⟩
theorem b_M_isThing_0 {L : Nat} {d : Nat} {I : jm_I} {Q : Option jm_V → jm_I → Prop} {x1 : Int}  (k : Cx (jx_0 L) d md_M_in [.inl x1, .inl 0, .inl ((I 167 5) - 1)] I (fun v J => Gx (jx_0 L) (d + 1) md_M_isThing 11 [some (.inr (.inl 167)), some (.inl x1)] (v.toList ++ []) J Q)) : Cx (jx_0 L) (d + 1) md_M_isThing [.inr (.inl 167), .inl x1] I Q := by
  show jm_Go (d + 1) 0 0 md_M_isThing 0 [some (.inr (.inl 167)), some (.inl x1)] [] (jx (jx_0 L) I) (jx_Q (jx_0 L) Q)
  have hd : jm_dc md_M_isThing.2.1 0 [(.iload_n 1, 1), (.iconst 0, 1), (.aload_n 0, 1), (.getfield 85, 3), (.iconst 1, 1), (.isub, 1), (.invokestatic 78, 3)] = true := by decide +kernel
  refine go_iload_n rfl hd (fun hd => ?_)
  refine go_iconst hd (fun hd => ?_)
  refine go_aload_n rfl hd (fun hd => ?_)
  refine go_getI co_X9 fl_9_85 (by decide) (Or.inl rfl) rfl hd (fun hd => ?_)
  refine go_iconst hd (fun hd => ?_)
  refine go_isub hd (fun hd => ?_)
  exact gx_static [.inl x1, .inl 0, .inl ((I 167 5) - 1)] [] mk_M_in ml_9_78 st_M_in rfl (Nat.le_of_ble_eq_true rfl) rfl (Nat.le_of_ble_eq_true rfl) rfl hd k
theorem b_M_isThing_11 {L : Nat} {d : Nat} {I : jm_I} {Q : Option jm_V → jm_I → Prop} {o0 : Option jm_V} {o1 : Option jm_V} {s0 : Int}  (hz : (s0 = 0 ∨ s0 = 1)) (k : Q (some (.inl s0)) I) : Gx (jx_0 L) d md_M_isThing 11 [o0, o1] [.inl s0] I Q := by
  have hz1 := hz
  show jm_Go d 0 0 md_M_isThing 11 [o0, o1] [.inl s0] (jx (jx_0 L) I) (jx_Q (jx_0 L) Q)
  have hd : jm_dc md_M_isThing.2.1 11 [(.ireturn, 1)] = true := by decide +kernel
  exact go_zreturn hd rfl hz1 ⟨_, rfl, k⟩
theorem b_M_now_0 {L : Nat} {d : Nat} {I : jm_I} {Q : Option jm_V → jm_I → Prop} {x1 : Int}  (hz : (-2147483648 ≤ x1 ∧ x1 < 2147483648)) (k0 : x1 = 0 → Gx (jx_0 L) d md_M_now 36 [some (.inr (.inl 167)), some (.inl x1), none, none] [] I Q) (k1 : x1 = 1 → Gx (jx_0 L) d md_M_now 43 [some (.inr (.inl 167)), some (.inl x1), none, none] [] I Q) (k2 : x1 = 2 → Gx (jx_0 L) d md_M_now 53 [some (.inr (.inl 167)), some (.inl x1), none, none] [] I Q) (k3 : x1 = 3 → Gx (jx_0 L) d md_M_now 97 [some (.inr (.inl 167)), some (.inl x1), none, none] [] I Q) (k4 : x1 = 4 → Gx (jx_0 L) d md_M_now 105 [some (.inr (.inl 167)), some (.inl x1), none, none] [] I Q) (kd : (x1 < 0 ∨ 4 < x1) → Gx (jx_0 L) d md_M_now 110 [some (.inr (.inl 167)), some (.inl x1), none, none] [] I Q) : Cx (jx_0 L) d md_M_now [.inr (.inl 167), .inl x1] I Q := by
  have hz1 := hz
  show jm_Go d 0 0 md_M_now 0 [some (.inr (.inl 167)), some (.inl x1), none, none] [] (jx (jx_0 L) I) (jx_Q (jx_0 L) Q)
  have hd : jm_dc md_M_now.2.1 0 [(.iload_n 1, 1), (.tableswitch 109 0 4 #[35, 42, 52, 96, 104], 35)] = true := by decide +kernel
  refine go_iload_n rfl hd (fun hd => ?_)
  by_cases hq : x1 < 0 ∨ 4 < x1
  · exact go_tableOut (a := x1) hz1 hq (by decide) hd (kd hq)
  · rcases (show x1 = 0 ∨ x1 = 1 ∨ x1 = 2 ∨ x1 = 3 ∨ x1 = 4 by omega) with hq0 | hq1 | hq2 | hq3 | hq4
    · exact go_tableIn (a := x1) (off := 35) (t := 36) hz1 (by omega) (by omega) (by rw [hq0]; rfl) (by decide) hd (k0 hq0)
    · exact go_tableIn (a := x1) (off := 42) (t := 43) hz1 (by omega) (by omega) (by rw [hq1]; rfl) (by decide) hd (k1 hq1)
    · exact go_tableIn (a := x1) (off := 52) (t := 53) hz1 (by omega) (by omega) (by rw [hq2]; rfl) (by decide) hd (k2 hq2)
    · exact go_tableIn (a := x1) (off := 96) (t := 97) hz1 (by omega) (by omega) (by rw [hq3]; rfl) (by decide) hd (k3 hq3)
    · exact go_tableIn (a := x1) (off := 104) (t := 105) hz1 (by omega) (by omega) (by rw [hq4]; rfl) (by decide) hd (k4 hq4)
theorem b_M_now_36 {L : Nat} {d : Nat} {I : jm_I} {Q : Option jm_V → jm_I → Prop} {o1 : Option jm_V} {o2 : Option jm_V} {o3 : Option jm_V}  (k : Q (some (.inl (I 171 0))) I) : Gx (jx_0 L) d md_M_now 36 [some (.inr (.inl 167)), o1, o2, o3] [] I Q := by
  show jm_Go d 0 0 md_M_now 36 [some (.inr (.inl 167)), o1, o2, o3] [] (jx (jx_0 L) I) (jx_Q (jx_0 L) Q)
  have hd : jm_dc md_M_now.2.1 36 [(.aload_n 0, 1), (.getfield 26, 3), (.iconst 0, 1), (.iaload, 1), (.ireturn, 1)] = true := by decide +kernel
  refine go_aload_n rfl hd (fun hd => ?_)
  refine go_getR co_X9 fl_9_26 (by decide) rfl rfl rfl hd (fun hd => ?_)
  refine go_iconst hd (fun hd => ?_)
  refine go_iaload rfl (by decide) (by decide) (by decide) hd (fun hd => ?_)
  exact go_ireturn hd rfl ⟨_, rfl, k⟩
theorem b_M_now_43 {L : Nat} {d : Nat} {I : jm_I} {Q : Option jm_V → jm_I → Prop} {o1 : Option jm_V} {o2 : Option jm_V} {o3 : Option jm_V}  (hz : (0 ≤ I 171 0 ∧ I 171 0 < 2147483648)) (k : Q (some (.inl ((I 171 0) / 20))) I) : Gx (jx_0 L) d md_M_now 43 [some (.inr (.inl 167)), o1, o2, o3] [] I Q := by
  have hz1 := hz
  show jm_Go d 0 0 md_M_now 43 [some (.inr (.inl 167)), o1, o2, o3] [] (jx (jx_0 L) I) (jx_Q (jx_0 L) Q)
  have hd : jm_dc md_M_now.2.1 43 [(.aload_n 0, 1), (.getfield 26, 3), (.iconst 0, 1), (.iaload, 1), (.bipush 20, 2), (.idiv, 1), (.ireturn, 1)] = true := by decide +kernel
  refine go_aload_n rfl hd (fun hd => ?_)
  refine go_getR co_X9 fl_9_26 (by decide) rfl rfl rfl hd (fun hd => ?_)
  refine go_iconst hd (fun hd => ?_)
  refine go_iaload rfl (by decide) (by decide) (by decide) hd (fun hd => ?_)
  refine go_bipush (by decide) hd (fun hd => ?_)
  refine go_idiv hz1 (by decide) hd (fun hd => ?_)
  exact go_ireturn hd rfl ⟨_, rfl, k⟩
theorem b_M_now_53 {L : Nat} {d : Nat} {I : jm_I} {Q : Option jm_V → jm_I → Prop} {o0 : Option jm_V} {o1 : Option jm_V} {o2 : Option jm_V} {o3 : Option jm_V}  (k : Gx (jx_0 L) d md_M_now 57 [o0, o1, some (.inl 0), some (.inl 0)] [] I Q) : Gx (jx_0 L) d md_M_now 53 [o0, o1, o2, o3] [] I Q := by
  show jm_Go d 0 0 md_M_now 53 [o0, o1, o2, o3] [] (jx (jx_0 L) I) (jx_Q (jx_0 L) Q)
  have hd : jm_dc md_M_now.2.1 53 [(.iconst 0, 1), (.istore_n 2, 1), (.iconst 0, 1), (.istore_n 3, 1)] = true := by decide +kernel
  refine go_iconst hd (fun hd => ?_)
  refine go_istore_n (by decide) hd (fun hd => ?_)
  refine go_iconst hd (fun hd => ?_)
  refine go_istore_n (by decide) hd (fun hd => ?_)
  exact k
theorem b_M_now_57 {L : Nat} {d : Nat} {I : jm_I} {Q : Option jm_V → jm_I → Prop} {o1 : Option jm_V} {o2 : Option jm_V} {x3 : Int}  (hz : (-2147483648 ≤ x3 ∧ x3 < 2147483648) ∧ (-2147483648 ≤ I 167 4 ∧ I 167 4 < 2147483648)) (kt : (I 167 4) ≤ x3 → Gx (jx_0 L) d md_M_now 95 [some (.inr (.inl 167)), o1, o2, some (.inl x3)] [] I Q) (kf : ¬ ((I 167 4) ≤ x3) → Gx (jx_0 L) d md_M_now 65 [some (.inr (.inl 167)), o1, o2, some (.inl x3)] [] I Q) : Gx (jx_0 L) d md_M_now 57 [some (.inr (.inl 167)), o1, o2, some (.inl x3)] [] I Q := by
  obtain ⟨hz1, hz2⟩ := hz
  show jm_Go d 0 0 md_M_now 57 [some (.inr (.inl 167)), o1, o2, some (.inl x3)] [] (jx (jx_0 L) I) (jx_Q (jx_0 L) Q)
  have hd : jm_dc md_M_now.2.1 57 [(.iload_n 3, 1), (.aload_n 0, 1), (.getfield 82, 3), (.if_icmp .ge 33, 3)] = true := by decide +kernel
  refine go_iload_n rfl hd (fun hd => ?_)
  refine go_aload_n rfl hd (fun hd => ?_)
  refine go_getI co_X9 fl_9_82 (by decide) (Or.inl rfl) rfl hd (fun hd => ?_)
  exact go_icmp_ge (by decide) hz1 hz2 hd kt kf
theorem b_M_now_65 {L : Nat} {d : Nat} {I : jm_I} {Q : Option jm_V → jm_I → Prop} {o1 : Option jm_V} {x2 : Int} {x3 : Int}  (hz : (0 ≤ 11 + x3 ∧ 11 + x3 < 27) ∧ (-2147483648 ≤ I 171 (11 + x3).toNat ∧ I 171 (11 + x3).toNat < 2147483648)) (kt : ¬ (I 171 (11 + x3).toNat) = (-9) → Gx (jx_0 L) d md_M_now 84 [some (.inr (.inl 167)), o1, some (.inl x2), some (.inl x3)] [.inl x2] I Q) (kf : (I 171 (11 + x3).toNat) = (-9) → Gx (jx_0 L) d md_M_now 80 [some (.inr (.inl 167)), o1, some (.inl x2), some (.inl x3)] [.inl x2] I Q) : Gx (jx_0 L) d md_M_now 65 [some (.inr (.inl 167)), o1, some (.inl x2), some (.inl x3)] [] I Q := by
  obtain ⟨hz1, hz2⟩ := hz
  show jm_Go d 0 0 md_M_now 65 [some (.inr (.inl 167)), o1, some (.inl x2), some (.inl x3)] [] (jx (jx_0 L) I) (jx_Q (jx_0 L) Q)
  have hd : jm_dc md_M_now.2.1 65 [(.iload_n 2, 1), (.aload_n 0, 1), (.getfield 26, 3), (.bipush 11, 2), (.iload_n 3, 1), (.iadd, 1), (.iaload, 1), (.bipush (-9), 2), (.if_icmp .ne 7, 3)] = true := by decide +kernel
  refine go_iload_n rfl hd (fun hd => ?_)
  refine go_aload_n rfl hd (fun hd => ?_)
  refine go_getR co_X9 fl_9_26 (by decide) rfl rfl rfl hd (fun hd => ?_)
  refine go_bipush (by decide) hd (fun hd => ?_)
  refine go_iload_n rfl hd (fun hd => ?_)
  refine go_iadd hd (fun hd => ?_)
  refine go_iaload rfl hz1.1 hz1.2 (by decide) hd (fun hd => ?_)
  refine go_bipush (by decide) hd (fun hd => ?_)
  exact go_icmp_ne (by decide) hz2 ⟨by decide, by decide⟩ hd kt kf
theorem b_M_now_80 {L : Nat} {d : Nat} {I : jm_I} {Q : Option jm_V → jm_I → Prop} {o0 : Option jm_V} {o1 : Option jm_V} {o2 : Option jm_V} {o3 : Option jm_V} {s0 : Int}  (k : Gx (jx_0 L) d md_M_now 87 [o0, o1, o2, o3] [.inl 0, .inl s0] I Q) : Gx (jx_0 L) d md_M_now 80 [o0, o1, o2, o3] [.inl s0] I Q := by
  show jm_Go d 0 0 md_M_now 80 [o0, o1, o2, o3] [.inl s0] (jx (jx_0 L) I) (jx_Q (jx_0 L) Q)
  have hd : jm_dc md_M_now.2.1 80 [(.iconst 0, 1), (.goto 6, 3)] = true := by decide +kernel
  refine go_iconst hd (fun hd => ?_)
  exact go_goto (by decide) hd k
theorem b_M_now_84 {L : Nat} {d : Nat} {I : jm_I} {Q : Option jm_V → jm_I → Prop} {o0 : Option jm_V} {o1 : Option jm_V} {o2 : Option jm_V} {x3 : Int} {s0 : Int}  (k : Gx (jx_0 L) d md_M_now 87 [o0, o1, o2, some (.inl x3)] [.inl (jb_shl 1 x3), .inl s0] I Q) : Gx (jx_0 L) d md_M_now 84 [o0, o1, o2, some (.inl x3)] [.inl s0] I Q := by
  show jm_Go d 0 0 md_M_now 84 [o0, o1, o2, some (.inl x3)] [.inl s0] (jx (jx_0 L) I) (jx_Q (jx_0 L) Q)
  have hd : jm_dc md_M_now.2.1 84 [(.iconst 1, 1), (.iload_n 3, 1), (.ishl, 1)] = true := by decide +kernel
  refine go_iconst hd (fun hd => ?_)
  refine go_iload_n rfl hd (fun hd => ?_)
  refine go_ishl hd (fun hd => ?_)
  exact k
theorem b_M_now_87 {L : Nat} {d : Nat} {I : jm_I} {Q : Option jm_V → jm_I → Prop} {o0 : Option jm_V} {o1 : Option jm_V} {o2 : Option jm_V} {x3 : Int} {s0 : Int} {s1 : Int}  (k : Gx (jx_0 L) d md_M_now 57 [o0, o1, some (.inl (jb_or s0 s1)), some (.inl (x3 + 1))] [] I Q) : Gx (jx_0 L) d md_M_now 87 [o0, o1, o2, some (.inl x3)] [.inl s1, .inl s0] I Q := by
  show jm_Go d 0 0 md_M_now 87 [o0, o1, o2, some (.inl x3)] [.inl s1, .inl s0] (jx (jx_0 L) I) (jx_Q (jx_0 L) Q)
  have hd : jm_dc md_M_now.2.1 87 [(.ior, 1), (.istore_n 2, 1), (.iinc 3 1, 3), (.goto (-35), 3)] = true := by decide +kernel
  refine go_ior hd (fun hd => ?_)
  refine go_istore_n (by decide) hd (fun hd => ?_)
  refine go_iinc rfl hd (fun hd => ?_)
  exact go_goto (by decide) hd k
theorem b_M_now_95 {L : Nat} {d : Nat} {I : jm_I} {Q : Option jm_V → jm_I → Prop} {o0 : Option jm_V} {o1 : Option jm_V} {x2 : Int} {o3 : Option jm_V}  (k : Q (some (.inl x2)) I) : Gx (jx_0 L) d md_M_now 95 [o0, o1, some (.inl x2), o3] [] I Q := by
  show jm_Go d 0 0 md_M_now 95 [o0, o1, some (.inl x2), o3] [] (jx (jx_0 L) I) (jx_Q (jx_0 L) Q)
  have hd : jm_dc md_M_now.2.1 95 [(.iload_n 2, 1), (.ireturn, 1)] = true := by decide +kernel
  refine go_iload_n rfl hd (fun hd => ?_)
  exact go_ireturn hd rfl ⟨_, rfl, k⟩
theorem b_M_now_97 {L : Nat} {d : Nat} {I : jm_I} {Q : Option jm_V → jm_I → Prop} {o1 : Option jm_V} {o2 : Option jm_V} {o3 : Option jm_V}  (k : Q (some (.inl (I 171 16))) I) : Gx (jx_0 L) d md_M_now 97 [some (.inr (.inl 167)), o1, o2, o3] [] I Q := by
  show jm_Go d 0 0 md_M_now 97 [some (.inr (.inl 167)), o1, o2, o3] [] (jx (jx_0 L) I) (jx_Q (jx_0 L) Q)
  have hd : jm_dc md_M_now.2.1 97 [(.aload_n 0, 1), (.getfield 26, 3), (.bipush 16, 2), (.iaload, 1), (.ireturn, 1)] = true := by decide +kernel
  refine go_aload_n rfl hd (fun hd => ?_)
  refine go_getR co_X9 fl_9_26 (by decide) rfl rfl rfl hd (fun hd => ?_)
  refine go_bipush (by decide) hd (fun hd => ?_)
  refine go_iaload rfl (by decide) (by decide) (by decide) hd (fun hd => ?_)
  exact go_ireturn hd rfl ⟨_, rfl, k⟩
theorem b_M_now_105 {L : Nat} {d : Nat} {I : jm_I} {Q : Option jm_V → jm_I → Prop} {o1 : Option jm_V} {o2 : Option jm_V} {o3 : Option jm_V}  (k : Q (some (.inl (I 167 10))) I) : Gx (jx_0 L) d md_M_now 105 [some (.inr (.inl 167)), o1, o2, o3] [] I Q := by
  show jm_Go d 0 0 md_M_now 105 [some (.inr (.inl 167)), o1, o2, o3] [] (jx (jx_0 L) I) (jx_Q (jx_0 L) Q)
  have hd : jm_dc md_M_now.2.1 105 [(.aload_n 0, 1), (.getfield 158, 3), (.ireturn, 1)] = true := by decide +kernel
  refine go_aload_n rfl hd (fun hd => ?_)
  refine go_getI co_X9 fl_9_158 (by decide) (Or.inl rfl) rfl hd (fun hd => ?_)
  exact go_ireturn hd rfl ⟨_, rfl, k⟩
theorem b_M_now_110 {L : Nat} {d : Nat} {I : jm_I} {Q : Option jm_V → jm_I → Prop} {o0 : Option jm_V} {o1 : Option jm_V} {o2 : Option jm_V} {o3 : Option jm_V}  (k : Q (some (.inl (-1))) I) : Gx (jx_0 L) d md_M_now 110 [o0, o1, o2, o3] [] I Q := by
  show jm_Go d 0 0 md_M_now 110 [o0, o1, o2, o3] [] (jx (jx_0 L) I) (jx_Q (jx_0 L) Q)
  have hd : jm_dc md_M_now.2.1 110 [(.iconst (-1), 1), (.ireturn, 1)] = true := by decide +kernel
  refine go_iconst hd (fun hd => ?_)
  exact go_ireturn hd rfl ⟨_, rfl, k⟩
theorem b_M_second_0 {L : Nat} {d : Nat} {I : jm_I} {Q : Option jm_V → jm_I → Prop}   (hz : (-2147483648 ≤ I 171 0 ∧ I 171 0 < 2147483648)) (kt : ¬ (I 171 0) = 9999 → Gx (jx_0 L) d md_M_second 15 [some (.inr (.inl 167)), none] [] I Q) (kf : (I 171 0) = 9999 → Gx (jx_0 L) d md_M_second 12 [some (.inr (.inl 167)), none] [] I Q) : Cx (jx_0 L) d md_M_second [.inr (.inl 167)] I Q := by
  have hz1 := hz
  show jm_Go d 0 0 md_M_second 0 [some (.inr (.inl 167)), none] [] (jx (jx_0 L) I) (jx_Q (jx_0 L) Q)
  have hd : jm_dc md_M_second.2.1 0 [(.aload_n 0, 1), (.getfield 26, 3), (.iconst 0, 1), (.iaload, 1), (.sipush 9999, 3), (.if_icmp .ne 6, 3)] = true := by decide +kernel
  refine go_aload_n rfl hd (fun hd => ?_)
  refine go_getR co_X9 fl_9_26 (by decide) rfl rfl rfl hd (fun hd => ?_)
  refine go_iconst hd (fun hd => ?_)
  refine go_iaload rfl (by decide) (by decide) (by decide) hd (fun hd => ?_)
  refine go_sipush (by decide) hd (fun hd => ?_)
  exact go_icmp_ne (by decide) hz1 ⟨by decide, by decide⟩ hd kt kf
theorem b_M_second_12 {L : Nat} {d : Nat} {I : jm_I} {Q : Option jm_V → jm_I → Prop} {o0 : Option jm_V} {o1 : Option jm_V}  (k : Q (some (.inl (-2))) I) : Gx (jx_0 L) d md_M_second 12 [o0, o1] [] I Q := by
  show jm_Go d 0 0 md_M_second 12 [o0, o1] [] (jx (jx_0 L) I) (jx_Q (jx_0 L) Q)
  have hd : jm_dc md_M_second.2.1 12 [(.bipush (-2), 2), (.ireturn, 1)] = true := by decide +kernel
  refine go_bipush (by decide) hd (fun hd => ?_)
  exact go_ireturn hd rfl ⟨_, rfl, k⟩
theorem b_M_second_15 {L : Nat} {d : Nat} {I : jm_I} {Q : Option jm_V → jm_I → Prop} {o1 : Option jm_V}  (k : Cx (jx_0 L) d md_M_remembers [.inr (.inl 167)] I (fun v J => Gx (jx_0 L) (d + 1) md_M_second 19 [some (.inr (.inl 167)), o1] (v.toList ++ []) J Q)) : Gx (jx_0 L) (d + 1) md_M_second 15 [some (.inr (.inl 167)), o1] [] I Q := by
  show jm_Go (d + 1) 0 0 md_M_second 15 [some (.inr (.inl 167)), o1] [] (jx (jx_0 L) I) (jx_Q (jx_0 L) Q)
  have hd : jm_dc md_M_second.2.1 15 [(.aload_n 0, 1), (.invokevirtual 175, 3)] = true := by decide +kernel
  refine go_aload_n rfl hd (fun hd => ?_)
  exact gx_virtual 167 9 [] [] mk_M_remembers co_X9 rfl ml_9_175 in_M_remembers se_M_remembers rfl rfl (Nat.le_of_ble_eq_true rfl) rfl (Nat.le_of_ble_eq_true rfl) rfl hd k
theorem b_M_second_19 {L : Nat} {d : Nat} {I : jm_I} {Q : Option jm_V → jm_I → Prop} {o1 : Option jm_V}  (k : Gx (jx_0 L) d md_M_second 31 [some (.inr (.inl 167)), some (.inl 0)] [] (jm_up I 171 0 ((I 171 0) + 1)) Q) : Gx (jx_0 L) d md_M_second 19 [some (.inr (.inl 167)), o1] [] I Q := by
  show jm_Go d 0 0 md_M_second 19 [some (.inr (.inl 167)), o1] [] (jx (jx_0 L) I) (jx_Q (jx_0 L) Q)
  have hd : jm_dc md_M_second.2.1 19 [(.aload_n 0, 1), (.getfield 26, 3), (.iconst 0, 1), (.dup2, 1), (.iaload, 1), (.iconst 1, 1), (.iadd, 1), (.iastore, 1), (.iconst 0, 1), (.istore_n 1, 1)] = true := by decide +kernel
  refine go_aload_n rfl hd (fun hd => ?_)
  refine go_getR co_X9 fl_9_26 (by decide) rfl rfl rfl hd (fun hd => ?_)
  refine go_iconst hd (fun hd => ?_)
  refine go_dup2 rfl rfl hd (fun hd => ?_)
  refine go_iaload rfl (by decide) (by decide) (by decide) hd (fun hd => ?_)
  refine go_iconst hd (fun hd => ?_)
  refine go_iadd hd (fun hd => ?_)
  refine go_iastore rfl (by decide) (by decide) (by decide) hd (fun hd => ?_)
  refine go_iconst hd (fun hd => ?_)
  refine go_istore_n (by decide) hd (fun hd => ?_)
  exact k
theorem b_M_second_31 {L : Nat} {d : Nat} {I : jm_I} {Q : Option jm_V → jm_I → Prop} {o0 : Option jm_V} {x1 : Int}  (hz : (-2147483648 ≤ x1 ∧ x1 < 2147483648)) (kt : 5 ≤ x1 → Gx (jx_0 L) d md_M_second 53 [o0, some (.inl x1)] [] I Q) (kf : ¬ (5 ≤ x1) → Gx (jx_0 L) d md_M_second 36 [o0, some (.inl x1)] [] I Q) : Gx (jx_0 L) d md_M_second 31 [o0, some (.inl x1)] [] I Q := by
  have hz1 := hz
  show jm_Go d 0 0 md_M_second 31 [o0, some (.inl x1)] [] (jx (jx_0 L) I) (jx_Q (jx_0 L) Q)
  have hd : jm_dc md_M_second.2.1 31 [(.iload_n 1, 1), (.iconst 5, 1), (.if_icmp .ge 20, 3)] = true := by decide +kernel
  refine go_iload_n rfl hd (fun hd => ?_)
  refine go_iconst hd (fun hd => ?_)
  exact go_icmp_ge (by decide) hz1 ⟨by decide, by decide⟩ hd kt kf
theorem b_M_second_36 {L : Nat} {d : Nat} {I : jm_I} {Q : Option jm_V → jm_I → Prop} {x1 : Int}  (hz : (0 ≤ 11 + x1 ∧ 11 + x1 < 27)) (k : Gx (jx_0 L) d md_M_second 31 [some (.inr (.inl 167)), some (.inl (x1 + 1))] [] (jm_up I 171 ((11 + x1).toNat) (-9)) Q) : Gx (jx_0 L) d md_M_second 36 [some (.inr (.inl 167)), some (.inl x1)] [] I Q := by
  have hz1 := hz
  show jm_Go d 0 0 md_M_second 36 [some (.inr (.inl 167)), some (.inl x1)] [] (jx (jx_0 L) I) (jx_Q (jx_0 L) Q)
  have hd : jm_dc md_M_second.2.1 36 [(.aload_n 0, 1), (.getfield 26, 3), (.bipush 11, 2), (.iload_n 1, 1), (.iadd, 1), (.bipush (-9), 2), (.iastore, 1), (.iinc 1 1, 3), (.goto (-19), 3)] = true := by decide +kernel
  refine go_aload_n rfl hd (fun hd => ?_)
  refine go_getR co_X9 fl_9_26 (by decide) rfl rfl rfl hd (fun hd => ?_)
  refine go_bipush (by decide) hd (fun hd => ?_)
  refine go_iload_n rfl hd (fun hd => ?_)
  refine go_iadd hd (fun hd => ?_)
  refine go_bipush (by decide) hd (fun hd => ?_)
  refine go_iastore rfl hz1.1 hz1.2 (by decide) hd (fun hd => ?_)
  refine go_iinc rfl hd (fun hd => ?_)
  exact go_goto (by decide) hd k
theorem b_M_second_53 {L : Nat} {d : Nat} {I : jm_I} {Q : Option jm_V → jm_I → Prop} {o1 : Option jm_V}  (hz : (0 ≤ I 171 0 ∧ I 171 0 < 2147483648) ∧ (-2147483648 ≤ (I 171 0) % 20 ∧ (I 171 0) % 20 < 2147483648)) (kt : ¬ ((I 171 0) % 20) = 0 → Gx (jx_0 L) d md_M_second 75 [some (.inr (.inl 167)), o1] [.inl 16, .inr (.inl 171)] I Q) (kf : ((I 171 0) % 20) = 0 → Gx (jx_0 L) d md_M_second 71 [some (.inr (.inl 167)), o1] [.inl 16, .inr (.inl 171)] I Q) : Gx (jx_0 L) d md_M_second 53 [some (.inr (.inl 167)), o1] [] I Q := by
  obtain ⟨hz1, hz2⟩ := hz
  show jm_Go d 0 0 md_M_second 53 [some (.inr (.inl 167)), o1] [] (jx (jx_0 L) I) (jx_Q (jx_0 L) Q)
  have hd : jm_dc md_M_second.2.1 53 [(.aload_n 0, 1), (.getfield 26, 3), (.bipush 16, 2), (.aload_n 0, 1), (.getfield 26, 3), (.iconst 0, 1), (.iaload, 1), (.bipush 20, 2), (.irem, 1), (.ifCond .ne 7, 3)] = true := by decide +kernel
  refine go_aload_n rfl hd (fun hd => ?_)
  refine go_getR co_X9 fl_9_26 (by decide) rfl rfl rfl hd (fun hd => ?_)
  refine go_bipush (by decide) hd (fun hd => ?_)
  refine go_aload_n rfl hd (fun hd => ?_)
  refine go_getR co_X9 fl_9_26 (by decide) rfl rfl rfl hd (fun hd => ?_)
  refine go_iconst hd (fun hd => ?_)
  refine go_iaload rfl (by decide) (by decide) (by decide) hd (fun hd => ?_)
  refine go_bipush (by decide) hd (fun hd => ?_)
  refine go_irem hz1 (by decide) hd (fun hd => ?_)
  exact go_if_ne (by decide) hz2 hd kt kf
theorem b_M_second_71 {L : Nat} {d : Nat} {I : jm_I} {Q : Option jm_V → jm_I → Prop} {o0 : Option jm_V} {o1 : Option jm_V} {s1 : Int}  (k : Gx (jx_0 L) d md_M_second 82 [o0, o1] [.inl 0, .inl s1, .inr (.inl 171)] I Q) : Gx (jx_0 L) d md_M_second 71 [o0, o1] [.inl s1, .inr (.inl 171)] I Q := by
  show jm_Go d 0 0 md_M_second 71 [o0, o1] [.inl s1, .inr (.inl 171)] (jx (jx_0 L) I) (jx_Q (jx_0 L) Q)
  have hd : jm_dc md_M_second.2.1 71 [(.iconst 0, 1), (.goto 10, 3)] = true := by decide +kernel
  refine go_iconst hd (fun hd => ?_)
  exact go_goto (by decide) hd k
theorem b_M_second_75 {L : Nat} {d : Nat} {I : jm_I} {Q : Option jm_V → jm_I → Prop} {o1 : Option jm_V} {s1 : Int}  (k : Gx (jx_0 L) d md_M_second 82 [some (.inr (.inl 167)), o1] [.inl (I 171 16), .inl s1, .inr (.inl 171)] I Q) : Gx (jx_0 L) d md_M_second 75 [some (.inr (.inl 167)), o1] [.inl s1, .inr (.inl 171)] I Q := by
  show jm_Go d 0 0 md_M_second 75 [some (.inr (.inl 167)), o1] [.inl s1, .inr (.inl 171)] (jx (jx_0 L) I) (jx_Q (jx_0 L) Q)
  have hd : jm_dc md_M_second.2.1 75 [(.aload_n 0, 1), (.getfield 26, 3), (.bipush 16, 2), (.iaload, 1)] = true := by decide +kernel
  refine go_aload_n rfl hd (fun hd => ?_)
  refine go_getR co_X9 fl_9_26 (by decide) rfl rfl rfl hd (fun hd => ?_)
  refine go_bipush (by decide) hd (fun hd => ?_)
  refine go_iaload rfl (by decide) (by decide) (by decide) hd (fun hd => ?_)
  exact k
theorem b_M_second_82 {L : Nat} {d : Nat} {I : jm_I} {Q : Option jm_V → jm_I → Prop} {o0 : Option jm_V} {o1 : Option jm_V} {s1 : Int} {s2 : Int}  (hz : (0 ≤ s1 ∧ s1 < 27)) (k : Gx (jx_0 L) d md_M_second 85 [o0, some (.inl 0)] [] (jm_up I 171 (s1.toNat) s2) Q) : Gx (jx_0 L) d md_M_second 82 [o0, o1] [.inl s2, .inl s1, .inr (.inl 171)] I Q := by
  have hz1 := hz
  show jm_Go d 0 0 md_M_second 82 [o0, o1] [.inl s2, .inl s1, .inr (.inl 171)] (jx (jx_0 L) I) (jx_Q (jx_0 L) Q)
  have hd : jm_dc md_M_second.2.1 82 [(.iastore, 1), (.iconst 0, 1), (.istore_n 1, 1)] = true := by decide +kernel
  refine go_iastore rfl hz1.1 hz1.2 (by decide) hd (fun hd => ?_)
  refine go_iconst hd (fun hd => ?_)
  refine go_istore_n (by decide) hd (fun hd => ?_)
  exact k
theorem b_M_second_85 {L : Nat} {d : Nat} {I : jm_I} {Q : Option jm_V → jm_I → Prop} {x1 : Int}  (hz : (-2147483648 ≤ x1 ∧ x1 < 2147483648) ∧ (-2147483648 ≤ I 167 5 ∧ I 167 5 < 2147483648)) (kt : (I 167 5) ≤ x1 → Gx (jx_0 L) d md_M_second 167 [some (.inr (.inl 167)), some (.inl x1)] [] I Q) (kf : ¬ ((I 167 5) ≤ x1) → Gx (jx_0 L) d md_M_second 93 [some (.inr (.inl 167)), some (.inl x1)] [] I Q) : Gx (jx_0 L) d md_M_second 85 [some (.inr (.inl 167)), some (.inl x1)] [] I Q := by
  obtain ⟨hz1, hz2⟩ := hz
  show jm_Go d 0 0 md_M_second 85 [some (.inr (.inl 167)), some (.inl x1)] [] (jx (jx_0 L) I) (jx_Q (jx_0 L) Q)
  have hd : jm_dc md_M_second.2.1 85 [(.iload_n 1, 1), (.aload_n 0, 1), (.getfield 85, 3), (.if_icmp .ge 77, 3)] = true := by decide +kernel
  refine go_iload_n rfl hd (fun hd => ?_)
  refine go_aload_n rfl hd (fun hd => ?_)
  refine go_getI co_X9 fl_9_85 (by decide) (Or.inl rfl) rfl hd (fun hd => ?_)
  exact go_icmp_ge (by decide) hz1 hz2 hd kt kf
theorem b_M_second_93 {L : Nat} {d : Nat} {I : jm_I} {Q : Option jm_V → jm_I → Prop} {x1 : Int}  (hz : (0 ≤ 22 + x1 ∧ 22 + x1 < 27) ∧ (-2147483648 ≤ I 171 (22 + x1).toNat ∧ I 171 (22 + x1).toNat < 2147483648)) (kt : (I 171 (22 + x1).toNat) = (-9) → Gx (jx_0 L) d md_M_second 161 [some (.inr (.inl 167)), some (.inl x1)] [] I Q) (kf : ¬ (I 171 (22 + x1).toNat) = (-9) → Gx (jx_0 L) d md_M_second 107 [some (.inr (.inl 167)), some (.inl x1)] [] I Q) : Gx (jx_0 L) d md_M_second 93 [some (.inr (.inl 167)), some (.inl x1)] [] I Q := by
  obtain ⟨hz1, hz2⟩ := hz
  show jm_Go d 0 0 md_M_second 93 [some (.inr (.inl 167)), some (.inl x1)] [] (jx (jx_0 L) I) (jx_Q (jx_0 L) Q)
  have hd : jm_dc md_M_second.2.1 93 [(.aload_n 0, 1), (.getfield 26, 3), (.bipush 22, 2), (.iload_n 1, 1), (.iadd, 1), (.iaload, 1), (.bipush (-9), 2), (.if_icmp .eq 57, 3)] = true := by decide +kernel
  refine go_aload_n rfl hd (fun hd => ?_)
  refine go_getR co_X9 fl_9_26 (by decide) rfl rfl rfl hd (fun hd => ?_)
  refine go_bipush (by decide) hd (fun hd => ?_)
  refine go_iload_n rfl hd (fun hd => ?_)
  refine go_iadd hd (fun hd => ?_)
  refine go_iaload rfl hz1.1 hz1.2 (by decide) hd (fun hd => ?_)
  refine go_bipush (by decide) hd (fun hd => ?_)
  exact go_icmp_eq (by decide) hz2 ⟨by decide, by decide⟩ hd kt kf
theorem b_M_second_107 {L : Nat} {d : Nat} {I : jm_I} {Q : Option jm_V → jm_I → Prop} {x1 : Int}  (hz : (0 ≤ 22 + x1 ∧ 22 + x1 < 27) ∧ (0 ≤ x1 ∧ x1 < 5) ∧ (0 ≤ (I 171 (22 + x1).toNat) + 1 ∧ (I 171 (22 + x1).toNat) + 1 < 2147483648) ∧ (0 < I 169 x1.toNat ∧ I 169 x1.toNat < 2147483648) ∧ (0 ≤ 22 + x1 ∧ 22 + x1 < 27) ∧ (0 ≤ 22 + x1 ∧ 22 + x1 < 27) ∧ (0 ≤ (4 * x1) + ((jm_up I 171 ((22 + x1).toNat) (((I 171 (22 + x1).toNat) + 1) % (I 169 x1.toNat))) 171 (22 + x1).toNat) ∧ (4 * x1) + ((jm_up I 171 ((22 + x1).toNat) (((I 171 (22 + x1).toNat) + 1) % (I 169 x1.toNat))) 171 (22 + x1).toNat) < 20) ∧ (0 ≤ 17 + x1 ∧ 17 + x1 < 27)) (k : Gx (jx_0 L) d md_M_second 161 [some (.inr (.inl 167)), some (.inl x1)] [] (jm_up (jm_up I 171 ((22 + x1).toNat) (((I 171 (22 + x1).toNat) + 1) % (I 169 x1.toNat))) 171 ((17 + x1).toNat) (I 170 ((4 * x1) + ((jm_up I 171 ((22 + x1).toNat) (((I 171 (22 + x1).toNat) + 1) % (I 169 x1.toNat))) 171 (22 + x1).toNat)).toNat)) Q) : Gx (jx_0 L) d md_M_second 107 [some (.inr (.inl 167)), some (.inl x1)] [] I Q := by
  obtain ⟨hz1, hz2, hz3, hz4, hz5, hz6, hz7, hz8⟩ := hz
  show jm_Go d 0 0 md_M_second 107 [some (.inr (.inl 167)), some (.inl x1)] [] (jx (jx_0 L) I) (jx_Q (jx_0 L) Q)
  have hd : jm_dc md_M_second.2.1 107 [(.aload_n 0, 1), (.getfield 26, 3), (.bipush 22, 2), (.iload_n 1, 1), (.iadd, 1), (.aload_n 0, 1), (.getfield 26, 3), (.bipush 22, 2), (.iload_n 1, 1), (.iadd, 1), (.iaload, 1), (.iconst 1, 1), (.iadd, 1), (.aload_n 0, 1), (.getfield 20, 3), (.iload_n 1, 1), (.iaload, 1), (.irem, 1), (.iastore, 1), (.aload_n 0, 1), (.getfield 26, 3), (.bipush 17, 2), (.iload_n 1, 1), (.iadd, 1), (.aload_n 0, 1), (.getfield 23, 3), (.iconst 4, 1), (.iload_n 1, 1), (.imul, 1), (.aload_n 0, 1), (.getfield 26, 3), (.bipush 22, 2), (.iload_n 1, 1), (.iadd, 1), (.iaload, 1), (.iadd, 1), (.iaload, 1), (.iastore, 1)] = true := by decide +kernel
  refine go_aload_n rfl hd (fun hd => ?_)
  refine go_getR co_X9 fl_9_26 (by decide) rfl rfl rfl hd (fun hd => ?_)
  refine go_bipush (by decide) hd (fun hd => ?_)
  refine go_iload_n rfl hd (fun hd => ?_)
  refine go_iadd hd (fun hd => ?_)
  refine go_aload_n rfl hd (fun hd => ?_)
  refine go_getR co_X9 fl_9_26 (by decide) rfl rfl rfl hd (fun hd => ?_)
  refine go_bipush (by decide) hd (fun hd => ?_)
  refine go_iload_n rfl hd (fun hd => ?_)
  refine go_iadd hd (fun hd => ?_)
  refine go_iaload rfl hz1.1 hz1.2 (by decide) hd (fun hd => ?_)
  refine go_iconst hd (fun hd => ?_)
  refine go_iadd hd (fun hd => ?_)
  refine go_aload_n rfl hd (fun hd => ?_)
  refine go_getR co_X9 fl_9_20 (by decide) rfl rfl rfl hd (fun hd => ?_)
  refine go_iload_n rfl hd (fun hd => ?_)
  refine go_iaload rfl hz2.1 hz2.2 (by decide) hd (fun hd => ?_)
  refine go_irem hz3 hz4 hd (fun hd => ?_)
  refine go_iastore rfl hz5.1 hz5.2 (by decide) hd (fun hd => ?_)
  refine go_aload_n rfl hd (fun hd => ?_)
  refine go_getR co_X9 fl_9_26 (by decide) rfl rfl rfl hd (fun hd => ?_)
  refine go_bipush (by decide) hd (fun hd => ?_)
  refine go_iload_n rfl hd (fun hd => ?_)
  refine go_iadd hd (fun hd => ?_)
  refine go_aload_n rfl hd (fun hd => ?_)
  refine go_getR co_X9 fl_9_23 (by decide) rfl rfl rfl hd (fun hd => ?_)
  refine go_iconst hd (fun hd => ?_)
  refine go_iload_n rfl hd (fun hd => ?_)
  refine go_imul hd (fun hd => ?_)
  refine go_aload_n rfl hd (fun hd => ?_)
  refine go_getR co_X9 fl_9_26 (by decide) rfl rfl rfl hd (fun hd => ?_)
  refine go_bipush (by decide) hd (fun hd => ?_)
  refine go_iload_n rfl hd (fun hd => ?_)
  refine go_iadd hd (fun hd => ?_)
  refine go_iaload rfl hz6.1 hz6.2 (by decide) hd (fun hd => ?_)
  refine go_iadd hd (fun hd => ?_)
  refine go_iaload rfl hz7.1 hz7.2 (by decide) hd (fun hd => ?_)
  refine go_iastore rfl hz8.1 hz8.2 (by decide) hd (fun hd => ?_)
  exact k
theorem b_M_second_161 {L : Nat} {d : Nat} {I : jm_I} {Q : Option jm_V → jm_I → Prop} {o0 : Option jm_V} {x1 : Int}  (k : Gx (jx_0 L) d md_M_second 85 [o0, some (.inl (x1 + 1))] [] I Q) : Gx (jx_0 L) d md_M_second 161 [o0, some (.inl x1)] [] I Q := by
  show jm_Go d 0 0 md_M_second 161 [o0, some (.inl x1)] [] (jx (jx_0 L) I) (jx_Q (jx_0 L) Q)
  have hd : jm_dc md_M_second.2.1 161 [(.iinc 1 1, 3), (.goto (-79), 3)] = true := by decide +kernel
  refine go_iinc rfl hd (fun hd => ?_)
  exact go_goto (by decide) hd k
theorem b_M_second_167 {L : Nat} {d : Nat} {I : jm_I} {Q : Option jm_V → jm_I → Prop} {o1 : Option jm_V}  (k : Q (some (.inl (I 171 0))) I) : Gx (jx_0 L) d md_M_second 167 [some (.inr (.inl 167)), o1] [] I Q := by
  show jm_Go d 0 0 md_M_second 167 [some (.inr (.inl 167)), o1] [] (jx (jx_0 L) I) (jx_Q (jx_0 L) Q)
  have hd : jm_dc md_M_second.2.1 167 [(.aload_n 0, 1), (.getfield 26, 3), (.iconst 0, 1), (.iaload, 1), (.ireturn, 1)] = true := by decide +kernel
  refine go_aload_n rfl hd (fun hd => ?_)
  refine go_getR co_X9 fl_9_26 (by decide) rfl rfl rfl hd (fun hd => ?_)
  refine go_iconst hd (fun hd => ?_)
  refine go_iaload rfl (by decide) (by decide) (by decide) hd (fun hd => ?_)
  exact go_ireturn hd rfl ⟨_, rfl, k⟩
theorem b_M_remembers_0 {L : Nat} {d : Nat} {I : jm_I} {Q : Option jm_V → jm_I → Prop}   (hz : (-2147483648 ≤ I 167 10 ∧ I 167 10 < 2147483648)) (kt : ¬ (I 167 10) = 10 → Gx (jx_0 L) d md_M_remembers 49 [some (.inr (.inl 167)), none] [] I Q) (kf : (I 167 10) = 10 → Gx (jx_0 L) d md_M_remembers 9 [some (.inr (.inl 167)), none] [] I Q) : Cx (jx_0 L) d md_M_remembers [.inr (.inl 167)] I Q := by
  have hz1 := hz
  show jm_Go d 0 0 md_M_remembers 0 [some (.inr (.inl 167)), none] [] (jx (jx_0 L) I) (jx_Q (jx_0 L) Q)
  have hd : jm_dc md_M_remembers.2.1 0 [(.aload_n 0, 1), (.getfield 158, 3), (.bipush 10, 2), (.if_icmp .ne 43, 3)] = true := by decide +kernel
  refine go_aload_n rfl hd (fun hd => ?_)
  refine go_getI co_X9 fl_9_158 (by decide) (Or.inl rfl) rfl hd (fun hd => ?_)
  refine go_bipush (by decide) hd (fun hd => ?_)
  exact go_icmp_ne (by decide) hz1 ⟨by decide, by decide⟩ hd kt kf
theorem b_M_remembers_9 {L : Nat} {d : Nat} {I : jm_I} {Q : Option jm_V → jm_I → Prop} {o0 : Option jm_V} {o1 : Option jm_V}  (k : Gx (jx_0 L) d md_M_remembers 11 [o0, some (.inl 0)] [] I Q) : Gx (jx_0 L) d md_M_remembers 9 [o0, o1] [] I Q := by
  show jm_Go d 0 0 md_M_remembers 9 [o0, o1] [] (jx (jx_0 L) I) (jx_Q (jx_0 L) Q)
  have hd : jm_dc md_M_remembers.2.1 9 [(.iconst 0, 1), (.istore_n 1, 1)] = true := by decide +kernel
  refine go_iconst hd (fun hd => ?_)
  refine go_istore_n (by decide) hd (fun hd => ?_)
  exact k
theorem b_M_remembers_11 {L : Nat} {d : Nat} {I : jm_I} {Q : Option jm_V → jm_I → Prop} {o0 : Option jm_V} {x1 : Int}  (hz : (-2147483648 ≤ x1 ∧ x1 < 2147483648)) (kt : 243 ≤ x1 → Gx (jx_0 L) d md_M_remembers 39 [o0, some (.inl x1)] [] I Q) (kf : ¬ (243 ≤ x1) → Gx (jx_0 L) d md_M_remembers 18 [o0, some (.inl x1)] [] I Q) : Gx (jx_0 L) d md_M_remembers 11 [o0, some (.inl x1)] [] I Q := by
  have hz1 := hz
  show jm_Go d 0 0 md_M_remembers 11 [o0, some (.inl x1)] [] (jx (jx_0 L) I) (jx_Q (jx_0 L) Q)
  have hd : jm_dc md_M_remembers.2.1 11 [(.iload_n 1, 1), (.sipush 243, 3), (.if_icmp .ge 24, 3)] = true := by decide +kernel
  refine go_iload_n rfl hd (fun hd => ?_)
  refine go_sipush (by decide) hd (fun hd => ?_)
  exact go_icmp_ge (by decide) hz1 ⟨by decide, by decide⟩ hd kt kf
theorem b_M_remembers_18 {L : Nat} {d : Nat} {I : jm_I} {Q : Option jm_V → jm_I → Prop} {x1 : Int}  (hz : (0 ≤ x1 + 27 ∧ x1 + 27 < 270) ∧ (0 ≤ x1 ∧ x1 < 270)) (k : Gx (jx_0 L) d md_M_remembers 11 [some (.inr (.inl 167)), some (.inl (x1 + 1))] [] (jm_up I 172 (x1.toNat) (I 172 (x1 + 27).toNat)) Q) : Gx (jx_0 L) d md_M_remembers 18 [some (.inr (.inl 167)), some (.inl x1)] [] I Q := by
  obtain ⟨hz1, hz2⟩ := hz
  show jm_Go d 0 0 md_M_remembers 18 [some (.inr (.inl 167)), some (.inl x1)] [] (jx (jx_0 L) I) (jx_Q (jx_0 L) Q)
  have hd : jm_dc md_M_remembers.2.1 18 [(.aload_n 0, 1), (.getfield 29, 3), (.iload_n 1, 1), (.aload_n 0, 1), (.getfield 29, 3), (.iload_n 1, 1), (.bipush 27, 2), (.iadd, 1), (.iaload, 1), (.iastore, 1), (.iinc 1 1, 3), (.goto (-25), 3)] = true := by decide +kernel
  refine go_aload_n rfl hd (fun hd => ?_)
  refine go_getR co_X9 fl_9_29 (by decide) rfl rfl rfl hd (fun hd => ?_)
  refine go_iload_n rfl hd (fun hd => ?_)
  refine go_aload_n rfl hd (fun hd => ?_)
  refine go_getR co_X9 fl_9_29 (by decide) rfl rfl rfl hd (fun hd => ?_)
  refine go_iload_n rfl hd (fun hd => ?_)
  refine go_bipush (by decide) hd (fun hd => ?_)
  refine go_iadd hd (fun hd => ?_)
  refine go_iaload rfl hz1.1 hz1.2 (by decide) hd (fun hd => ?_)
  refine go_iastore rfl hz2.1 hz2.2 (by decide) hd (fun hd => ?_)
  refine go_iinc rfl hd (fun hd => ?_)
  exact go_goto (by decide) hd k
theorem b_M_remembers_39 {L : Nat} {d : Nat} {I : jm_I} {Q : Option jm_V → jm_I → Prop} {o1 : Option jm_V}  (k : Gx (jx_0 L) d md_M_remembers 49 [some (.inr (.inl 167)), o1] [] (jm_up I 167 10 ((I 167 10) - 1)) Q) : Gx (jx_0 L) d md_M_remembers 39 [some (.inr (.inl 167)), o1] [] I Q := by
  show jm_Go d 0 0 md_M_remembers 39 [some (.inr (.inl 167)), o1] [] (jx (jx_0 L) I) (jx_Q (jx_0 L) Q)
  have hd : jm_dc md_M_remembers.2.1 39 [(.aload_n 0, 1), (.dup, 1), (.getfield 158, 3), (.iconst 1, 1), (.isub, 1), (.putfield 158, 3)] = true := by decide +kernel
  refine go_aload_n rfl hd (fun hd => ?_)
  refine go_dup rfl hd (fun hd => ?_)
  refine go_getI co_X9 fl_9_158 (by decide) (Or.inl rfl) rfl hd (fun hd => ?_)
  refine go_iconst hd (fun hd => ?_)
  refine go_isub hd (fun hd => ?_)
  refine go_putI co_X9 fl_9_158 (by decide) rfl rfl hd (fun hd => ?_)
  exact k
theorem b_M_remembers_49 {L : Nat} {d : Nat} {I : jm_I} {Q : Option jm_V → jm_I → Prop} {o0 : Option jm_V} {o1 : Option jm_V}  (k : Gx (jx_0 L) d md_M_remembers 51 [o0, some (.inl 0)] [] I Q) : Gx (jx_0 L) d md_M_remembers 49 [o0, o1] [] I Q := by
  show jm_Go d 0 0 md_M_remembers 49 [o0, o1] [] (jx (jx_0 L) I) (jx_Q (jx_0 L) Q)
  have hd : jm_dc md_M_remembers.2.1 49 [(.iconst 0, 1), (.istore_n 1, 1)] = true := by decide +kernel
  refine go_iconst hd (fun hd => ?_)
  refine go_istore_n (by decide) hd (fun hd => ?_)
  exact k
theorem b_M_remembers_51 {L : Nat} {d : Nat} {I : jm_I} {Q : Option jm_V → jm_I → Prop} {o0 : Option jm_V} {x1 : Int}  (hz : (-2147483648 ≤ x1 ∧ x1 < 2147483648)) (kt : 27 ≤ x1 → Gx (jx_0 L) d md_M_remembers 83 [o0, some (.inl x1)] [] I Q) (kf : ¬ (27 ≤ x1) → Gx (jx_0 L) d md_M_remembers 57 [o0, some (.inl x1)] [] I Q) : Gx (jx_0 L) d md_M_remembers 51 [o0, some (.inl x1)] [] I Q := by
  have hz1 := hz
  show jm_Go d 0 0 md_M_remembers 51 [o0, some (.inl x1)] [] (jx (jx_0 L) I) (jx_Q (jx_0 L) Q)
  have hd : jm_dc md_M_remembers.2.1 51 [(.iload_n 1, 1), (.bipush 27, 2), (.if_icmp .ge 29, 3)] = true := by decide +kernel
  refine go_iload_n rfl hd (fun hd => ?_)
  refine go_bipush (by decide) hd (fun hd => ?_)
  exact go_icmp_ge (by decide) hz1 ⟨by decide, by decide⟩ hd kt kf
theorem b_M_remembers_57 {L : Nat} {d : Nat} {I : jm_I} {Q : Option jm_V → jm_I → Prop} {x1 : Int}  (hz : (0 ≤ x1 ∧ x1 < 27) ∧ (0 ≤ (27 * (I 167 10)) + x1 ∧ (27 * (I 167 10)) + x1 < 270)) (k : Gx (jx_0 L) d md_M_remembers 51 [some (.inr (.inl 167)), some (.inl (x1 + 1))] [] (jm_up I 172 (((27 * (I 167 10)) + x1).toNat) (I 171 x1.toNat)) Q) : Gx (jx_0 L) d md_M_remembers 57 [some (.inr (.inl 167)), some (.inl x1)] [] I Q := by
  obtain ⟨hz1, hz2⟩ := hz
  show jm_Go d 0 0 md_M_remembers 57 [some (.inr (.inl 167)), some (.inl x1)] [] (jx (jx_0 L) I) (jx_Q (jx_0 L) Q)
  have hd : jm_dc md_M_remembers.2.1 57 [(.aload_n 0, 1), (.getfield 29, 3), (.bipush 27, 2), (.aload_n 0, 1), (.getfield 158, 3), (.imul, 1), (.iload_n 1, 1), (.iadd, 1), (.aload_n 0, 1), (.getfield 26, 3), (.iload_n 1, 1), (.iaload, 1), (.iastore, 1), (.iinc 1 1, 3), (.goto (-29), 3)] = true := by decide +kernel
  refine go_aload_n rfl hd (fun hd => ?_)
  refine go_getR co_X9 fl_9_29 (by decide) rfl rfl rfl hd (fun hd => ?_)
  refine go_bipush (by decide) hd (fun hd => ?_)
  refine go_aload_n rfl hd (fun hd => ?_)
  refine go_getI co_X9 fl_9_158 (by decide) (Or.inl rfl) rfl hd (fun hd => ?_)
  refine go_imul hd (fun hd => ?_)
  refine go_iload_n rfl hd (fun hd => ?_)
  refine go_iadd hd (fun hd => ?_)
  refine go_aload_n rfl hd (fun hd => ?_)
  refine go_getR co_X9 fl_9_26 (by decide) rfl rfl rfl hd (fun hd => ?_)
  refine go_iload_n rfl hd (fun hd => ?_)
  refine go_iaload rfl hz1.1 hz1.2 (by decide) hd (fun hd => ?_)
  refine go_iastore rfl hz2.1 hz2.2 (by decide) hd (fun hd => ?_)
  refine go_iinc rfl hd (fun hd => ?_)
  exact go_goto (by decide) hd k
theorem b_M_remembers_83 {L : Nat} {d : Nat} {I : jm_I} {Q : Option jm_V → jm_I → Prop} {o1 : Option jm_V}  (k : Q none (jm_up I 167 10 ((I 167 10) + 1))) : Gx (jx_0 L) d md_M_remembers 83 [some (.inr (.inl 167)), o1] [] I Q := by
  show jm_Go d 0 0 md_M_remembers 83 [some (.inr (.inl 167)), o1] [] (jx (jx_0 L) I) (jx_Q (jx_0 L) Q)
  have hd : jm_dc md_M_remembers.2.1 83 [(.aload_n 0, 1), (.dup, 1), (.getfield 158, 3), (.iconst 1, 1), (.iadd, 1), (.putfield 158, 3), (.return_, 1)] = true := by decide +kernel
  refine go_aload_n rfl hd (fun hd => ?_)
  refine go_dup rfl hd (fun hd => ?_)
  refine go_getI co_X9 fl_9_158 (by decide) (Or.inl rfl) rfl hd (fun hd => ?_)
  refine go_iconst hd (fun hd => ?_)
  refine go_iadd hd (fun hd => ?_)
  refine go_putI co_X9 fl_9_158 (by decide) rfl rfl hd (fun hd => ?_)
  exact go_vreturn hd rfl ⟨_, rfl, k⟩
theorem b_M_press_0 {L : Nat} {d : Nat} {I : jm_I} {Q : Option jm_V → jm_I → Prop} {x1 : Int}  (k : Cx (jx_0 L) d md_M_isPerson [.inr (.inl 167), .inl x1] I (fun v J => Gx (jx_0 L) (d + 1) md_M_press 5 [some (.inr (.inl 167)), some (.inl x1)] (v.toList ++ []) J Q)) : Cx (jx_0 L) (d + 1) md_M_press [.inr (.inl 167), .inl x1] I Q := by
  show jm_Go (d + 1) 0 0 md_M_press 0 [some (.inr (.inl 167)), some (.inl x1)] [] (jx (jx_0 L) I) (jx_Q (jx_0 L) Q)
  have hd : jm_dc md_M_press.2.1 0 [(.aload_n 0, 1), (.iload_n 1, 1), (.invokevirtual 164, 3)] = true := by decide +kernel
  refine go_aload_n rfl hd (fun hd => ?_)
  refine go_iload_n rfl hd (fun hd => ?_)
  exact gx_virtual 167 9 [.inl x1] [] mk_M_isPerson co_X9 rfl ml_9_164 in_M_isPerson se_M_isPerson rfl rfl (Nat.le_of_ble_eq_true rfl) rfl (Nat.le_of_ble_eq_true rfl) rfl hd k
theorem b_M_press_5 {L : Nat} {d : Nat} {I : jm_I} {Q : Option jm_V → jm_I → Prop} {o0 : Option jm_V} {o1 : Option jm_V} {s0 : Int}  (hz : (-2147483648 ≤ s0 ∧ s0 < 2147483648)) (kt : ¬ s0 = 0 → Gx (jx_0 L) d md_M_press 10 [o0, o1] [] I Q) (kf : s0 = 0 → Gx (jx_0 L) d md_M_press 8 [o0, o1] [] I Q) : Gx (jx_0 L) d md_M_press 5 [o0, o1] [.inl s0] I Q := by
  have hz1 := hz
  show jm_Go d 0 0 md_M_press 5 [o0, o1] [.inl s0] (jx (jx_0 L) I) (jx_Q (jx_0 L) Q)
  have hd : jm_dc md_M_press.2.1 5 [(.ifCond .ne 5, 3)] = true := by decide +kernel
  exact go_if_ne (by decide) hz1 hd kt kf
theorem b_M_press_8 {L : Nat} {d : Nat} {I : jm_I} {Q : Option jm_V → jm_I → Prop} {o0 : Option jm_V} {o1 : Option jm_V}  (k : Q (some (.inl (-1))) I) : Gx (jx_0 L) d md_M_press 8 [o0, o1] [] I Q := by
  show jm_Go d 0 0 md_M_press 8 [o0, o1] [] (jx (jx_0 L) I) (jx_Q (jx_0 L) Q)
  have hd : jm_dc md_M_press.2.1 8 [(.iconst (-1), 1), (.ireturn, 1)] = true := by decide +kernel
  refine go_iconst hd (fun hd => ?_)
  exact go_ireturn hd rfl ⟨_, rfl, k⟩
theorem b_M_press_10 {L : Nat} {d : Nat} {I : jm_I} {Q : Option jm_V → jm_I → Prop} {x1 : Int}  (k : Cx (jx_0 L) d md_M_has [.inl (I 171 16), .inl x1] I (fun v J => Gx (jx_0 L) (d + 1) md_M_press 21 [some (.inr (.inl 167)), some (.inl x1)] (v.toList ++ []) J Q)) : Gx (jx_0 L) (d + 1) md_M_press 10 [some (.inr (.inl 167)), some (.inl x1)] [] I Q := by
  show jm_Go (d + 1) 0 0 md_M_press 10 [some (.inr (.inl 167)), some (.inl x1)] [] (jx (jx_0 L) I) (jx_Q (jx_0 L) Q)
  have hd : jm_dc md_M_press.2.1 10 [(.aload_n 0, 1), (.getfield 26, 3), (.bipush 16, 2), (.iaload, 1), (.iload_n 1, 1), (.invokestatic 168, 3)] = true := by decide +kernel
  refine go_aload_n rfl hd (fun hd => ?_)
  refine go_getR co_X9 fl_9_26 (by decide) rfl rfl rfl hd (fun hd => ?_)
  refine go_bipush (by decide) hd (fun hd => ?_)
  refine go_iaload rfl (by decide) (by decide) (by decide) hd (fun hd => ?_)
  refine go_iload_n rfl hd (fun hd => ?_)
  exact gx_static [.inl (I 171 16), .inl x1] [] mk_M_has ml_9_168 st_M_has rfl (Nat.le_of_ble_eq_true rfl) rfl (Nat.le_of_ble_eq_true rfl) rfl hd k
theorem b_M_press_21 {L : Nat} {d : Nat} {I : jm_I} {Q : Option jm_V → jm_I → Prop} {o0 : Option jm_V} {o1 : Option jm_V} {s0 : Int}  (hz : (-2147483648 ≤ s0 ∧ s0 < 2147483648)) (kt : s0 = 0 → Gx (jx_0 L) d md_M_press 27 [o0, o1] [] I Q) (kf : ¬ s0 = 0 → Gx (jx_0 L) d md_M_press 24 [o0, o1] [] I Q) : Gx (jx_0 L) d md_M_press 21 [o0, o1] [.inl s0] I Q := by
  have hz1 := hz
  show jm_Go d 0 0 md_M_press 21 [o0, o1] [.inl s0] (jx (jx_0 L) I) (jx_Q (jx_0 L) Q)
  have hd : jm_dc md_M_press.2.1 21 [(.ifCond .eq 6, 3)] = true := by decide +kernel
  exact go_if_eq (by decide) hz1 hd kt kf
theorem b_M_press_24 {L : Nat} {d : Nat} {I : jm_I} {Q : Option jm_V → jm_I → Prop} {o0 : Option jm_V} {o1 : Option jm_V}  (k : Q (some (.inl (-2))) I) : Gx (jx_0 L) d md_M_press 24 [o0, o1] [] I Q := by
  show jm_Go d 0 0 md_M_press 24 [o0, o1] [] (jx (jx_0 L) I) (jx_Q (jx_0 L) Q)
  have hd : jm_dc md_M_press.2.1 24 [(.bipush (-2), 2), (.ireturn, 1)] = true := by decide +kernel
  refine go_bipush (by decide) hd (fun hd => ?_)
  exact go_ireturn hd rfl ⟨_, rfl, k⟩
theorem b_M_press_27 {L : Nat} {d : Nat} {I : jm_I} {Q : Option jm_V → jm_I → Prop} {o1 : Option jm_V}  (k : Cx (jx_0 L) d md_M_remembers [.inr (.inl 167)] I (fun v J => Gx (jx_0 L) (d + 1) md_M_press 31 [some (.inr (.inl 167)), o1] (v.toList ++ []) J Q)) : Gx (jx_0 L) (d + 1) md_M_press 27 [some (.inr (.inl 167)), o1] [] I Q := by
  show jm_Go (d + 1) 0 0 md_M_press 27 [some (.inr (.inl 167)), o1] [] (jx (jx_0 L) I) (jx_Q (jx_0 L) Q)
  have hd : jm_dc md_M_press.2.1 27 [(.aload_n 0, 1), (.invokevirtual 175, 3)] = true := by decide +kernel
  refine go_aload_n rfl hd (fun hd => ?_)
  exact gx_virtual 167 9 [] [] mk_M_remembers co_X9 rfl ml_9_175 in_M_remembers se_M_remembers rfl rfl (Nat.le_of_ble_eq_true rfl) rfl (Nat.le_of_ble_eq_true rfl) rfl hd k
theorem b_M_press_31 {L : Nat} {d : Nat} {I : jm_I} {Q : Option jm_V → jm_I → Prop} {x1 : Int}  (hz : (0 ≤ 6 + x1 ∧ 6 + x1 < 27) ∧ (0 ≤ 6 + x1 ∧ 6 + x1 < 27) ∧ (0 ≤ 11 + x1 ∧ 11 + x1 < 27) ∧ (0 ≤ 6 + x1 ∧ 6 + x1 < 27)) (k : Q (some (.inl ((jm_up (jm_up (jm_up I 171 16 (jb_or (I 171 16) (jb_shl 1 x1))) 171 ((6 + x1).toNat) (((jm_up I 171 16 (jb_or (I 171 16) (jb_shl 1 x1))) 171 (6 + x1).toNat) + 1)) 171 ((11 + x1).toNat) (I 167 3)) 171 (6 + x1).toNat))) (jm_up (jm_up (jm_up I 171 16 (jb_or (I 171 16) (jb_shl 1 x1))) 171 ((6 + x1).toNat) (((jm_up I 171 16 (jb_or (I 171 16) (jb_shl 1 x1))) 171 (6 + x1).toNat) + 1)) 171 ((11 + x1).toNat) (I 167 3))) : Gx (jx_0 L) d md_M_press 31 [some (.inr (.inl 167)), some (.inl x1)] [] I Q := by
  obtain ⟨hz1, hz2, hz3, hz4⟩ := hz
  show jm_Go d 0 0 md_M_press 31 [some (.inr (.inl 167)), some (.inl x1)] [] (jx (jx_0 L) I) (jx_Q (jx_0 L) Q)
  have hd : jm_dc md_M_press.2.1 31 [(.aload_n 0, 1), (.getfield 26, 3), (.bipush 16, 2), (.dup2, 1), (.iaload, 1), (.iconst 1, 1), (.iload_n 1, 1), (.ishl, 1), (.ior, 1), (.iastore, 1), (.aload_n 0, 1), (.getfield 26, 3), (.bipush 6, 2), (.iload_n 1, 1), (.iadd, 1), (.dup2, 1), (.iaload, 1), (.iconst 1, 1), (.iadd, 1), (.iastore, 1), (.aload_n 0, 1), (.getfield 26, 3), (.bipush 11, 2), (.iload_n 1, 1), (.iadd, 1), (.aload_n 0, 1), (.getfield 17, 3), (.iastore, 1), (.aload_n 0, 1), (.getfield 26, 3), (.bipush 6, 2), (.iload_n 1, 1), (.iadd, 1), (.iaload, 1), (.ireturn, 1)] = true := by decide +kernel
  refine go_aload_n rfl hd (fun hd => ?_)
  refine go_getR co_X9 fl_9_26 (by decide) rfl rfl rfl hd (fun hd => ?_)
  refine go_bipush (by decide) hd (fun hd => ?_)
  refine go_dup2 rfl rfl hd (fun hd => ?_)
  refine go_iaload rfl (by decide) (by decide) (by decide) hd (fun hd => ?_)
  refine go_iconst hd (fun hd => ?_)
  refine go_iload_n rfl hd (fun hd => ?_)
  refine go_ishl hd (fun hd => ?_)
  refine go_ior hd (fun hd => ?_)
  refine go_iastore rfl (by decide) (by decide) (by decide) hd (fun hd => ?_)
  refine go_aload_n rfl hd (fun hd => ?_)
  refine go_getR co_X9 fl_9_26 (by decide) rfl rfl rfl hd (fun hd => ?_)
  refine go_bipush (by decide) hd (fun hd => ?_)
  refine go_iload_n rfl hd (fun hd => ?_)
  refine go_iadd hd (fun hd => ?_)
  refine go_dup2 rfl rfl hd (fun hd => ?_)
  refine go_iaload rfl hz1.1 hz1.2 (by decide) hd (fun hd => ?_)
  refine go_iconst hd (fun hd => ?_)
  refine go_iadd hd (fun hd => ?_)
  refine go_iastore rfl hz2.1 hz2.2 (by decide) hd (fun hd => ?_)
  refine go_aload_n rfl hd (fun hd => ?_)
  refine go_getR co_X9 fl_9_26 (by decide) rfl rfl rfl hd (fun hd => ?_)
  refine go_bipush (by decide) hd (fun hd => ?_)
  refine go_iload_n rfl hd (fun hd => ?_)
  refine go_iadd hd (fun hd => ?_)
  refine go_aload_n rfl hd (fun hd => ?_)
  refine go_getI co_X9 fl_9_17 (by decide) (Or.inl rfl) rfl hd (fun hd => ?_)
  refine go_iastore rfl hz3.1 hz3.2 (by decide) hd (fun hd => ?_)
  refine go_aload_n rfl hd (fun hd => ?_)
  refine go_getR co_X9 fl_9_26 (by decide) rfl rfl rfl hd (fun hd => ?_)
  refine go_bipush (by decide) hd (fun hd => ?_)
  refine go_iload_n rfl hd (fun hd => ?_)
  refine go_iadd hd (fun hd => ?_)
  refine go_iaload rfl hz4.1 hz4.2 (by decide) hd (fun hd => ?_)
  exact go_ireturn hd rfl ⟨_, rfl, k⟩
theorem b_M_carry_0 {L : Nat} {d : Nat} {I : jm_I} {Q : Option jm_V → jm_I → Prop} {x1 : Int} {x2 : Int} {x3 : Int}  (k : Cx (jx_0 L) d md_M_isPerson [.inr (.inl 167), .inl x1] I (fun v J => Gx (jx_0 L) (d + 1) md_M_carry 5 [some (.inr (.inl 167)), some (.inl x1), some (.inl x2), some (.inl x3), none] (v.toList ++ []) J Q)) : Cx (jx_0 L) (d + 1) md_M_carry [.inr (.inl 167), .inl x1, .inl x2, .inl x3] I Q := by
  show jm_Go (d + 1) 0 0 md_M_carry 0 [some (.inr (.inl 167)), some (.inl x1), some (.inl x2), some (.inl x3), none] [] (jx (jx_0 L) I) (jx_Q (jx_0 L) Q)
  have hd : jm_dc md_M_carry.2.1 0 [(.aload_n 0, 1), (.iload_n 1, 1), (.invokevirtual 164, 3)] = true := by decide +kernel
  refine go_aload_n rfl hd (fun hd => ?_)
  refine go_iload_n rfl hd (fun hd => ?_)
  exact gx_virtual 167 9 [.inl x1] [] mk_M_isPerson co_X9 rfl ml_9_164 in_M_isPerson se_M_isPerson rfl rfl (Nat.le_of_ble_eq_true rfl) rfl (Nat.le_of_ble_eq_true rfl) rfl hd k
theorem b_M_carry_5 {L : Nat} {d : Nat} {I : jm_I} {Q : Option jm_V → jm_I → Prop} {o0 : Option jm_V} {o1 : Option jm_V} {o2 : Option jm_V} {o3 : Option jm_V} {o4 : Option jm_V} {s0 : Int}  (hz : (-2147483648 ≤ s0 ∧ s0 < 2147483648)) (kt : s0 = 0 → Gx (jx_0 L) d md_M_carry 24 [o0, o1, o2, o3, o4] [] I Q) (kf : ¬ s0 = 0 → Gx (jx_0 L) d md_M_carry 8 [o0, o1, o2, o3, o4] [] I Q) : Gx (jx_0 L) d md_M_carry 5 [o0, o1, o2, o3, o4] [.inl s0] I Q := by
  have hz1 := hz
  show jm_Go d 0 0 md_M_carry 5 [o0, o1, o2, o3, o4] [.inl s0] (jx (jx_0 L) I) (jx_Q (jx_0 L) Q)
  have hd : jm_dc md_M_carry.2.1 5 [(.ifCond .eq 19, 3)] = true := by decide +kernel
  exact go_if_eq (by decide) hz1 hd kt kf
theorem b_M_carry_8 {L : Nat} {d : Nat} {I : jm_I} {Q : Option jm_V → jm_I → Prop} {o1 : Option jm_V} {x2 : Int} {o3 : Option jm_V} {o4 : Option jm_V}  (k : Cx (jx_0 L) d md_M_isThing [.inr (.inl 167), .inl x2] I (fun v J => Gx (jx_0 L) (d + 1) md_M_carry 13 [some (.inr (.inl 167)), o1, some (.inl x2), o3, o4] (v.toList ++ []) J Q)) : Gx (jx_0 L) (d + 1) md_M_carry 8 [some (.inr (.inl 167)), o1, some (.inl x2), o3, o4] [] I Q := by
  show jm_Go (d + 1) 0 0 md_M_carry 8 [some (.inr (.inl 167)), o1, some (.inl x2), o3, o4] [] (jx (jx_0 L) I) (jx_Q (jx_0 L) Q)
  have hd : jm_dc md_M_carry.2.1 8 [(.aload_n 0, 1), (.iload_n 2, 1), (.invokevirtual 172, 3)] = true := by decide +kernel
  refine go_aload_n rfl hd (fun hd => ?_)
  refine go_iload_n rfl hd (fun hd => ?_)
  exact gx_virtual 167 9 [.inl x2] [] mk_M_isThing co_X9 rfl ml_9_172 in_M_isThing se_M_isThing rfl rfl (Nat.le_of_ble_eq_true rfl) rfl (Nat.le_of_ble_eq_true rfl) rfl hd k
theorem b_M_carry_13 {L : Nat} {d : Nat} {I : jm_I} {Q : Option jm_V → jm_I → Prop} {o0 : Option jm_V} {o1 : Option jm_V} {o2 : Option jm_V} {o3 : Option jm_V} {o4 : Option jm_V} {s0 : Int}  (hz : (-2147483648 ≤ s0 ∧ s0 < 2147483648)) (kt : s0 = 0 → Gx (jx_0 L) d md_M_carry 24 [o0, o1, o2, o3, o4] [] I Q) (kf : ¬ s0 = 0 → Gx (jx_0 L) d md_M_carry 16 [o0, o1, o2, o3, o4] [] I Q) : Gx (jx_0 L) d md_M_carry 13 [o0, o1, o2, o3, o4] [.inl s0] I Q := by
  have hz1 := hz
  show jm_Go d 0 0 md_M_carry 13 [o0, o1, o2, o3, o4] [.inl s0] (jx (jx_0 L) I) (jx_Q (jx_0 L) Q)
  have hd : jm_dc md_M_carry.2.1 13 [(.ifCond .eq 11, 3)] = true := by decide +kernel
  exact go_if_eq (by decide) hz1 hd kt kf
theorem b_M_carry_16 {L : Nat} {d : Nat} {I : jm_I} {Q : Option jm_V → jm_I → Prop} {o1 : Option jm_V} {o2 : Option jm_V} {x3 : Int} {o4 : Option jm_V}  (k : Cx (jx_0 L) d md_M_isRoom [.inr (.inl 167), .inl x3] I (fun v J => Gx (jx_0 L) (d + 1) md_M_carry 21 [some (.inr (.inl 167)), o1, o2, some (.inl x3), o4] (v.toList ++ []) J Q)) : Gx (jx_0 L) (d + 1) md_M_carry 16 [some (.inr (.inl 167)), o1, o2, some (.inl x3), o4] [] I Q := by
  show jm_Go (d + 1) 0 0 md_M_carry 16 [some (.inr (.inl 167)), o1, o2, some (.inl x3), o4] [] (jx (jx_0 L) I) (jx_Q (jx_0 L) Q)
  have hd : jm_dc md_M_carry.2.1 16 [(.aload_n 0, 1), (.iload_n 3, 1), (.invokevirtual 178, 3)] = true := by decide +kernel
  refine go_aload_n rfl hd (fun hd => ?_)
  refine go_iload_n rfl hd (fun hd => ?_)
  exact gx_virtual 167 9 [.inl x3] [] mk_M_isRoom co_X9 rfl ml_9_178 in_M_isRoom se_M_isRoom rfl rfl (Nat.le_of_ble_eq_true rfl) rfl (Nat.le_of_ble_eq_true rfl) rfl hd k
theorem b_M_carry_21 {L : Nat} {d : Nat} {I : jm_I} {Q : Option jm_V → jm_I → Prop} {o0 : Option jm_V} {o1 : Option jm_V} {o2 : Option jm_V} {o3 : Option jm_V} {o4 : Option jm_V} {s0 : Int}  (hz : (-2147483648 ≤ s0 ∧ s0 < 2147483648)) (kt : ¬ s0 = 0 → Gx (jx_0 L) d md_M_carry 26 [o0, o1, o2, o3, o4] [] I Q) (kf : s0 = 0 → Gx (jx_0 L) d md_M_carry 24 [o0, o1, o2, o3, o4] [] I Q) : Gx (jx_0 L) d md_M_carry 21 [o0, o1, o2, o3, o4] [.inl s0] I Q := by
  have hz1 := hz
  show jm_Go d 0 0 md_M_carry 21 [o0, o1, o2, o3, o4] [.inl s0] (jx (jx_0 L) I) (jx_Q (jx_0 L) Q)
  have hd : jm_dc md_M_carry.2.1 21 [(.ifCond .ne 5, 3)] = true := by decide +kernel
  exact go_if_ne (by decide) hz1 hd kt kf
theorem b_M_carry_24 {L : Nat} {d : Nat} {I : jm_I} {Q : Option jm_V → jm_I → Prop} {o0 : Option jm_V} {o1 : Option jm_V} {o2 : Option jm_V} {o3 : Option jm_V} {o4 : Option jm_V}  (k : Q (some (.inl (-1))) I) : Gx (jx_0 L) d md_M_carry 24 [o0, o1, o2, o3, o4] [] I Q := by
  show jm_Go d 0 0 md_M_carry 24 [o0, o1, o2, o3, o4] [] (jx (jx_0 L) I) (jx_Q (jx_0 L) Q)
  have hd : jm_dc md_M_carry.2.1 24 [(.iconst (-1), 1), (.ireturn, 1)] = true := by decide +kernel
  refine go_iconst hd (fun hd => ?_)
  exact go_ireturn hd rfl ⟨_, rfl, k⟩
theorem b_M_carry_26 {L : Nat} {d : Nat} {I : jm_I} {Q : Option jm_V → jm_I → Prop} {o1 : Option jm_V} {o2 : Option jm_V} {o3 : Option jm_V} {o4 : Option jm_V}  (k : Cx (jx_0 L) d md_M_findFar [.inr (.inl 167), .inl 0] I (fun v J => Gx (jx_0 L) (d + 1) md_M_carry 31 [some (.inr (.inl 167)), o1, o2, o3, o4] (v.toList ++ []) J Q)) : Gx (jx_0 L) (d + 1) md_M_carry 26 [some (.inr (.inl 167)), o1, o2, o3, o4] [] I Q := by
  show jm_Go (d + 1) 0 0 md_M_carry 26 [some (.inr (.inl 167)), o1, o2, o3, o4] [] (jx (jx_0 L) I) (jx_Q (jx_0 L) Q)
  have hd : jm_dc md_M_carry.2.1 26 [(.aload_n 0, 1), (.iconst 0, 1), (.invokevirtual 181, 3)] = true := by decide +kernel
  refine go_aload_n rfl hd (fun hd => ?_)
  refine go_iconst hd (fun hd => ?_)
  exact gx_virtual 167 9 [.inl 0] [] mk_M_findFar co_X9 rfl ml_9_181 in_M_findFar se_M_findFar rfl rfl (Nat.le_of_ble_eq_true rfl) rfl (Nat.le_of_ble_eq_true rfl) rfl hd k
theorem b_M_carry_31 {L : Nat} {d : Nat} {I : jm_I} {Q : Option jm_V → jm_I → Prop} {x1 : Int} {x2 : Int} {x3 : Int} {o4 : Option jm_V}  (hz : (0 ≤ 1 + x1 ∧ 1 + x1 < 27) ∧ (0 ≤ 17 + x2 ∧ 17 + x2 < 27)) (k : Cx (jx_0 L) d md_M_by [.inr (.inl 167), .inl (I 171 (1 + x1).toNat), .inl (I 171 (17 + x2).toNat), .inl x3] I (fun v J => Gx (jx_0 L) (d + 1) md_M_carry 53 [some (.inr (.inl 167)), some (.inl x1), some (.inl x2), some (.inl x3), o4] (v.toList ++ []) J Q)) : Gx (jx_0 L) (d + 1) md_M_carry 31 [some (.inr (.inl 167)), some (.inl x1), some (.inl x2), some (.inl x3), o4] [] I Q := by
  obtain ⟨hz1, hz2⟩ := hz
  show jm_Go (d + 1) 0 0 md_M_carry 31 [some (.inr (.inl 167)), some (.inl x1), some (.inl x2), some (.inl x3), o4] [] (jx (jx_0 L) I) (jx_Q (jx_0 L) Q)
  have hd : jm_dc md_M_carry.2.1 31 [(.aload_n 0, 1), (.aload_n 0, 1), (.getfield 26, 3), (.iconst 1, 1), (.iload_n 1, 1), (.iadd, 1), (.iaload, 1), (.aload_n 0, 1), (.getfield 26, 3), (.bipush 17, 2), (.iload_n 2, 1), (.iadd, 1), (.iaload, 1), (.iload_n 3, 1), (.invokevirtual 185, 3)] = true := by decide +kernel
  refine go_aload_n rfl hd (fun hd => ?_)
  refine go_aload_n rfl hd (fun hd => ?_)
  refine go_getR co_X9 fl_9_26 (by decide) rfl rfl rfl hd (fun hd => ?_)
  refine go_iconst hd (fun hd => ?_)
  refine go_iload_n rfl hd (fun hd => ?_)
  refine go_iadd hd (fun hd => ?_)
  refine go_iaload rfl hz1.1 hz1.2 (by decide) hd (fun hd => ?_)
  refine go_aload_n rfl hd (fun hd => ?_)
  refine go_getR co_X9 fl_9_26 (by decide) rfl rfl rfl hd (fun hd => ?_)
  refine go_bipush (by decide) hd (fun hd => ?_)
  refine go_iload_n rfl hd (fun hd => ?_)
  refine go_iadd hd (fun hd => ?_)
  refine go_iaload rfl hz2.1 hz2.2 (by decide) hd (fun hd => ?_)
  refine go_iload_n rfl hd (fun hd => ?_)
  exact gx_virtual 167 9 [.inl (I 171 (1 + x1).toNat), .inl (I 171 (17 + x2).toNat), .inl x3] [] mk_M_by co_X9 rfl ml_9_185 in_M_by se_M_by rfl rfl (Nat.le_of_ble_eq_true rfl) rfl (Nat.le_of_ble_eq_true rfl) rfl hd k
theorem b_M_carry_53 {L : Nat} {d : Nat} {I : jm_I} {Q : Option jm_V → jm_I → Prop} {x1 : Int} {o2 : Option jm_V} {o3 : Option jm_V} {o4 : Option jm_V} {s0 : Int}  (k : Cx (jx_0 L) d md_M_mayGo [.inr (.inl 167), .inl x1, .inl s0] I (fun v J => Gx (jx_0 L) (d + 1) md_M_carry 62 [some (.inr (.inl 167)), some (.inl x1), o2, o3, some (.inl s0)] (v.toList ++ []) J Q)) : Gx (jx_0 L) (d + 1) md_M_carry 53 [some (.inr (.inl 167)), some (.inl x1), o2, o3, o4] [.inl s0] I Q := by
  show jm_Go (d + 1) 0 0 md_M_carry 53 [some (.inr (.inl 167)), some (.inl x1), o2, o3, o4] [.inl s0] (jx (jx_0 L) I) (jx_Q (jx_0 L) Q)
  have hd : jm_dc md_M_carry.2.1 53 [(.istore 4, 2), (.aload_n 0, 1), (.iload_n 1, 1), (.iload 4, 2), (.invokevirtual 189, 3)] = true := by decide +kernel
  refine go_istore (by decide) hd (fun hd => ?_)
  refine go_aload_n rfl hd (fun hd => ?_)
  refine go_iload_n rfl hd (fun hd => ?_)
  refine go_iload rfl hd (fun hd => ?_)
  exact gx_virtual 167 9 [.inl x1, .inl s0] [] mk_M_mayGo co_X9 rfl ml_9_189 in_M_mayGo se_M_mayGo rfl rfl (Nat.le_of_ble_eq_true rfl) rfl (Nat.le_of_ble_eq_true rfl) rfl hd k
theorem b_M_carry_62 {L : Nat} {d : Nat} {I : jm_I} {Q : Option jm_V → jm_I → Prop} {o0 : Option jm_V} {o1 : Option jm_V} {o2 : Option jm_V} {o3 : Option jm_V} {o4 : Option jm_V} {s0 : Int}  (hz : (-2147483648 ≤ s0 ∧ s0 < 2147483648)) (kt : ¬ s0 = 0 → Gx (jx_0 L) d md_M_carry 68 [o0, o1, o2, o3, o4] [] I Q) (kf : s0 = 0 → Gx (jx_0 L) d md_M_carry 65 [o0, o1, o2, o3, o4] [] I Q) : Gx (jx_0 L) d md_M_carry 62 [o0, o1, o2, o3, o4] [.inl s0] I Q := by
  have hz1 := hz
  show jm_Go d 0 0 md_M_carry 62 [o0, o1, o2, o3, o4] [.inl s0] (jx (jx_0 L) I) (jx_Q (jx_0 L) Q)
  have hd : jm_dc md_M_carry.2.1 62 [(.ifCond .ne 6, 3)] = true := by decide +kernel
  exact go_if_ne (by decide) hz1 hd kt kf
theorem b_M_carry_65 {L : Nat} {d : Nat} {I : jm_I} {Q : Option jm_V → jm_I → Prop} {o0 : Option jm_V} {o1 : Option jm_V} {o2 : Option jm_V} {o3 : Option jm_V} {o4 : Option jm_V}  (k : Q (some (.inl (-2))) I) : Gx (jx_0 L) d md_M_carry 65 [o0, o1, o2, o3, o4] [] I Q := by
  show jm_Go d 0 0 md_M_carry 65 [o0, o1, o2, o3, o4] [] (jx (jx_0 L) I) (jx_Q (jx_0 L) Q)
  have hd : jm_dc md_M_carry.2.1 65 [(.bipush (-2), 2), (.ireturn, 1)] = true := by decide +kernel
  refine go_bipush (by decide) hd (fun hd => ?_)
  exact go_ireturn hd rfl ⟨_, rfl, k⟩
theorem b_M_carry_68 {L : Nat} {d : Nat} {I : jm_I} {Q : Option jm_V → jm_I → Prop} {o1 : Option jm_V} {o2 : Option jm_V} {o3 : Option jm_V} {o4 : Option jm_V}  (k : Cx (jx_0 L) d md_M_remembers [.inr (.inl 167)] I (fun v J => Gx (jx_0 L) (d + 1) md_M_carry 72 [some (.inr (.inl 167)), o1, o2, o3, o4] (v.toList ++ []) J Q)) : Gx (jx_0 L) (d + 1) md_M_carry 68 [some (.inr (.inl 167)), o1, o2, o3, o4] [] I Q := by
  show jm_Go (d + 1) 0 0 md_M_carry 68 [some (.inr (.inl 167)), o1, o2, o3, o4] [] (jx (jx_0 L) I) (jx_Q (jx_0 L) Q)
  have hd : jm_dc md_M_carry.2.1 68 [(.aload_n 0, 1), (.invokevirtual 175, 3)] = true := by decide +kernel
  refine go_aload_n rfl hd (fun hd => ?_)
  exact gx_virtual 167 9 [] [] mk_M_remembers co_X9 rfl ml_9_175 in_M_remembers se_M_remembers rfl rfl (Nat.le_of_ble_eq_true rfl) rfl (Nat.le_of_ble_eq_true rfl) rfl hd k
theorem b_M_carry_72 {L : Nat} {d : Nat} {I : jm_I} {Q : Option jm_V → jm_I → Prop} {x1 : Int} {x2 : Int} {x3 : Int} {x4 : Int}  (hz : (0 ≤ 11 + x1 ∧ 11 + x1 < 27) ∧ (0 ≤ 11 + x1 ∧ 11 + x1 < 27) ∧ (0 ≤ 1 + x1 ∧ 1 + x1 < 27) ∧ (0 ≤ 17 + x2 ∧ 17 + x2 < 27)) (k : Cx (jx_0 L) d md_M_placeIn [.inr (.inl 167), .inl x2, .inl x3] (jm_up (jm_up (jm_up I 171 ((11 + x1).toNat) ((I 171 (11 + x1).toNat) - x4)) 171 ((1 + x1).toNat) x3) 171 ((17 + x2).toNat) x3) (fun v J => Gx (jx_0 L) (d + 1) md_M_carry 119 [some (.inr (.inl 167)), some (.inl x1), some (.inl x2), some (.inl x3), some (.inl x4)] (v.toList ++ [.inl (22 + x2), .inr (.inl 171)]) J Q)) : Gx (jx_0 L) (d + 1) md_M_carry 72 [some (.inr (.inl 167)), some (.inl x1), some (.inl x2), some (.inl x3), some (.inl x4)] [] I Q := by
  obtain ⟨hz1, hz2, hz3, hz4⟩ := hz
  show jm_Go (d + 1) 0 0 md_M_carry 72 [some (.inr (.inl 167)), some (.inl x1), some (.inl x2), some (.inl x3), some (.inl x4)] [] (jx (jx_0 L) I) (jx_Q (jx_0 L) Q)
  have hd : jm_dc md_M_carry.2.1 72 [(.aload_n 0, 1), (.getfield 26, 3), (.bipush 11, 2), (.iload_n 1, 1), (.iadd, 1), (.dup2, 1), (.iaload, 1), (.iload 4, 2), (.isub, 1), (.iastore, 1), (.aload_n 0, 1), (.getfield 26, 3), (.iconst 1, 1), (.iload_n 1, 1), (.iadd, 1), (.iload_n 3, 1), (.iastore, 1), (.aload_n 0, 1), (.getfield 26, 3), (.bipush 17, 2), (.iload_n 2, 1), (.iadd, 1), (.iload_n 3, 1), (.iastore, 1), (.aload_n 0, 1), (.getfield 26, 3), (.bipush 22, 2), (.iload_n 2, 1), (.iadd, 1), (.aload_n 0, 1), (.iload_n 2, 1), (.iload_n 3, 1), (.invokevirtual 192, 3)] = true := by decide +kernel
  refine go_aload_n rfl hd (fun hd => ?_)
  refine go_getR co_X9 fl_9_26 (by decide) rfl rfl rfl hd (fun hd => ?_)
  refine go_bipush (by decide) hd (fun hd => ?_)
  refine go_iload_n rfl hd (fun hd => ?_)
  refine go_iadd hd (fun hd => ?_)
  refine go_dup2 rfl rfl hd (fun hd => ?_)
  refine go_iaload rfl hz1.1 hz1.2 (by decide) hd (fun hd => ?_)
  refine go_iload rfl hd (fun hd => ?_)
  refine go_isub hd (fun hd => ?_)
  refine go_iastore rfl hz2.1 hz2.2 (by decide) hd (fun hd => ?_)
  refine go_aload_n rfl hd (fun hd => ?_)
  refine go_getR co_X9 fl_9_26 (by decide) rfl rfl rfl hd (fun hd => ?_)
  refine go_iconst hd (fun hd => ?_)
  refine go_iload_n rfl hd (fun hd => ?_)
  refine go_iadd hd (fun hd => ?_)
  refine go_iload_n rfl hd (fun hd => ?_)
  refine go_iastore rfl hz3.1 hz3.2 (by decide) hd (fun hd => ?_)
  refine go_aload_n rfl hd (fun hd => ?_)
  refine go_getR co_X9 fl_9_26 (by decide) rfl rfl rfl hd (fun hd => ?_)
  refine go_bipush (by decide) hd (fun hd => ?_)
  refine go_iload_n rfl hd (fun hd => ?_)
  refine go_iadd hd (fun hd => ?_)
  refine go_iload_n rfl hd (fun hd => ?_)
  refine go_iastore rfl hz4.1 hz4.2 (by decide) hd (fun hd => ?_)
  refine go_aload_n rfl hd (fun hd => ?_)
  refine go_getR co_X9 fl_9_26 (by decide) rfl rfl rfl hd (fun hd => ?_)
  refine go_bipush (by decide) hd (fun hd => ?_)
  refine go_iload_n rfl hd (fun hd => ?_)
  refine go_iadd hd (fun hd => ?_)
  refine go_aload_n rfl hd (fun hd => ?_)
  refine go_iload_n rfl hd (fun hd => ?_)
  refine go_iload_n rfl hd (fun hd => ?_)
  exact gx_virtual 167 9 [.inl x2, .inl x3] [.inl (22 + x2), .inr (.inl 171)] mk_M_placeIn co_X9 rfl ml_9_192 in_M_placeIn se_M_placeIn rfl rfl (Nat.le_of_ble_eq_true rfl) rfl (Nat.le_of_ble_eq_true rfl) rfl hd k
theorem b_M_carry_119 {L : Nat} {d : Nat} {I : jm_I} {Q : Option jm_V → jm_I → Prop} {x1 : Int} {o2 : Option jm_V} {o3 : Option jm_V} {o4 : Option jm_V} {s1 : Int} {s2 : Int}  (hz : (0 ≤ s1 ∧ s1 < 27) ∧ (0 ≤ 11 + x1 ∧ 11 + x1 < 27)) (k : Q (some (.inl ((jm_up I 171 (s1.toNat) s2) 171 (11 + x1).toNat))) (jm_up I 171 (s1.toNat) s2)) : Gx (jx_0 L) d md_M_carry 119 [some (.inr (.inl 167)), some (.inl x1), o2, o3, o4] [.inl s2, .inl s1, .inr (.inl 171)] I Q := by
  obtain ⟨hz1, hz2⟩ := hz
  show jm_Go d 0 0 md_M_carry 119 [some (.inr (.inl 167)), some (.inl x1), o2, o3, o4] [.inl s2, .inl s1, .inr (.inl 171)] (jx (jx_0 L) I) (jx_Q (jx_0 L) Q)
  have hd : jm_dc md_M_carry.2.1 119 [(.iastore, 1), (.aload_n 0, 1), (.getfield 26, 3), (.bipush 11, 2), (.iload_n 1, 1), (.iadd, 1), (.iaload, 1), (.ireturn, 1)] = true := by decide +kernel
  refine go_iastore rfl hz1.1 hz1.2 (by decide) hd (fun hd => ?_)
  refine go_aload_n rfl hd (fun hd => ?_)
  refine go_getR co_X9 fl_9_26 (by decide) rfl rfl rfl hd (fun hd => ?_)
  refine go_bipush (by decide) hd (fun hd => ?_)
  refine go_iload_n rfl hd (fun hd => ?_)
  refine go_iadd hd (fun hd => ?_)
  refine go_iaload rfl hz2.1 hz2.2 (by decide) hd (fun hd => ?_)
  exact go_ireturn hd rfl ⟨_, rfl, k⟩
theorem b_M_isRoom_0 {L : Nat} {d : Nat} {I : jm_I} {Q : Option jm_V → jm_I → Prop} {x1 : Int}  (k : Cx (jx_0 L) d md_M_in [.inl x1, .inl 0, .inl ((I 167 0) - 1)] I (fun v J => Gx (jx_0 L) (d + 1) md_M_isRoom 11 [some (.inr (.inl 167)), some (.inl x1)] (v.toList ++ []) J Q)) : Cx (jx_0 L) (d + 1) md_M_isRoom [.inr (.inl 167), .inl x1] I Q := by
  show jm_Go (d + 1) 0 0 md_M_isRoom 0 [some (.inr (.inl 167)), some (.inl x1)] [] (jx (jx_0 L) I) (jx_Q (jx_0 L) Q)
  have hd : jm_dc md_M_isRoom.2.1 0 [(.iload_n 1, 1), (.iconst 0, 1), (.aload_n 0, 1), (.getfield 7, 3), (.iconst 1, 1), (.isub, 1), (.invokestatic 78, 3)] = true := by decide +kernel
  refine go_iload_n rfl hd (fun hd => ?_)
  refine go_iconst hd (fun hd => ?_)
  refine go_aload_n rfl hd (fun hd => ?_)
  refine go_getI co_X9 fl_9_7 (by decide) (Or.inl rfl) rfl hd (fun hd => ?_)
  refine go_iconst hd (fun hd => ?_)
  refine go_isub hd (fun hd => ?_)
  exact gx_static [.inl x1, .inl 0, .inl ((I 167 0) - 1)] [] mk_M_in ml_9_78 st_M_in rfl (Nat.le_of_ble_eq_true rfl) rfl (Nat.le_of_ble_eq_true rfl) rfl hd k
theorem b_M_isRoom_11 {L : Nat} {d : Nat} {I : jm_I} {Q : Option jm_V → jm_I → Prop} {o0 : Option jm_V} {o1 : Option jm_V} {s0 : Int}  (hz : (s0 = 0 ∨ s0 = 1)) (k : Q (some (.inl s0)) I) : Gx (jx_0 L) d md_M_isRoom 11 [o0, o1] [.inl s0] I Q := by
  have hz1 := hz
  show jm_Go d 0 0 md_M_isRoom 11 [o0, o1] [.inl s0] (jx (jx_0 L) I) (jx_Q (jx_0 L) Q)
  have hd : jm_dc md_M_isRoom.2.1 11 [(.ireturn, 1)] = true := by decide +kernel
  exact go_zreturn hd rfl hz1 ⟨_, rfl, k⟩
theorem b_M_findFar_0 {L : Nat} {d : Nat} {I : jm_I} {Q : Option jm_V → jm_I → Prop} {x1 : Int}  (k : Gx (jx_0 L) d md_M_findFar 2 [some (.inr (.inl 167)), some (.inl x1), some (.inl 0), none, none] [] I Q) : Cx (jx_0 L) d md_M_findFar [.inr (.inl 167), .inl x1] I Q := by
  show jm_Go d 0 0 md_M_findFar 0 [some (.inr (.inl 167)), some (.inl x1), none, none, none] [] (jx (jx_0 L) I) (jx_Q (jx_0 L) Q)
  have hd : jm_dc md_M_findFar.2.1 0 [(.iconst 0, 1), (.istore_n 2, 1)] = true := by decide +kernel
  refine go_iconst hd (fun hd => ?_)
  refine go_istore_n (by decide) hd (fun hd => ?_)
  exact k
theorem b_M_findFar_2 {L : Nat} {d : Nat} {I : jm_I} {Q : Option jm_V → jm_I → Prop} {o0 : Option jm_V} {o1 : Option jm_V} {x2 : Int} {o3 : Option jm_V} {o4 : Option jm_V}  (hz : (-2147483648 ≤ x2 ∧ x2 < 2147483648)) (kt : 36 ≤ x2 → Gx (jx_0 L) d md_M_findFar 38 [o0, o1, some (.inl x2), o3, o4] [] I Q) (kf : ¬ (36 ≤ x2) → Gx (jx_0 L) d md_M_findFar 8 [o0, o1, some (.inl x2), o3, o4] [] I Q) : Gx (jx_0 L) d md_M_findFar 2 [o0, o1, some (.inl x2), o3, o4] [] I Q := by
  have hz1 := hz
  show jm_Go d 0 0 md_M_findFar 2 [o0, o1, some (.inl x2), o3, o4] [] (jx (jx_0 L) I) (jx_Q (jx_0 L) Q)
  have hd : jm_dc md_M_findFar.2.1 2 [(.iload_n 2, 1), (.bipush 36, 2), (.if_icmp .ge 33, 3)] = true := by decide +kernel
  refine go_iload_n rfl hd (fun hd => ?_)
  refine go_bipush (by decide) hd (fun hd => ?_)
  exact go_icmp_ge (by decide) hz1 ⟨by decide, by decide⟩ hd kt kf
theorem b_M_findFar_8 {L : Nat} {d : Nat} {I : jm_I} {Q : Option jm_V → jm_I → Prop} {o1 : Option jm_V} {x2 : Int} {o3 : Option jm_V} {o4 : Option jm_V}  (hz : (0 ≤ x2 ∧ x2 < 2147483648) ∧ (0 ≤ x2 ∧ x2 < 2147483648) ∧ (-2147483648 ≤ x2 / 6 ∧ x2 / 6 < 2147483648) ∧ (-2147483648 ≤ x2 % 6 ∧ x2 % 6 < 2147483648)) (kt : ¬ (x2 / 6) = (x2 % 6) → Gx (jx_0 L) d md_M_findFar 28 [some (.inr (.inl 167)), o1, some (.inl x2), o3, o4] [.inl x2, .inr (.inl 182)] I Q) (kf : (x2 / 6) = (x2 % 6) → Gx (jx_0 L) d md_M_findFar 24 [some (.inr (.inl 167)), o1, some (.inl x2), o3, o4] [.inl x2, .inr (.inl 182)] I Q) : Gx (jx_0 L) d md_M_findFar 8 [some (.inr (.inl 167)), o1, some (.inl x2), o3, o4] [] I Q := by
  obtain ⟨hz1, hz2, hz3, hz4⟩ := hz
  show jm_Go d 0 0 md_M_findFar 8 [some (.inr (.inl 167)), o1, some (.inl x2), o3, o4] [] (jx (jx_0 L) I) (jx_Q (jx_0 L) Q)
  have hd : jm_dc md_M_findFar.2.1 8 [(.aload_n 0, 1), (.getfield 60, 3), (.iload_n 2, 1), (.iload_n 2, 1), (.bipush 6, 2), (.idiv, 1), (.iload_n 2, 1), (.bipush 6, 2), (.irem, 1), (.if_icmp .ne 7, 3)] = true := by decide +kernel
  refine go_aload_n rfl hd (fun hd => ?_)
  refine go_getR co_X9 fl_9_60 (by decide) rfl rfl rfl hd (fun hd => ?_)
  refine go_iload_n rfl hd (fun hd => ?_)
  refine go_iload_n rfl hd (fun hd => ?_)
  refine go_bipush (by decide) hd (fun hd => ?_)
  refine go_idiv hz1 (by decide) hd (fun hd => ?_)
  refine go_iload_n rfl hd (fun hd => ?_)
  refine go_bipush (by decide) hd (fun hd => ?_)
  refine go_irem hz2 (by decide) hd (fun hd => ?_)
  exact go_icmp_ne (by decide) hz3 hz4 hd kt kf
theorem b_M_findFar_24 {L : Nat} {d : Nat} {I : jm_I} {Q : Option jm_V → jm_I → Prop} {o0 : Option jm_V} {o1 : Option jm_V} {o2 : Option jm_V} {o3 : Option jm_V} {o4 : Option jm_V} {s1 : Int}  (k : Gx (jx_0 L) d md_M_findFar 31 [o0, o1, o2, o3, o4] [.inl 0, .inl s1, .inr (.inl 182)] I Q) : Gx (jx_0 L) d md_M_findFar 24 [o0, o1, o2, o3, o4] [.inl s1, .inr (.inl 182)] I Q := by
  show jm_Go d 0 0 md_M_findFar 24 [o0, o1, o2, o3, o4] [.inl s1, .inr (.inl 182)] (jx (jx_0 L) I) (jx_Q (jx_0 L) Q)
  have hd : jm_dc md_M_findFar.2.1 24 [(.iconst 0, 1), (.goto 6, 3)] = true := by decide +kernel
  refine go_iconst hd (fun hd => ?_)
  exact go_goto (by decide) hd k
theorem b_M_findFar_28 {L : Nat} {d : Nat} {I : jm_I} {Q : Option jm_V → jm_I → Prop} {o0 : Option jm_V} {o1 : Option jm_V} {o2 : Option jm_V} {o3 : Option jm_V} {o4 : Option jm_V} {s1 : Int}  (k : Gx (jx_0 L) d md_M_findFar 31 [o0, o1, o2, o3, o4] [.inl 10000, .inl s1, .inr (.inl 182)] I Q) : Gx (jx_0 L) d md_M_findFar 28 [o0, o1, o2, o3, o4] [.inl s1, .inr (.inl 182)] I Q := by
  show jm_Go d 0 0 md_M_findFar 28 [o0, o1, o2, o3, o4] [.inl s1, .inr (.inl 182)] (jx (jx_0 L) I) (jx_Q (jx_0 L) Q)
  have hd : jm_dc md_M_findFar.2.1 28 [(.sipush 10000, 3)] = true := by decide +kernel
  refine go_sipush (by decide) hd (fun hd => ?_)
  exact k
theorem b_M_findFar_31 {L : Nat} {d : Nat} {I : jm_I} {Q : Option jm_V → jm_I → Prop} {o0 : Option jm_V} {o1 : Option jm_V} {x2 : Int} {o3 : Option jm_V} {o4 : Option jm_V} {s1 : Int} {s2 : Int}  (hz : (0 ≤ s1 ∧ s1 < 36)) (k : Gx (jx_0 L) d md_M_findFar 2 [o0, o1, some (.inl (x2 + 1)), o3, o4] [] (jm_up I 182 (s1.toNat) s2) Q) : Gx (jx_0 L) d md_M_findFar 31 [o0, o1, some (.inl x2), o3, o4] [.inl s2, .inl s1, .inr (.inl 182)] I Q := by
  have hz1 := hz
  show jm_Go d 0 0 md_M_findFar 31 [o0, o1, some (.inl x2), o3, o4] [.inl s2, .inl s1, .inr (.inl 182)] (jx (jx_0 L) I) (jx_Q (jx_0 L) Q)
  have hd : jm_dc md_M_findFar.2.1 31 [(.iastore, 1), (.iinc 2 1, 3), (.goto (-33), 3)] = true := by decide +kernel
  refine go_iastore rfl hz1.1 hz1.2 (by decide) hd (fun hd => ?_)
  refine go_iinc rfl hd (fun hd => ?_)
  exact go_goto (by decide) hd k
theorem b_M_findFar_38 {L : Nat} {d : Nat} {I : jm_I} {Q : Option jm_V → jm_I → Prop} {o0 : Option jm_V} {o1 : Option jm_V} {o2 : Option jm_V} {o3 : Option jm_V} {o4 : Option jm_V}  (k : Gx (jx_0 L) d md_M_findFar 40 [o0, o1, some (.inl 0), o3, o4] [] I Q) : Gx (jx_0 L) d md_M_findFar 38 [o0, o1, o2, o3, o4] [] I Q := by
  show jm_Go d 0 0 md_M_findFar 38 [o0, o1, o2, o3, o4] [] (jx (jx_0 L) I) (jx_Q (jx_0 L) Q)
  have hd : jm_dc md_M_findFar.2.1 38 [(.iconst 0, 1), (.istore_n 2, 1)] = true := by decide +kernel
  refine go_iconst hd (fun hd => ?_)
  refine go_istore_n (by decide) hd (fun hd => ?_)
  exact k
theorem b_M_findFar_40 {L : Nat} {d : Nat} {I : jm_I} {Q : Option jm_V → jm_I → Prop} {o1 : Option jm_V} {x2 : Int} {o3 : Option jm_V} {o4 : Option jm_V}  (hz : (-2147483648 ≤ x2 ∧ x2 < 2147483648) ∧ (-2147483648 ≤ I 167 1 ∧ I 167 1 < 2147483648)) (kt : (I 167 1) ≤ x2 → Gx (jx_0 L) d md_M_findFar 131 [some (.inr (.inl 167)), o1, some (.inl x2), o3, o4] [] I Q) (kf : ¬ ((I 167 1) ≤ x2) → Gx (jx_0 L) d md_M_findFar 48 [some (.inr (.inl 167)), o1, some (.inl x2), o3, o4] [] I Q) : Gx (jx_0 L) d md_M_findFar 40 [some (.inr (.inl 167)), o1, some (.inl x2), o3, o4] [] I Q := by
  obtain ⟨hz1, hz2⟩ := hz
  show jm_Go d 0 0 md_M_findFar 40 [some (.inr (.inl 167)), o1, some (.inl x2), o3, o4] [] (jx (jx_0 L) I) (jx_Q (jx_0 L) Q)
  have hd : jm_dc md_M_findFar.2.1 40 [(.iload_n 2, 1), (.aload_n 0, 1), (.getfield 155, 3), (.if_icmp .ge 86, 3)] = true := by decide +kernel
  refine go_iload_n rfl hd (fun hd => ?_)
  refine go_aload_n rfl hd (fun hd => ?_)
  refine go_getI co_X9 fl_9_155 (by decide) (Or.inl rfl) rfl hd (fun hd => ?_)
  exact go_icmp_ge (by decide) hz1 hz2 hd kt kf
theorem b_M_findFar_48 {L : Nat} {d : Nat} {I : jm_I} {Q : Option jm_V → jm_I → Prop} {o1 : Option jm_V} {x2 : Int} {o3 : Option jm_V} {o4 : Option jm_V}  (hz : (0 ≤ (3 * x2) + 2 ∧ (3 * x2) + 2 < 24) ∧ (-2147483648 ≤ I 168 ((3 * x2) + 2).toNat ∧ I 168 ((3 * x2) + 2).toNat < 2147483648)) (kt : ¬ (I 168 ((3 * x2) + 2).toNat) = 0 → Gx (jx_0 L) d md_M_findFar 125 [some (.inr (.inl 167)), o1, some (.inl x2), o3, o4] [] I Q) (kf : (I 168 ((3 * x2) + 2).toNat) = 0 → Gx (jx_0 L) d md_M_findFar 61 [some (.inr (.inl 167)), o1, some (.inl x2), o3, o4] [] I Q) : Gx (jx_0 L) d md_M_findFar 48 [some (.inr (.inl 167)), o1, some (.inl x2), o3, o4] [] I Q := by
  obtain ⟨hz1, hz2⟩ := hz
  show jm_Go d 0 0 md_M_findFar 48 [some (.inr (.inl 167)), o1, some (.inl x2), o3, o4] [] (jx (jx_0 L) I) (jx_Q (jx_0 L) Q)
  have hd : jm_dc md_M_findFar.2.1 48 [(.aload_n 0, 1), (.getfield 13, 3), (.iconst 3, 1), (.iload_n 2, 1), (.imul, 1), (.iconst 2, 1), (.iadd, 1), (.iaload, 1), (.ifCond .ne 67, 3)] = true := by decide +kernel
  refine go_aload_n rfl hd (fun hd => ?_)
  refine go_getR co_X9 fl_9_13 (by decide) rfl rfl rfl hd (fun hd => ?_)
  refine go_iconst hd (fun hd => ?_)
  refine go_iload_n rfl hd (fun hd => ?_)
  refine go_imul hd (fun hd => ?_)
  refine go_iconst hd (fun hd => ?_)
  refine go_iadd hd (fun hd => ?_)
  refine go_iaload rfl hz1.1 hz1.2 (by decide) hd (fun hd => ?_)
  exact go_if_ne (by decide) hz2 hd kt kf
theorem b_M_findFar_61 {L : Nat} {d : Nat} {I : jm_I} {Q : Option jm_V → jm_I → Prop} {o0 : Option jm_V} {x1 : Int} {x2 : Int} {o3 : Option jm_V} {o4 : Option jm_V}  (k : Cx (jx_0 L) d md_M_has [.inl x1, .inl x2] I (fun v J => Gx (jx_0 L) (d + 1) md_M_findFar 66 [o0, some (.inl x1), some (.inl x2), o3, o4] (v.toList ++ []) J Q)) : Gx (jx_0 L) (d + 1) md_M_findFar 61 [o0, some (.inl x1), some (.inl x2), o3, o4] [] I Q := by
  show jm_Go (d + 1) 0 0 md_M_findFar 61 [o0, some (.inl x1), some (.inl x2), o3, o4] [] (jx (jx_0 L) I) (jx_Q (jx_0 L) Q)
  have hd : jm_dc md_M_findFar.2.1 61 [(.iload_n 1, 1), (.iload_n 2, 1), (.invokestatic 168, 3)] = true := by decide +kernel
  refine go_iload_n rfl hd (fun hd => ?_)
  refine go_iload_n rfl hd (fun hd => ?_)
  exact gx_static [.inl x1, .inl x2] [] mk_M_has ml_9_168 st_M_has rfl (Nat.le_of_ble_eq_true rfl) rfl (Nat.le_of_ble_eq_true rfl) rfl hd k
theorem b_M_findFar_66 {L : Nat} {d : Nat} {I : jm_I} {Q : Option jm_V → jm_I → Prop} {o0 : Option jm_V} {o1 : Option jm_V} {o2 : Option jm_V} {o3 : Option jm_V} {o4 : Option jm_V} {s0 : Int}  (hz : (-2147483648 ≤ s0 ∧ s0 < 2147483648)) (kt : ¬ s0 = 0 → Gx (jx_0 L) d md_M_findFar 125 [o0, o1, o2, o3, o4] [] I Q) (kf : s0 = 0 → Gx (jx_0 L) d md_M_findFar 69 [o0, o1, o2, o3, o4] [] I Q) : Gx (jx_0 L) d md_M_findFar 66 [o0, o1, o2, o3, o4] [.inl s0] I Q := by
  have hz1 := hz
  show jm_Go d 0 0 md_M_findFar 66 [o0, o1, o2, o3, o4] [.inl s0] (jx (jx_0 L) I) (jx_Q (jx_0 L) Q)
  have hd : jm_dc md_M_findFar.2.1 66 [(.ifCond .ne 59, 3)] = true := by decide +kernel
  exact go_if_ne (by decide) hz1 hd kt kf
theorem b_M_findFar_69 {L : Nat} {d : Nat} {I : jm_I} {Q : Option jm_V → jm_I → Prop} {o1 : Option jm_V} {x2 : Int} {o3 : Option jm_V} {o4 : Option jm_V}  (hz : (0 ≤ 3 * x2 ∧ 3 * x2 < 24) ∧ (0 ≤ (3 * x2) + 1 ∧ (3 * x2) + 1 < 24) ∧ (0 ≤ (6 * (I 168 (3 * x2).toNat)) + (I 168 ((3 * x2) + 1).toNat) ∧ (6 * (I 168 (3 * x2).toNat)) + (I 168 ((3 * x2) + 1).toNat) < 36) ∧ (0 ≤ (3 * x2) + 1 ∧ (3 * x2) + 1 < 24) ∧ (0 ≤ 3 * x2 ∧ 3 * x2 < 24) ∧ (0 ≤ (6 * (I 168 ((3 * x2) + 1).toNat)) + (I 168 (3 * x2).toNat) ∧ (6 * (I 168 ((3 * x2) + 1).toNat)) + (I 168 (3 * x2).toNat) < 36)) (k : Gx (jx_0 L) d md_M_findFar 125 [some (.inr (.inl 167)), o1, some (.inl x2), o3, o4] [] (jm_up (jm_up I 182 (((6 * (I 168 (3 * x2).toNat)) + (I 168 ((3 * x2) + 1).toNat)).toNat) 1) 182 (((6 * (I 168 ((3 * x2) + 1).toNat)) + (I 168 (3 * x2).toNat)).toNat) 1) Q) : Gx (jx_0 L) d md_M_findFar 69 [some (.inr (.inl 167)), o1, some (.inl x2), o3, o4] [] I Q := by
  obtain ⟨hz1, hz2, hz3, hz4, hz5, hz6⟩ := hz
  show jm_Go d 0 0 md_M_findFar 69 [some (.inr (.inl 167)), o1, some (.inl x2), o3, o4] [] (jx (jx_0 L) I) (jx_Q (jx_0 L) Q)
  have hd : jm_dc md_M_findFar.2.1 69 [(.aload_n 0, 1), (.getfield 60, 3), (.bipush 6, 2), (.aload_n 0, 1), (.getfield 13, 3), (.iconst 3, 1), (.iload_n 2, 1), (.imul, 1), (.iaload, 1), (.imul, 1), (.aload_n 0, 1), (.getfield 13, 3), (.iconst 3, 1), (.iload_n 2, 1), (.imul, 1), (.iconst 1, 1), (.iadd, 1), (.iaload, 1), (.iadd, 1), (.iconst 1, 1), (.iastore, 1), (.aload_n 0, 1), (.getfield 60, 3), (.bipush 6, 2), (.aload_n 0, 1), (.getfield 13, 3), (.iconst 3, 1), (.iload_n 2, 1), (.imul, 1), (.iconst 1, 1), (.iadd, 1), (.iaload, 1), (.imul, 1), (.aload_n 0, 1), (.getfield 13, 3), (.iconst 3, 1), (.iload_n 2, 1), (.imul, 1), (.iaload, 1), (.iadd, 1), (.iconst 1, 1), (.iastore, 1)] = true := by decide +kernel
  refine go_aload_n rfl hd (fun hd => ?_)
  refine go_getR co_X9 fl_9_60 (by decide) rfl rfl rfl hd (fun hd => ?_)
  refine go_bipush (by decide) hd (fun hd => ?_)
  refine go_aload_n rfl hd (fun hd => ?_)
  refine go_getR co_X9 fl_9_13 (by decide) rfl rfl rfl hd (fun hd => ?_)
  refine go_iconst hd (fun hd => ?_)
  refine go_iload_n rfl hd (fun hd => ?_)
  refine go_imul hd (fun hd => ?_)
  refine go_iaload rfl hz1.1 hz1.2 (by decide) hd (fun hd => ?_)
  refine go_imul hd (fun hd => ?_)
  refine go_aload_n rfl hd (fun hd => ?_)
  refine go_getR co_X9 fl_9_13 (by decide) rfl rfl rfl hd (fun hd => ?_)
  refine go_iconst hd (fun hd => ?_)
  refine go_iload_n rfl hd (fun hd => ?_)
  refine go_imul hd (fun hd => ?_)
  refine go_iconst hd (fun hd => ?_)
  refine go_iadd hd (fun hd => ?_)
  refine go_iaload rfl hz2.1 hz2.2 (by decide) hd (fun hd => ?_)
  refine go_iadd hd (fun hd => ?_)
  refine go_iconst hd (fun hd => ?_)
  refine go_iastore rfl hz3.1 hz3.2 (by decide) hd (fun hd => ?_)
  refine go_aload_n rfl hd (fun hd => ?_)
  refine go_getR co_X9 fl_9_60 (by decide) rfl rfl rfl hd (fun hd => ?_)
  refine go_bipush (by decide) hd (fun hd => ?_)
  refine go_aload_n rfl hd (fun hd => ?_)
  refine go_getR co_X9 fl_9_13 (by decide) rfl rfl rfl hd (fun hd => ?_)
  refine go_iconst hd (fun hd => ?_)
  refine go_iload_n rfl hd (fun hd => ?_)
  refine go_imul hd (fun hd => ?_)
  refine go_iconst hd (fun hd => ?_)
  refine go_iadd hd (fun hd => ?_)
  refine go_iaload rfl hz4.1 hz4.2 (by decide) hd (fun hd => ?_)
  refine go_imul hd (fun hd => ?_)
  refine go_aload_n rfl hd (fun hd => ?_)
  refine go_getR co_X9 fl_9_13 (by decide) rfl rfl rfl hd (fun hd => ?_)
  refine go_iconst hd (fun hd => ?_)
  refine go_iload_n rfl hd (fun hd => ?_)
  refine go_imul hd (fun hd => ?_)
  refine go_iaload rfl hz5.1 hz5.2 (by decide) hd (fun hd => ?_)
  refine go_iadd hd (fun hd => ?_)
  refine go_iconst hd (fun hd => ?_)
  refine go_iastore rfl hz6.1 hz6.2 (by decide) hd (fun hd => ?_)
  exact k
theorem b_M_findFar_125 {L : Nat} {d : Nat} {I : jm_I} {Q : Option jm_V → jm_I → Prop} {o0 : Option jm_V} {o1 : Option jm_V} {x2 : Int} {o3 : Option jm_V} {o4 : Option jm_V}  (k : Gx (jx_0 L) d md_M_findFar 40 [o0, o1, some (.inl (x2 + 1)), o3, o4] [] I Q) : Gx (jx_0 L) d md_M_findFar 125 [o0, o1, some (.inl x2), o3, o4] [] I Q := by
  show jm_Go d 0 0 md_M_findFar 125 [o0, o1, some (.inl x2), o3, o4] [] (jx (jx_0 L) I) (jx_Q (jx_0 L) Q)
  have hd : jm_dc md_M_findFar.2.1 125 [(.iinc 2 1, 3), (.goto (-88), 3)] = true := by decide +kernel
  refine go_iinc rfl hd (fun hd => ?_)
  exact go_goto (by decide) hd k
theorem b_M_findFar_131 {L : Nat} {d : Nat} {I : jm_I} {Q : Option jm_V → jm_I → Prop} {o0 : Option jm_V} {o1 : Option jm_V} {o2 : Option jm_V} {o3 : Option jm_V} {o4 : Option jm_V}  (k : Gx (jx_0 L) d md_M_findFar 133 [o0, o1, some (.inl 0), o3, o4] [] I Q) : Gx (jx_0 L) d md_M_findFar 131 [o0, o1, o2, o3, o4] [] I Q := by
  show jm_Go d 0 0 md_M_findFar 131 [o0, o1, o2, o3, o4] [] (jx (jx_0 L) I) (jx_Q (jx_0 L) Q)
  have hd : jm_dc md_M_findFar.2.1 131 [(.iconst 0, 1), (.istore_n 2, 1)] = true := by decide +kernel
  refine go_iconst hd (fun hd => ?_)
  refine go_istore_n (by decide) hd (fun hd => ?_)
  exact k
theorem b_M_findFar_133 {L : Nat} {d : Nat} {I : jm_I} {Q : Option jm_V → jm_I → Prop} {o1 : Option jm_V} {x2 : Int} {o3 : Option jm_V} {o4 : Option jm_V}  (hz : (-2147483648 ≤ x2 ∧ x2 < 2147483648) ∧ (-2147483648 ≤ I 167 0 ∧ I 167 0 < 2147483648)) (kt : (I 167 0) ≤ x2 → Gx (jx_0 L) d md_M_findFar 220 [some (.inr (.inl 167)), o1, some (.inl x2), o3, o4] [] I Q) (kf : ¬ ((I 167 0) ≤ x2) → Gx (jx_0 L) d md_M_findFar 141 [some (.inr (.inl 167)), o1, some (.inl x2), o3, o4] [] I Q) : Gx (jx_0 L) d md_M_findFar 133 [some (.inr (.inl 167)), o1, some (.inl x2), o3, o4] [] I Q := by
  obtain ⟨hz1, hz2⟩ := hz
  show jm_Go d 0 0 md_M_findFar 133 [some (.inr (.inl 167)), o1, some (.inl x2), o3, o4] [] (jx (jx_0 L) I) (jx_Q (jx_0 L) Q)
  have hd : jm_dc md_M_findFar.2.1 133 [(.iload_n 2, 1), (.aload_n 0, 1), (.getfield 7, 3), (.if_icmp .ge 82, 3)] = true := by decide +kernel
  refine go_iload_n rfl hd (fun hd => ?_)
  refine go_aload_n rfl hd (fun hd => ?_)
  refine go_getI co_X9 fl_9_7 (by decide) (Or.inl rfl) rfl hd (fun hd => ?_)
  exact go_icmp_ge (by decide) hz1 hz2 hd kt kf
theorem b_M_findFar_141 {L : Nat} {d : Nat} {I : jm_I} {Q : Option jm_V → jm_I → Prop} {o0 : Option jm_V} {o1 : Option jm_V} {o2 : Option jm_V} {o3 : Option jm_V} {o4 : Option jm_V}  (k : Gx (jx_0 L) d md_M_findFar 143 [o0, o1, o2, some (.inl 0), o4] [] I Q) : Gx (jx_0 L) d md_M_findFar 141 [o0, o1, o2, o3, o4] [] I Q := by
  show jm_Go d 0 0 md_M_findFar 141 [o0, o1, o2, o3, o4] [] (jx (jx_0 L) I) (jx_Q (jx_0 L) Q)
  have hd : jm_dc md_M_findFar.2.1 141 [(.iconst 0, 1), (.istore_n 3, 1)] = true := by decide +kernel
  refine go_iconst hd (fun hd => ?_)
  refine go_istore_n (by decide) hd (fun hd => ?_)
  exact k
theorem b_M_findFar_143 {L : Nat} {d : Nat} {I : jm_I} {Q : Option jm_V → jm_I → Prop} {o0 : Option jm_V} {o1 : Option jm_V} {o2 : Option jm_V} {x3 : Int} {o4 : Option jm_V}  (hz : (-2147483648 ≤ x3 ∧ x3 < 2147483648)) (kt : 36 ≤ x3 → Gx (jx_0 L) d md_M_findFar 214 [o0, o1, o2, some (.inl x3), o4] [] I Q) (kf : ¬ (36 ≤ x3) → Gx (jx_0 L) d md_M_findFar 149 [o0, o1, o2, some (.inl x3), o4] [] I Q) : Gx (jx_0 L) d md_M_findFar 143 [o0, o1, o2, some (.inl x3), o4] [] I Q := by
  have hz1 := hz
  show jm_Go d 0 0 md_M_findFar 143 [o0, o1, o2, some (.inl x3), o4] [] (jx (jx_0 L) I) (jx_Q (jx_0 L) Q)
  have hd : jm_dc md_M_findFar.2.1 143 [(.iload_n 3, 1), (.bipush 36, 2), (.if_icmp .ge 68, 3)] = true := by decide +kernel
  refine go_iload_n rfl hd (fun hd => ?_)
  refine go_bipush (by decide) hd (fun hd => ?_)
  exact go_icmp_ge (by decide) hz1 ⟨by decide, by decide⟩ hd kt kf
theorem b_M_findFar_149 {L : Nat} {d : Nat} {I : jm_I} {Q : Option jm_V → jm_I → Prop} {o1 : Option jm_V} {x2 : Int} {x3 : Int} {o4 : Option jm_V}  (hz : (0 ≤ x3 ∧ x3 < 2147483648) ∧ (0 ≤ ((x3 / 6) * 6) + x2 ∧ ((x3 / 6) * 6) + x2 < 36) ∧ (0 ≤ x3 ∧ x3 < 2147483648) ∧ (0 ≤ (6 * x2) + (x3 % 6) ∧ (6 * x2) + (x3 % 6) < 36) ∧ (0 ≤ x3 ∧ x3 < 36) ∧ (-2147483648 ≤ (I 182 (((x3 / 6) * 6) + x2).toNat) + (I 182 ((6 * x2) + (x3 % 6)).toNat) ∧ (I 182 (((x3 / 6) * 6) + x2).toNat) + (I 182 ((6 * x2) + (x3 % 6)).toNat) < 2147483648) ∧ (-2147483648 ≤ I 182 x3.toNat ∧ I 182 x3.toNat < 2147483648)) (kt : (I 182 x3.toNat) ≤ ((I 182 (((x3 / 6) * 6) + x2).toNat) + (I 182 ((6 * x2) + (x3 % 6)).toNat)) → Gx (jx_0 L) d md_M_findFar 201 [some (.inr (.inl 167)), o1, some (.inl x2), some (.inl x3), some (.inl ((I 182 (((x3 / 6) * 6) + x2).toNat) + (I 182 ((6 * x2) + (x3 % 6)).toNat)))] [.inl x3, .inr (.inl 182)] I Q) (kf : ¬ ((I 182 x3.toNat) ≤ ((I 182 (((x3 / 6) * 6) + x2).toNat) + (I 182 ((6 * x2) + (x3 % 6)).toNat))) → Gx (jx_0 L) d md_M_findFar 196 [some (.inr (.inl 167)), o1, some (.inl x2), some (.inl x3), some (.inl ((I 182 (((x3 / 6) * 6) + x2).toNat) + (I 182 ((6 * x2) + (x3 % 6)).toNat)))] [.inl x3, .inr (.inl 182)] I Q) : Gx (jx_0 L) d md_M_findFar 149 [some (.inr (.inl 167)), o1, some (.inl x2), some (.inl x3), o4] [] I Q := by
  obtain ⟨hz1, hz2, hz3, hz4, hz5, hz6, hz7⟩ := hz
  show jm_Go d 0 0 md_M_findFar 149 [some (.inr (.inl 167)), o1, some (.inl x2), some (.inl x3), o4] [] (jx (jx_0 L) I) (jx_Q (jx_0 L) Q)
  have hd : jm_dc md_M_findFar.2.1 149 [(.aload_n 0, 1), (.getfield 60, 3), (.iload_n 3, 1), (.bipush 6, 2), (.idiv, 1), (.bipush 6, 2), (.imul, 1), (.iload_n 2, 1), (.iadd, 1), (.iaload, 1), (.aload_n 0, 1), (.getfield 60, 3), (.bipush 6, 2), (.iload_n 2, 1), (.imul, 1), (.iload_n 3, 1), (.bipush 6, 2), (.irem, 1), (.iadd, 1), (.iaload, 1), (.iadd, 1), (.istore 4, 2), (.aload_n 0, 1), (.getfield 60, 3), (.iload_n 3, 1), (.iload 4, 2), (.aload_n 0, 1), (.getfield 60, 3), (.iload_n 3, 1), (.iaload, 1), (.if_icmp .ge 8, 3)] = true := by decide +kernel
  refine go_aload_n rfl hd (fun hd => ?_)
  refine go_getR co_X9 fl_9_60 (by decide) rfl rfl rfl hd (fun hd => ?_)
  refine go_iload_n rfl hd (fun hd => ?_)
  refine go_bipush (by decide) hd (fun hd => ?_)
  refine go_idiv hz1 (by decide) hd (fun hd => ?_)
  refine go_bipush (by decide) hd (fun hd => ?_)
  refine go_imul hd (fun hd => ?_)
  refine go_iload_n rfl hd (fun hd => ?_)
  refine go_iadd hd (fun hd => ?_)
  refine go_iaload rfl hz2.1 hz2.2 (by decide) hd (fun hd => ?_)
  refine go_aload_n rfl hd (fun hd => ?_)
  refine go_getR co_X9 fl_9_60 (by decide) rfl rfl rfl hd (fun hd => ?_)
  refine go_bipush (by decide) hd (fun hd => ?_)
  refine go_iload_n rfl hd (fun hd => ?_)
  refine go_imul hd (fun hd => ?_)
  refine go_iload_n rfl hd (fun hd => ?_)
  refine go_bipush (by decide) hd (fun hd => ?_)
  refine go_irem hz3 (by decide) hd (fun hd => ?_)
  refine go_iadd hd (fun hd => ?_)
  refine go_iaload rfl hz4.1 hz4.2 (by decide) hd (fun hd => ?_)
  refine go_iadd hd (fun hd => ?_)
  refine go_istore (by decide) hd (fun hd => ?_)
  refine go_aload_n rfl hd (fun hd => ?_)
  refine go_getR co_X9 fl_9_60 (by decide) rfl rfl rfl hd (fun hd => ?_)
  refine go_iload_n rfl hd (fun hd => ?_)
  refine go_iload rfl hd (fun hd => ?_)
  refine go_aload_n rfl hd (fun hd => ?_)
  refine go_getR co_X9 fl_9_60 (by decide) rfl rfl rfl hd (fun hd => ?_)
  refine go_iload_n rfl hd (fun hd => ?_)
  refine go_iaload rfl hz5.1 hz5.2 (by decide) hd (fun hd => ?_)
  exact go_icmp_ge (by decide) hz6 hz7 hd kt kf
theorem b_M_findFar_196 {L : Nat} {d : Nat} {I : jm_I} {Q : Option jm_V → jm_I → Prop} {o0 : Option jm_V} {o1 : Option jm_V} {o2 : Option jm_V} {o3 : Option jm_V} {x4 : Int} {s1 : Int}  (k : Gx (jx_0 L) d md_M_findFar 207 [o0, o1, o2, o3, some (.inl x4)] [.inl x4, .inl s1, .inr (.inl 182)] I Q) : Gx (jx_0 L) d md_M_findFar 196 [o0, o1, o2, o3, some (.inl x4)] [.inl s1, .inr (.inl 182)] I Q := by
  show jm_Go d 0 0 md_M_findFar 196 [o0, o1, o2, o3, some (.inl x4)] [.inl s1, .inr (.inl 182)] (jx (jx_0 L) I) (jx_Q (jx_0 L) Q)
  have hd : jm_dc md_M_findFar.2.1 196 [(.iload 4, 2), (.goto 9, 3)] = true := by decide +kernel
  refine go_iload rfl hd (fun hd => ?_)
  exact go_goto (by decide) hd k
theorem b_M_findFar_201 {L : Nat} {d : Nat} {I : jm_I} {Q : Option jm_V → jm_I → Prop} {o1 : Option jm_V} {o2 : Option jm_V} {x3 : Int} {o4 : Option jm_V} {s1 : Int}  (hz : (0 ≤ x3 ∧ x3 < 36)) (k : Gx (jx_0 L) d md_M_findFar 207 [some (.inr (.inl 167)), o1, o2, some (.inl x3), o4] [.inl (I 182 x3.toNat), .inl s1, .inr (.inl 182)] I Q) : Gx (jx_0 L) d md_M_findFar 201 [some (.inr (.inl 167)), o1, o2, some (.inl x3), o4] [.inl s1, .inr (.inl 182)] I Q := by
  have hz1 := hz
  show jm_Go d 0 0 md_M_findFar 201 [some (.inr (.inl 167)), o1, o2, some (.inl x3), o4] [.inl s1, .inr (.inl 182)] (jx (jx_0 L) I) (jx_Q (jx_0 L) Q)
  have hd : jm_dc md_M_findFar.2.1 201 [(.aload_n 0, 1), (.getfield 60, 3), (.iload_n 3, 1), (.iaload, 1)] = true := by decide +kernel
  refine go_aload_n rfl hd (fun hd => ?_)
  refine go_getR co_X9 fl_9_60 (by decide) rfl rfl rfl hd (fun hd => ?_)
  refine go_iload_n rfl hd (fun hd => ?_)
  refine go_iaload rfl hz1.1 hz1.2 (by decide) hd (fun hd => ?_)
  exact k
theorem b_M_findFar_207 {L : Nat} {d : Nat} {I : jm_I} {Q : Option jm_V → jm_I → Prop} {o0 : Option jm_V} {o1 : Option jm_V} {o2 : Option jm_V} {x3 : Int} {o4 : Option jm_V} {s1 : Int} {s2 : Int}  (hz : (0 ≤ s1 ∧ s1 < 36)) (k : Gx (jx_0 L) d md_M_findFar 143 [o0, o1, o2, some (.inl (x3 + 1)), o4] [] (jm_up I 182 (s1.toNat) s2) Q) : Gx (jx_0 L) d md_M_findFar 207 [o0, o1, o2, some (.inl x3), o4] [.inl s2, .inl s1, .inr (.inl 182)] I Q := by
  have hz1 := hz
  show jm_Go d 0 0 md_M_findFar 207 [o0, o1, o2, some (.inl x3), o4] [.inl s2, .inl s1, .inr (.inl 182)] (jx (jx_0 L) I) (jx_Q (jx_0 L) Q)
  have hd : jm_dc md_M_findFar.2.1 207 [(.iastore, 1), (.iinc 3 1, 3), (.goto (-68), 3)] = true := by decide +kernel
  refine go_iastore rfl hz1.1 hz1.2 (by decide) hd (fun hd => ?_)
  refine go_iinc rfl hd (fun hd => ?_)
  exact go_goto (by decide) hd k
theorem b_M_findFar_214 {L : Nat} {d : Nat} {I : jm_I} {Q : Option jm_V → jm_I → Prop} {o0 : Option jm_V} {o1 : Option jm_V} {x2 : Int} {o3 : Option jm_V} {o4 : Option jm_V}  (k : Gx (jx_0 L) d md_M_findFar 133 [o0, o1, some (.inl (x2 + 1)), o3, o4] [] I Q) : Gx (jx_0 L) d md_M_findFar 214 [o0, o1, some (.inl x2), o3, o4] [] I Q := by
  show jm_Go d 0 0 md_M_findFar 214 [o0, o1, some (.inl x2), o3, o4] [] (jx (jx_0 L) I) (jx_Q (jx_0 L) Q)
  have hd : jm_dc md_M_findFar.2.1 214 [(.iinc 2 1, 3), (.goto (-84), 3)] = true := by decide +kernel
  refine go_iinc rfl hd (fun hd => ?_)
  exact go_goto (by decide) hd k
theorem b_M_findFar_220 {L : Nat} {d : Nat} {I : jm_I} {Q : Option jm_V → jm_I → Prop} {o0 : Option jm_V} {o1 : Option jm_V} {o2 : Option jm_V} {o3 : Option jm_V} {o4 : Option jm_V}  (k : Q none I) : Gx (jx_0 L) d md_M_findFar 220 [o0, o1, o2, o3, o4] [] I Q := by
  show jm_Go d 0 0 md_M_findFar 220 [o0, o1, o2, o3, o4] [] (jx (jx_0 L) I) (jx_Q (jx_0 L) Q)
  have hd : jm_dc md_M_findFar.2.1 220 [(.return_, 1)] = true := by decide +kernel
  exact go_vreturn hd rfl ⟨_, rfl, k⟩
theorem b_M_by_0 {L : Nat} {d : Nat} {I : jm_I} {Q : Option jm_V → jm_I → Prop} {x1 : Int} {x2 : Int} {x3 : Int}  (hz : (0 ≤ (6 * x1) + x2 ∧ (6 * x1) + x2 < 36) ∧ (0 ≤ (6 * x2) + x3 ∧ (6 * x2) + x3 < 36)) (k : Q (some (.inl ((I 182 ((6 * x1) + x2).toNat) + (I 182 ((6 * x2) + x3).toNat)))) I) : Cx (jx_0 L) d md_M_by [.inr (.inl 167), .inl x1, .inl x2, .inl x3] I Q := by
  obtain ⟨hz1, hz2⟩ := hz
  show jm_Go d 0 0 md_M_by 0 [some (.inr (.inl 167)), some (.inl x1), some (.inl x2), some (.inl x3)] [] (jx (jx_0 L) I) (jx_Q (jx_0 L) Q)
  have hd : jm_dc md_M_by.2.1 0 [(.aload_n 0, 1), (.getfield 60, 3), (.bipush 6, 2), (.iload_n 1, 1), (.imul, 1), (.iload_n 2, 1), (.iadd, 1), (.iaload, 1), (.aload_n 0, 1), (.getfield 60, 3), (.bipush 6, 2), (.iload_n 2, 1), (.imul, 1), (.iload_n 3, 1), (.iadd, 1), (.iaload, 1), (.iadd, 1), (.ireturn, 1)] = true := by decide +kernel
  refine go_aload_n rfl hd (fun hd => ?_)
  refine go_getR co_X9 fl_9_60 (by decide) rfl rfl rfl hd (fun hd => ?_)
  refine go_bipush (by decide) hd (fun hd => ?_)
  refine go_iload_n rfl hd (fun hd => ?_)
  refine go_imul hd (fun hd => ?_)
  refine go_iload_n rfl hd (fun hd => ?_)
  refine go_iadd hd (fun hd => ?_)
  refine go_iaload rfl hz1.1 hz1.2 (by decide) hd (fun hd => ?_)
  refine go_aload_n rfl hd (fun hd => ?_)
  refine go_getR co_X9 fl_9_60 (by decide) rfl rfl rfl hd (fun hd => ?_)
  refine go_bipush (by decide) hd (fun hd => ?_)
  refine go_iload_n rfl hd (fun hd => ?_)
  refine go_imul hd (fun hd => ?_)
  refine go_iload_n rfl hd (fun hd => ?_)
  refine go_iadd hd (fun hd => ?_)
  refine go_iaload rfl hz2.1 hz2.2 (by decide) hd (fun hd => ?_)
  refine go_iadd hd (fun hd => ?_)
  exact go_ireturn hd rfl ⟨_, rfl, k⟩
theorem b_M_mayGo_0 {L : Nat} {d : Nat} {I : jm_I} {Q : Option jm_V → jm_I → Prop} {x1 : Int} {x2 : Int}  (hz : (0 ≤ 11 + x1 ∧ 11 + x1 < 27) ∧ (-2147483648 ≤ I 171 (11 + x1).toNat ∧ I 171 (11 + x1).toNat < 2147483648)) (kt : (I 171 (11 + x1).toNat) = (-9) → Gx (jx_0 L) d md_M_mayGo 31 [some (.inr (.inl 167)), some (.inl x1), some (.inl x2)] [] I Q) (kf : ¬ (I 171 (11 + x1).toNat) = (-9) → Gx (jx_0 L) d md_M_mayGo 14 [some (.inr (.inl 167)), some (.inl x1), some (.inl x2)] [] I Q) : Cx (jx_0 L) d md_M_mayGo [.inr (.inl 167), .inl x1, .inl x2] I Q := by
  obtain ⟨hz1, hz2⟩ := hz
  show jm_Go d 0 0 md_M_mayGo 0 [some (.inr (.inl 167)), some (.inl x1), some (.inl x2)] [] (jx (jx_0 L) I) (jx_Q (jx_0 L) Q)
  have hd : jm_dc md_M_mayGo.2.1 0 [(.aload_n 0, 1), (.getfield 26, 3), (.bipush 11, 2), (.iload_n 1, 1), (.iadd, 1), (.iaload, 1), (.bipush (-9), 2), (.if_icmp .eq 20, 3)] = true := by decide +kernel
  refine go_aload_n rfl hd (fun hd => ?_)
  refine go_getR co_X9 fl_9_26 (by decide) rfl rfl rfl hd (fun hd => ?_)
  refine go_bipush (by decide) hd (fun hd => ?_)
  refine go_iload_n rfl hd (fun hd => ?_)
  refine go_iadd hd (fun hd => ?_)
  refine go_iaload rfl hz1.1 hz1.2 (by decide) hd (fun hd => ?_)
  refine go_bipush (by decide) hd (fun hd => ?_)
  exact go_icmp_eq (by decide) hz2 ⟨by decide, by decide⟩ hd kt kf
theorem b_M_mayGo_14 {L : Nat} {d : Nat} {I : jm_I} {Q : Option jm_V → jm_I → Prop} {x1 : Int} {x2 : Int}  (hz : (0 ≤ 11 + x1 ∧ 11 + x1 < 27) ∧ (-2147483648 ≤ x2 ∧ x2 < 2147483648) ∧ (-2147483648 ≤ I 171 (11 + x1).toNat ∧ I 171 (11 + x1).toNat < 2147483648)) (kt : (I 171 (11 + x1).toNat) < x2 → Gx (jx_0 L) d md_M_mayGo 31 [some (.inr (.inl 167)), some (.inl x1), some (.inl x2)] [] I Q) (kf : ¬ ((I 171 (11 + x1).toNat) < x2) → Gx (jx_0 L) d md_M_mayGo 27 [some (.inr (.inl 167)), some (.inl x1), some (.inl x2)] [] I Q) : Gx (jx_0 L) d md_M_mayGo 14 [some (.inr (.inl 167)), some (.inl x1), some (.inl x2)] [] I Q := by
  obtain ⟨hz1, hz2, hz3⟩ := hz
  show jm_Go d 0 0 md_M_mayGo 14 [some (.inr (.inl 167)), some (.inl x1), some (.inl x2)] [] (jx (jx_0 L) I) (jx_Q (jx_0 L) Q)
  have hd : jm_dc md_M_mayGo.2.1 14 [(.iload_n 2, 1), (.aload_n 0, 1), (.getfield 26, 3), (.bipush 11, 2), (.iload_n 1, 1), (.iadd, 1), (.iaload, 1), (.if_icmp .gt 7, 3)] = true := by decide +kernel
  refine go_iload_n rfl hd (fun hd => ?_)
  refine go_aload_n rfl hd (fun hd => ?_)
  refine go_getR co_X9 fl_9_26 (by decide) rfl rfl rfl hd (fun hd => ?_)
  refine go_bipush (by decide) hd (fun hd => ?_)
  refine go_iload_n rfl hd (fun hd => ?_)
  refine go_iadd hd (fun hd => ?_)
  refine go_iaload rfl hz1.1 hz1.2 (by decide) hd (fun hd => ?_)
  exact go_icmp_gt (by decide) hz2 hz3 hd kt kf
theorem b_M_mayGo_27 {L : Nat} {d : Nat} {I : jm_I} {Q : Option jm_V → jm_I → Prop} {o0 : Option jm_V} {o1 : Option jm_V} {o2 : Option jm_V}  (k : Gx (jx_0 L) d md_M_mayGo 32 [o0, o1, o2] [.inl 1] I Q) : Gx (jx_0 L) d md_M_mayGo 27 [o0, o1, o2] [] I Q := by
  show jm_Go d 0 0 md_M_mayGo 27 [o0, o1, o2] [] (jx (jx_0 L) I) (jx_Q (jx_0 L) Q)
  have hd : jm_dc md_M_mayGo.2.1 27 [(.iconst 1, 1), (.goto 4, 3)] = true := by decide +kernel
  refine go_iconst hd (fun hd => ?_)
  exact go_goto (by decide) hd k
theorem b_M_mayGo_31 {L : Nat} {d : Nat} {I : jm_I} {Q : Option jm_V → jm_I → Prop} {o0 : Option jm_V} {o1 : Option jm_V} {o2 : Option jm_V}  (k : Gx (jx_0 L) d md_M_mayGo 32 [o0, o1, o2] [.inl 0] I Q) : Gx (jx_0 L) d md_M_mayGo 31 [o0, o1, o2] [] I Q := by
  show jm_Go d 0 0 md_M_mayGo 31 [o0, o1, o2] [] (jx (jx_0 L) I) (jx_Q (jx_0 L) Q)
  have hd : jm_dc md_M_mayGo.2.1 31 [(.iconst 0, 1)] = true := by decide +kernel
  refine go_iconst hd (fun hd => ?_)
  exact k
theorem b_M_mayGo_32 {L : Nat} {d : Nat} {I : jm_I} {Q : Option jm_V → jm_I → Prop} {o0 : Option jm_V} {o1 : Option jm_V} {o2 : Option jm_V} {s0 : Int}  (hz : (s0 = 0 ∨ s0 = 1)) (k : Q (some (.inl s0)) I) : Gx (jx_0 L) d md_M_mayGo 32 [o0, o1, o2] [.inl s0] I Q := by
  have hz1 := hz
  show jm_Go d 0 0 md_M_mayGo 32 [o0, o1, o2] [.inl s0] (jx (jx_0 L) I) (jx_Q (jx_0 L) Q)
  have hd : jm_dc md_M_mayGo.2.1 32 [(.ireturn, 1)] = true := by decide +kernel
  exact go_zreturn hd rfl hz1 ⟨_, rfl, k⟩
theorem b_M_placeIn_0 {L : Nat} {d : Nat} {I : jm_I} {Q : Option jm_V → jm_I → Prop} {x1 : Int} {x2 : Int}  (hz : (0 ≤ x1 ∧ x1 < 5)) (k : Gx (jx_0 L) d md_M_placeIn 13 [some (.inr (.inl 167)), some (.inl x1), some (.inl x2), some (.inl (-9)), some (.inl ((I 169 x1.toNat) - 1))] [] I Q) : Cx (jx_0 L) d md_M_placeIn [.inr (.inl 167), .inl x1, .inl x2] I Q := by
  have hz1 := hz
  show jm_Go d 0 0 md_M_placeIn 0 [some (.inr (.inl 167)), some (.inl x1), some (.inl x2), none, none] [] (jx (jx_0 L) I) (jx_Q (jx_0 L) Q)
  have hd : jm_dc md_M_placeIn.2.1 0 [(.bipush (-9), 2), (.istore_n 3, 1), (.aload_n 0, 1), (.getfield 20, 3), (.iload_n 1, 1), (.iaload, 1), (.iconst 1, 1), (.isub, 1), (.istore 4, 2)] = true := by decide +kernel
  refine go_bipush (by decide) hd (fun hd => ?_)
  refine go_istore_n (by decide) hd (fun hd => ?_)
  refine go_aload_n rfl hd (fun hd => ?_)
  refine go_getR co_X9 fl_9_20 (by decide) rfl rfl rfl hd (fun hd => ?_)
  refine go_iload_n rfl hd (fun hd => ?_)
  refine go_iaload rfl hz1.1 hz1.2 (by decide) hd (fun hd => ?_)
  refine go_iconst hd (fun hd => ?_)
  refine go_isub hd (fun hd => ?_)
  refine go_istore (by decide) hd (fun hd => ?_)
  exact k
theorem b_M_placeIn_13 {L : Nat} {d : Nat} {I : jm_I} {Q : Option jm_V → jm_I → Prop} {o0 : Option jm_V} {o1 : Option jm_V} {o2 : Option jm_V} {o3 : Option jm_V} {x4 : Int}  (hz : (-2147483648 ≤ x4 ∧ x4 < 2147483648)) (kt : x4 < 0 → Gx (jx_0 L) d md_M_placeIn 46 [o0, o1, o2, o3, some (.inl x4)] [] I Q) (kf : ¬ (x4 < 0) → Gx (jx_0 L) d md_M_placeIn 18 [o0, o1, o2, o3, some (.inl x4)] [] I Q) : Gx (jx_0 L) d md_M_placeIn 13 [o0, o1, o2, o3, some (.inl x4)] [] I Q := by
  have hz1 := hz
  show jm_Go d 0 0 md_M_placeIn 13 [o0, o1, o2, o3, some (.inl x4)] [] (jx (jx_0 L) I) (jx_Q (jx_0 L) Q)
  have hd : jm_dc md_M_placeIn.2.1 13 [(.iload 4, 2), (.ifCond .lt 31, 3)] = true := by decide +kernel
  refine go_iload rfl hd (fun hd => ?_)
  exact go_if_lt (by decide) hz1 hd kt kf
theorem b_M_placeIn_18 {L : Nat} {d : Nat} {I : jm_I} {Q : Option jm_V → jm_I → Prop} {x1 : Int} {x2 : Int} {o3 : Option jm_V} {x4 : Int}  (hz : (0 ≤ (4 * x1) + x4 ∧ (4 * x1) + x4 < 20) ∧ (-2147483648 ≤ I 170 ((4 * x1) + x4).toNat ∧ I 170 ((4 * x1) + x4).toNat < 2147483648) ∧ (-2147483648 ≤ x2 ∧ x2 < 2147483648)) (kt : ¬ (I 170 ((4 * x1) + x4).toNat) = x2 → Gx (jx_0 L) d md_M_placeIn 38 [some (.inr (.inl 167)), some (.inl x1), some (.inl x2), o3, some (.inl x4)] [] I Q) (kf : (I 170 ((4 * x1) + x4).toNat) = x2 → Gx (jx_0 L) d md_M_placeIn 33 [some (.inr (.inl 167)), some (.inl x1), some (.inl x2), o3, some (.inl x4)] [] I Q) : Gx (jx_0 L) d md_M_placeIn 18 [some (.inr (.inl 167)), some (.inl x1), some (.inl x2), o3, some (.inl x4)] [] I Q := by
  obtain ⟨hz1, hz2, hz3⟩ := hz
  show jm_Go d 0 0 md_M_placeIn 18 [some (.inr (.inl 167)), some (.inl x1), some (.inl x2), o3, some (.inl x4)] [] (jx (jx_0 L) I) (jx_Q (jx_0 L) Q)
  have hd : jm_dc md_M_placeIn.2.1 18 [(.aload_n 0, 1), (.getfield 23, 3), (.iconst 4, 1), (.iload_n 1, 1), (.imul, 1), (.iload 4, 2), (.iadd, 1), (.iaload, 1), (.iload_n 2, 1), (.if_icmp .ne 8, 3)] = true := by decide +kernel
  refine go_aload_n rfl hd (fun hd => ?_)
  refine go_getR co_X9 fl_9_23 (by decide) rfl rfl rfl hd (fun hd => ?_)
  refine go_iconst hd (fun hd => ?_)
  refine go_iload_n rfl hd (fun hd => ?_)
  refine go_imul hd (fun hd => ?_)
  refine go_iload rfl hd (fun hd => ?_)
  refine go_iadd hd (fun hd => ?_)
  refine go_iaload rfl hz1.1 hz1.2 (by decide) hd (fun hd => ?_)
  refine go_iload_n rfl hd (fun hd => ?_)
  exact go_icmp_ne (by decide) hz2 hz3 hd kt kf
theorem b_M_placeIn_33 {L : Nat} {d : Nat} {I : jm_I} {Q : Option jm_V → jm_I → Prop} {o0 : Option jm_V} {o1 : Option jm_V} {o2 : Option jm_V} {o3 : Option jm_V} {x4 : Int}  (k : Gx (jx_0 L) d md_M_placeIn 39 [o0, o1, o2, o3, some (.inl x4)] [.inl x4] I Q) : Gx (jx_0 L) d md_M_placeIn 33 [o0, o1, o2, o3, some (.inl x4)] [] I Q := by
  show jm_Go d 0 0 md_M_placeIn 33 [o0, o1, o2, o3, some (.inl x4)] [] (jx (jx_0 L) I) (jx_Q (jx_0 L) Q)
  have hd : jm_dc md_M_placeIn.2.1 33 [(.iload 4, 2), (.goto 4, 3)] = true := by decide +kernel
  refine go_iload rfl hd (fun hd => ?_)
  exact go_goto (by decide) hd k
theorem b_M_placeIn_38 {L : Nat} {d : Nat} {I : jm_I} {Q : Option jm_V → jm_I → Prop} {o0 : Option jm_V} {o1 : Option jm_V} {o2 : Option jm_V} {x3 : Int} {o4 : Option jm_V}  (k : Gx (jx_0 L) d md_M_placeIn 39 [o0, o1, o2, some (.inl x3), o4] [.inl x3] I Q) : Gx (jx_0 L) d md_M_placeIn 38 [o0, o1, o2, some (.inl x3), o4] [] I Q := by
  show jm_Go d 0 0 md_M_placeIn 38 [o0, o1, o2, some (.inl x3), o4] [] (jx (jx_0 L) I) (jx_Q (jx_0 L) Q)
  have hd : jm_dc md_M_placeIn.2.1 38 [(.iload_n 3, 1)] = true := by decide +kernel
  refine go_iload_n rfl hd (fun hd => ?_)
  exact k
theorem b_M_placeIn_39 {L : Nat} {d : Nat} {I : jm_I} {Q : Option jm_V → jm_I → Prop} {o0 : Option jm_V} {o1 : Option jm_V} {o2 : Option jm_V} {o3 : Option jm_V} {x4 : Int} {s0 : Int}  (k : Gx (jx_0 L) d md_M_placeIn 13 [o0, o1, o2, some (.inl s0), some (.inl (x4 + (-1)))] [] I Q) : Gx (jx_0 L) d md_M_placeIn 39 [o0, o1, o2, o3, some (.inl x4)] [.inl s0] I Q := by
  show jm_Go d 0 0 md_M_placeIn 39 [o0, o1, o2, o3, some (.inl x4)] [.inl s0] (jx (jx_0 L) I) (jx_Q (jx_0 L) Q)
  have hd : jm_dc md_M_placeIn.2.1 39 [(.istore_n 3, 1), (.iinc 4 (-1), 3), (.goto (-30), 3)] = true := by decide +kernel
  refine go_istore_n (by decide) hd (fun hd => ?_)
  refine go_iinc rfl hd (fun hd => ?_)
  exact go_goto (by decide) hd k
theorem b_M_placeIn_46 {L : Nat} {d : Nat} {I : jm_I} {Q : Option jm_V → jm_I → Prop} {o0 : Option jm_V} {o1 : Option jm_V} {o2 : Option jm_V} {x3 : Int} {o4 : Option jm_V}  (k : Q (some (.inl x3)) I) : Gx (jx_0 L) d md_M_placeIn 46 [o0, o1, o2, some (.inl x3), o4] [] I Q := by
  show jm_Go d 0 0 md_M_placeIn 46 [o0, o1, o2, some (.inl x3), o4] [] (jx (jx_0 L) I) (jx_Q (jx_0 L) Q)
  have hd : jm_dc md_M_placeIn.2.1 46 [(.iload_n 3, 1), (.ireturn, 1)] = true := by decide +kernel
  refine go_iload_n rfl hd (fun hd => ?_)
  exact go_ireturn hd rfl ⟨_, rfl, k⟩
theorem b_M_walk_0 {L : Nat} {d : Nat} {I : jm_I} {Q : Option jm_V → jm_I → Prop} {x1 : Int} {x2 : Int}  (k : Cx (jx_0 L) d md_M_isPerson [.inr (.inl 167), .inl x1] I (fun v J => Gx (jx_0 L) (d + 1) md_M_walk 5 [some (.inr (.inl 167)), some (.inl x1), some (.inl x2), none] (v.toList ++ []) J Q)) : Cx (jx_0 L) (d + 1) md_M_walk [.inr (.inl 167), .inl x1, .inl x2] I Q := by
  show jm_Go (d + 1) 0 0 md_M_walk 0 [some (.inr (.inl 167)), some (.inl x1), some (.inl x2), none] [] (jx (jx_0 L) I) (jx_Q (jx_0 L) Q)
  have hd : jm_dc md_M_walk.2.1 0 [(.aload_n 0, 1), (.iload_n 1, 1), (.invokevirtual 164, 3)] = true := by decide +kernel
  refine go_aload_n rfl hd (fun hd => ?_)
  refine go_iload_n rfl hd (fun hd => ?_)
  exact gx_virtual 167 9 [.inl x1] [] mk_M_isPerson co_X9 rfl ml_9_164 in_M_isPerson se_M_isPerson rfl rfl (Nat.le_of_ble_eq_true rfl) rfl (Nat.le_of_ble_eq_true rfl) rfl hd k
theorem b_M_walk_5 {L : Nat} {d : Nat} {I : jm_I} {Q : Option jm_V → jm_I → Prop} {o0 : Option jm_V} {o1 : Option jm_V} {o2 : Option jm_V} {o3 : Option jm_V} {s0 : Int}  (hz : (-2147483648 ≤ s0 ∧ s0 < 2147483648)) (kt : s0 = 0 → Gx (jx_0 L) d md_M_walk 16 [o0, o1, o2, o3] [] I Q) (kf : ¬ s0 = 0 → Gx (jx_0 L) d md_M_walk 8 [o0, o1, o2, o3] [] I Q) : Gx (jx_0 L) d md_M_walk 5 [o0, o1, o2, o3] [.inl s0] I Q := by
  have hz1 := hz
  show jm_Go d 0 0 md_M_walk 5 [o0, o1, o2, o3] [.inl s0] (jx (jx_0 L) I) (jx_Q (jx_0 L) Q)
  have hd : jm_dc md_M_walk.2.1 5 [(.ifCond .eq 11, 3)] = true := by decide +kernel
  exact go_if_eq (by decide) hz1 hd kt kf
theorem b_M_walk_8 {L : Nat} {d : Nat} {I : jm_I} {Q : Option jm_V → jm_I → Prop} {o1 : Option jm_V} {x2 : Int} {o3 : Option jm_V}  (k : Cx (jx_0 L) d md_M_isRoom [.inr (.inl 167), .inl x2] I (fun v J => Gx (jx_0 L) (d + 1) md_M_walk 13 [some (.inr (.inl 167)), o1, some (.inl x2), o3] (v.toList ++ []) J Q)) : Gx (jx_0 L) (d + 1) md_M_walk 8 [some (.inr (.inl 167)), o1, some (.inl x2), o3] [] I Q := by
  show jm_Go (d + 1) 0 0 md_M_walk 8 [some (.inr (.inl 167)), o1, some (.inl x2), o3] [] (jx (jx_0 L) I) (jx_Q (jx_0 L) Q)
  have hd : jm_dc md_M_walk.2.1 8 [(.aload_n 0, 1), (.iload_n 2, 1), (.invokevirtual 178, 3)] = true := by decide +kernel
  refine go_aload_n rfl hd (fun hd => ?_)
  refine go_iload_n rfl hd (fun hd => ?_)
  exact gx_virtual 167 9 [.inl x2] [] mk_M_isRoom co_X9 rfl ml_9_178 in_M_isRoom se_M_isRoom rfl rfl (Nat.le_of_ble_eq_true rfl) rfl (Nat.le_of_ble_eq_true rfl) rfl hd k
theorem b_M_walk_13 {L : Nat} {d : Nat} {I : jm_I} {Q : Option jm_V → jm_I → Prop} {o0 : Option jm_V} {o1 : Option jm_V} {o2 : Option jm_V} {o3 : Option jm_V} {s0 : Int}  (hz : (-2147483648 ≤ s0 ∧ s0 < 2147483648)) (kt : ¬ s0 = 0 → Gx (jx_0 L) d md_M_walk 18 [o0, o1, o2, o3] [] I Q) (kf : s0 = 0 → Gx (jx_0 L) d md_M_walk 16 [o0, o1, o2, o3] [] I Q) : Gx (jx_0 L) d md_M_walk 13 [o0, o1, o2, o3] [.inl s0] I Q := by
  have hz1 := hz
  show jm_Go d 0 0 md_M_walk 13 [o0, o1, o2, o3] [.inl s0] (jx (jx_0 L) I) (jx_Q (jx_0 L) Q)
  have hd : jm_dc md_M_walk.2.1 13 [(.ifCond .ne 5, 3)] = true := by decide +kernel
  exact go_if_ne (by decide) hz1 hd kt kf
theorem b_M_walk_16 {L : Nat} {d : Nat} {I : jm_I} {Q : Option jm_V → jm_I → Prop} {o0 : Option jm_V} {o1 : Option jm_V} {o2 : Option jm_V} {o3 : Option jm_V}  (k : Q (some (.inl (-1))) I) : Gx (jx_0 L) d md_M_walk 16 [o0, o1, o2, o3] [] I Q := by
  show jm_Go d 0 0 md_M_walk 16 [o0, o1, o2, o3] [] (jx (jx_0 L) I) (jx_Q (jx_0 L) Q)
  have hd : jm_dc md_M_walk.2.1 16 [(.iconst (-1), 1), (.ireturn, 1)] = true := by decide +kernel
  refine go_iconst hd (fun hd => ?_)
  exact go_ireturn hd rfl ⟨_, rfl, k⟩
theorem b_M_walk_18 {L : Nat} {d : Nat} {I : jm_I} {Q : Option jm_V → jm_I → Prop} {o1 : Option jm_V} {o2 : Option jm_V} {o3 : Option jm_V}  (k : Cx (jx_0 L) d md_M_findFar [.inr (.inl 167), .inl 0] I (fun v J => Gx (jx_0 L) (d + 1) md_M_walk 23 [some (.inr (.inl 167)), o1, o2, o3] (v.toList ++ []) J Q)) : Gx (jx_0 L) (d + 1) md_M_walk 18 [some (.inr (.inl 167)), o1, o2, o3] [] I Q := by
  show jm_Go (d + 1) 0 0 md_M_walk 18 [some (.inr (.inl 167)), o1, o2, o3] [] (jx (jx_0 L) I) (jx_Q (jx_0 L) Q)
  have hd : jm_dc md_M_walk.2.1 18 [(.aload_n 0, 1), (.iconst 0, 1), (.invokevirtual 181, 3)] = true := by decide +kernel
  refine go_aload_n rfl hd (fun hd => ?_)
  refine go_iconst hd (fun hd => ?_)
  exact gx_virtual 167 9 [.inl 0] [] mk_M_findFar co_X9 rfl ml_9_181 in_M_findFar se_M_findFar rfl rfl (Nat.le_of_ble_eq_true rfl) rfl (Nat.le_of_ble_eq_true rfl) rfl hd k
theorem b_M_walk_23 {L : Nat} {d : Nat} {I : jm_I} {Q : Option jm_V → jm_I → Prop} {x1 : Int} {x2 : Int} {o3 : Option jm_V}  (hz : (0 ≤ 1 + x1 ∧ 1 + x1 < 27) ∧ (0 ≤ (6 * (I 171 (1 + x1).toNat)) + x2 ∧ (6 * (I 171 (1 + x1).toNat)) + x2 < 36)) (k : Cx (jx_0 L) d md_M_mayGo [.inr (.inl 167), .inl x1, .inl (I 182 ((6 * (I 171 (1 + x1).toNat)) + x2).toNat)] I (fun v J => Gx (jx_0 L) (d + 1) md_M_walk 48 [some (.inr (.inl 167)), some (.inl x1), some (.inl x2), some (.inl (I 182 ((6 * (I 171 (1 + x1).toNat)) + x2).toNat))] (v.toList ++ []) J Q)) : Gx (jx_0 L) (d + 1) md_M_walk 23 [some (.inr (.inl 167)), some (.inl x1), some (.inl x2), o3] [] I Q := by
  obtain ⟨hz1, hz2⟩ := hz
  show jm_Go (d + 1) 0 0 md_M_walk 23 [some (.inr (.inl 167)), some (.inl x1), some (.inl x2), o3] [] (jx (jx_0 L) I) (jx_Q (jx_0 L) Q)
  have hd : jm_dc md_M_walk.2.1 23 [(.aload_n 0, 1), (.getfield 60, 3), (.bipush 6, 2), (.aload_n 0, 1), (.getfield 26, 3), (.iconst 1, 1), (.iload_n 1, 1), (.iadd, 1), (.iaload, 1), (.imul, 1), (.iload_n 2, 1), (.iadd, 1), (.iaload, 1), (.istore_n 3, 1), (.aload_n 0, 1), (.iload_n 1, 1), (.iload_n 3, 1), (.invokevirtual 189, 3)] = true := by decide +kernel
  refine go_aload_n rfl hd (fun hd => ?_)
  refine go_getR co_X9 fl_9_60 (by decide) rfl rfl rfl hd (fun hd => ?_)
  refine go_bipush (by decide) hd (fun hd => ?_)
  refine go_aload_n rfl hd (fun hd => ?_)
  refine go_getR co_X9 fl_9_26 (by decide) rfl rfl rfl hd (fun hd => ?_)
  refine go_iconst hd (fun hd => ?_)
  refine go_iload_n rfl hd (fun hd => ?_)
  refine go_iadd hd (fun hd => ?_)
  refine go_iaload rfl hz1.1 hz1.2 (by decide) hd (fun hd => ?_)
  refine go_imul hd (fun hd => ?_)
  refine go_iload_n rfl hd (fun hd => ?_)
  refine go_iadd hd (fun hd => ?_)
  refine go_iaload rfl hz2.1 hz2.2 (by decide) hd (fun hd => ?_)
  refine go_istore_n (by decide) hd (fun hd => ?_)
  refine go_aload_n rfl hd (fun hd => ?_)
  refine go_iload_n rfl hd (fun hd => ?_)
  refine go_iload_n rfl hd (fun hd => ?_)
  exact gx_virtual 167 9 [.inl x1, .inl (I 182 ((6 * (I 171 (1 + x1).toNat)) + x2).toNat)] [] mk_M_mayGo co_X9 rfl ml_9_189 in_M_mayGo se_M_mayGo rfl rfl (Nat.le_of_ble_eq_true rfl) rfl (Nat.le_of_ble_eq_true rfl) rfl hd k
theorem b_M_walk_48 {L : Nat} {d : Nat} {I : jm_I} {Q : Option jm_V → jm_I → Prop} {o0 : Option jm_V} {o1 : Option jm_V} {o2 : Option jm_V} {o3 : Option jm_V} {s0 : Int}  (hz : (-2147483648 ≤ s0 ∧ s0 < 2147483648)) (kt : ¬ s0 = 0 → Gx (jx_0 L) d md_M_walk 54 [o0, o1, o2, o3] [] I Q) (kf : s0 = 0 → Gx (jx_0 L) d md_M_walk 51 [o0, o1, o2, o3] [] I Q) : Gx (jx_0 L) d md_M_walk 48 [o0, o1, o2, o3] [.inl s0] I Q := by
  have hz1 := hz
  show jm_Go d 0 0 md_M_walk 48 [o0, o1, o2, o3] [.inl s0] (jx (jx_0 L) I) (jx_Q (jx_0 L) Q)
  have hd : jm_dc md_M_walk.2.1 48 [(.ifCond .ne 6, 3)] = true := by decide +kernel
  exact go_if_ne (by decide) hz1 hd kt kf
theorem b_M_walk_51 {L : Nat} {d : Nat} {I : jm_I} {Q : Option jm_V → jm_I → Prop} {o0 : Option jm_V} {o1 : Option jm_V} {o2 : Option jm_V} {o3 : Option jm_V}  (k : Q (some (.inl (-2))) I) : Gx (jx_0 L) d md_M_walk 51 [o0, o1, o2, o3] [] I Q := by
  show jm_Go d 0 0 md_M_walk 51 [o0, o1, o2, o3] [] (jx (jx_0 L) I) (jx_Q (jx_0 L) Q)
  have hd : jm_dc md_M_walk.2.1 51 [(.bipush (-2), 2), (.ireturn, 1)] = true := by decide +kernel
  refine go_bipush (by decide) hd (fun hd => ?_)
  exact go_ireturn hd rfl ⟨_, rfl, k⟩
theorem b_M_walk_54 {L : Nat} {d : Nat} {I : jm_I} {Q : Option jm_V → jm_I → Prop} {o1 : Option jm_V} {o2 : Option jm_V} {o3 : Option jm_V}  (k : Cx (jx_0 L) d md_M_remembers [.inr (.inl 167)] I (fun v J => Gx (jx_0 L) (d + 1) md_M_walk 58 [some (.inr (.inl 167)), o1, o2, o3] (v.toList ++ []) J Q)) : Gx (jx_0 L) (d + 1) md_M_walk 54 [some (.inr (.inl 167)), o1, o2, o3] [] I Q := by
  show jm_Go (d + 1) 0 0 md_M_walk 54 [some (.inr (.inl 167)), o1, o2, o3] [] (jx (jx_0 L) I) (jx_Q (jx_0 L) Q)
  have hd : jm_dc md_M_walk.2.1 54 [(.aload_n 0, 1), (.invokevirtual 175, 3)] = true := by decide +kernel
  refine go_aload_n rfl hd (fun hd => ?_)
  exact gx_virtual 167 9 [] [] mk_M_remembers co_X9 rfl ml_9_175 in_M_remembers se_M_remembers rfl rfl (Nat.le_of_ble_eq_true rfl) rfl (Nat.le_of_ble_eq_true rfl) rfl hd k
theorem b_M_walk_58 {L : Nat} {d : Nat} {I : jm_I} {Q : Option jm_V → jm_I → Prop} {x1 : Int} {x2 : Int} {x3 : Int}  (hz : (0 ≤ 11 + x1 ∧ 11 + x1 < 27) ∧ (0 ≤ 11 + x1 ∧ 11 + x1 < 27) ∧ (0 ≤ 1 + x1 ∧ 1 + x1 < 27) ∧ (0 ≤ 11 + x1 ∧ 11 + x1 < 27)) (k : Q (some (.inl ((jm_up (jm_up I 171 ((11 + x1).toNat) ((I 171 (11 + x1).toNat) - x3)) 171 ((1 + x1).toNat) x2) 171 (11 + x1).toNat))) (jm_up (jm_up I 171 ((11 + x1).toNat) ((I 171 (11 + x1).toNat) - x3)) 171 ((1 + x1).toNat) x2)) : Gx (jx_0 L) d md_M_walk 58 [some (.inr (.inl 167)), some (.inl x1), some (.inl x2), some (.inl x3)] [] I Q := by
  obtain ⟨hz1, hz2, hz3, hz4⟩ := hz
  show jm_Go d 0 0 md_M_walk 58 [some (.inr (.inl 167)), some (.inl x1), some (.inl x2), some (.inl x3)] [] (jx (jx_0 L) I) (jx_Q (jx_0 L) Q)
  have hd : jm_dc md_M_walk.2.1 58 [(.aload_n 0, 1), (.getfield 26, 3), (.bipush 11, 2), (.iload_n 1, 1), (.iadd, 1), (.dup2, 1), (.iaload, 1), (.iload_n 3, 1), (.isub, 1), (.iastore, 1), (.aload_n 0, 1), (.getfield 26, 3), (.iconst 1, 1), (.iload_n 1, 1), (.iadd, 1), (.iload_n 2, 1), (.iastore, 1), (.aload_n 0, 1), (.getfield 26, 3), (.bipush 11, 2), (.iload_n 1, 1), (.iadd, 1), (.iaload, 1), (.ireturn, 1)] = true := by decide +kernel
  refine go_aload_n rfl hd (fun hd => ?_)
  refine go_getR co_X9 fl_9_26 (by decide) rfl rfl rfl hd (fun hd => ?_)
  refine go_bipush (by decide) hd (fun hd => ?_)
  refine go_iload_n rfl hd (fun hd => ?_)
  refine go_iadd hd (fun hd => ?_)
  refine go_dup2 rfl rfl hd (fun hd => ?_)
  refine go_iaload rfl hz1.1 hz1.2 (by decide) hd (fun hd => ?_)
  refine go_iload_n rfl hd (fun hd => ?_)
  refine go_isub hd (fun hd => ?_)
  refine go_iastore rfl hz2.1 hz2.2 (by decide) hd (fun hd => ?_)
  refine go_aload_n rfl hd (fun hd => ?_)
  refine go_getR co_X9 fl_9_26 (by decide) rfl rfl rfl hd (fun hd => ?_)
  refine go_iconst hd (fun hd => ?_)
  refine go_iload_n rfl hd (fun hd => ?_)
  refine go_iadd hd (fun hd => ?_)
  refine go_iload_n rfl hd (fun hd => ?_)
  refine go_iastore rfl hz3.1 hz3.2 (by decide) hd (fun hd => ?_)
  refine go_aload_n rfl hd (fun hd => ?_)
  refine go_getR co_X9 fl_9_26 (by decide) rfl rfl rfl hd (fun hd => ?_)
  refine go_bipush (by decide) hd (fun hd => ?_)
  refine go_iload_n rfl hd (fun hd => ?_)
  refine go_iadd hd (fun hd => ?_)
  refine go_iaload rfl hz4.1 hz4.2 (by decide) hd (fun hd => ?_)
  exact go_ireturn hd rfl ⟨_, rfl, k⟩
theorem b_M_undo_0 {L : Nat} {d : Nat} {I : jm_I} {Q : Option jm_V → jm_I → Prop}   (hz : (-2147483648 ≤ I 167 10 ∧ I 167 10 < 2147483648)) (kt : ¬ (I 167 10) = 0 → Gx (jx_0 L) d md_M_undo 10 [some (.inr (.inl 167)), none] [] I Q) (kf : (I 167 10) = 0 → Gx (jx_0 L) d md_M_undo 7 [some (.inr (.inl 167)), none] [] I Q) : Cx (jx_0 L) d md_M_undo [.inr (.inl 167)] I Q := by
  have hz1 := hz
  show jm_Go d 0 0 md_M_undo 0 [some (.inr (.inl 167)), none] [] (jx (jx_0 L) I) (jx_Q (jx_0 L) Q)
  have hd : jm_dc md_M_undo.2.1 0 [(.aload_n 0, 1), (.getfield 158, 3), (.ifCond .ne 6, 3)] = true := by decide +kernel
  refine go_aload_n rfl hd (fun hd => ?_)
  refine go_getI co_X9 fl_9_158 (by decide) (Or.inl rfl) rfl hd (fun hd => ?_)
  exact go_if_ne (by decide) hz1 hd kt kf
theorem b_M_undo_7 {L : Nat} {d : Nat} {I : jm_I} {Q : Option jm_V → jm_I → Prop} {o0 : Option jm_V} {o1 : Option jm_V}  (k : Q (some (.inl (-2))) I) : Gx (jx_0 L) d md_M_undo 7 [o0, o1] [] I Q := by
  show jm_Go d 0 0 md_M_undo 7 [o0, o1] [] (jx (jx_0 L) I) (jx_Q (jx_0 L) Q)
  have hd : jm_dc md_M_undo.2.1 7 [(.bipush (-2), 2), (.ireturn, 1)] = true := by decide +kernel
  refine go_bipush (by decide) hd (fun hd => ?_)
  exact go_ireturn hd rfl ⟨_, rfl, k⟩
theorem b_M_undo_10 {L : Nat} {d : Nat} {I : jm_I} {Q : Option jm_V → jm_I → Prop} {o1 : Option jm_V}  (k : Gx (jx_0 L) d md_M_undo 22 [some (.inr (.inl 167)), some (.inl 0)] [] (jm_up I 167 10 ((I 167 10) - 1)) Q) : Gx (jx_0 L) d md_M_undo 10 [some (.inr (.inl 167)), o1] [] I Q := by
  show jm_Go d 0 0 md_M_undo 10 [some (.inr (.inl 167)), o1] [] (jx (jx_0 L) I) (jx_Q (jx_0 L) Q)
  have hd : jm_dc md_M_undo.2.1 10 [(.aload_n 0, 1), (.dup, 1), (.getfield 158, 3), (.iconst 1, 1), (.isub, 1), (.putfield 158, 3), (.iconst 0, 1), (.istore_n 1, 1)] = true := by decide +kernel
  refine go_aload_n rfl hd (fun hd => ?_)
  refine go_dup rfl hd (fun hd => ?_)
  refine go_getI co_X9 fl_9_158 (by decide) (Or.inl rfl) rfl hd (fun hd => ?_)
  refine go_iconst hd (fun hd => ?_)
  refine go_isub hd (fun hd => ?_)
  refine go_putI co_X9 fl_9_158 (by decide) rfl rfl hd (fun hd => ?_)
  refine go_iconst hd (fun hd => ?_)
  refine go_istore_n (by decide) hd (fun hd => ?_)
  exact k
theorem b_M_undo_22 {L : Nat} {d : Nat} {I : jm_I} {Q : Option jm_V → jm_I → Prop} {o0 : Option jm_V} {x1 : Int}  (hz : (-2147483648 ≤ x1 ∧ x1 < 2147483648)) (kt : 27 ≤ x1 → Gx (jx_0 L) d md_M_undo 54 [o0, some (.inl x1)] [] I Q) (kf : ¬ (27 ≤ x1) → Gx (jx_0 L) d md_M_undo 28 [o0, some (.inl x1)] [] I Q) : Gx (jx_0 L) d md_M_undo 22 [o0, some (.inl x1)] [] I Q := by
  have hz1 := hz
  show jm_Go d 0 0 md_M_undo 22 [o0, some (.inl x1)] [] (jx (jx_0 L) I) (jx_Q (jx_0 L) Q)
  have hd : jm_dc md_M_undo.2.1 22 [(.iload_n 1, 1), (.bipush 27, 2), (.if_icmp .ge 29, 3)] = true := by decide +kernel
  refine go_iload_n rfl hd (fun hd => ?_)
  refine go_bipush (by decide) hd (fun hd => ?_)
  exact go_icmp_ge (by decide) hz1 ⟨by decide, by decide⟩ hd kt kf
theorem b_M_undo_28 {L : Nat} {d : Nat} {I : jm_I} {Q : Option jm_V → jm_I → Prop} {x1 : Int}  (hz : (0 ≤ (27 * (I 167 10)) + x1 ∧ (27 * (I 167 10)) + x1 < 270) ∧ (0 ≤ x1 ∧ x1 < 27)) (k : Gx (jx_0 L) d md_M_undo 22 [some (.inr (.inl 167)), some (.inl (x1 + 1))] [] (jm_up I 171 (x1.toNat) (I 172 ((27 * (I 167 10)) + x1).toNat)) Q) : Gx (jx_0 L) d md_M_undo 28 [some (.inr (.inl 167)), some (.inl x1)] [] I Q := by
  obtain ⟨hz1, hz2⟩ := hz
  show jm_Go d 0 0 md_M_undo 28 [some (.inr (.inl 167)), some (.inl x1)] [] (jx (jx_0 L) I) (jx_Q (jx_0 L) Q)
  have hd : jm_dc md_M_undo.2.1 28 [(.aload_n 0, 1), (.getfield 26, 3), (.iload_n 1, 1), (.aload_n 0, 1), (.getfield 29, 3), (.bipush 27, 2), (.aload_n 0, 1), (.getfield 158, 3), (.imul, 1), (.iload_n 1, 1), (.iadd, 1), (.iaload, 1), (.iastore, 1), (.iinc 1 1, 3), (.goto (-29), 3)] = true := by decide +kernel
  refine go_aload_n rfl hd (fun hd => ?_)
  refine go_getR co_X9 fl_9_26 (by decide) rfl rfl rfl hd (fun hd => ?_)
  refine go_iload_n rfl hd (fun hd => ?_)
  refine go_aload_n rfl hd (fun hd => ?_)
  refine go_getR co_X9 fl_9_29 (by decide) rfl rfl rfl hd (fun hd => ?_)
  refine go_bipush (by decide) hd (fun hd => ?_)
  refine go_aload_n rfl hd (fun hd => ?_)
  refine go_getI co_X9 fl_9_158 (by decide) (Or.inl rfl) rfl hd (fun hd => ?_)
  refine go_imul hd (fun hd => ?_)
  refine go_iload_n rfl hd (fun hd => ?_)
  refine go_iadd hd (fun hd => ?_)
  refine go_iaload rfl hz1.1 hz1.2 (by decide) hd (fun hd => ?_)
  refine go_iastore rfl hz2.1 hz2.2 (by decide) hd (fun hd => ?_)
  refine go_iinc rfl hd (fun hd => ?_)
  exact go_goto (by decide) hd k
theorem b_M_undo_54 {L : Nat} {d : Nat} {I : jm_I} {Q : Option jm_V → jm_I → Prop} {o1 : Option jm_V}  (k : Q (some (.inl (I 167 10))) I) : Gx (jx_0 L) d md_M_undo 54 [some (.inr (.inl 167)), o1] [] I Q := by
  show jm_Go d 0 0 md_M_undo 54 [some (.inr (.inl 167)), o1] [] (jx (jx_0 L) I) (jx_Q (jx_0 L) Q)
  have hd : jm_dc md_M_undo.2.1 54 [(.aload_n 0, 1), (.getfield 158, 3), (.ireturn, 1)] = true := by decide +kernel
  refine go_aload_n rfl hd (fun hd => ?_)
  refine go_getI co_X9 fl_9_158 (by decide) (Or.inl rfl) rfl hd (fun hd => ?_)
  exact go_ireturn hd rfl ⟨_, rfl, k⟩
theorem b_M_where_0 {L : Nat} {d : Nat} {I : jm_I} {Q : Option jm_V → jm_I → Prop} {x1 : Int} {x2 : Int}  (k : Cx (jx_0 L) d md_M_isThing [.inr (.inl 167), .inl x1] I (fun v J => Gx (jx_0 L) (d + 1) md_M_where 5 [some (.inr (.inl 167)), some (.inl x1), some (.inl x2)] (v.toList ++ []) J Q)) : Cx (jx_0 L) (d + 1) md_M_where [.inr (.inl 167), .inl x1, .inl x2] I Q := by
  show jm_Go (d + 1) 0 0 md_M_where 0 [some (.inr (.inl 167)), some (.inl x1), some (.inl x2)] [] (jx (jx_0 L) I) (jx_Q (jx_0 L) Q)
  have hd : jm_dc md_M_where.2.1 0 [(.aload_n 0, 1), (.iload_n 1, 1), (.invokevirtual 172, 3)] = true := by decide +kernel
  refine go_aload_n rfl hd (fun hd => ?_)
  refine go_iload_n rfl hd (fun hd => ?_)
  exact gx_virtual 167 9 [.inl x1] [] mk_M_isThing co_X9 rfl ml_9_172 in_M_isThing se_M_isThing rfl rfl (Nat.le_of_ble_eq_true rfl) rfl (Nat.le_of_ble_eq_true rfl) rfl hd k
theorem b_M_where_5 {L : Nat} {d : Nat} {I : jm_I} {Q : Option jm_V → jm_I → Prop} {o0 : Option jm_V} {o1 : Option jm_V} {o2 : Option jm_V} {s0 : Int}  (hz : (-2147483648 ≤ s0 ∧ s0 < 2147483648)) (kt : s0 = 0 → Gx (jx_0 L) d md_M_where 27 [o0, o1, o2] [] I Q) (kf : ¬ s0 = 0 → Gx (jx_0 L) d md_M_where 8 [o0, o1, o2] [] I Q) : Gx (jx_0 L) d md_M_where 5 [o0, o1, o2] [.inl s0] I Q := by
  have hz1 := hz
  show jm_Go d 0 0 md_M_where 5 [o0, o1, o2] [.inl s0] (jx (jx_0 L) I) (jx_Q (jx_0 L) Q)
  have hd : jm_dc md_M_where.2.1 5 [(.ifCond .eq 22, 3)] = true := by decide +kernel
  exact go_if_eq (by decide) hz1 hd kt kf
theorem b_M_where_8 {L : Nat} {d : Nat} {I : jm_I} {Q : Option jm_V → jm_I → Prop} {o0 : Option jm_V} {o1 : Option jm_V} {x2 : Int}  (k : Cx (jx_0 L) d md_M_in [.inl x2, .inl 0, .inl 100] I (fun v J => Gx (jx_0 L) (d + 1) md_M_where 15 [o0, o1, some (.inl x2)] (v.toList ++ []) J Q)) : Gx (jx_0 L) (d + 1) md_M_where 8 [o0, o1, some (.inl x2)] [] I Q := by
  show jm_Go (d + 1) 0 0 md_M_where 8 [o0, o1, some (.inl x2)] [] (jx (jx_0 L) I) (jx_Q (jx_0 L) Q)
  have hd : jm_dc md_M_where.2.1 8 [(.iload_n 2, 1), (.iconst 0, 1), (.bipush 100, 2), (.invokestatic 78, 3)] = true := by decide +kernel
  refine go_iload_n rfl hd (fun hd => ?_)
  refine go_iconst hd (fun hd => ?_)
  refine go_bipush (by decide) hd (fun hd => ?_)
  exact gx_static [.inl x2, .inl 0, .inl 100] [] mk_M_in ml_9_78 st_M_in rfl (Nat.le_of_ble_eq_true rfl) rfl (Nat.le_of_ble_eq_true rfl) rfl hd k
theorem b_M_where_15 {L : Nat} {d : Nat} {I : jm_I} {Q : Option jm_V → jm_I → Prop} {o0 : Option jm_V} {o1 : Option jm_V} {o2 : Option jm_V} {s0 : Int}  (hz : (-2147483648 ≤ s0 ∧ s0 < 2147483648)) (kt : s0 = 0 → Gx (jx_0 L) d md_M_where 27 [o0, o1, o2] [] I Q) (kf : ¬ s0 = 0 → Gx (jx_0 L) d md_M_where 18 [o0, o1, o2] [] I Q) : Gx (jx_0 L) d md_M_where 15 [o0, o1, o2] [.inl s0] I Q := by
  have hz1 := hz
  show jm_Go d 0 0 md_M_where 15 [o0, o1, o2] [.inl s0] (jx (jx_0 L) I) (jx_Q (jx_0 L) Q)
  have hd : jm_dc md_M_where.2.1 15 [(.ifCond .eq 12, 3)] = true := by decide +kernel
  exact go_if_eq (by decide) hz1 hd kt kf
theorem b_M_where_18 {L : Nat} {d : Nat} {I : jm_I} {Q : Option jm_V → jm_I → Prop} {x1 : Int} {x2 : Int}  (k : Cx (jx_0 L) d md_M_roomIn [.inr (.inl 167), .inl x1, .inl x2] I (fun v J => Gx (jx_0 L) (d + 1) md_M_where 24 [some (.inr (.inl 167)), some (.inl x1), some (.inl x2)] (v.toList ++ []) J Q)) : Gx (jx_0 L) (d + 1) md_M_where 18 [some (.inr (.inl 167)), some (.inl x1), some (.inl x2)] [] I Q := by
  show jm_Go (d + 1) 0 0 md_M_where 18 [some (.inr (.inl 167)), some (.inl x1), some (.inl x2)] [] (jx (jx_0 L) I) (jx_Q (jx_0 L) Q)
  have hd : jm_dc md_M_where.2.1 18 [(.aload_n 0, 1), (.iload_n 1, 1), (.iload_n 2, 1), (.invokevirtual 205, 3)] = true := by decide +kernel
  refine go_aload_n rfl hd (fun hd => ?_)
  refine go_iload_n rfl hd (fun hd => ?_)
  refine go_iload_n rfl hd (fun hd => ?_)
  exact gx_virtual 167 9 [.inl x1, .inl x2] [] mk_M_roomIn co_X9 rfl ml_9_205 in_M_roomIn se_M_roomIn rfl rfl (Nat.le_of_ble_eq_true rfl) rfl (Nat.le_of_ble_eq_true rfl) rfl hd k
theorem b_M_where_24 {L : Nat} {d : Nat} {I : jm_I} {Q : Option jm_V → jm_I → Prop} {o0 : Option jm_V} {o1 : Option jm_V} {o2 : Option jm_V} {s0 : Int}  (k : Gx (jx_0 L) d md_M_where 28 [o0, o1, o2] [.inl s0] I Q) : Gx (jx_0 L) d md_M_where 24 [o0, o1, o2] [.inl s0] I Q := by
  show jm_Go d 0 0 md_M_where 24 [o0, o1, o2] [.inl s0] (jx (jx_0 L) I) (jx_Q (jx_0 L) Q)
  have hd : jm_dc md_M_where.2.1 24 [(.goto 4, 3)] = true := by decide +kernel
  exact go_goto (by decide) hd k
theorem b_M_where_27 {L : Nat} {d : Nat} {I : jm_I} {Q : Option jm_V → jm_I → Prop} {o0 : Option jm_V} {o1 : Option jm_V} {o2 : Option jm_V}  (k : Gx (jx_0 L) d md_M_where 28 [o0, o1, o2] [.inl (-1)] I Q) : Gx (jx_0 L) d md_M_where 27 [o0, o1, o2] [] I Q := by
  show jm_Go d 0 0 md_M_where 27 [o0, o1, o2] [] (jx (jx_0 L) I) (jx_Q (jx_0 L) Q)
  have hd : jm_dc md_M_where.2.1 27 [(.iconst (-1), 1)] = true := by decide +kernel
  refine go_iconst hd (fun hd => ?_)
  exact k
theorem b_M_where_28 {L : Nat} {d : Nat} {I : jm_I} {Q : Option jm_V → jm_I → Prop} {o0 : Option jm_V} {o1 : Option jm_V} {o2 : Option jm_V} {s0 : Int}  (k : Q (some (.inl s0)) I) : Gx (jx_0 L) d md_M_where 28 [o0, o1, o2] [.inl s0] I Q := by
  show jm_Go d 0 0 md_M_where 28 [o0, o1, o2] [.inl s0] (jx (jx_0 L) I) (jx_Q (jx_0 L) Q)
  have hd : jm_dc md_M_where.2.1 28 [(.ireturn, 1)] = true := by decide +kernel
  exact go_ireturn hd rfl ⟨_, rfl, k⟩
theorem b_M_roomIn_0 {L : Nat} {d : Nat} {I : jm_I} {Q : Option jm_V → jm_I → Prop} {x1 : Int} {x2 : Int}  (k : Cx (jx_0 L) d md_M_isNow [.inr (.inl 167), .inl x1] I (fun v J => Gx (jx_0 L) (d + 1) md_M_roomIn 9 [some (.inr (.inl 167)), some (.inl x1), some (.inl x2)] (v.toList ++ [.inl x1, .inr (.inl 167), .inl x1, .inr (.inl 167)]) J Q)) : Cx (jx_0 L) (d + 1) md_M_roomIn [.inr (.inl 167), .inl x1, .inl x2] I Q := by
  show jm_Go (d + 1) 0 0 md_M_roomIn 0 [some (.inr (.inl 167)), some (.inl x1), some (.inl x2)] [] (jx (jx_0 L) I) (jx_Q (jx_0 L) Q)
  have hd : jm_dc md_M_roomIn.2.1 0 [(.aload_n 0, 1), (.iload_n 1, 1), (.aload_n 0, 1), (.iload_n 1, 1), (.aload_n 0, 1), (.iload_n 1, 1), (.invokevirtual 196, 3)] = true := by decide +kernel
  refine go_aload_n rfl hd (fun hd => ?_)
  refine go_iload_n rfl hd (fun hd => ?_)
  refine go_aload_n rfl hd (fun hd => ?_)
  refine go_iload_n rfl hd (fun hd => ?_)
  refine go_aload_n rfl hd (fun hd => ?_)
  refine go_iload_n rfl hd (fun hd => ?_)
  exact gx_virtual 167 9 [.inl x1] [.inl x1, .inr (.inl 167), .inl x1, .inr (.inl 167)] mk_M_isNow co_X9 rfl ml_9_196 in_M_isNow se_M_isNow rfl rfl (Nat.le_of_ble_eq_true rfl) rfl (Nat.le_of_ble_eq_true rfl) rfl hd k
theorem b_M_roomIn_9 {L : Nat} {d : Nat} {I : jm_I} {Q : Option jm_V → jm_I → Prop} {o0 : Option jm_V} {o1 : Option jm_V} {x2 : Int} {s1 : Int} {s3 : Int} {s4 : Int}  (k : Cx (jx_0 L) d md_M_later [.inr (.inl 167), .inl s3, .inl s4, .inl x2] I (fun v J => Gx (jx_0 L) (d + 1) md_M_roomIn 13 [o0, o1, some (.inl x2)] (v.toList ++ [.inl s1, .inr (.inl 167)]) J Q)) : Gx (jx_0 L) (d + 1) md_M_roomIn 9 [o0, o1, some (.inl x2)] [.inl s4, .inl s3, .inr (.inl 167), .inl s1, .inr (.inl 167)] I Q := by
  show jm_Go (d + 1) 0 0 md_M_roomIn 9 [o0, o1, some (.inl x2)] [.inl s4, .inl s3, .inr (.inl 167), .inl s1, .inr (.inl 167)] (jx (jx_0 L) I) (jx_Q (jx_0 L) Q)
  have hd : jm_dc md_M_roomIn.2.1 9 [(.iload_n 2, 1), (.invokevirtual 199, 3)] = true := by decide +kernel
  refine go_iload_n rfl hd (fun hd => ?_)
  exact gx_virtual 167 9 [.inl s3, .inl s4, .inl x2] [.inl s1, .inr (.inl 167)] mk_M_later co_X9 rfl ml_9_199 in_M_later se_M_later rfl rfl (Nat.le_of_ble_eq_true rfl) rfl (Nat.le_of_ble_eq_true rfl) rfl hd k
theorem b_M_roomIn_13 {L : Nat} {d : Nat} {I : jm_I} {Q : Option jm_V → jm_I → Prop} {o0 : Option jm_V} {o1 : Option jm_V} {o2 : Option jm_V} {s1 : Int} {s2 : Int}  (k : Cx (jx_0 L) d md_M_roomOf [.inr (.inl 167), .inl s1, .inl s2] I (fun v J => Gx (jx_0 L) (d + 1) md_M_roomIn 16 [o0, o1, o2] (v.toList ++ []) J Q)) : Gx (jx_0 L) (d + 1) md_M_roomIn 13 [o0, o1, o2] [.inl s2, .inl s1, .inr (.inl 167)] I Q := by
  show jm_Go (d + 1) 0 0 md_M_roomIn 13 [o0, o1, o2] [.inl s2, .inl s1, .inr (.inl 167)] (jx (jx_0 L) I) (jx_Q (jx_0 L) Q)
  have hd : jm_dc md_M_roomIn.2.1 13 [(.invokevirtual 202, 3)] = true := by decide +kernel
  exact gx_virtual 167 9 [.inl s1, .inl s2] [] mk_M_roomOf co_X9 rfl ml_9_202 in_M_roomOf se_M_roomOf rfl rfl (Nat.le_of_ble_eq_true rfl) rfl (Nat.le_of_ble_eq_true rfl) rfl hd k
theorem b_M_roomIn_16 {L : Nat} {d : Nat} {I : jm_I} {Q : Option jm_V → jm_I → Prop} {o0 : Option jm_V} {o1 : Option jm_V} {o2 : Option jm_V} {s0 : Int}  (k : Q (some (.inl s0)) I) : Gx (jx_0 L) d md_M_roomIn 16 [o0, o1, o2] [.inl s0] I Q := by
  show jm_Go d 0 0 md_M_roomIn 16 [o0, o1, o2] [.inl s0] (jx (jx_0 L) I) (jx_Q (jx_0 L) Q)
  have hd : jm_dc md_M_roomIn.2.1 16 [(.ireturn, 1)] = true := by decide +kernel
  exact go_ireturn hd rfl ⟨_, rfl, k⟩
theorem b_M_isNow_0 {L : Nat} {d : Nat} {I : jm_I} {Q : Option jm_V → jm_I → Prop} {x1 : Int}  (hz : (0 ≤ 22 + x1 ∧ 22 + x1 < 27) ∧ (-2147483648 ≤ I 171 (22 + x1).toNat ∧ I 171 (22 + x1).toNat < 2147483648)) (kt : ¬ (I 171 (22 + x1).toNat) = (-9) → Gx (jx_0 L) d md_M_isNow 28 [some (.inr (.inl 167)), some (.inl x1)] [] I Q) (kf : (I 171 (22 + x1).toNat) = (-9) → Gx (jx_0 L) d md_M_isNow 14 [some (.inr (.inl 167)), some (.inl x1)] [] I Q) : Cx (jx_0 L) d md_M_isNow [.inr (.inl 167), .inl x1] I Q := by
  obtain ⟨hz1, hz2⟩ := hz
  show jm_Go d 0 0 md_M_isNow 0 [some (.inr (.inl 167)), some (.inl x1)] [] (jx (jx_0 L) I) (jx_Q (jx_0 L) Q)
  have hd : jm_dc md_M_isNow.2.1 0 [(.aload_n 0, 1), (.getfield 26, 3), (.bipush 22, 2), (.iload_n 1, 1), (.iadd, 1), (.iaload, 1), (.bipush (-9), 2), (.if_icmp .ne 17, 3)] = true := by decide +kernel
  refine go_aload_n rfl hd (fun hd => ?_)
  refine go_getR co_X9 fl_9_26 (by decide) rfl rfl rfl hd (fun hd => ?_)
  refine go_bipush (by decide) hd (fun hd => ?_)
  refine go_iload_n rfl hd (fun hd => ?_)
  refine go_iadd hd (fun hd => ?_)
  refine go_iaload rfl hz1.1 hz1.2 (by decide) hd (fun hd => ?_)
  refine go_bipush (by decide) hd (fun hd => ?_)
  exact go_icmp_ne (by decide) hz2 ⟨by decide, by decide⟩ hd kt kf
theorem b_M_isNow_14 {L : Nat} {d : Nat} {I : jm_I} {Q : Option jm_V → jm_I → Prop} {x1 : Int}  (hz : (0 ≤ 17 + x1 ∧ 17 + x1 < 27)) (k : Gx (jx_0 L) d md_M_isNow 37 [some (.inr (.inl 167)), some (.inl x1)] [.inl (4 + (I 171 (17 + x1).toNat))] I Q) : Gx (jx_0 L) d md_M_isNow 14 [some (.inr (.inl 167)), some (.inl x1)] [] I Q := by
  have hz1 := hz
  show jm_Go d 0 0 md_M_isNow 14 [some (.inr (.inl 167)), some (.inl x1)] [] (jx (jx_0 L) I) (jx_Q (jx_0 L) Q)
  have hd : jm_dc md_M_isNow.2.1 14 [(.iconst 4, 1), (.aload_n 0, 1), (.getfield 26, 3), (.bipush 17, 2), (.iload_n 1, 1), (.iadd, 1), (.iaload, 1), (.iadd, 1), (.goto 12, 3)] = true := by decide +kernel
  refine go_iconst hd (fun hd => ?_)
  refine go_aload_n rfl hd (fun hd => ?_)
  refine go_getR co_X9 fl_9_26 (by decide) rfl rfl rfl hd (fun hd => ?_)
  refine go_bipush (by decide) hd (fun hd => ?_)
  refine go_iload_n rfl hd (fun hd => ?_)
  refine go_iadd hd (fun hd => ?_)
  refine go_iaload rfl hz1.1 hz1.2 (by decide) hd (fun hd => ?_)
  refine go_iadd hd (fun hd => ?_)
  exact go_goto (by decide) hd k
theorem b_M_isNow_28 {L : Nat} {d : Nat} {I : jm_I} {Q : Option jm_V → jm_I → Prop} {x1 : Int}  (hz : (0 ≤ 22 + x1 ∧ 22 + x1 < 27)) (k : Gx (jx_0 L) d md_M_isNow 37 [some (.inr (.inl 167)), some (.inl x1)] [.inl (I 171 (22 + x1).toNat)] I Q) : Gx (jx_0 L) d md_M_isNow 28 [some (.inr (.inl 167)), some (.inl x1)] [] I Q := by
  have hz1 := hz
  show jm_Go d 0 0 md_M_isNow 28 [some (.inr (.inl 167)), some (.inl x1)] [] (jx (jx_0 L) I) (jx_Q (jx_0 L) Q)
  have hd : jm_dc md_M_isNow.2.1 28 [(.aload_n 0, 1), (.getfield 26, 3), (.bipush 22, 2), (.iload_n 1, 1), (.iadd, 1), (.iaload, 1)] = true := by decide +kernel
  refine go_aload_n rfl hd (fun hd => ?_)
  refine go_getR co_X9 fl_9_26 (by decide) rfl rfl rfl hd (fun hd => ?_)
  refine go_bipush (by decide) hd (fun hd => ?_)
  refine go_iload_n rfl hd (fun hd => ?_)
  refine go_iadd hd (fun hd => ?_)
  refine go_iaload rfl hz1.1 hz1.2 (by decide) hd (fun hd => ?_)
  exact k
theorem b_M_isNow_37 {L : Nat} {d : Nat} {I : jm_I} {Q : Option jm_V → jm_I → Prop} {o0 : Option jm_V} {o1 : Option jm_V} {s0 : Int}  (k : Q (some (.inl s0)) I) : Gx (jx_0 L) d md_M_isNow 37 [o0, o1] [.inl s0] I Q := by
  show jm_Go d 0 0 md_M_isNow 37 [o0, o1] [.inl s0] (jx (jx_0 L) I) (jx_Q (jx_0 L) Q)
  have hd : jm_dc md_M_isNow.2.1 37 [(.ireturn, 1)] = true := by decide +kernel
  exact go_ireturn hd rfl ⟨_, rfl, k⟩
theorem b_M_later_0 {L : Nat} {d : Nat} {I : jm_I} {Q : Option jm_V → jm_I → Prop} {x1 : Int} {x2 : Int} {x3 : Int}  (hz : (-2147483648 ≤ x2 ∧ x2 < 2147483648)) (kt : 4 ≤ x2 → Gx (jx_0 L) d md_M_later 18 [some (.inr (.inl 167)), some (.inl x1), some (.inl x2), some (.inl x3)] [] I Q) (kf : ¬ (4 ≤ x2) → Gx (jx_0 L) d md_M_later 5 [some (.inr (.inl 167)), some (.inl x1), some (.inl x2), some (.inl x3)] [] I Q) : Cx (jx_0 L) d md_M_later [.inr (.inl 167), .inl x1, .inl x2, .inl x3] I Q := by
  have hz1 := hz
  show jm_Go d 0 0 md_M_later 0 [some (.inr (.inl 167)), some (.inl x1), some (.inl x2), some (.inl x3)] [] (jx (jx_0 L) I) (jx_Q (jx_0 L) Q)
  have hd : jm_dc md_M_later.2.1 0 [(.iload_n 2, 1), (.iconst 4, 1), (.if_icmp .ge 16, 3)] = true := by decide +kernel
  refine go_iload_n rfl hd (fun hd => ?_)
  refine go_iconst hd (fun hd => ?_)
  exact go_icmp_ge (by decide) hz1 ⟨by decide, by decide⟩ hd kt kf
theorem b_M_later_5 {L : Nat} {d : Nat} {I : jm_I} {Q : Option jm_V → jm_I → Prop} {x1 : Int} {x2 : Int} {x3 : Int}  (hz : (0 ≤ x1 ∧ x1 < 5) ∧ (0 ≤ x2 + x3 ∧ x2 + x3 < 2147483648) ∧ (0 < I 169 x1.toNat ∧ I 169 x1.toNat < 2147483648)) (k : Gx (jx_0 L) d md_M_later 19 [some (.inr (.inl 167)), some (.inl x1), some (.inl x2), some (.inl x3)] [.inl ((x2 + x3) % (I 169 x1.toNat))] I Q) : Gx (jx_0 L) d md_M_later 5 [some (.inr (.inl 167)), some (.inl x1), some (.inl x2), some (.inl x3)] [] I Q := by
  obtain ⟨hz1, hz2, hz3⟩ := hz
  show jm_Go d 0 0 md_M_later 5 [some (.inr (.inl 167)), some (.inl x1), some (.inl x2), some (.inl x3)] [] (jx (jx_0 L) I) (jx_Q (jx_0 L) Q)
  have hd : jm_dc md_M_later.2.1 5 [(.iload_n 2, 1), (.iload_n 3, 1), (.iadd, 1), (.aload_n 0, 1), (.getfield 20, 3), (.iload_n 1, 1), (.iaload, 1), (.irem, 1), (.goto 4, 3)] = true := by decide +kernel
  refine go_iload_n rfl hd (fun hd => ?_)
  refine go_iload_n rfl hd (fun hd => ?_)
  refine go_iadd hd (fun hd => ?_)
  refine go_aload_n rfl hd (fun hd => ?_)
  refine go_getR co_X9 fl_9_20 (by decide) rfl rfl rfl hd (fun hd => ?_)
  refine go_iload_n rfl hd (fun hd => ?_)
  refine go_iaload rfl hz1.1 hz1.2 (by decide) hd (fun hd => ?_)
  refine go_irem hz2 hz3 hd (fun hd => ?_)
  exact go_goto (by decide) hd k
theorem b_M_later_18 {L : Nat} {d : Nat} {I : jm_I} {Q : Option jm_V → jm_I → Prop} {o0 : Option jm_V} {o1 : Option jm_V} {x2 : Int} {o3 : Option jm_V}  (k : Gx (jx_0 L) d md_M_later 19 [o0, o1, some (.inl x2), o3] [.inl x2] I Q) : Gx (jx_0 L) d md_M_later 18 [o0, o1, some (.inl x2), o3] [] I Q := by
  show jm_Go d 0 0 md_M_later 18 [o0, o1, some (.inl x2), o3] [] (jx (jx_0 L) I) (jx_Q (jx_0 L) Q)
  have hd : jm_dc md_M_later.2.1 18 [(.iload_n 2, 1)] = true := by decide +kernel
  refine go_iload_n rfl hd (fun hd => ?_)
  exact k
theorem b_M_later_19 {L : Nat} {d : Nat} {I : jm_I} {Q : Option jm_V → jm_I → Prop} {o0 : Option jm_V} {o1 : Option jm_V} {o2 : Option jm_V} {o3 : Option jm_V} {s0 : Int}  (k : Q (some (.inl s0)) I) : Gx (jx_0 L) d md_M_later 19 [o0, o1, o2, o3] [.inl s0] I Q := by
  show jm_Go d 0 0 md_M_later 19 [o0, o1, o2, o3] [.inl s0] (jx (jx_0 L) I) (jx_Q (jx_0 L) Q)
  have hd : jm_dc md_M_later.2.1 19 [(.ireturn, 1)] = true := by decide +kernel
  exact go_ireturn hd rfl ⟨_, rfl, k⟩
theorem b_M_roomOf_0 {L : Nat} {d : Nat} {I : jm_I} {Q : Option jm_V → jm_I → Prop} {x1 : Int} {x2 : Int}  (hz : (-2147483648 ≤ x2 ∧ x2 < 2147483648)) (kt : 4 ≤ x2 → Gx (jx_0 L) d md_M_roomOf 18 [some (.inr (.inl 167)), some (.inl x1), some (.inl x2)] [] I Q) (kf : ¬ (4 ≤ x2) → Gx (jx_0 L) d md_M_roomOf 5 [some (.inr (.inl 167)), some (.inl x1), some (.inl x2)] [] I Q) : Cx (jx_0 L) d md_M_roomOf [.inr (.inl 167), .inl x1, .inl x2] I Q := by
  have hz1 := hz
  show jm_Go d 0 0 md_M_roomOf 0 [some (.inr (.inl 167)), some (.inl x1), some (.inl x2)] [] (jx (jx_0 L) I) (jx_Q (jx_0 L) Q)
  have hd : jm_dc md_M_roomOf.2.1 0 [(.iload_n 2, 1), (.iconst 4, 1), (.if_icmp .ge 16, 3)] = true := by decide +kernel
  refine go_iload_n rfl hd (fun hd => ?_)
  refine go_iconst hd (fun hd => ?_)
  exact go_icmp_ge (by decide) hz1 ⟨by decide, by decide⟩ hd kt kf
theorem b_M_roomOf_5 {L : Nat} {d : Nat} {I : jm_I} {Q : Option jm_V → jm_I → Prop} {x1 : Int} {x2 : Int}  (hz : (0 ≤ (4 * x1) + x2 ∧ (4 * x1) + x2 < 20)) (k : Gx (jx_0 L) d md_M_roomOf 21 [some (.inr (.inl 167)), some (.inl x1), some (.inl x2)] [.inl (I 170 ((4 * x1) + x2).toNat)] I Q) : Gx (jx_0 L) d md_M_roomOf 5 [some (.inr (.inl 167)), some (.inl x1), some (.inl x2)] [] I Q := by
  have hz1 := hz
  show jm_Go d 0 0 md_M_roomOf 5 [some (.inr (.inl 167)), some (.inl x1), some (.inl x2)] [] (jx (jx_0 L) I) (jx_Q (jx_0 L) Q)
  have hd : jm_dc md_M_roomOf.2.1 5 [(.aload_n 0, 1), (.getfield 23, 3), (.iconst 4, 1), (.iload_n 1, 1), (.imul, 1), (.iload_n 2, 1), (.iadd, 1), (.iaload, 1), (.goto 6, 3)] = true := by decide +kernel
  refine go_aload_n rfl hd (fun hd => ?_)
  refine go_getR co_X9 fl_9_23 (by decide) rfl rfl rfl hd (fun hd => ?_)
  refine go_iconst hd (fun hd => ?_)
  refine go_iload_n rfl hd (fun hd => ?_)
  refine go_imul hd (fun hd => ?_)
  refine go_iload_n rfl hd (fun hd => ?_)
  refine go_iadd hd (fun hd => ?_)
  refine go_iaload rfl hz1.1 hz1.2 (by decide) hd (fun hd => ?_)
  exact go_goto (by decide) hd k
theorem b_M_roomOf_18 {L : Nat} {d : Nat} {I : jm_I} {Q : Option jm_V → jm_I → Prop} {o0 : Option jm_V} {o1 : Option jm_V} {x2 : Int}  (k : Gx (jx_0 L) d md_M_roomOf 21 [o0, o1, some (.inl x2)] [.inl (x2 - 4)] I Q) : Gx (jx_0 L) d md_M_roomOf 18 [o0, o1, some (.inl x2)] [] I Q := by
  show jm_Go d 0 0 md_M_roomOf 18 [o0, o1, some (.inl x2)] [] (jx (jx_0 L) I) (jx_Q (jx_0 L) Q)
  have hd : jm_dc md_M_roomOf.2.1 18 [(.iload_n 2, 1), (.iconst 4, 1), (.isub, 1)] = true := by decide +kernel
  refine go_iload_n rfl hd (fun hd => ?_)
  refine go_iconst hd (fun hd => ?_)
  refine go_isub hd (fun hd => ?_)
  exact k
theorem b_M_roomOf_21 {L : Nat} {d : Nat} {I : jm_I} {Q : Option jm_V → jm_I → Prop} {o0 : Option jm_V} {o1 : Option jm_V} {o2 : Option jm_V} {s0 : Int}  (k : Q (some (.inl s0)) I) : Gx (jx_0 L) d md_M_roomOf 21 [o0, o1, o2] [.inl s0] I Q := by
  show jm_Go d 0 0 md_M_roomOf 21 [o0, o1, o2] [.inl s0] (jx (jx_0 L) I) (jx_Q (jx_0 L) Q)
  have hd : jm_dc md_M_roomOf.2.1 21 [(.ireturn, 1)] = true := by decide +kernel
  exact go_ireturn hd rfl ⟨_, rfl, k⟩
theorem b_M_upon_0 {L : Nat} {d : Nat} {I : jm_I} {Q : Option jm_V → jm_I → Prop} {x1 : Int} {x2 : Int}  (k : Cx (jx_0 L) d md_M_isThing [.inr (.inl 167), .inl x1] I (fun v J => Gx (jx_0 L) (d + 1) md_M_upon 5 [some (.inr (.inl 167)), some (.inl x1), some (.inl x2), none] (v.toList ++ []) J Q)) : Cx (jx_0 L) (d + 1) md_M_upon [.inr (.inl 167), .inl x1, .inl x2] I Q := by
  show jm_Go (d + 1) 0 0 md_M_upon 0 [some (.inr (.inl 167)), some (.inl x1), some (.inl x2), none] [] (jx (jx_0 L) I) (jx_Q (jx_0 L) Q)
  have hd : jm_dc md_M_upon.2.1 0 [(.aload_n 0, 1), (.iload_n 1, 1), (.invokevirtual 172, 3)] = true := by decide +kernel
  refine go_aload_n rfl hd (fun hd => ?_)
  refine go_iload_n rfl hd (fun hd => ?_)
  exact gx_virtual 167 9 [.inl x1] [] mk_M_isThing co_X9 rfl ml_9_172 in_M_isThing se_M_isThing rfl rfl (Nat.le_of_ble_eq_true rfl) rfl (Nat.le_of_ble_eq_true rfl) rfl hd k
theorem b_M_upon_5 {L : Nat} {d : Nat} {I : jm_I} {Q : Option jm_V → jm_I → Prop} {o0 : Option jm_V} {o1 : Option jm_V} {o2 : Option jm_V} {o3 : Option jm_V} {s0 : Int}  (hz : (-2147483648 ≤ s0 ∧ s0 < 2147483648)) (kt : s0 = 0 → Gx (jx_0 L) d md_M_upon 16 [o0, o1, o2, o3] [] I Q) (kf : ¬ s0 = 0 → Gx (jx_0 L) d md_M_upon 8 [o0, o1, o2, o3] [] I Q) : Gx (jx_0 L) d md_M_upon 5 [o0, o1, o2, o3] [.inl s0] I Q := by
  have hz1 := hz
  show jm_Go d 0 0 md_M_upon 5 [o0, o1, o2, o3] [.inl s0] (jx (jx_0 L) I) (jx_Q (jx_0 L) Q)
  have hd : jm_dc md_M_upon.2.1 5 [(.ifCond .eq 11, 3)] = true := by decide +kernel
  exact go_if_eq (by decide) hz1 hd kt kf
theorem b_M_upon_8 {L : Nat} {d : Nat} {I : jm_I} {Q : Option jm_V → jm_I → Prop} {o1 : Option jm_V} {x2 : Int} {o3 : Option jm_V}  (k : Cx (jx_0 L) d md_M_isPerson [.inr (.inl 167), .inl x2] I (fun v J => Gx (jx_0 L) (d + 1) md_M_upon 13 [some (.inr (.inl 167)), o1, some (.inl x2), o3] (v.toList ++ []) J Q)) : Gx (jx_0 L) (d + 1) md_M_upon 8 [some (.inr (.inl 167)), o1, some (.inl x2), o3] [] I Q := by
  show jm_Go (d + 1) 0 0 md_M_upon 8 [some (.inr (.inl 167)), o1, some (.inl x2), o3] [] (jx (jx_0 L) I) (jx_Q (jx_0 L) Q)
  have hd : jm_dc md_M_upon.2.1 8 [(.aload_n 0, 1), (.iload_n 2, 1), (.invokevirtual 164, 3)] = true := by decide +kernel
  refine go_aload_n rfl hd (fun hd => ?_)
  refine go_iload_n rfl hd (fun hd => ?_)
  exact gx_virtual 167 9 [.inl x2] [] mk_M_isPerson co_X9 rfl ml_9_164 in_M_isPerson se_M_isPerson rfl rfl (Nat.le_of_ble_eq_true rfl) rfl (Nat.le_of_ble_eq_true rfl) rfl hd k
theorem b_M_upon_13 {L : Nat} {d : Nat} {I : jm_I} {Q : Option jm_V → jm_I → Prop} {o0 : Option jm_V} {o1 : Option jm_V} {o2 : Option jm_V} {o3 : Option jm_V} {s0 : Int}  (hz : (-2147483648 ≤ s0 ∧ s0 < 2147483648)) (kt : ¬ s0 = 0 → Gx (jx_0 L) d md_M_upon 18 [o0, o1, o2, o3] [] I Q) (kf : s0 = 0 → Gx (jx_0 L) d md_M_upon 16 [o0, o1, o2, o3] [] I Q) : Gx (jx_0 L) d md_M_upon 13 [o0, o1, o2, o3] [.inl s0] I Q := by
  have hz1 := hz
  show jm_Go d 0 0 md_M_upon 13 [o0, o1, o2, o3] [.inl s0] (jx (jx_0 L) I) (jx_Q (jx_0 L) Q)
  have hd : jm_dc md_M_upon.2.1 13 [(.ifCond .ne 5, 3)] = true := by decide +kernel
  exact go_if_ne (by decide) hz1 hd kt kf
theorem b_M_upon_16 {L : Nat} {d : Nat} {I : jm_I} {Q : Option jm_V → jm_I → Prop} {o0 : Option jm_V} {o1 : Option jm_V} {o2 : Option jm_V} {o3 : Option jm_V}  (k : Q (some (.inl (-1))) I) : Gx (jx_0 L) d md_M_upon 16 [o0, o1, o2, o3] [] I Q := by
  show jm_Go d 0 0 md_M_upon 16 [o0, o1, o2, o3] [] (jx (jx_0 L) I) (jx_Q (jx_0 L) Q)
  have hd : jm_dc md_M_upon.2.1 16 [(.iconst (-1), 1), (.ireturn, 1)] = true := by decide +kernel
  refine go_iconst hd (fun hd => ?_)
  exact go_ireturn hd rfl ⟨_, rfl, k⟩
theorem b_M_upon_18 {L : Nat} {d : Nat} {I : jm_I} {Q : Option jm_V → jm_I → Prop} {o0 : Option jm_V} {o1 : Option jm_V} {o2 : Option jm_V} {o3 : Option jm_V}  (k : Gx (jx_0 L) d md_M_upon 20 [o0, o1, o2, some (.inl 0)] [] I Q) : Gx (jx_0 L) d md_M_upon 18 [o0, o1, o2, o3] [] I Q := by
  show jm_Go d 0 0 md_M_upon 18 [o0, o1, o2, o3] [] (jx (jx_0 L) I) (jx_Q (jx_0 L) Q)
  have hd : jm_dc md_M_upon.2.1 18 [(.iconst 0, 1), (.istore_n 3, 1)] = true := by decide +kernel
  refine go_iconst hd (fun hd => ?_)
  refine go_istore_n (by decide) hd (fun hd => ?_)
  exact k
theorem b_M_upon_20 {L : Nat} {d : Nat} {I : jm_I} {Q : Option jm_V → jm_I → Prop} {o0 : Option jm_V} {o1 : Option jm_V} {o2 : Option jm_V} {x3 : Int}  (hz : (-2147483648 ≤ x3 ∧ x3 < 2147483648)) (kt : 20 < x3 → Gx (jx_0 L) d md_M_upon 49 [o0, o1, o2, some (.inl x3)] [] I Q) (kf : ¬ (20 < x3) → Gx (jx_0 L) d md_M_upon 26 [o0, o1, o2, some (.inl x3)] [] I Q) : Gx (jx_0 L) d md_M_upon 20 [o0, o1, o2, some (.inl x3)] [] I Q := by
  have hz1 := hz
  show jm_Go d 0 0 md_M_upon 20 [o0, o1, o2, some (.inl x3)] [] (jx (jx_0 L) I) (jx_Q (jx_0 L) Q)
  have hd : jm_dc md_M_upon.2.1 20 [(.iload_n 3, 1), (.bipush 20, 2), (.if_icmp .gt 26, 3)] = true := by decide +kernel
  refine go_iload_n rfl hd (fun hd => ?_)
  refine go_bipush (by decide) hd (fun hd => ?_)
  exact go_icmp_gt (by decide) hz1 ⟨by decide, by decide⟩ hd kt kf
theorem b_M_upon_26 {L : Nat} {d : Nat} {I : jm_I} {Q : Option jm_V → jm_I → Prop} {x1 : Int} {o2 : Option jm_V} {x3 : Int}  (k : Cx (jx_0 L) d md_M_roomIn [.inr (.inl 167), .inl x1, .inl x3] I (fun v J => Gx (jx_0 L) (d + 1) md_M_upon 32 [some (.inr (.inl 167)), some (.inl x1), o2, some (.inl x3)] (v.toList ++ []) J Q)) : Gx (jx_0 L) (d + 1) md_M_upon 26 [some (.inr (.inl 167)), some (.inl x1), o2, some (.inl x3)] [] I Q := by
  show jm_Go (d + 1) 0 0 md_M_upon 26 [some (.inr (.inl 167)), some (.inl x1), o2, some (.inl x3)] [] (jx (jx_0 L) I) (jx_Q (jx_0 L) Q)
  have hd : jm_dc md_M_upon.2.1 26 [(.aload_n 0, 1), (.iload_n 1, 1), (.iload_n 3, 1), (.invokevirtual 205, 3)] = true := by decide +kernel
  refine go_aload_n rfl hd (fun hd => ?_)
  refine go_iload_n rfl hd (fun hd => ?_)
  refine go_iload_n rfl hd (fun hd => ?_)
  exact gx_virtual 167 9 [.inl x1, .inl x3] [] mk_M_roomIn co_X9 rfl ml_9_205 in_M_roomIn se_M_roomIn rfl rfl (Nat.le_of_ble_eq_true rfl) rfl (Nat.le_of_ble_eq_true rfl) rfl hd k
theorem b_M_upon_32 {L : Nat} {d : Nat} {I : jm_I} {Q : Option jm_V → jm_I → Prop} {o1 : Option jm_V} {x2 : Int} {o3 : Option jm_V} {s0 : Int}  (hz : (0 ≤ 1 + x2 ∧ 1 + x2 < 27) ∧ (-2147483648 ≤ s0 ∧ s0 < 2147483648) ∧ (-2147483648 ≤ I 171 (1 + x2).toNat ∧ I 171 (1 + x2).toNat < 2147483648)) (kt : s0 = (I 171 (1 + x2).toNat) → Gx (jx_0 L) d md_M_upon 49 [some (.inr (.inl 167)), o1, some (.inl x2), o3] [] I Q) (kf : ¬ s0 = (I 171 (1 + x2).toNat) → Gx (jx_0 L) d md_M_upon 43 [some (.inr (.inl 167)), o1, some (.inl x2), o3] [] I Q) : Gx (jx_0 L) d md_M_upon 32 [some (.inr (.inl 167)), o1, some (.inl x2), o3] [.inl s0] I Q := by
  obtain ⟨hz1, hz2, hz3⟩ := hz
  show jm_Go d 0 0 md_M_upon 32 [some (.inr (.inl 167)), o1, some (.inl x2), o3] [.inl s0] (jx (jx_0 L) I) (jx_Q (jx_0 L) Q)
  have hd : jm_dc md_M_upon.2.1 32 [(.aload_n 0, 1), (.getfield 26, 3), (.iconst 1, 1), (.iload_n 2, 1), (.iadd, 1), (.iaload, 1), (.if_icmp .eq 9, 3)] = true := by decide +kernel
  refine go_aload_n rfl hd (fun hd => ?_)
  refine go_getR co_X9 fl_9_26 (by decide) rfl rfl rfl hd (fun hd => ?_)
  refine go_iconst hd (fun hd => ?_)
  refine go_iload_n rfl hd (fun hd => ?_)
  refine go_iadd hd (fun hd => ?_)
  refine go_iaload rfl hz1.1 hz1.2 (by decide) hd (fun hd => ?_)
  exact go_icmp_eq (by decide) hz2 hz3 hd kt kf
theorem b_M_upon_43 {L : Nat} {d : Nat} {I : jm_I} {Q : Option jm_V → jm_I → Prop} {o0 : Option jm_V} {o1 : Option jm_V} {o2 : Option jm_V} {x3 : Int}  (k : Gx (jx_0 L) d md_M_upon 20 [o0, o1, o2, some (.inl (x3 + 1))] [] I Q) : Gx (jx_0 L) d md_M_upon 43 [o0, o1, o2, some (.inl x3)] [] I Q := by
  show jm_Go d 0 0 md_M_upon 43 [o0, o1, o2, some (.inl x3)] [] (jx (jx_0 L) I) (jx_Q (jx_0 L) Q)
  have hd : jm_dc md_M_upon.2.1 43 [(.iinc 3 1, 3), (.goto (-26), 3)] = true := by decide +kernel
  refine go_iinc rfl hd (fun hd => ?_)
  exact go_goto (by decide) hd k
theorem b_M_upon_49 {L : Nat} {d : Nat} {I : jm_I} {Q : Option jm_V → jm_I → Prop} {o0 : Option jm_V} {o1 : Option jm_V} {o2 : Option jm_V} {x3 : Int}  (hz : (-2147483648 ≤ x3 ∧ x3 < 2147483648)) (kt : x3 ≤ 20 → Gx (jx_0 L) d md_M_upon 60 [o0, o1, o2, some (.inl x3)] [] I Q) (kf : ¬ (x3 ≤ 20) → Gx (jx_0 L) d md_M_upon 55 [o0, o1, o2, some (.inl x3)] [] I Q) : Gx (jx_0 L) d md_M_upon 49 [o0, o1, o2, some (.inl x3)] [] I Q := by
  have hz1 := hz
  show jm_Go d 0 0 md_M_upon 49 [o0, o1, o2, some (.inl x3)] [] (jx (jx_0 L) I) (jx_Q (jx_0 L) Q)
  have hd : jm_dc md_M_upon.2.1 49 [(.iload_n 3, 1), (.bipush 20, 2), (.if_icmp .le 8, 3)] = true := by decide +kernel
  refine go_iload_n rfl hd (fun hd => ?_)
  refine go_bipush (by decide) hd (fun hd => ?_)
  exact go_icmp_le (by decide) hz1 ⟨by decide, by decide⟩ hd kt kf
theorem b_M_upon_55 {L : Nat} {d : Nat} {I : jm_I} {Q : Option jm_V → jm_I → Prop} {o0 : Option jm_V} {o1 : Option jm_V} {o2 : Option jm_V} {o3 : Option jm_V}  (k : Gx (jx_0 L) d md_M_upon 61 [o0, o1, o2, o3] [.inl (-9)] I Q) : Gx (jx_0 L) d md_M_upon 55 [o0, o1, o2, o3] [] I Q := by
  show jm_Go d 0 0 md_M_upon 55 [o0, o1, o2, o3] [] (jx (jx_0 L) I) (jx_Q (jx_0 L) Q)
  have hd : jm_dc md_M_upon.2.1 55 [(.bipush (-9), 2), (.goto 4, 3)] = true := by decide +kernel
  refine go_bipush (by decide) hd (fun hd => ?_)
  exact go_goto (by decide) hd k
theorem b_M_upon_60 {L : Nat} {d : Nat} {I : jm_I} {Q : Option jm_V → jm_I → Prop} {o0 : Option jm_V} {o1 : Option jm_V} {o2 : Option jm_V} {x3 : Int}  (k : Gx (jx_0 L) d md_M_upon 61 [o0, o1, o2, some (.inl x3)] [.inl x3] I Q) : Gx (jx_0 L) d md_M_upon 60 [o0, o1, o2, some (.inl x3)] [] I Q := by
  show jm_Go d 0 0 md_M_upon 60 [o0, o1, o2, some (.inl x3)] [] (jx (jx_0 L) I) (jx_Q (jx_0 L) Q)
  have hd : jm_dc md_M_upon.2.1 60 [(.iload_n 3, 1)] = true := by decide +kernel
  refine go_iload_n rfl hd (fun hd => ?_)
  exact k
theorem b_M_upon_61 {L : Nat} {d : Nat} {I : jm_I} {Q : Option jm_V → jm_I → Prop} {o0 : Option jm_V} {o1 : Option jm_V} {o2 : Option jm_V} {o3 : Option jm_V} {s0 : Int}  (k : Q (some (.inl s0)) I) : Gx (jx_0 L) d md_M_upon 61 [o0, o1, o2, o3] [.inl s0] I Q := by
  show jm_Go d 0 0 md_M_upon 61 [o0, o1, o2, o3] [.inl s0] (jx (jx_0 L) I) (jx_Q (jx_0 L) Q)
  have hd : jm_dc md_M_upon.2.1 61 [(.ireturn, 1)] = true := by decide +kernel
  exact go_ireturn hd rfl ⟨_, rfl, k⟩
theorem b_M_reach_0 {L : Nat} {d : Nat} {I : jm_I} {Q : Option jm_V → jm_I → Prop} {x1 : Int}  (k : Cx (jx_0 L) d md_M_isPerson [.inr (.inl 167), .inl x1] I (fun v J => Gx (jx_0 L) (d + 1) md_M_reach 5 [some (.inr (.inl 167)), some (.inl x1), none, none, none] (v.toList ++ []) J Q)) : Cx (jx_0 L) (d + 1) md_M_reach [.inr (.inl 167), .inl x1] I Q := by
  show jm_Go (d + 1) 0 0 md_M_reach 0 [some (.inr (.inl 167)), some (.inl x1), none, none, none] [] (jx (jx_0 L) I) (jx_Q (jx_0 L) Q)
  have hd : jm_dc md_M_reach.2.1 0 [(.aload_n 0, 1), (.iload_n 1, 1), (.invokevirtual 164, 3)] = true := by decide +kernel
  refine go_aload_n rfl hd (fun hd => ?_)
  refine go_iload_n rfl hd (fun hd => ?_)
  exact gx_virtual 167 9 [.inl x1] [] mk_M_isPerson co_X9 rfl ml_9_164 in_M_isPerson se_M_isPerson rfl rfl (Nat.le_of_ble_eq_true rfl) rfl (Nat.le_of_ble_eq_true rfl) rfl hd k
theorem b_M_reach_5 {L : Nat} {d : Nat} {I : jm_I} {Q : Option jm_V → jm_I → Prop} {o0 : Option jm_V} {o1 : Option jm_V} {o2 : Option jm_V} {o3 : Option jm_V} {o4 : Option jm_V} {s0 : Int}  (hz : (-2147483648 ≤ s0 ∧ s0 < 2147483648)) (kt : ¬ s0 = 0 → Gx (jx_0 L) d md_M_reach 10 [o0, o1, o2, o3, o4] [] I Q) (kf : s0 = 0 → Gx (jx_0 L) d md_M_reach 8 [o0, o1, o2, o3, o4] [] I Q) : Gx (jx_0 L) d md_M_reach 5 [o0, o1, o2, o3, o4] [.inl s0] I Q := by
  have hz1 := hz
  show jm_Go d 0 0 md_M_reach 5 [o0, o1, o2, o3, o4] [.inl s0] (jx (jx_0 L) I) (jx_Q (jx_0 L) Q)
  have hd : jm_dc md_M_reach.2.1 5 [(.ifCond .ne 5, 3)] = true := by decide +kernel
  exact go_if_ne (by decide) hz1 hd kt kf
theorem b_M_reach_8 {L : Nat} {d : Nat} {I : jm_I} {Q : Option jm_V → jm_I → Prop} {o0 : Option jm_V} {o1 : Option jm_V} {o2 : Option jm_V} {o3 : Option jm_V} {o4 : Option jm_V}  (k : Q (some (.inl (-1))) I) : Gx (jx_0 L) d md_M_reach 8 [o0, o1, o2, o3, o4] [] I Q := by
  show jm_Go d 0 0 md_M_reach 8 [o0, o1, o2, o3, o4] [] (jx (jx_0 L) I) (jx_Q (jx_0 L) Q)
  have hd : jm_dc md_M_reach.2.1 8 [(.iconst (-1), 1), (.ireturn, 1)] = true := by decide +kernel
  refine go_iconst hd (fun hd => ?_)
  exact go_ireturn hd rfl ⟨_, rfl, k⟩
theorem b_M_reach_10 {L : Nat} {d : Nat} {I : jm_I} {Q : Option jm_V → jm_I → Prop} {o1 : Option jm_V} {o2 : Option jm_V} {o3 : Option jm_V} {o4 : Option jm_V}  (k : Cx (jx_0 L) d md_M_findFar [.inr (.inl 167), .inl 0] I (fun v J => Gx (jx_0 L) (d + 1) md_M_reach 15 [some (.inr (.inl 167)), o1, o2, o3, o4] (v.toList ++ []) J Q)) : Gx (jx_0 L) (d + 1) md_M_reach 10 [some (.inr (.inl 167)), o1, o2, o3, o4] [] I Q := by
  show jm_Go (d + 1) 0 0 md_M_reach 10 [some (.inr (.inl 167)), o1, o2, o3, o4] [] (jx (jx_0 L) I) (jx_Q (jx_0 L) Q)
  have hd : jm_dc md_M_reach.2.1 10 [(.aload_n 0, 1), (.iconst 0, 1), (.invokevirtual 181, 3)] = true := by decide +kernel
  refine go_aload_n rfl hd (fun hd => ?_)
  refine go_iconst hd (fun hd => ?_)
  exact gx_virtual 167 9 [.inl 0] [] mk_M_findFar co_X9 rfl ml_9_181 in_M_findFar se_M_findFar rfl rfl (Nat.le_of_ble_eq_true rfl) rfl (Nat.le_of_ble_eq_true rfl) rfl hd k
theorem b_M_reach_15 {L : Nat} {d : Nat} {I : jm_I} {Q : Option jm_V → jm_I → Prop} {x1 : Int} {o2 : Option jm_V} {o3 : Option jm_V} {o4 : Option jm_V}  (hz : (0 ≤ 11 + x1 ∧ 11 + x1 < 27) ∧ (-2147483648 ≤ I 171 (11 + x1).toNat ∧ I 171 (11 + x1).toNat < 2147483648)) (kt : ¬ (I 171 (11 + x1).toNat) = (-9) → Gx (jx_0 L) d md_M_reach 36 [some (.inr (.inl 167)), some (.inl x1), o2, o3, o4] [] I Q) (kf : (I 171 (11 + x1).toNat) = (-9) → Gx (jx_0 L) d md_M_reach 29 [some (.inr (.inl 167)), some (.inl x1), o2, o3, o4] [] I Q) : Gx (jx_0 L) d md_M_reach 15 [some (.inr (.inl 167)), some (.inl x1), o2, o3, o4] [] I Q := by
  obtain ⟨hz1, hz2⟩ := hz
  show jm_Go d 0 0 md_M_reach 15 [some (.inr (.inl 167)), some (.inl x1), o2, o3, o4] [] (jx (jx_0 L) I) (jx_Q (jx_0 L) Q)
  have hd : jm_dc md_M_reach.2.1 15 [(.aload_n 0, 1), (.getfield 26, 3), (.bipush 11, 2), (.iload_n 1, 1), (.iadd, 1), (.iaload, 1), (.bipush (-9), 2), (.if_icmp .ne 10, 3)] = true := by decide +kernel
  refine go_aload_n rfl hd (fun hd => ?_)
  refine go_getR co_X9 fl_9_26 (by decide) rfl rfl rfl hd (fun hd => ?_)
  refine go_bipush (by decide) hd (fun hd => ?_)
  refine go_iload_n rfl hd (fun hd => ?_)
  refine go_iadd hd (fun hd => ?_)
  refine go_iaload rfl hz1.1 hz1.2 (by decide) hd (fun hd => ?_)
  refine go_bipush (by decide) hd (fun hd => ?_)
  exact go_icmp_ne (by decide) hz2 ⟨by decide, by decide⟩ hd kt kf
theorem b_M_reach_29 {L : Nat} {d : Nat} {I : jm_I} {Q : Option jm_V → jm_I → Prop} {o1 : Option jm_V} {o2 : Option jm_V} {o3 : Option jm_V} {o4 : Option jm_V}  (k : Gx (jx_0 L) d md_M_reach 45 [some (.inr (.inl 167)), o1, o2, o3, o4] [.inl (I 167 3)] I Q) : Gx (jx_0 L) d md_M_reach 29 [some (.inr (.inl 167)), o1, o2, o3, o4] [] I Q := by
  show jm_Go d 0 0 md_M_reach 29 [some (.inr (.inl 167)), o1, o2, o3, o4] [] (jx (jx_0 L) I) (jx_Q (jx_0 L) Q)
  have hd : jm_dc md_M_reach.2.1 29 [(.aload_n 0, 1), (.getfield 17, 3), (.goto 12, 3)] = true := by decide +kernel
  refine go_aload_n rfl hd (fun hd => ?_)
  refine go_getI co_X9 fl_9_17 (by decide) (Or.inl rfl) rfl hd (fun hd => ?_)
  exact go_goto (by decide) hd k
theorem b_M_reach_36 {L : Nat} {d : Nat} {I : jm_I} {Q : Option jm_V → jm_I → Prop} {x1 : Int} {o2 : Option jm_V} {o3 : Option jm_V} {o4 : Option jm_V}  (hz : (0 ≤ 11 + x1 ∧ 11 + x1 < 27)) (k : Gx (jx_0 L) d md_M_reach 45 [some (.inr (.inl 167)), some (.inl x1), o2, o3, o4] [.inl (I 171 (11 + x1).toNat)] I Q) : Gx (jx_0 L) d md_M_reach 36 [some (.inr (.inl 167)), some (.inl x1), o2, o3, o4] [] I Q := by
  have hz1 := hz
  show jm_Go d 0 0 md_M_reach 36 [some (.inr (.inl 167)), some (.inl x1), o2, o3, o4] [] (jx (jx_0 L) I) (jx_Q (jx_0 L) Q)
  have hd : jm_dc md_M_reach.2.1 36 [(.aload_n 0, 1), (.getfield 26, 3), (.bipush 11, 2), (.iload_n 1, 1), (.iadd, 1), (.iaload, 1)] = true := by decide +kernel
  refine go_aload_n rfl hd (fun hd => ?_)
  refine go_getR co_X9 fl_9_26 (by decide) rfl rfl rfl hd (fun hd => ?_)
  refine go_bipush (by decide) hd (fun hd => ?_)
  refine go_iload_n rfl hd (fun hd => ?_)
  refine go_iadd hd (fun hd => ?_)
  refine go_iaload rfl hz1.1 hz1.2 (by decide) hd (fun hd => ?_)
  exact k
theorem b_M_reach_45 {L : Nat} {d : Nat} {I : jm_I} {Q : Option jm_V → jm_I → Prop} {o0 : Option jm_V} {o1 : Option jm_V} {o2 : Option jm_V} {o3 : Option jm_V} {o4 : Option jm_V} {s0 : Int}  (k : Gx (jx_0 L) d md_M_reach 51 [o0, o1, some (.inl s0), some (.inl 0), some (.inl 0)] [] I Q) : Gx (jx_0 L) d md_M_reach 45 [o0, o1, o2, o3, o4] [.inl s0] I Q := by
  show jm_Go d 0 0 md_M_reach 45 [o0, o1, o2, o3, o4] [.inl s0] (jx (jx_0 L) I) (jx_Q (jx_0 L) Q)
  have hd : jm_dc md_M_reach.2.1 45 [(.istore_n 2, 1), (.iconst 0, 1), (.istore_n 3, 1), (.iconst 0, 1), (.istore 4, 2)] = true := by decide +kernel
  refine go_istore_n (by decide) hd (fun hd => ?_)
  refine go_iconst hd (fun hd => ?_)
  refine go_istore_n (by decide) hd (fun hd => ?_)
  refine go_iconst hd (fun hd => ?_)
  refine go_istore (by decide) hd (fun hd => ?_)
  exact k
theorem b_M_reach_51 {L : Nat} {d : Nat} {I : jm_I} {Q : Option jm_V → jm_I → Prop} {o1 : Option jm_V} {o2 : Option jm_V} {o3 : Option jm_V} {x4 : Int}  (hz : (-2147483648 ≤ x4 ∧ x4 < 2147483648) ∧ (-2147483648 ≤ I 167 0 ∧ I 167 0 < 2147483648)) (kt : (I 167 0) ≤ x4 → Gx (jx_0 L) d md_M_reach 100 [some (.inr (.inl 167)), o1, o2, o3, some (.inl x4)] [] I Q) (kf : ¬ ((I 167 0) ≤ x4) → Gx (jx_0 L) d md_M_reach 60 [some (.inr (.inl 167)), o1, o2, o3, some (.inl x4)] [] I Q) : Gx (jx_0 L) d md_M_reach 51 [some (.inr (.inl 167)), o1, o2, o3, some (.inl x4)] [] I Q := by
  obtain ⟨hz1, hz2⟩ := hz
  show jm_Go d 0 0 md_M_reach 51 [some (.inr (.inl 167)), o1, o2, o3, some (.inl x4)] [] (jx (jx_0 L) I) (jx_Q (jx_0 L) Q)
  have hd : jm_dc md_M_reach.2.1 51 [(.iload 4, 2), (.aload_n 0, 1), (.getfield 7, 3), (.if_icmp .ge 43, 3)] = true := by decide +kernel
  refine go_iload rfl hd (fun hd => ?_)
  refine go_aload_n rfl hd (fun hd => ?_)
  refine go_getI co_X9 fl_9_7 (by decide) (Or.inl rfl) rfl hd (fun hd => ?_)
  exact go_icmp_ge (by decide) hz1 hz2 hd kt kf
theorem b_M_reach_60 {L : Nat} {d : Nat} {I : jm_I} {Q : Option jm_V → jm_I → Prop} {x1 : Int} {x2 : Int} {x3 : Int} {x4 : Int}  (hz : (0 ≤ 1 + x1 ∧ 1 + x1 < 27) ∧ (0 ≤ (6 * (I 171 (1 + x1).toNat)) + x4 ∧ (6 * (I 171 (1 + x1).toNat)) + x4 < 36) ∧ (-2147483648 ≤ I 182 ((6 * (I 171 (1 + x1).toNat)) + x4).toNat ∧ I 182 ((6 * (I 171 (1 + x1).toNat)) + x4).toNat < 2147483648) ∧ (-2147483648 ≤ x2 ∧ x2 < 2147483648)) (kt : x2 < (I 182 ((6 * (I 171 (1 + x1).toNat)) + x4).toNat) → Gx (jx_0 L) d md_M_reach 91 [some (.inr (.inl 167)), some (.inl x1), some (.inl x2), some (.inl x3), some (.inl x4)] [.inl x3] I Q) (kf : ¬ (x2 < (I 182 ((6 * (I 171 (1 + x1).toNat)) + x4).toNat)) → Gx (jx_0 L) d md_M_reach 84 [some (.inr (.inl 167)), some (.inl x1), some (.inl x2), some (.inl x3), some (.inl x4)] [.inl x3] I Q) : Gx (jx_0 L) d md_M_reach 60 [some (.inr (.inl 167)), some (.inl x1), some (.inl x2), some (.inl x3), some (.inl x4)] [] I Q := by
  obtain ⟨hz1, hz2, hz3, hz4⟩ := hz
  show jm_Go d 0 0 md_M_reach 60 [some (.inr (.inl 167)), some (.inl x1), some (.inl x2), some (.inl x3), some (.inl x4)] [] (jx (jx_0 L) I) (jx_Q (jx_0 L) Q)
  have hd : jm_dc md_M_reach.2.1 60 [(.iload_n 3, 1), (.aload_n 0, 1), (.getfield 60, 3), (.bipush 6, 2), (.aload_n 0, 1), (.getfield 26, 3), (.iconst 1, 1), (.iload_n 1, 1), (.iadd, 1), (.iaload, 1), (.imul, 1), (.iload 4, 2), (.iadd, 1), (.iaload, 1), (.iload_n 2, 1), (.if_icmp .gt 10, 3)] = true := by decide +kernel
  refine go_iload_n rfl hd (fun hd => ?_)
  refine go_aload_n rfl hd (fun hd => ?_)
  refine go_getR co_X9 fl_9_60 (by decide) rfl rfl rfl hd (fun hd => ?_)
  refine go_bipush (by decide) hd (fun hd => ?_)
  refine go_aload_n rfl hd (fun hd => ?_)
  refine go_getR co_X9 fl_9_26 (by decide) rfl rfl rfl hd (fun hd => ?_)
  refine go_iconst hd (fun hd => ?_)
  refine go_iload_n rfl hd (fun hd => ?_)
  refine go_iadd hd (fun hd => ?_)
  refine go_iaload rfl hz1.1 hz1.2 (by decide) hd (fun hd => ?_)
  refine go_imul hd (fun hd => ?_)
  refine go_iload rfl hd (fun hd => ?_)
  refine go_iadd hd (fun hd => ?_)
  refine go_iaload rfl hz2.1 hz2.2 (by decide) hd (fun hd => ?_)
  refine go_iload_n rfl hd (fun hd => ?_)
  exact go_icmp_gt (by decide) hz3 hz4 hd kt kf
theorem b_M_reach_84 {L : Nat} {d : Nat} {I : jm_I} {Q : Option jm_V → jm_I → Prop} {o0 : Option jm_V} {o1 : Option jm_V} {o2 : Option jm_V} {o3 : Option jm_V} {x4 : Int} {s0 : Int}  (k : Gx (jx_0 L) d md_M_reach 92 [o0, o1, o2, o3, some (.inl x4)] [.inl (jb_shl 1 x4), .inl s0] I Q) : Gx (jx_0 L) d md_M_reach 84 [o0, o1, o2, o3, some (.inl x4)] [.inl s0] I Q := by
  show jm_Go d 0 0 md_M_reach 84 [o0, o1, o2, o3, some (.inl x4)] [.inl s0] (jx (jx_0 L) I) (jx_Q (jx_0 L) Q)
  have hd : jm_dc md_M_reach.2.1 84 [(.iconst 1, 1), (.iload 4, 2), (.ishl, 1), (.goto 4, 3)] = true := by decide +kernel
  refine go_iconst hd (fun hd => ?_)
  refine go_iload rfl hd (fun hd => ?_)
  refine go_ishl hd (fun hd => ?_)
  exact go_goto (by decide) hd k
theorem b_M_reach_91 {L : Nat} {d : Nat} {I : jm_I} {Q : Option jm_V → jm_I → Prop} {o0 : Option jm_V} {o1 : Option jm_V} {o2 : Option jm_V} {o3 : Option jm_V} {o4 : Option jm_V} {s0 : Int}  (k : Gx (jx_0 L) d md_M_reach 92 [o0, o1, o2, o3, o4] [.inl 0, .inl s0] I Q) : Gx (jx_0 L) d md_M_reach 91 [o0, o1, o2, o3, o4] [.inl s0] I Q := by
  show jm_Go d 0 0 md_M_reach 91 [o0, o1, o2, o3, o4] [.inl s0] (jx (jx_0 L) I) (jx_Q (jx_0 L) Q)
  have hd : jm_dc md_M_reach.2.1 91 [(.iconst 0, 1)] = true := by decide +kernel
  refine go_iconst hd (fun hd => ?_)
  exact k
theorem b_M_reach_92 {L : Nat} {d : Nat} {I : jm_I} {Q : Option jm_V → jm_I → Prop} {o0 : Option jm_V} {o1 : Option jm_V} {o2 : Option jm_V} {o3 : Option jm_V} {x4 : Int} {s0 : Int} {s1 : Int}  (k : Gx (jx_0 L) d md_M_reach 51 [o0, o1, o2, some (.inl (jb_or s0 s1)), some (.inl (x4 + 1))] [] I Q) : Gx (jx_0 L) d md_M_reach 92 [o0, o1, o2, o3, some (.inl x4)] [.inl s1, .inl s0] I Q := by
  show jm_Go d 0 0 md_M_reach 92 [o0, o1, o2, o3, some (.inl x4)] [.inl s1, .inl s0] (jx (jx_0 L) I) (jx_Q (jx_0 L) Q)
  have hd : jm_dc md_M_reach.2.1 92 [(.ior, 1), (.istore_n 3, 1), (.iinc 4 1, 3), (.goto (-46), 3)] = true := by decide +kernel
  refine go_ior hd (fun hd => ?_)
  refine go_istore_n (by decide) hd (fun hd => ?_)
  refine go_iinc rfl hd (fun hd => ?_)
  exact go_goto (by decide) hd k
theorem b_M_reach_100 {L : Nat} {d : Nat} {I : jm_I} {Q : Option jm_V → jm_I → Prop} {o0 : Option jm_V} {o1 : Option jm_V} {o2 : Option jm_V} {x3 : Int} {o4 : Option jm_V}  (k : Q (some (.inl x3)) I) : Gx (jx_0 L) d md_M_reach 100 [o0, o1, o2, some (.inl x3), o4] [] I Q := by
  show jm_Go d 0 0 md_M_reach 100 [o0, o1, o2, some (.inl x3), o4] [] (jx (jx_0 L) I) (jx_Q (jx_0 L) Q)
  have hd : jm_dc md_M_reach.2.1 100 [(.iload_n 3, 1), (.ireturn, 1)] = true := by decide +kernel
  refine go_iload_n rfl hd (fun hd => ?_)
  exact go_ireturn hd rfl ⟨_, rfl, k⟩
theorem b_M_presses_0 {L : Nat} {d : Nat} {I : jm_I} {Q : Option jm_V → jm_I → Prop} {x1 : Int} {x2 : Int} {x3 : Int} {x4 : Int}  (k : Cx (jx_0 L) d md_M_isThing [.inr (.inl 167), .inl x1] I (fun v J => Gx (jx_0 L) (d + 1) md_M_presses 5 [some (.inr (.inl 167)), some (.inl x1), some (.inl x2), some (.inl x3), some (.inl x4), none, none, none] (v.toList ++ []) J Q)) : Cx (jx_0 L) (d + 1) md_M_presses [.inr (.inl 167), .inl x1, .inl x2, .inl x3, .inl x4] I Q := by
  show jm_Go (d + 1) 0 0 md_M_presses 0 [some (.inr (.inl 167)), some (.inl x1), some (.inl x2), some (.inl x3), some (.inl x4), none, none, none] [] (jx (jx_0 L) I) (jx_Q (jx_0 L) Q)
  have hd : jm_dc md_M_presses.2.1 0 [(.aload_n 0, 1), (.iload_n 1, 1), (.invokevirtual 172, 3)] = true := by decide +kernel
  refine go_aload_n rfl hd (fun hd => ?_)
  refine go_iload_n rfl hd (fun hd => ?_)
  exact gx_virtual 167 9 [.inl x1] [] mk_M_isThing co_X9 rfl ml_9_172 in_M_isThing se_M_isThing rfl rfl (Nat.le_of_ble_eq_true rfl) rfl (Nat.le_of_ble_eq_true rfl) rfl hd k
theorem b_M_presses_5 {L : Nat} {d : Nat} {I : jm_I} {Q : Option jm_V → jm_I → Prop} {o0 : Option jm_V} {o1 : Option jm_V} {o2 : Option jm_V} {o3 : Option jm_V} {o4 : Option jm_V} {o5 : Option jm_V} {o6 : Option jm_V} {o7 : Option jm_V} {s0 : Int}  (hz : (-2147483648 ≤ s0 ∧ s0 < 2147483648)) (kt : s0 = 0 → Gx (jx_0 L) d md_M_presses 36 [o0, o1, o2, o3, o4, o5, o6, o7] [] I Q) (kf : ¬ s0 = 0 → Gx (jx_0 L) d md_M_presses 8 [o0, o1, o2, o3, o4, o5, o6, o7] [] I Q) : Gx (jx_0 L) d md_M_presses 5 [o0, o1, o2, o3, o4, o5, o6, o7] [.inl s0] I Q := by
  have hz1 := hz
  show jm_Go d 0 0 md_M_presses 5 [o0, o1, o2, o3, o4, o5, o6, o7] [.inl s0] (jx (jx_0 L) I) (jx_Q (jx_0 L) Q)
  have hd : jm_dc md_M_presses.2.1 5 [(.ifCond .eq 31, 3)] = true := by decide +kernel
  exact go_if_eq (by decide) hz1 hd kt kf
theorem b_M_presses_8 {L : Nat} {d : Nat} {I : jm_I} {Q : Option jm_V → jm_I → Prop} {o1 : Option jm_V} {x2 : Int} {o3 : Option jm_V} {o4 : Option jm_V} {o5 : Option jm_V} {o6 : Option jm_V} {o7 : Option jm_V}  (k : Cx (jx_0 L) d md_M_isRoom [.inr (.inl 167), .inl x2] I (fun v J => Gx (jx_0 L) (d + 1) md_M_presses 13 [some (.inr (.inl 167)), o1, some (.inl x2), o3, o4, o5, o6, o7] (v.toList ++ []) J Q)) : Gx (jx_0 L) (d + 1) md_M_presses 8 [some (.inr (.inl 167)), o1, some (.inl x2), o3, o4, o5, o6, o7] [] I Q := by
  show jm_Go (d + 1) 0 0 md_M_presses 8 [some (.inr (.inl 167)), o1, some (.inl x2), o3, o4, o5, o6, o7] [] (jx (jx_0 L) I) (jx_Q (jx_0 L) Q)
  have hd : jm_dc md_M_presses.2.1 8 [(.aload_n 0, 1), (.iload_n 2, 1), (.invokevirtual 178, 3)] = true := by decide +kernel
  refine go_aload_n rfl hd (fun hd => ?_)
  refine go_iload_n rfl hd (fun hd => ?_)
  exact gx_virtual 167 9 [.inl x2] [] mk_M_isRoom co_X9 rfl ml_9_178 in_M_isRoom se_M_isRoom rfl rfl (Nat.le_of_ble_eq_true rfl) rfl (Nat.le_of_ble_eq_true rfl) rfl hd k
theorem b_M_presses_13 {L : Nat} {d : Nat} {I : jm_I} {Q : Option jm_V → jm_I → Prop} {o0 : Option jm_V} {o1 : Option jm_V} {o2 : Option jm_V} {o3 : Option jm_V} {o4 : Option jm_V} {o5 : Option jm_V} {o6 : Option jm_V} {o7 : Option jm_V} {s0 : Int}  (hz : (-2147483648 ≤ s0 ∧ s0 < 2147483648)) (kt : s0 = 0 → Gx (jx_0 L) d md_M_presses 36 [o0, o1, o2, o3, o4, o5, o6, o7] [] I Q) (kf : ¬ s0 = 0 → Gx (jx_0 L) d md_M_presses 16 [o0, o1, o2, o3, o4, o5, o6, o7] [] I Q) : Gx (jx_0 L) d md_M_presses 13 [o0, o1, o2, o3, o4, o5, o6, o7] [.inl s0] I Q := by
  have hz1 := hz
  show jm_Go d 0 0 md_M_presses 13 [o0, o1, o2, o3, o4, o5, o6, o7] [.inl s0] (jx (jx_0 L) I) (jx_Q (jx_0 L) Q)
  have hd : jm_dc md_M_presses.2.1 13 [(.ifCond .eq 23, 3)] = true := by decide +kernel
  exact go_if_eq (by decide) hz1 hd kt kf
theorem b_M_presses_16 {L : Nat} {d : Nat} {I : jm_I} {Q : Option jm_V → jm_I → Prop} {o0 : Option jm_V} {o1 : Option jm_V} {o2 : Option jm_V} {x3 : Int} {o4 : Option jm_V} {o5 : Option jm_V} {o6 : Option jm_V} {o7 : Option jm_V}  (k : Cx (jx_0 L) d md_M_in [.inl x3, .inl 0, .inl 12] I (fun v J => Gx (jx_0 L) (d + 1) md_M_presses 23 [o0, o1, o2, some (.inl x3), o4, o5, o6, o7] (v.toList ++ []) J Q)) : Gx (jx_0 L) (d + 1) md_M_presses 16 [o0, o1, o2, some (.inl x3), o4, o5, o6, o7] [] I Q := by
  show jm_Go (d + 1) 0 0 md_M_presses 16 [o0, o1, o2, some (.inl x3), o4, o5, o6, o7] [] (jx (jx_0 L) I) (jx_Q (jx_0 L) Q)
  have hd : jm_dc md_M_presses.2.1 16 [(.iload_n 3, 1), (.iconst 0, 1), (.bipush 12, 2), (.invokestatic 78, 3)] = true := by decide +kernel
  refine go_iload_n rfl hd (fun hd => ?_)
  refine go_iconst hd (fun hd => ?_)
  refine go_bipush (by decide) hd (fun hd => ?_)
  exact gx_static [.inl x3, .inl 0, .inl 12] [] mk_M_in ml_9_78 st_M_in rfl (Nat.le_of_ble_eq_true rfl) rfl (Nat.le_of_ble_eq_true rfl) rfl hd k
theorem b_M_presses_23 {L : Nat} {d : Nat} {I : jm_I} {Q : Option jm_V → jm_I → Prop} {o0 : Option jm_V} {o1 : Option jm_V} {o2 : Option jm_V} {o3 : Option jm_V} {o4 : Option jm_V} {o5 : Option jm_V} {o6 : Option jm_V} {o7 : Option jm_V} {s0 : Int}  (hz : (-2147483648 ≤ s0 ∧ s0 < 2147483648)) (kt : s0 = 0 → Gx (jx_0 L) d md_M_presses 36 [o0, o1, o2, o3, o4, o5, o6, o7] [] I Q) (kf : ¬ s0 = 0 → Gx (jx_0 L) d md_M_presses 26 [o0, o1, o2, o3, o4, o5, o6, o7] [] I Q) : Gx (jx_0 L) d md_M_presses 23 [o0, o1, o2, o3, o4, o5, o6, o7] [.inl s0] I Q := by
  have hz1 := hz
  show jm_Go d 0 0 md_M_presses 23 [o0, o1, o2, o3, o4, o5, o6, o7] [.inl s0] (jx (jx_0 L) I) (jx_Q (jx_0 L) Q)
  have hd : jm_dc md_M_presses.2.1 23 [(.ifCond .eq 13, 3)] = true := by decide +kernel
  exact go_if_eq (by decide) hz1 hd kt kf
theorem b_M_presses_26 {L : Nat} {d : Nat} {I : jm_I} {Q : Option jm_V → jm_I → Prop} {o0 : Option jm_V} {o1 : Option jm_V} {o2 : Option jm_V} {o3 : Option jm_V} {x4 : Int} {o5 : Option jm_V} {o6 : Option jm_V} {o7 : Option jm_V}  (k : Cx (jx_0 L) d md_M_in [.inl x4, .inl 0, .inl 1] I (fun v J => Gx (jx_0 L) (d + 1) md_M_presses 33 [o0, o1, o2, o3, some (.inl x4), o5, o6, o7] (v.toList ++ []) J Q)) : Gx (jx_0 L) (d + 1) md_M_presses 26 [o0, o1, o2, o3, some (.inl x4), o5, o6, o7] [] I Q := by
  show jm_Go (d + 1) 0 0 md_M_presses 26 [o0, o1, o2, o3, some (.inl x4), o5, o6, o7] [] (jx (jx_0 L) I) (jx_Q (jx_0 L) Q)
  have hd : jm_dc md_M_presses.2.1 26 [(.iload 4, 2), (.iconst 0, 1), (.iconst 1, 1), (.invokestatic 78, 3)] = true := by decide +kernel
  refine go_iload rfl hd (fun hd => ?_)
  refine go_iconst hd (fun hd => ?_)
  refine go_iconst hd (fun hd => ?_)
  exact gx_static [.inl x4, .inl 0, .inl 1] [] mk_M_in ml_9_78 st_M_in rfl (Nat.le_of_ble_eq_true rfl) rfl (Nat.le_of_ble_eq_true rfl) rfl hd k
theorem b_M_presses_33 {L : Nat} {d : Nat} {I : jm_I} {Q : Option jm_V → jm_I → Prop} {o0 : Option jm_V} {o1 : Option jm_V} {o2 : Option jm_V} {o3 : Option jm_V} {o4 : Option jm_V} {o5 : Option jm_V} {o6 : Option jm_V} {o7 : Option jm_V} {s0 : Int}  (hz : (-2147483648 ≤ s0 ∧ s0 < 2147483648)) (kt : ¬ s0 = 0 → Gx (jx_0 L) d md_M_presses 38 [o0, o1, o2, o3, o4, o5, o6, o7] [] I Q) (kf : s0 = 0 → Gx (jx_0 L) d md_M_presses 36 [o0, o1, o2, o3, o4, o5, o6, o7] [] I Q) : Gx (jx_0 L) d md_M_presses 33 [o0, o1, o2, o3, o4, o5, o6, o7] [.inl s0] I Q := by
  have hz1 := hz
  show jm_Go d 0 0 md_M_presses 33 [o0, o1, o2, o3, o4, o5, o6, o7] [.inl s0] (jx (jx_0 L) I) (jx_Q (jx_0 L) Q)
  have hd : jm_dc md_M_presses.2.1 33 [(.ifCond .ne 5, 3)] = true := by decide +kernel
  exact go_if_ne (by decide) hz1 hd kt kf
theorem b_M_presses_36 {L : Nat} {d : Nat} {I : jm_I} {Q : Option jm_V → jm_I → Prop} {o0 : Option jm_V} {o1 : Option jm_V} {o2 : Option jm_V} {o3 : Option jm_V} {o4 : Option jm_V} {o5 : Option jm_V} {o6 : Option jm_V} {o7 : Option jm_V}  (k : Q (some (.inl (-1))) I) : Gx (jx_0 L) d md_M_presses 36 [o0, o1, o2, o3, o4, o5, o6, o7] [] I Q := by
  show jm_Go d 0 0 md_M_presses 36 [o0, o1, o2, o3, o4, o5, o6, o7] [] (jx (jx_0 L) I) (jx_Q (jx_0 L) Q)
  have hd : jm_dc md_M_presses.2.1 36 [(.iconst (-1), 1), (.ireturn, 1)] = true := by decide +kernel
  refine go_iconst hd (fun hd => ?_)
  exact go_ireturn hd rfl ⟨_, rfl, k⟩
theorem b_M_presses_38 {L : Nat} {d : Nat} {I : jm_I} {Q : Option jm_V → jm_I → Prop} {o1 : Option jm_V} {o2 : Option jm_V} {o3 : Option jm_V} {o4 : Option jm_V} {o5 : Option jm_V} {o6 : Option jm_V} {o7 : Option jm_V}  (k : Cx (jx_0 L) d md_M_findFar [.inr (.inl 167), .inl 0] I (fun v J => Gx (jx_0 L) (d + 1) md_M_presses 43 [some (.inr (.inl 167)), o1, o2, o3, o4, o5, o6, o7] (v.toList ++ []) J Q)) : Gx (jx_0 L) (d + 1) md_M_presses 38 [some (.inr (.inl 167)), o1, o2, o3, o4, o5, o6, o7] [] I Q := by
  show jm_Go (d + 1) 0 0 md_M_presses 38 [some (.inr (.inl 167)), o1, o2, o3, o4, o5, o6, o7] [] (jx (jx_0 L) I) (jx_Q (jx_0 L) Q)
  have hd : jm_dc md_M_presses.2.1 38 [(.aload_n 0, 1), (.iconst 0, 1), (.invokevirtual 181, 3)] = true := by decide +kernel
  refine go_aload_n rfl hd (fun hd => ?_)
  refine go_iconst hd (fun hd => ?_)
  exact gx_virtual 167 9 [.inl 0] [] mk_M_findFar co_X9 rfl ml_9_181 in_M_findFar se_M_findFar rfl rfl (Nat.le_of_ble_eq_true rfl) rfl (Nat.le_of_ble_eq_true rfl) rfl hd k
theorem b_M_presses_43 {L : Nat} {d : Nat} {I : jm_I} {Q : Option jm_V → jm_I → Prop} {o0 : Option jm_V} {o1 : Option jm_V} {o2 : Option jm_V} {o3 : Option jm_V} {x4 : Int} {o5 : Option jm_V} {o6 : Option jm_V} {o7 : Option jm_V}  (hz : (-2147483648 ≤ x4 ∧ x4 < 2147483648)) (kt : ¬ x4 = 0 → Gx (jx_0 L) d md_M_presses 60 [o0, o1, o2, o3, some (.inl x4), o5, o6, o7] [] I Q) (kf : x4 = 0 → Gx (jx_0 L) d md_M_presses 48 [o0, o1, o2, o3, some (.inl x4), o5, o6, o7] [] I Q) : Gx (jx_0 L) d md_M_presses 43 [o0, o1, o2, o3, some (.inl x4), o5, o6, o7] [] I Q := by
  have hz1 := hz
  show jm_Go d 0 0 md_M_presses 43 [o0, o1, o2, o3, some (.inl x4), o5, o6, o7] [] (jx (jx_0 L) I) (jx_Q (jx_0 L) Q)
  have hd : jm_dc md_M_presses.2.1 43 [(.iload 4, 2), (.ifCond .ne 15, 3)] = true := by decide +kernel
  refine go_iload rfl hd (fun hd => ?_)
  exact go_if_ne (by decide) hz1 hd kt kf
theorem b_M_presses_48 {L : Nat} {d : Nat} {I : jm_I} {Q : Option jm_V → jm_I → Prop} {x1 : Int} {x2 : Int} {x3 : Int} {o4 : Option jm_V} {o5 : Option jm_V} {o6 : Option jm_V} {o7 : Option jm_V}  (k : Cx (jx_0 L) d md_M_mayPress [.inr (.inl 167)] I (fun v J => Gx (jx_0 L) (d + 1) md_M_presses 56 [some (.inr (.inl 167)), some (.inl x1), some (.inl x2), some (.inl x3), o4, o5, o6, o7] (v.toList ++ [.inl x3, .inl x2, .inl x1, .inr (.inl 167)]) J Q)) : Gx (jx_0 L) (d + 1) md_M_presses 48 [some (.inr (.inl 167)), some (.inl x1), some (.inl x2), some (.inl x3), o4, o5, o6, o7] [] I Q := by
  show jm_Go (d + 1) 0 0 md_M_presses 48 [some (.inr (.inl 167)), some (.inl x1), some (.inl x2), some (.inl x3), o4, o5, o6, o7] [] (jx (jx_0 L) I) (jx_Q (jx_0 L) Q)
  have hd : jm_dc md_M_presses.2.1 48 [(.aload_n 0, 1), (.iload_n 1, 1), (.iload_n 2, 1), (.iload_n 3, 1), (.aload_n 0, 1), (.invokevirtual 228, 3)] = true := by decide +kernel
  refine go_aload_n rfl hd (fun hd => ?_)
  refine go_iload_n rfl hd (fun hd => ?_)
  refine go_iload_n rfl hd (fun hd => ?_)
  refine go_iload_n rfl hd (fun hd => ?_)
  refine go_aload_n rfl hd (fun hd => ?_)
  exact gx_virtual 167 9 [] [.inl x3, .inl x2, .inl x1, .inr (.inl 167)] mk_M_mayPress co_X9 rfl ml_9_228 in_M_mayPress se_M_mayPress rfl rfl (Nat.le_of_ble_eq_true rfl) rfl (Nat.le_of_ble_eq_true rfl) rfl hd k
theorem b_M_presses_56 {L : Nat} {d : Nat} {I : jm_I} {Q : Option jm_V → jm_I → Prop} {o0 : Option jm_V} {o1 : Option jm_V} {o2 : Option jm_V} {o3 : Option jm_V} {o4 : Option jm_V} {o5 : Option jm_V} {o6 : Option jm_V} {o7 : Option jm_V} {s1 : Int} {s2 : Int} {s3 : Int} {s4 : Int}  (k : Cx (jx_0 L) d md_M_fewest [.inr (.inl 167), .inl s1, .inl s2, .inl s3, .inl s4] I (fun v J => Gx (jx_0 L) (d + 1) md_M_presses 59 [o0, o1, o2, o3, o4, o5, o6, o7] (v.toList ++ []) J Q)) : Gx (jx_0 L) (d + 1) md_M_presses 56 [o0, o1, o2, o3, o4, o5, o6, o7] [.inl s4, .inl s3, .inl s2, .inl s1, .inr (.inl 167)] I Q := by
  show jm_Go (d + 1) 0 0 md_M_presses 56 [o0, o1, o2, o3, o4, o5, o6, o7] [.inl s4, .inl s3, .inl s2, .inl s1, .inr (.inl 167)] (jx (jx_0 L) I) (jx_Q (jx_0 L) Q)
  have hd : jm_dc md_M_presses.2.1 56 [(.invokevirtual 232, 3)] = true := by decide +kernel
  exact gx_virtual 167 9 [.inl s1, .inl s2, .inl s3, .inl s4] [] mk_M_fewest co_X9 rfl ml_9_232 in_M_fewest se_M_fewest rfl rfl (Nat.le_of_ble_eq_true rfl) rfl (Nat.le_of_ble_eq_true rfl) rfl hd k
theorem b_M_presses_59 {L : Nat} {d : Nat} {I : jm_I} {Q : Option jm_V → jm_I → Prop} {o0 : Option jm_V} {o1 : Option jm_V} {o2 : Option jm_V} {o3 : Option jm_V} {o4 : Option jm_V} {o5 : Option jm_V} {o6 : Option jm_V} {o7 : Option jm_V} {s0 : Int}  (k : Q (some (.inl s0)) I) : Gx (jx_0 L) d md_M_presses 59 [o0, o1, o2, o3, o4, o5, o6, o7] [.inl s0] I Q := by
  show jm_Go d 0 0 md_M_presses 59 [o0, o1, o2, o3, o4, o5, o6, o7] [.inl s0] (jx (jx_0 L) I) (jx_Q (jx_0 L) Q)
  have hd : jm_dc md_M_presses.2.1 59 [(.ireturn, 1)] = true := by decide +kernel
  exact go_ireturn hd rfl ⟨_, rfl, k⟩
theorem b_M_presses_60 {L : Nat} {d : Nat} {I : jm_I} {Q : Option jm_V → jm_I → Prop} {o0 : Option jm_V} {o1 : Option jm_V} {o2 : Option jm_V} {o3 : Option jm_V} {o4 : Option jm_V} {o5 : Option jm_V} {o6 : Option jm_V} {o7 : Option jm_V}  (k : Gx (jx_0 L) d md_M_presses 66 [o0, o1, o2, o3, o4, some (.inl 0), some (.inl 0), o7] [] I Q) : Gx (jx_0 L) d md_M_presses 60 [o0, o1, o2, o3, o4, o5, o6, o7] [] I Q := by
  show jm_Go d 0 0 md_M_presses 60 [o0, o1, o2, o3, o4, o5, o6, o7] [] (jx (jx_0 L) I) (jx_Q (jx_0 L) Q)
  have hd : jm_dc md_M_presses.2.1 60 [(.iconst 0, 1), (.istore 5, 2), (.iconst 0, 1), (.istore 6, 2)] = true := by decide +kernel
  refine go_iconst hd (fun hd => ?_)
  refine go_istore (by decide) hd (fun hd => ?_)
  refine go_iconst hd (fun hd => ?_)
  refine go_istore (by decide) hd (fun hd => ?_)
  exact k
theorem b_M_presses_66 {L : Nat} {d : Nat} {I : jm_I} {Q : Option jm_V → jm_I → Prop} {o1 : Option jm_V} {o2 : Option jm_V} {o3 : Option jm_V} {o4 : Option jm_V} {o5 : Option jm_V} {x6 : Int} {o7 : Option jm_V}  (hz : (-2147483648 ≤ x6 ∧ x6 < 2147483648) ∧ (-2147483648 ≤ I 167 4 ∧ I 167 4 < 2147483648)) (kt : (I 167 4) ≤ x6 → Gx (jx_0 L) d md_M_presses 134 [some (.inr (.inl 167)), o1, o2, o3, o4, o5, some (.inl x6), o7] [] I Q) (kf : ¬ ((I 167 4) ≤ x6) → Gx (jx_0 L) d md_M_presses 75 [some (.inr (.inl 167)), o1, o2, o3, o4, o5, some (.inl x6), o7] [] I Q) : Gx (jx_0 L) d md_M_presses 66 [some (.inr (.inl 167)), o1, o2, o3, o4, o5, some (.inl x6), o7] [] I Q := by
  obtain ⟨hz1, hz2⟩ := hz
  show jm_Go d 0 0 md_M_presses 66 [some (.inr (.inl 167)), o1, o2, o3, o4, o5, some (.inl x6), o7] [] (jx (jx_0 L) I) (jx_Q (jx_0 L) Q)
  have hd : jm_dc md_M_presses.2.1 66 [(.iload 6, 2), (.aload_n 0, 1), (.getfield 82, 3), (.if_icmp .ge 62, 3)] = true := by decide +kernel
  refine go_iload rfl hd (fun hd => ?_)
  refine go_aload_n rfl hd (fun hd => ?_)
  refine go_getI co_X9 fl_9_82 (by decide) (Or.inl rfl) rfl hd (fun hd => ?_)
  exact go_icmp_ge (by decide) hz1 hz2 hd kt kf
theorem b_M_presses_75 {L : Nat} {d : Nat} {I : jm_I} {Q : Option jm_V → jm_I → Prop} {o1 : Option jm_V} {o2 : Option jm_V} {o3 : Option jm_V} {o4 : Option jm_V} {o5 : Option jm_V} {o6 : Option jm_V} {o7 : Option jm_V}  (k : Cx (jx_0 L) d md_M_mayPress [.inr (.inl 167)] I (fun v J => Gx (jx_0 L) (d + 1) md_M_presses 79 [some (.inr (.inl 167)), o1, o2, o3, o4, o5, o6, o7] (v.toList ++ []) J Q)) : Gx (jx_0 L) (d + 1) md_M_presses 75 [some (.inr (.inl 167)), o1, o2, o3, o4, o5, o6, o7] [] I Q := by
  show jm_Go (d + 1) 0 0 md_M_presses 75 [some (.inr (.inl 167)), o1, o2, o3, o4, o5, o6, o7] [] (jx (jx_0 L) I) (jx_Q (jx_0 L) Q)
  have hd : jm_dc md_M_presses.2.1 75 [(.aload_n 0, 1), (.invokevirtual 228, 3)] = true := by decide +kernel
  refine go_aload_n rfl hd (fun hd => ?_)
  exact gx_virtual 167 9 [] [] mk_M_mayPress co_X9 rfl ml_9_228 in_M_mayPress se_M_mayPress rfl rfl (Nat.le_of_ble_eq_true rfl) rfl (Nat.le_of_ble_eq_true rfl) rfl hd k
theorem b_M_presses_79 {L : Nat} {d : Nat} {I : jm_I} {Q : Option jm_V → jm_I → Prop} {o0 : Option jm_V} {o1 : Option jm_V} {o2 : Option jm_V} {o3 : Option jm_V} {o4 : Option jm_V} {o5 : Option jm_V} {x6 : Int} {o7 : Option jm_V} {s0 : Int}  (k : Cx (jx_0 L) d md_M_has [.inl s0, .inl x6] I (fun v J => Gx (jx_0 L) (d + 1) md_M_presses 84 [o0, o1, o2, o3, o4, o5, some (.inl x6), o7] (v.toList ++ []) J Q)) : Gx (jx_0 L) (d + 1) md_M_presses 79 [o0, o1, o2, o3, o4, o5, some (.inl x6), o7] [.inl s0] I Q := by
  show jm_Go (d + 1) 0 0 md_M_presses 79 [o0, o1, o2, o3, o4, o5, some (.inl x6), o7] [.inl s0] (jx (jx_0 L) I) (jx_Q (jx_0 L) Q)
  have hd : jm_dc md_M_presses.2.1 79 [(.iload 6, 2), (.invokestatic 168, 3)] = true := by decide +kernel
  refine go_iload rfl hd (fun hd => ?_)
  exact gx_static [.inl s0, .inl x6] [] mk_M_has ml_9_168 st_M_has rfl (Nat.le_of_ble_eq_true rfl) rfl (Nat.le_of_ble_eq_true rfl) rfl hd k
theorem b_M_presses_84 {L : Nat} {d : Nat} {I : jm_I} {Q : Option jm_V → jm_I → Prop} {o0 : Option jm_V} {o1 : Option jm_V} {o2 : Option jm_V} {o3 : Option jm_V} {o4 : Option jm_V} {o5 : Option jm_V} {o6 : Option jm_V} {o7 : Option jm_V} {s0 : Int}  (hz : (-2147483648 ≤ s0 ∧ s0 < 2147483648)) (kt : s0 = 0 → Gx (jx_0 L) d md_M_presses 107 [o0, o1, o2, o3, o4, o5, o6, o7] [] I Q) (kf : ¬ s0 = 0 → Gx (jx_0 L) d md_M_presses 87 [o0, o1, o2, o3, o4, o5, o6, o7] [] I Q) : Gx (jx_0 L) d md_M_presses 84 [o0, o1, o2, o3, o4, o5, o6, o7] [.inl s0] I Q := by
  have hz1 := hz
  show jm_Go d 0 0 md_M_presses 84 [o0, o1, o2, o3, o4, o5, o6, o7] [.inl s0] (jx (jx_0 L) I) (jx_Q (jx_0 L) Q)
  have hd : jm_dc md_M_presses.2.1 84 [(.ifCond .eq 23, 3)] = true := by decide +kernel
  exact go_if_eq (by decide) hz1 hd kt kf
theorem b_M_presses_87 {L : Nat} {d : Nat} {I : jm_I} {Q : Option jm_V → jm_I → Prop} {x1 : Int} {x2 : Int} {x3 : Int} {o4 : Option jm_V} {o5 : Option jm_V} {x6 : Int} {o7 : Option jm_V}  (k : Cx (jx_0 L) d md_M_fewest [.inr (.inl 167), .inl x1, .inl x2, .inl x3, .inl (jb_shl 1 x6)] I (fun v J => Gx (jx_0 L) (d + 1) md_M_presses 98 [some (.inr (.inl 167)), some (.inl x1), some (.inl x2), some (.inl x3), o4, o5, some (.inl x6), o7] (v.toList ++ []) J Q)) : Gx (jx_0 L) (d + 1) md_M_presses 87 [some (.inr (.inl 167)), some (.inl x1), some (.inl x2), some (.inl x3), o4, o5, some (.inl x6), o7] [] I Q := by
  show jm_Go (d + 1) 0 0 md_M_presses 87 [some (.inr (.inl 167)), some (.inl x1), some (.inl x2), some (.inl x3), o4, o5, some (.inl x6), o7] [] (jx (jx_0 L) I) (jx_Q (jx_0 L) Q)
  have hd : jm_dc md_M_presses.2.1 87 [(.aload_n 0, 1), (.iload_n 1, 1), (.iload_n 2, 1), (.iload_n 3, 1), (.iconst 1, 1), (.iload 6, 2), (.ishl, 1), (.invokevirtual 232, 3)] = true := by decide +kernel
  refine go_aload_n rfl hd (fun hd => ?_)
  refine go_iload_n rfl hd (fun hd => ?_)
  refine go_iload_n rfl hd (fun hd => ?_)
  refine go_iload_n rfl hd (fun hd => ?_)
  refine go_iconst hd (fun hd => ?_)
  refine go_iload rfl hd (fun hd => ?_)
  refine go_ishl hd (fun hd => ?_)
  exact gx_virtual 167 9 [.inl x1, .inl x2, .inl x3, .inl (jb_shl 1 x6)] [] mk_M_fewest co_X9 rfl ml_9_232 in_M_fewest se_M_fewest rfl rfl (Nat.le_of_ble_eq_true rfl) rfl (Nat.le_of_ble_eq_true rfl) rfl hd k
theorem b_M_presses_98 {L : Nat} {d : Nat} {I : jm_I} {Q : Option jm_V → jm_I → Prop} {o0 : Option jm_V} {o1 : Option jm_V} {o2 : Option jm_V} {o3 : Option jm_V} {o4 : Option jm_V} {o5 : Option jm_V} {o6 : Option jm_V} {o7 : Option jm_V} {s0 : Int}  (hz : (-2147483648 ≤ s0 ∧ s0 < 2147483648)) (kt : s0 = (-9) → Gx (jx_0 L) d md_M_presses 107 [o0, o1, o2, o3, o4, o5, o6, o7] [] I Q) (kf : ¬ s0 = (-9) → Gx (jx_0 L) d md_M_presses 103 [o0, o1, o2, o3, o4, o5, o6, o7] [] I Q) : Gx (jx_0 L) d md_M_presses 98 [o0, o1, o2, o3, o4, o5, o6, o7] [.inl s0] I Q := by
  have hz1 := hz
  show jm_Go d 0 0 md_M_presses 98 [o0, o1, o2, o3, o4, o5, o6, o7] [.inl s0] (jx (jx_0 L) I) (jx_Q (jx_0 L) Q)
  have hd : jm_dc md_M_presses.2.1 98 [(.bipush (-9), 2), (.if_icmp .eq 7, 3)] = true := by decide +kernel
  refine go_bipush (by decide) hd (fun hd => ?_)
  exact go_icmp_eq (by decide) hz1 ⟨by decide, by decide⟩ hd kt kf
theorem b_M_presses_103 {L : Nat} {d : Nat} {I : jm_I} {Q : Option jm_V → jm_I → Prop} {o0 : Option jm_V} {o1 : Option jm_V} {o2 : Option jm_V} {o3 : Option jm_V} {o4 : Option jm_V} {o5 : Option jm_V} {o6 : Option jm_V} {o7 : Option jm_V}  (k : Gx (jx_0 L) d md_M_presses 108 [o0, o1, o2, o3, o4, o5, o6, o7] [.inl 1] I Q) : Gx (jx_0 L) d md_M_presses 103 [o0, o1, o2, o3, o4, o5, o6, o7] [] I Q := by
  show jm_Go d 0 0 md_M_presses 103 [o0, o1, o2, o3, o4, o5, o6, o7] [] (jx (jx_0 L) I) (jx_Q (jx_0 L) Q)
  have hd : jm_dc md_M_presses.2.1 103 [(.iconst 1, 1), (.goto 4, 3)] = true := by decide +kernel
  refine go_iconst hd (fun hd => ?_)
  exact go_goto (by decide) hd k
theorem b_M_presses_107 {L : Nat} {d : Nat} {I : jm_I} {Q : Option jm_V → jm_I → Prop} {o0 : Option jm_V} {o1 : Option jm_V} {o2 : Option jm_V} {o3 : Option jm_V} {o4 : Option jm_V} {o5 : Option jm_V} {o6 : Option jm_V} {o7 : Option jm_V}  (k : Gx (jx_0 L) d md_M_presses 108 [o0, o1, o2, o3, o4, o5, o6, o7] [.inl 0] I Q) : Gx (jx_0 L) d md_M_presses 107 [o0, o1, o2, o3, o4, o5, o6, o7] [] I Q := by
  show jm_Go d 0 0 md_M_presses 107 [o0, o1, o2, o3, o4, o5, o6, o7] [] (jx (jx_0 L) I) (jx_Q (jx_0 L) Q)
  have hd : jm_dc md_M_presses.2.1 107 [(.iconst 0, 1)] = true := by decide +kernel
  refine go_iconst hd (fun hd => ?_)
  exact k
theorem b_M_presses_108 {L : Nat} {d : Nat} {I : jm_I} {Q : Option jm_V → jm_I → Prop} {o0 : Option jm_V} {o1 : Option jm_V} {o2 : Option jm_V} {o3 : Option jm_V} {o4 : Option jm_V} {x5 : Int} {o6 : Option jm_V} {o7 : Option jm_V} {s0 : Int}  (hz : (-2147483648 ≤ s0 ∧ s0 < 2147483648)) (kt : s0 = 0 → Gx (jx_0 L) d md_M_presses 124 [o0, o1, o2, o3, o4, some (.inl x5), o6, some (.inl s0)] [.inl x5] I Q) (kf : ¬ s0 = 0 → Gx (jx_0 L) d md_M_presses 117 [o0, o1, o2, o3, o4, some (.inl x5), o6, some (.inl s0)] [.inl x5] I Q) : Gx (jx_0 L) d md_M_presses 108 [o0, o1, o2, o3, o4, some (.inl x5), o6, o7] [.inl s0] I Q := by
  have hz1 := hz
  show jm_Go d 0 0 md_M_presses 108 [o0, o1, o2, o3, o4, some (.inl x5), o6, o7] [.inl s0] (jx (jx_0 L) I) (jx_Q (jx_0 L) Q)
  have hd : jm_dc md_M_presses.2.1 108 [(.istore 7, 2), (.iload 5, 2), (.iload 7, 2), (.ifCond .eq 10, 3)] = true := by decide +kernel
  refine go_istore (by decide) hd (fun hd => ?_)
  refine go_iload rfl hd (fun hd => ?_)
  refine go_iload rfl hd (fun hd => ?_)
  exact go_if_eq (by decide) hz1 hd kt kf
theorem b_M_presses_117 {L : Nat} {d : Nat} {I : jm_I} {Q : Option jm_V → jm_I → Prop} {o0 : Option jm_V} {o1 : Option jm_V} {o2 : Option jm_V} {o3 : Option jm_V} {o4 : Option jm_V} {o5 : Option jm_V} {x6 : Int} {o7 : Option jm_V} {s0 : Int}  (k : Gx (jx_0 L) d md_M_presses 125 [o0, o1, o2, o3, o4, o5, some (.inl x6), o7] [.inl (jb_shl 1 x6), .inl s0] I Q) : Gx (jx_0 L) d md_M_presses 117 [o0, o1, o2, o3, o4, o5, some (.inl x6), o7] [.inl s0] I Q := by
  show jm_Go d 0 0 md_M_presses 117 [o0, o1, o2, o3, o4, o5, some (.inl x6), o7] [.inl s0] (jx (jx_0 L) I) (jx_Q (jx_0 L) Q)
  have hd : jm_dc md_M_presses.2.1 117 [(.iconst 1, 1), (.iload 6, 2), (.ishl, 1), (.goto 4, 3)] = true := by decide +kernel
  refine go_iconst hd (fun hd => ?_)
  refine go_iload rfl hd (fun hd => ?_)
  refine go_ishl hd (fun hd => ?_)
  exact go_goto (by decide) hd k
theorem b_M_presses_124 {L : Nat} {d : Nat} {I : jm_I} {Q : Option jm_V → jm_I → Prop} {o0 : Option jm_V} {o1 : Option jm_V} {o2 : Option jm_V} {o3 : Option jm_V} {o4 : Option jm_V} {o5 : Option jm_V} {o6 : Option jm_V} {o7 : Option jm_V} {s0 : Int}  (k : Gx (jx_0 L) d md_M_presses 125 [o0, o1, o2, o3, o4, o5, o6, o7] [.inl 0, .inl s0] I Q) : Gx (jx_0 L) d md_M_presses 124 [o0, o1, o2, o3, o4, o5, o6, o7] [.inl s0] I Q := by
  show jm_Go d 0 0 md_M_presses 124 [o0, o1, o2, o3, o4, o5, o6, o7] [.inl s0] (jx (jx_0 L) I) (jx_Q (jx_0 L) Q)
  have hd : jm_dc md_M_presses.2.1 124 [(.iconst 0, 1)] = true := by decide +kernel
  refine go_iconst hd (fun hd => ?_)
  exact k
theorem b_M_presses_125 {L : Nat} {d : Nat} {I : jm_I} {Q : Option jm_V → jm_I → Prop} {o0 : Option jm_V} {o1 : Option jm_V} {o2 : Option jm_V} {o3 : Option jm_V} {o4 : Option jm_V} {o5 : Option jm_V} {x6 : Int} {o7 : Option jm_V} {s0 : Int} {s1 : Int}  (k : Gx (jx_0 L) d md_M_presses 66 [o0, o1, o2, o3, o4, some (.inl (jb_or s0 s1)), some (.inl (x6 + 1)), o7] [] I Q) : Gx (jx_0 L) d md_M_presses 125 [o0, o1, o2, o3, o4, o5, some (.inl x6), o7] [.inl s1, .inl s0] I Q := by
  show jm_Go d 0 0 md_M_presses 125 [o0, o1, o2, o3, o4, o5, some (.inl x6), o7] [.inl s1, .inl s0] (jx (jx_0 L) I) (jx_Q (jx_0 L) Q)
  have hd : jm_dc md_M_presses.2.1 125 [(.ior, 1), (.istore 5, 2), (.iinc 6 1, 3), (.goto (-65), 3)] = true := by decide +kernel
  refine go_ior hd (fun hd => ?_)
  refine go_istore (by decide) hd (fun hd => ?_)
  refine go_iinc rfl hd (fun hd => ?_)
  exact go_goto (by decide) hd k
theorem b_M_presses_134 {L : Nat} {d : Nat} {I : jm_I} {Q : Option jm_V → jm_I → Prop} {o0 : Option jm_V} {o1 : Option jm_V} {o2 : Option jm_V} {o3 : Option jm_V} {o4 : Option jm_V} {x5 : Int} {o6 : Option jm_V} {o7 : Option jm_V}  (k : Q (some (.inl x5)) I) : Gx (jx_0 L) d md_M_presses 134 [o0, o1, o2, o3, o4, some (.inl x5), o6, o7] [] I Q := by
  show jm_Go d 0 0 md_M_presses 134 [o0, o1, o2, o3, o4, some (.inl x5), o6, o7] [] (jx (jx_0 L) I) (jx_Q (jx_0 L) Q)
  have hd : jm_dc md_M_presses.2.1 134 [(.iload 5, 2), (.ireturn, 1)] = true := by decide +kernel
  refine go_iload rfl hd (fun hd => ?_)
  exact go_ireturn hd rfl ⟨_, rfl, k⟩
theorem b_M_mayPress_0 {L : Nat} {d : Nat} {I : jm_I} {Q : Option jm_V → jm_I → Prop}   (k : Q (some (.inl (jb_and ((jb_shl 1 (I 167 4)) - 1) (jb_xor (I 171 16) (-1))))) I) : Cx (jx_0 L) d md_M_mayPress [.inr (.inl 167)] I Q := by
  show jm_Go d 0 0 md_M_mayPress 0 [some (.inr (.inl 167))] [] (jx (jx_0 L) I) (jx_Q (jx_0 L) Q)
  have hd : jm_dc md_M_mayPress.2.1 0 [(.iconst 1, 1), (.aload_n 0, 1), (.getfield 82, 3), (.ishl, 1), (.iconst 1, 1), (.isub, 1), (.aload_n 0, 1), (.getfield 26, 3), (.bipush 16, 2), (.iaload, 1), (.iconst (-1), 1), (.ixor, 1), (.iand, 1), (.ireturn, 1)] = true := by decide +kernel
  refine go_iconst hd (fun hd => ?_)
  refine go_aload_n rfl hd (fun hd => ?_)
  refine go_getI co_X9 fl_9_82 (by decide) (Or.inl rfl) rfl hd (fun hd => ?_)
  refine go_ishl hd (fun hd => ?_)
  refine go_iconst hd (fun hd => ?_)
  refine go_isub hd (fun hd => ?_)
  refine go_aload_n rfl hd (fun hd => ?_)
  refine go_getR co_X9 fl_9_26 (by decide) rfl rfl rfl hd (fun hd => ?_)
  refine go_bipush (by decide) hd (fun hd => ?_)
  refine go_iaload rfl (by decide) (by decide) (by decide) hd (fun hd => ?_)
  refine go_iconst hd (fun hd => ?_)
  refine go_ixor hd (fun hd => ?_)
  refine go_iand hd (fun hd => ?_)
  exact go_ireturn hd rfl ⟨_, rfl, k⟩
theorem b_M_fewest_0 {L : Nat} {d : Nat} {I : jm_I} {Q : Option jm_V → jm_I → Prop} {x1 : Int} {x2 : Int} {x3 : Int} {x4 : Int}  (k : Gx (jx_0 L) d md_M_fewest 9 [some (.inr (.inl 167)), some (.inl x1), some (.inl x2), some (.inl x3), some (.inl x4), some (.inl 0), none] [] (jm_up I 167 35 (-9)) Q) : Cx (jx_0 L) d md_M_fewest [.inr (.inl 167), .inl x1, .inl x2, .inl x3, .inl x4] I Q := by
  show jm_Go d 0 0 md_M_fewest 0 [some (.inr (.inl 167)), some (.inl x1), some (.inl x2), some (.inl x3), some (.inl x4), none, none] [] (jx (jx_0 L) I) (jx_Q (jx_0 L) Q)
  have hd : jm_dc md_M_fewest.2.1 0 [(.aload_n 0, 1), (.bipush (-9), 2), (.putfield 215, 3), (.iconst 0, 1), (.istore 5, 2)] = true := by decide +kernel
  refine go_aload_n rfl hd (fun hd => ?_)
  refine go_bipush (by decide) hd (fun hd => ?_)
  refine go_putI co_X9 fl_9_215 (by decide) rfl rfl hd (fun hd => ?_)
  refine go_iconst hd (fun hd => ?_)
  refine go_istore (by decide) hd (fun hd => ?_)
  exact k
theorem b_M_fewest_9 {L : Nat} {d : Nat} {I : jm_I} {Q : Option jm_V → jm_I → Prop} {o0 : Option jm_V} {o1 : Option jm_V} {o2 : Option jm_V} {o3 : Option jm_V} {o4 : Option jm_V} {x5 : Int} {o6 : Option jm_V}  (hz : (-2147483648 ≤ x5 ∧ x5 < 2147483648)) (kt : 320 ≤ x5 → Gx (jx_0 L) d md_M_fewest 45 [o0, o1, o2, o3, o4, some (.inl x5), o6] [] I Q) (kf : ¬ (320 ≤ x5) → Gx (jx_0 L) d md_M_fewest 17 [o0, o1, o2, o3, o4, some (.inl x5), o6] [] I Q) : Gx (jx_0 L) d md_M_fewest 9 [o0, o1, o2, o3, o4, some (.inl x5), o6] [] I Q := by
  have hz1 := hz
  show jm_Go d 0 0 md_M_fewest 9 [o0, o1, o2, o3, o4, some (.inl x5), o6] [] (jx (jx_0 L) I) (jx_Q (jx_0 L) Q)
  have hd : jm_dc md_M_fewest.2.1 9 [(.iload 5, 2), (.sipush 320, 3), (.if_icmp .ge 31, 3)] = true := by decide +kernel
  refine go_iload rfl hd (fun hd => ?_)
  refine go_sipush (by decide) hd (fun hd => ?_)
  exact go_icmp_ge (by decide) hz1 ⟨by decide, by decide⟩ hd kt kf
theorem b_M_fewest_17 {L : Nat} {d : Nat} {I : jm_I} {Q : Option jm_V → jm_I → Prop} {x1 : Int} {o2 : Option jm_V} {o3 : Option jm_V} {o4 : Option jm_V} {x5 : Int} {o6 : Option jm_V}  (k : Cx (jx_0 L) d md_M_isNow [.inr (.inl 167), .inl x1] I (fun v J => Gx (jx_0 L) (d + 1) md_M_fewest 30 [some (.inr (.inl 167)), some (.inl x1), o2, o3, o4, some (.inl x5), o6] (v.toList ++ [.inl x5, .inl x5, .inr (.inl 183)]) J Q)) : Gx (jx_0 L) (d + 1) md_M_fewest 17 [some (.inr (.inl 167)), some (.inl x1), o2, o3, o4, some (.inl x5), o6] [] I Q := by
  show jm_Go (d + 1) 0 0 md_M_fewest 17 [some (.inr (.inl 167)), some (.inl x1), o2, o3, o4, some (.inl x5), o6] [] (jx (jx_0 L) I) (jx_Q (jx_0 L) Q)
  have hd : jm_dc md_M_fewest.2.1 17 [(.aload_n 0, 1), (.getfield 63, 3), (.iload 5, 2), (.iload 5, 2), (.aload_n 0, 1), (.iload_n 1, 1), (.invokevirtual 196, 3)] = true := by decide +kernel
  refine go_aload_n rfl hd (fun hd => ?_)
  refine go_getR co_X9 fl_9_63 (by decide) rfl rfl rfl hd (fun hd => ?_)
  refine go_iload rfl hd (fun hd => ?_)
  refine go_iload rfl hd (fun hd => ?_)
  refine go_aload_n rfl hd (fun hd => ?_)
  refine go_iload_n rfl hd (fun hd => ?_)
  exact gx_virtual 167 9 [.inl x1] [.inl x5, .inl x5, .inr (.inl 183)] mk_M_isNow co_X9 rfl ml_9_196 in_M_isNow se_M_isNow rfl rfl (Nat.le_of_ble_eq_true rfl) rfl (Nat.le_of_ble_eq_true rfl) rfl hd k
theorem b_M_fewest_30 {L : Nat} {d : Nat} {I : jm_I} {Q : Option jm_V → jm_I → Prop} {o0 : Option jm_V} {o1 : Option jm_V} {o2 : Option jm_V} {o3 : Option jm_V} {o4 : Option jm_V} {o5 : Option jm_V} {o6 : Option jm_V} {s1 : Int} {s2 : Int} {s3 : Int}  (hz : (-2147483648 ≤ s2 ∧ s2 < 2147483648) ∧ (-2147483648 ≤ s3 ∧ s3 < 2147483648)) (kt : ¬ s2 = s3 → Gx (jx_0 L) d md_M_fewest 37 [o0, o1, o2, o3, o4, o5, o6] [.inl s1, .inr (.inl 183)] I Q) (kf : s2 = s3 → Gx (jx_0 L) d md_M_fewest 33 [o0, o1, o2, o3, o4, o5, o6] [.inl s1, .inr (.inl 183)] I Q) : Gx (jx_0 L) d md_M_fewest 30 [o0, o1, o2, o3, o4, o5, o6] [.inl s3, .inl s2, .inl s1, .inr (.inl 183)] I Q := by
  obtain ⟨hz1, hz2⟩ := hz
  show jm_Go d 0 0 md_M_fewest 30 [o0, o1, o2, o3, o4, o5, o6] [.inl s3, .inl s2, .inl s1, .inr (.inl 183)] (jx (jx_0 L) I) (jx_Q (jx_0 L) Q)
  have hd : jm_dc md_M_fewest.2.1 30 [(.if_icmp .ne 7, 3)] = true := by decide +kernel
  exact go_icmp_ne (by decide) hz1 hz2 hd kt kf
theorem b_M_fewest_33 {L : Nat} {d : Nat} {I : jm_I} {Q : Option jm_V → jm_I → Prop} {o0 : Option jm_V} {o1 : Option jm_V} {o2 : Option jm_V} {o3 : Option jm_V} {o4 : Option jm_V} {o5 : Option jm_V} {o6 : Option jm_V} {s1 : Int}  (k : Gx (jx_0 L) d md_M_fewest 38 [o0, o1, o2, o3, o4, o5, o6] [.inl 1, .inl s1, .inr (.inl 183)] I Q) : Gx (jx_0 L) d md_M_fewest 33 [o0, o1, o2, o3, o4, o5, o6] [.inl s1, .inr (.inl 183)] I Q := by
  show jm_Go d 0 0 md_M_fewest 33 [o0, o1, o2, o3, o4, o5, o6] [.inl s1, .inr (.inl 183)] (jx (jx_0 L) I) (jx_Q (jx_0 L) Q)
  have hd : jm_dc md_M_fewest.2.1 33 [(.iconst 1, 1), (.goto 4, 3)] = true := by decide +kernel
  refine go_iconst hd (fun hd => ?_)
  exact go_goto (by decide) hd k
theorem b_M_fewest_37 {L : Nat} {d : Nat} {I : jm_I} {Q : Option jm_V → jm_I → Prop} {o0 : Option jm_V} {o1 : Option jm_V} {o2 : Option jm_V} {o3 : Option jm_V} {o4 : Option jm_V} {o5 : Option jm_V} {o6 : Option jm_V} {s1 : Int}  (k : Gx (jx_0 L) d md_M_fewest 38 [o0, o1, o2, o3, o4, o5, o6] [.inl 0, .inl s1, .inr (.inl 183)] I Q) : Gx (jx_0 L) d md_M_fewest 37 [o0, o1, o2, o3, o4, o5, o6] [.inl s1, .inr (.inl 183)] I Q := by
  show jm_Go d 0 0 md_M_fewest 37 [o0, o1, o2, o3, o4, o5, o6] [.inl s1, .inr (.inl 183)] (jx (jx_0 L) I) (jx_Q (jx_0 L) Q)
  have hd : jm_dc md_M_fewest.2.1 37 [(.iconst 0, 1)] = true := by decide +kernel
  refine go_iconst hd (fun hd => ?_)
  exact k
theorem b_M_fewest_38 {L : Nat} {d : Nat} {I : jm_I} {Q : Option jm_V → jm_I → Prop} {o0 : Option jm_V} {o1 : Option jm_V} {o2 : Option jm_V} {o3 : Option jm_V} {o4 : Option jm_V} {x5 : Int} {o6 : Option jm_V} {s1 : Int} {s2 : Int}  (hz : (0 ≤ s1 ∧ s1 < 320)) (k : Gx (jx_0 L) d md_M_fewest 9 [o0, o1, o2, o3, o4, some (.inl (x5 + 1)), o6] [] (jm_up I 183 (s1.toNat) s2) Q) : Gx (jx_0 L) d md_M_fewest 38 [o0, o1, o2, o3, o4, some (.inl x5), o6] [.inl s2, .inl s1, .inr (.inl 183)] I Q := by
  have hz1 := hz
  show jm_Go d 0 0 md_M_fewest 38 [o0, o1, o2, o3, o4, some (.inl x5), o6] [.inl s2, .inl s1, .inr (.inl 183)] (jx (jx_0 L) I) (jx_Q (jx_0 L) Q)
  have hd : jm_dc md_M_fewest.2.1 38 [(.iastore, 1), (.iinc 5 1, 3), (.goto (-33), 3)] = true := by decide +kernel
  refine go_iastore rfl hz1.1 hz1.2 (by decide) hd (fun hd => ?_)
  refine go_iinc rfl hd (fun hd => ?_)
  exact go_goto (by decide) hd k
theorem b_M_fewest_45 {L : Nat} {d : Nat} {I : jm_I} {Q : Option jm_V → jm_I → Prop} {o0 : Option jm_V} {o1 : Option jm_V} {o2 : Option jm_V} {o3 : Option jm_V} {o4 : Option jm_V} {o5 : Option jm_V} {o6 : Option jm_V}  (k : Gx (jx_0 L) d md_M_fewest 48 [o0, o1, o2, o3, o4, some (.inl 0), o6] [] I Q) : Gx (jx_0 L) d md_M_fewest 45 [o0, o1, o2, o3, o4, o5, o6] [] I Q := by
  show jm_Go d 0 0 md_M_fewest 45 [o0, o1, o2, o3, o4, o5, o6] [] (jx (jx_0 L) I) (jx_Q (jx_0 L) Q)
  have hd : jm_dc md_M_fewest.2.1 45 [(.iconst 0, 1), (.istore 5, 2)] = true := by decide +kernel
  refine go_iconst hd (fun hd => ?_)
  refine go_istore (by decide) hd (fun hd => ?_)
  exact k
theorem b_M_fewest_48 {L : Nat} {d : Nat} {I : jm_I} {Q : Option jm_V → jm_I → Prop} {o0 : Option jm_V} {o1 : Option jm_V} {o2 : Option jm_V} {x3 : Int} {o4 : Option jm_V} {x5 : Int} {o6 : Option jm_V}  (hz : (-2147483648 ≤ x5 ∧ x5 < 2147483648) ∧ (-2147483648 ≤ x3 ∧ x3 < 2147483648)) (kt : x3 < x5 → Gx (jx_0 L) d md_M_fewest 183 [o0, o1, o2, some (.inl x3), o4, some (.inl x5), o6] [] I Q) (kf : ¬ (x3 < x5) → Gx (jx_0 L) d md_M_fewest 54 [o0, o1, o2, some (.inl x3), o4, some (.inl x5), o6] [] I Q) : Gx (jx_0 L) d md_M_fewest 48 [o0, o1, o2, some (.inl x3), o4, some (.inl x5), o6] [] I Q := by
  obtain ⟨hz1, hz2⟩ := hz
  show jm_Go d 0 0 md_M_fewest 48 [o0, o1, o2, some (.inl x3), o4, some (.inl x5), o6] [] (jx (jx_0 L) I) (jx_Q (jx_0 L) Q)
  have hd : jm_dc md_M_fewest.2.1 48 [(.iload 5, 2), (.iload_n 3, 1), (.if_icmp .gt 132, 3)] = true := by decide +kernel
  refine go_iload rfl hd (fun hd => ?_)
  refine go_iload_n rfl hd (fun hd => ?_)
  exact go_icmp_gt (by decide) hz1 hz2 hd kt kf
theorem b_M_fewest_54 {L : Nat} {d : Nat} {I : jm_I} {Q : Option jm_V → jm_I → Prop} {x1 : Int} {o2 : Option jm_V} {o3 : Option jm_V} {x4 : Int} {o5 : Option jm_V} {o6 : Option jm_V}  (k : Cx (jx_0 L) d md_M_pressesMore [.inr (.inl 167), .inl x1, .inl x4] I (fun v J => Gx (jx_0 L) (d + 1) md_M_fewest 61 [some (.inr (.inl 167)), some (.inl x1), o2, o3, some (.inl x4), o5, o6] (v.toList ++ []) J Q)) : Gx (jx_0 L) (d + 1) md_M_fewest 54 [some (.inr (.inl 167)), some (.inl x1), o2, o3, some (.inl x4), o5, o6] [] I Q := by
  show jm_Go (d + 1) 0 0 md_M_fewest 54 [some (.inr (.inl 167)), some (.inl x1), o2, o3, some (.inl x4), o5, o6] [] (jx (jx_0 L) I) (jx_Q (jx_0 L) Q)
  have hd : jm_dc md_M_fewest.2.1 54 [(.aload_n 0, 1), (.iload_n 1, 1), (.iload 4, 2), (.invokevirtual 221, 3)] = true := by decide +kernel
  refine go_aload_n rfl hd (fun hd => ?_)
  refine go_iload_n rfl hd (fun hd => ?_)
  refine go_iload rfl hd (fun hd => ?_)
  exact gx_virtual 167 9 [.inl x1, .inl x4] [] mk_M_pressesMore co_X9 rfl ml_9_221 in_M_pressesMore se_M_pressesMore rfl rfl (Nat.le_of_ble_eq_true rfl) rfl (Nat.le_of_ble_eq_true rfl) rfl hd k
theorem b_M_fewest_61 {L : Nat} {d : Nat} {I : jm_I} {Q : Option jm_V → jm_I → Prop} {x1 : Int} {x2 : Int} {o3 : Option jm_V} {o4 : Option jm_V} {o5 : Option jm_V} {o6 : Option jm_V}  (k : Cx (jx_0 L) d md_M_notes [.inr (.inl 167), .inl x1, .inl x2] I (fun v J => Gx (jx_0 L) (d + 1) md_M_fewest 67 [some (.inr (.inl 167)), some (.inl x1), some (.inl x2), o3, o4, o5, o6] (v.toList ++ []) J Q)) : Gx (jx_0 L) (d + 1) md_M_fewest 61 [some (.inr (.inl 167)), some (.inl x1), some (.inl x2), o3, o4, o5, o6] [] I Q := by
  show jm_Go (d + 1) 0 0 md_M_fewest 61 [some (.inr (.inl 167)), some (.inl x1), some (.inl x2), o3, o4, o5, o6] [] (jx (jx_0 L) I) (jx_Q (jx_0 L) Q)
  have hd : jm_dc md_M_fewest.2.1 61 [(.aload_n 0, 1), (.iload_n 1, 1), (.iload_n 2, 1), (.invokevirtual 225, 3)] = true := by decide +kernel
  refine go_aload_n rfl hd (fun hd => ?_)
  refine go_iload_n rfl hd (fun hd => ?_)
  refine go_iload_n rfl hd (fun hd => ?_)
  exact gx_virtual 167 9 [.inl x1, .inl x2] [] mk_M_notes co_X9 rfl ml_9_225 in_M_notes se_M_notes rfl rfl (Nat.le_of_ble_eq_true rfl) rfl (Nat.le_of_ble_eq_true rfl) rfl hd k
theorem b_M_fewest_67 {L : Nat} {d : Nat} {I : jm_I} {Q : Option jm_V → jm_I → Prop} {o0 : Option jm_V} {o1 : Option jm_V} {o2 : Option jm_V} {o3 : Option jm_V} {o4 : Option jm_V} {o5 : Option jm_V} {o6 : Option jm_V}  (k : Gx (jx_0 L) d md_M_fewest 70 [o0, o1, o2, o3, o4, o5, some (.inl 0)] [] I Q) : Gx (jx_0 L) d md_M_fewest 67 [o0, o1, o2, o3, o4, o5, o6] [] I Q := by
  show jm_Go d 0 0 md_M_fewest 67 [o0, o1, o2, o3, o4, o5, o6] [] (jx (jx_0 L) I) (jx_Q (jx_0 L) Q)
  have hd : jm_dc md_M_fewest.2.1 67 [(.iconst 0, 1), (.istore 6, 2)] = true := by decide +kernel
  refine go_iconst hd (fun hd => ?_)
  refine go_istore (by decide) hd (fun hd => ?_)
  exact k
theorem b_M_fewest_70 {L : Nat} {d : Nat} {I : jm_I} {Q : Option jm_V → jm_I → Prop} {o0 : Option jm_V} {o1 : Option jm_V} {o2 : Option jm_V} {o3 : Option jm_V} {o4 : Option jm_V} {o5 : Option jm_V} {x6 : Int}  (hz : (-2147483648 ≤ x6 ∧ x6 < 2147483648)) (kt : 320 ≤ x6 → Gx (jx_0 L) d md_M_fewest 92 [o0, o1, o2, o3, o4, o5, some (.inl x6)] [] I Q) (kf : ¬ (320 ≤ x6) → Gx (jx_0 L) d md_M_fewest 78 [o0, o1, o2, o3, o4, o5, some (.inl x6)] [] I Q) : Gx (jx_0 L) d md_M_fewest 70 [o0, o1, o2, o3, o4, o5, some (.inl x6)] [] I Q := by
  have hz1 := hz
  show jm_Go d 0 0 md_M_fewest 70 [o0, o1, o2, o3, o4, o5, some (.inl x6)] [] (jx (jx_0 L) I) (jx_Q (jx_0 L) Q)
  have hd : jm_dc md_M_fewest.2.1 70 [(.iload 6, 2), (.sipush 320, 3), (.if_icmp .ge 17, 3)] = true := by decide +kernel
  refine go_iload rfl hd (fun hd => ?_)
  refine go_sipush (by decide) hd (fun hd => ?_)
  exact go_icmp_ge (by decide) hz1 ⟨by decide, by decide⟩ hd kt kf
theorem b_M_fewest_78 {L : Nat} {d : Nat} {I : jm_I} {Q : Option jm_V → jm_I → Prop} {o1 : Option jm_V} {o2 : Option jm_V} {o3 : Option jm_V} {o4 : Option jm_V} {o5 : Option jm_V} {x6 : Int}  (hz : (0 ≤ x6 ∧ x6 < 320)) (k : Gx (jx_0 L) d md_M_fewest 70 [some (.inr (.inl 167)), o1, o2, o3, o4, o5, some (.inl (x6 + 1))] [] (jm_up I 184 (x6.toNat) 0) Q) : Gx (jx_0 L) d md_M_fewest 78 [some (.inr (.inl 167)), o1, o2, o3, o4, o5, some (.inl x6)] [] I Q := by
  have hz1 := hz
  show jm_Go d 0 0 md_M_fewest 78 [some (.inr (.inl 167)), o1, o2, o3, o4, o5, some (.inl x6)] [] (jx (jx_0 L) I) (jx_Q (jx_0 L) Q)
  have hd : jm_dc md_M_fewest.2.1 78 [(.aload_n 0, 1), (.getfield 66, 3), (.iload 6, 2), (.iconst 0, 1), (.iastore, 1), (.iinc 6 1, 3), (.goto (-19), 3)] = true := by decide +kernel
  refine go_aload_n rfl hd (fun hd => ?_)
  refine go_getR co_X9 fl_9_66 (by decide) rfl rfl rfl hd (fun hd => ?_)
  refine go_iload rfl hd (fun hd => ?_)
  refine go_iconst hd (fun hd => ?_)
  refine go_iastore rfl hz1.1 hz1.2 (by decide) hd (fun hd => ?_)
  refine go_iinc rfl hd (fun hd => ?_)
  exact go_goto (by decide) hd k
theorem b_M_fewest_92 {L : Nat} {d : Nat} {I : jm_I} {Q : Option jm_V → jm_I → Prop} {o0 : Option jm_V} {o1 : Option jm_V} {o2 : Option jm_V} {o3 : Option jm_V} {o4 : Option jm_V} {o5 : Option jm_V} {o6 : Option jm_V}  (k : Gx (jx_0 L) d md_M_fewest 95 [o0, o1, o2, o3, o4, o5, some (.inl 0)] [] I Q) : Gx (jx_0 L) d md_M_fewest 92 [o0, o1, o2, o3, o4, o5, o6] [] I Q := by
  show jm_Go d 0 0 md_M_fewest 92 [o0, o1, o2, o3, o4, o5, o6] [] (jx (jx_0 L) I) (jx_Q (jx_0 L) Q)
  have hd : jm_dc md_M_fewest.2.1 92 [(.iconst 0, 1), (.istore 6, 2)] = true := by decide +kernel
  refine go_iconst hd (fun hd => ?_)
  refine go_istore (by decide) hd (fun hd => ?_)
  exact k
theorem b_M_fewest_95 {L : Nat} {d : Nat} {I : jm_I} {Q : Option jm_V → jm_I → Prop} {o0 : Option jm_V} {o1 : Option jm_V} {o2 : Option jm_V} {o3 : Option jm_V} {o4 : Option jm_V} {o5 : Option jm_V} {x6 : Int}  (hz : (-2147483648 ≤ x6 ∧ x6 < 2147483648)) (kt : 320 ≤ x6 → Gx (jx_0 L) d md_M_fewest 146 [o0, o1, o2, o3, o4, o5, some (.inl x6)] [] I Q) (kf : ¬ (320 ≤ x6) → Gx (jx_0 L) d md_M_fewest 103 [o0, o1, o2, o3, o4, o5, some (.inl x6)] [] I Q) : Gx (jx_0 L) d md_M_fewest 95 [o0, o1, o2, o3, o4, o5, some (.inl x6)] [] I Q := by
  have hz1 := hz
  show jm_Go d 0 0 md_M_fewest 95 [o0, o1, o2, o3, o4, o5, some (.inl x6)] [] (jx (jx_0 L) I) (jx_Q (jx_0 L) Q)
  have hd : jm_dc md_M_fewest.2.1 95 [(.iload 6, 2), (.sipush 320, 3), (.if_icmp .ge 46, 3)] = true := by decide +kernel
  refine go_iload rfl hd (fun hd => ?_)
  refine go_sipush (by decide) hd (fun hd => ?_)
  exact go_icmp_ge (by decide) hz1 ⟨by decide, by decide⟩ hd kt kf
theorem b_M_fewest_103 {L : Nat} {d : Nat} {I : jm_I} {Q : Option jm_V → jm_I → Prop} {o1 : Option jm_V} {o2 : Option jm_V} {o3 : Option jm_V} {o4 : Option jm_V} {o5 : Option jm_V} {x6 : Int}  (hz : (0 ≤ x6 ∧ x6 < 320) ∧ (-2147483648 ≤ I 183 x6.toNat ∧ I 183 x6.toNat < 2147483648)) (kt : ¬ (I 183 x6.toNat) = 1 → Gx (jx_0 L) d md_M_fewest 140 [some (.inr (.inl 167)), o1, o2, o3, o4, o5, some (.inl x6)] [] I Q) (kf : (I 183 x6.toNat) = 1 → Gx (jx_0 L) d md_M_fewest 114 [some (.inr (.inl 167)), o1, o2, o3, o4, o5, some (.inl x6)] [] I Q) : Gx (jx_0 L) d md_M_fewest 103 [some (.inr (.inl 167)), o1, o2, o3, o4, o5, some (.inl x6)] [] I Q := by
  obtain ⟨hz1, hz2⟩ := hz
  show jm_Go d 0 0 md_M_fewest 103 [some (.inr (.inl 167)), o1, o2, o3, o4, o5, some (.inl x6)] [] (jx (jx_0 L) I) (jx_Q (jx_0 L) Q)
  have hd : jm_dc md_M_fewest.2.1 103 [(.aload_n 0, 1), (.getfield 63, 3), (.iload 6, 2), (.iaload, 1), (.iconst 1, 1), (.if_icmp .ne 29, 3)] = true := by decide +kernel
  refine go_aload_n rfl hd (fun hd => ?_)
  refine go_getR co_X9 fl_9_63 (by decide) rfl rfl rfl hd (fun hd => ?_)
  refine go_iload rfl hd (fun hd => ?_)
  refine go_iaload rfl hz1.1 hz1.2 (by decide) hd (fun hd => ?_)
  refine go_iconst hd (fun hd => ?_)
  exact go_icmp_ne (by decide) hz2 ⟨by decide, by decide⟩ hd kt kf
theorem b_M_fewest_114 {L : Nat} {d : Nat} {I : jm_I} {Q : Option jm_V → jm_I → Prop} {x1 : Int} {o2 : Option jm_V} {o3 : Option jm_V} {o4 : Option jm_V} {o5 : Option jm_V} {x6 : Int}  (hz : (0 ≤ x6 ∧ x6 < 2147483648) ∧ (0 ≤ x6 ∧ x6 < 2147483648)) (k : Cx (jx_0 L) d md_M_later [.inr (.inl 167), .inl x1, .inl (x6 % 10), .inl 1] I (fun v J => Gx (jx_0 L) (d + 1) md_M_fewest 137 [some (.inr (.inl 167)), some (.inl x1), o2, o3, o4, o5, some (.inl x6)] (v.toList ++ [.inl ((x6 / 10) * 10), .inr (.inl 184)]) J Q)) : Gx (jx_0 L) (d + 1) md_M_fewest 114 [some (.inr (.inl 167)), some (.inl x1), o2, o3, o4, o5, some (.inl x6)] [] I Q := by
  obtain ⟨hz1, hz2⟩ := hz
  show jm_Go (d + 1) 0 0 md_M_fewest 114 [some (.inr (.inl 167)), some (.inl x1), o2, o3, o4, o5, some (.inl x6)] [] (jx (jx_0 L) I) (jx_Q (jx_0 L) Q)
  have hd : jm_dc md_M_fewest.2.1 114 [(.aload_n 0, 1), (.getfield 66, 3), (.iload 6, 2), (.bipush 10, 2), (.idiv, 1), (.bipush 10, 2), (.imul, 1), (.aload_n 0, 1), (.iload_n 1, 1), (.iload 6, 2), (.bipush 10, 2), (.irem, 1), (.iconst 1, 1), (.invokevirtual 199, 3)] = true := by decide +kernel
  refine go_aload_n rfl hd (fun hd => ?_)
  refine go_getR co_X9 fl_9_66 (by decide) rfl rfl rfl hd (fun hd => ?_)
  refine go_iload rfl hd (fun hd => ?_)
  refine go_bipush (by decide) hd (fun hd => ?_)
  refine go_idiv hz1 (by decide) hd (fun hd => ?_)
  refine go_bipush (by decide) hd (fun hd => ?_)
  refine go_imul hd (fun hd => ?_)
  refine go_aload_n rfl hd (fun hd => ?_)
  refine go_iload_n rfl hd (fun hd => ?_)
  refine go_iload rfl hd (fun hd => ?_)
  refine go_bipush (by decide) hd (fun hd => ?_)
  refine go_irem hz2 (by decide) hd (fun hd => ?_)
  refine go_iconst hd (fun hd => ?_)
  exact gx_virtual 167 9 [.inl x1, .inl (x6 % 10), .inl 1] [.inl ((x6 / 10) * 10), .inr (.inl 184)] mk_M_later co_X9 rfl ml_9_199 in_M_later se_M_later rfl rfl (Nat.le_of_ble_eq_true rfl) rfl (Nat.le_of_ble_eq_true rfl) rfl hd k
theorem b_M_fewest_137 {L : Nat} {d : Nat} {I : jm_I} {Q : Option jm_V → jm_I → Prop} {o0 : Option jm_V} {o1 : Option jm_V} {o2 : Option jm_V} {o3 : Option jm_V} {o4 : Option jm_V} {o5 : Option jm_V} {o6 : Option jm_V} {s1 : Int} {s2 : Int}  (hz : (0 ≤ s1 + s2 ∧ s1 + s2 < 320)) (k : Gx (jx_0 L) d md_M_fewest 140 [o0, o1, o2, o3, o4, o5, o6] [] (jm_up I 184 ((s1 + s2).toNat) 1) Q) : Gx (jx_0 L) d md_M_fewest 137 [o0, o1, o2, o3, o4, o5, o6] [.inl s2, .inl s1, .inr (.inl 184)] I Q := by
  have hz1 := hz
  show jm_Go d 0 0 md_M_fewest 137 [o0, o1, o2, o3, o4, o5, o6] [.inl s2, .inl s1, .inr (.inl 184)] (jx (jx_0 L) I) (jx_Q (jx_0 L) Q)
  have hd : jm_dc md_M_fewest.2.1 137 [(.iadd, 1), (.iconst 1, 1), (.iastore, 1)] = true := by decide +kernel
  refine go_iadd hd (fun hd => ?_)
  refine go_iconst hd (fun hd => ?_)
  refine go_iastore rfl hz1.1 hz1.2 (by decide) hd (fun hd => ?_)
  exact k
theorem b_M_fewest_140 {L : Nat} {d : Nat} {I : jm_I} {Q : Option jm_V → jm_I → Prop} {o0 : Option jm_V} {o1 : Option jm_V} {o2 : Option jm_V} {o3 : Option jm_V} {o4 : Option jm_V} {o5 : Option jm_V} {x6 : Int}  (k : Gx (jx_0 L) d md_M_fewest 95 [o0, o1, o2, o3, o4, o5, some (.inl (x6 + 1))] [] I Q) : Gx (jx_0 L) d md_M_fewest 140 [o0, o1, o2, o3, o4, o5, some (.inl x6)] [] I Q := by
  show jm_Go d 0 0 md_M_fewest 140 [o0, o1, o2, o3, o4, o5, some (.inl x6)] [] (jx (jx_0 L) I) (jx_Q (jx_0 L) Q)
  have hd : jm_dc md_M_fewest.2.1 140 [(.iinc 6 1, 3), (.goto (-48), 3)] = true := by decide +kernel
  refine go_iinc rfl hd (fun hd => ?_)
  exact go_goto (by decide) hd k
theorem b_M_fewest_146 {L : Nat} {d : Nat} {I : jm_I} {Q : Option jm_V → jm_I → Prop} {o0 : Option jm_V} {o1 : Option jm_V} {o2 : Option jm_V} {o3 : Option jm_V} {o4 : Option jm_V} {o5 : Option jm_V} {o6 : Option jm_V}  (k : Gx (jx_0 L) d md_M_fewest 149 [o0, o1, o2, o3, o4, o5, some (.inl 0)] [] I Q) : Gx (jx_0 L) d md_M_fewest 146 [o0, o1, o2, o3, o4, o5, o6] [] I Q := by
  show jm_Go d 0 0 md_M_fewest 146 [o0, o1, o2, o3, o4, o5, o6] [] (jx (jx_0 L) I) (jx_Q (jx_0 L) Q)
  have hd : jm_dc md_M_fewest.2.1 146 [(.iconst 0, 1), (.istore 6, 2)] = true := by decide +kernel
  refine go_iconst hd (fun hd => ?_)
  refine go_istore (by decide) hd (fun hd => ?_)
  exact k
theorem b_M_fewest_149 {L : Nat} {d : Nat} {I : jm_I} {Q : Option jm_V → jm_I → Prop} {o0 : Option jm_V} {o1 : Option jm_V} {o2 : Option jm_V} {o3 : Option jm_V} {o4 : Option jm_V} {o5 : Option jm_V} {x6 : Int}  (hz : (-2147483648 ≤ x6 ∧ x6 < 2147483648)) (kt : 320 ≤ x6 → Gx (jx_0 L) d md_M_fewest 177 [o0, o1, o2, o3, o4, o5, some (.inl x6)] [] I Q) (kf : ¬ (320 ≤ x6) → Gx (jx_0 L) d md_M_fewest 157 [o0, o1, o2, o3, o4, o5, some (.inl x6)] [] I Q) : Gx (jx_0 L) d md_M_fewest 149 [o0, o1, o2, o3, o4, o5, some (.inl x6)] [] I Q := by
  have hz1 := hz
  show jm_Go d 0 0 md_M_fewest 149 [o0, o1, o2, o3, o4, o5, some (.inl x6)] [] (jx (jx_0 L) I) (jx_Q (jx_0 L) Q)
  have hd : jm_dc md_M_fewest.2.1 149 [(.iload 6, 2), (.sipush 320, 3), (.if_icmp .ge 23, 3)] = true := by decide +kernel
  refine go_iload rfl hd (fun hd => ?_)
  refine go_sipush (by decide) hd (fun hd => ?_)
  exact go_icmp_ge (by decide) hz1 ⟨by decide, by decide⟩ hd kt kf
theorem b_M_fewest_157 {L : Nat} {d : Nat} {I : jm_I} {Q : Option jm_V → jm_I → Prop} {o1 : Option jm_V} {o2 : Option jm_V} {o3 : Option jm_V} {o4 : Option jm_V} {o5 : Option jm_V} {x6 : Int}  (hz : (0 ≤ x6 ∧ x6 < 320) ∧ (0 ≤ x6 ∧ x6 < 320)) (k : Gx (jx_0 L) d md_M_fewest 149 [some (.inr (.inl 167)), o1, o2, o3, o4, o5, some (.inl (x6 + 1))] [] (jm_up I 183 (x6.toNat) (I 184 x6.toNat)) Q) : Gx (jx_0 L) d md_M_fewest 157 [some (.inr (.inl 167)), o1, o2, o3, o4, o5, some (.inl x6)] [] I Q := by
  obtain ⟨hz1, hz2⟩ := hz
  show jm_Go d 0 0 md_M_fewest 157 [some (.inr (.inl 167)), o1, o2, o3, o4, o5, some (.inl x6)] [] (jx (jx_0 L) I) (jx_Q (jx_0 L) Q)
  have hd : jm_dc md_M_fewest.2.1 157 [(.aload_n 0, 1), (.getfield 63, 3), (.iload 6, 2), (.aload_n 0, 1), (.getfield 66, 3), (.iload 6, 2), (.iaload, 1), (.iastore, 1), (.iinc 6 1, 3), (.goto (-25), 3)] = true := by decide +kernel
  refine go_aload_n rfl hd (fun hd => ?_)
  refine go_getR co_X9 fl_9_63 (by decide) rfl rfl rfl hd (fun hd => ?_)
  refine go_iload rfl hd (fun hd => ?_)
  refine go_aload_n rfl hd (fun hd => ?_)
  refine go_getR co_X9 fl_9_66 (by decide) rfl rfl rfl hd (fun hd => ?_)
  refine go_iload rfl hd (fun hd => ?_)
  refine go_iaload rfl hz1.1 hz1.2 (by decide) hd (fun hd => ?_)
  refine go_iastore rfl hz2.1 hz2.2 (by decide) hd (fun hd => ?_)
  refine go_iinc rfl hd (fun hd => ?_)
  exact go_goto (by decide) hd k
theorem b_M_fewest_177 {L : Nat} {d : Nat} {I : jm_I} {Q : Option jm_V → jm_I → Prop} {o0 : Option jm_V} {o1 : Option jm_V} {o2 : Option jm_V} {o3 : Option jm_V} {o4 : Option jm_V} {x5 : Int} {o6 : Option jm_V}  (k : Gx (jx_0 L) d md_M_fewest 48 [o0, o1, o2, o3, o4, some (.inl (x5 + 1)), o6] [] I Q) : Gx (jx_0 L) d md_M_fewest 177 [o0, o1, o2, o3, o4, some (.inl x5), o6] [] I Q := by
  show jm_Go d 0 0 md_M_fewest 177 [o0, o1, o2, o3, o4, some (.inl x5), o6] [] (jx (jx_0 L) I) (jx_Q (jx_0 L) Q)
  have hd : jm_dc md_M_fewest.2.1 177 [(.iinc 5 1, 3), (.goto (-132), 3)] = true := by decide +kernel
  refine go_iinc rfl hd (fun hd => ?_)
  exact go_goto (by decide) hd k
theorem b_M_fewest_183 {L : Nat} {d : Nat} {I : jm_I} {Q : Option jm_V → jm_I → Prop} {o1 : Option jm_V} {o2 : Option jm_V} {o3 : Option jm_V} {o4 : Option jm_V} {o5 : Option jm_V} {o6 : Option jm_V}  (k : Q (some (.inl (I 167 35))) I) : Gx (jx_0 L) d md_M_fewest 183 [some (.inr (.inl 167)), o1, o2, o3, o4, o5, o6] [] I Q := by
  show jm_Go d 0 0 md_M_fewest 183 [some (.inr (.inl 167)), o1, o2, o3, o4, o5, o6] [] (jx (jx_0 L) I) (jx_Q (jx_0 L) Q)
  have hd : jm_dc md_M_fewest.2.1 183 [(.aload_n 0, 1), (.getfield 215, 3), (.ireturn, 1)] = true := by decide +kernel
  refine go_aload_n rfl hd (fun hd => ?_)
  refine go_getI co_X9 fl_9_215 (by decide) (Or.inl rfl) rfl hd (fun hd => ?_)
  exact go_ireturn hd rfl ⟨_, rfl, k⟩
theorem b_M_pressesMore_0 {L : Nat} {d : Nat} {I : jm_I} {Q : Option jm_V → jm_I → Prop} {x1 : Int} {x2 : Int}  (k : Gx (jx_0 L) d md_M_pressesMore 2 [some (.inr (.inl 167)), some (.inl x1), some (.inl x2), some (.inl 0), none, none] [] I Q) : Cx (jx_0 L) d md_M_pressesMore [.inr (.inl 167), .inl x1, .inl x2] I Q := by
  show jm_Go d 0 0 md_M_pressesMore 0 [some (.inr (.inl 167)), some (.inl x1), some (.inl x2), none, none, none] [] (jx (jx_0 L) I) (jx_Q (jx_0 L) Q)
  have hd : jm_dc md_M_pressesMore.2.1 0 [(.iconst 0, 1), (.istore_n 3, 1)] = true := by decide +kernel
  refine go_iconst hd (fun hd => ?_)
  refine go_istore_n (by decide) hd (fun hd => ?_)
  exact k
theorem b_M_pressesMore_2 {L : Nat} {d : Nat} {I : jm_I} {Q : Option jm_V → jm_I → Prop} {o0 : Option jm_V} {o1 : Option jm_V} {o2 : Option jm_V} {x3 : Int} {o4 : Option jm_V} {o5 : Option jm_V}  (hz : (-2147483648 ≤ x3 ∧ x3 < 2147483648)) (kt : 32 ≤ x3 → Gx (jx_0 L) d md_M_pressesMore 97 [o0, o1, o2, some (.inl x3), o4, o5] [] I Q) (kf : ¬ (32 ≤ x3) → Gx (jx_0 L) d md_M_pressesMore 8 [o0, o1, o2, some (.inl x3), o4, o5] [] I Q) : Gx (jx_0 L) d md_M_pressesMore 2 [o0, o1, o2, some (.inl x3), o4, o5] [] I Q := by
  have hz1 := hz
  show jm_Go d 0 0 md_M_pressesMore 2 [o0, o1, o2, some (.inl x3), o4, o5] [] (jx (jx_0 L) I) (jx_Q (jx_0 L) Q)
  have hd : jm_dc md_M_pressesMore.2.1 2 [(.iload_n 3, 1), (.bipush 32, 2), (.if_icmp .ge 92, 3)] = true := by decide +kernel
  refine go_iload_n rfl hd (fun hd => ?_)
  refine go_bipush (by decide) hd (fun hd => ?_)
  exact go_icmp_ge (by decide) hz1 ⟨by decide, by decide⟩ hd kt kf
theorem b_M_pressesMore_8 {L : Nat} {d : Nat} {I : jm_I} {Q : Option jm_V → jm_I → Prop} {o0 : Option jm_V} {o1 : Option jm_V} {o2 : Option jm_V} {o3 : Option jm_V} {o4 : Option jm_V} {o5 : Option jm_V}  (k : Gx (jx_0 L) d md_M_pressesMore 11 [o0, o1, o2, o3, some (.inl 0), o5] [] I Q) : Gx (jx_0 L) d md_M_pressesMore 8 [o0, o1, o2, o3, o4, o5] [] I Q := by
  show jm_Go d 0 0 md_M_pressesMore 8 [o0, o1, o2, o3, o4, o5] [] (jx (jx_0 L) I) (jx_Q (jx_0 L) Q)
  have hd : jm_dc md_M_pressesMore.2.1 8 [(.iconst 0, 1), (.istore 4, 2)] = true := by decide +kernel
  refine go_iconst hd (fun hd => ?_)
  refine go_istore (by decide) hd (fun hd => ?_)
  exact k
theorem b_M_pressesMore_11 {L : Nat} {d : Nat} {I : jm_I} {Q : Option jm_V → jm_I → Prop} {o0 : Option jm_V} {o1 : Option jm_V} {o2 : Option jm_V} {o3 : Option jm_V} {x4 : Int} {o5 : Option jm_V}  (hz : (-2147483648 ≤ x4 ∧ x4 < 2147483648)) (kt : 10 ≤ x4 → Gx (jx_0 L) d md_M_pressesMore 91 [o0, o1, o2, o3, some (.inl x4), o5] [] I Q) (kf : ¬ (10 ≤ x4) → Gx (jx_0 L) d md_M_pressesMore 18 [o0, o1, o2, o3, some (.inl x4), o5] [] I Q) : Gx (jx_0 L) d md_M_pressesMore 11 [o0, o1, o2, o3, some (.inl x4), o5] [] I Q := by
  have hz1 := hz
  show jm_Go d 0 0 md_M_pressesMore 11 [o0, o1, o2, o3, some (.inl x4), o5] [] (jx (jx_0 L) I) (jx_Q (jx_0 L) Q)
  have hd : jm_dc md_M_pressesMore.2.1 11 [(.iload 4, 2), (.bipush 10, 2), (.if_icmp .ge 76, 3)] = true := by decide +kernel
  refine go_iload rfl hd (fun hd => ?_)
  refine go_bipush (by decide) hd (fun hd => ?_)
  exact go_icmp_ge (by decide) hz1 ⟨by decide, by decide⟩ hd kt kf
theorem b_M_pressesMore_18 {L : Nat} {d : Nat} {I : jm_I} {Q : Option jm_V → jm_I → Prop} {o0 : Option jm_V} {o1 : Option jm_V} {o2 : Option jm_V} {o3 : Option jm_V} {o4 : Option jm_V} {o5 : Option jm_V}  (k : Gx (jx_0 L) d md_M_pressesMore 21 [o0, o1, o2, o3, o4, some (.inl 0)] [] I Q) : Gx (jx_0 L) d md_M_pressesMore 18 [o0, o1, o2, o3, o4, o5] [] I Q := by
  show jm_Go d 0 0 md_M_pressesMore 18 [o0, o1, o2, o3, o4, o5] [] (jx (jx_0 L) I) (jx_Q (jx_0 L) Q)
  have hd : jm_dc md_M_pressesMore.2.1 18 [(.iconst 0, 1), (.istore 5, 2)] = true := by decide +kernel
  refine go_iconst hd (fun hd => ?_)
  refine go_istore (by decide) hd (fun hd => ?_)
  exact k
theorem b_M_pressesMore_21 {L : Nat} {d : Nat} {I : jm_I} {Q : Option jm_V → jm_I → Prop} {o1 : Option jm_V} {o2 : Option jm_V} {o3 : Option jm_V} {o4 : Option jm_V} {x5 : Int}  (hz : (-2147483648 ≤ x5 ∧ x5 < 2147483648) ∧ (-2147483648 ≤ I 167 4 ∧ I 167 4 < 2147483648)) (kt : (I 167 4) ≤ x5 → Gx (jx_0 L) d md_M_pressesMore 85 [some (.inr (.inl 167)), o1, o2, o3, o4, some (.inl x5)] [] I Q) (kf : ¬ ((I 167 4) ≤ x5) → Gx (jx_0 L) d md_M_pressesMore 30 [some (.inr (.inl 167)), o1, o2, o3, o4, some (.inl x5)] [] I Q) : Gx (jx_0 L) d md_M_pressesMore 21 [some (.inr (.inl 167)), o1, o2, o3, o4, some (.inl x5)] [] I Q := by
  obtain ⟨hz1, hz2⟩ := hz
  show jm_Go d 0 0 md_M_pressesMore 21 [some (.inr (.inl 167)), o1, o2, o3, o4, some (.inl x5)] [] (jx (jx_0 L) I) (jx_Q (jx_0 L) Q)
  have hd : jm_dc md_M_pressesMore.2.1 21 [(.iload 5, 2), (.aload_n 0, 1), (.getfield 82, 3), (.if_icmp .ge 58, 3)] = true := by decide +kernel
  refine go_iload rfl hd (fun hd => ?_)
  refine go_aload_n rfl hd (fun hd => ?_)
  refine go_getI co_X9 fl_9_82 (by decide) (Or.inl rfl) rfl hd (fun hd => ?_)
  exact go_icmp_ge (by decide) hz1 hz2 hd kt kf
theorem b_M_pressesMore_30 {L : Nat} {d : Nat} {I : jm_I} {Q : Option jm_V → jm_I → Prop} {o1 : Option jm_V} {o2 : Option jm_V} {x3 : Int} {x4 : Int} {o5 : Option jm_V}  (hz : (0 ≤ (10 * x3) + x4 ∧ (10 * x3) + x4 < 320) ∧ (-2147483648 ≤ I 183 ((10 * x3) + x4).toNat ∧ I 183 ((10 * x3) + x4).toNat < 2147483648)) (kt : ¬ (I 183 ((10 * x3) + x4).toNat) = 1 → Gx (jx_0 L) d md_M_pressesMore 85 [some (.inr (.inl 167)), o1, o2, some (.inl x3), some (.inl x4), o5] [] I Q) (kf : (I 183 ((10 * x3) + x4).toNat) = 1 → Gx (jx_0 L) d md_M_pressesMore 46 [some (.inr (.inl 167)), o1, o2, some (.inl x3), some (.inl x4), o5] [] I Q) : Gx (jx_0 L) d md_M_pressesMore 30 [some (.inr (.inl 167)), o1, o2, some (.inl x3), some (.inl x4), o5] [] I Q := by
  obtain ⟨hz1, hz2⟩ := hz
  show jm_Go d 0 0 md_M_pressesMore 30 [some (.inr (.inl 167)), o1, o2, some (.inl x3), some (.inl x4), o5] [] (jx (jx_0 L) I) (jx_Q (jx_0 L) Q)
  have hd : jm_dc md_M_pressesMore.2.1 30 [(.aload_n 0, 1), (.getfield 63, 3), (.bipush 10, 2), (.iload_n 3, 1), (.imul, 1), (.iload 4, 2), (.iadd, 1), (.iaload, 1), (.iconst 1, 1), (.if_icmp .ne 42, 3)] = true := by decide +kernel
  refine go_aload_n rfl hd (fun hd => ?_)
  refine go_getR co_X9 fl_9_63 (by decide) rfl rfl rfl hd (fun hd => ?_)
  refine go_bipush (by decide) hd (fun hd => ?_)
  refine go_iload_n rfl hd (fun hd => ?_)
  refine go_imul hd (fun hd => ?_)
  refine go_iload rfl hd (fun hd => ?_)
  refine go_iadd hd (fun hd => ?_)
  refine go_iaload rfl hz1.1 hz1.2 (by decide) hd (fun hd => ?_)
  refine go_iconst hd (fun hd => ?_)
  exact go_icmp_ne (by decide) hz2 ⟨by decide, by decide⟩ hd kt kf
theorem b_M_pressesMore_46 {L : Nat} {d : Nat} {I : jm_I} {Q : Option jm_V → jm_I → Prop} {o0 : Option jm_V} {o1 : Option jm_V} {x2 : Int} {o3 : Option jm_V} {o4 : Option jm_V} {x5 : Int}  (k : Cx (jx_0 L) d md_M_has [.inl x2, .inl x5] I (fun v J => Gx (jx_0 L) (d + 1) md_M_pressesMore 52 [o0, o1, some (.inl x2), o3, o4, some (.inl x5)] (v.toList ++ []) J Q)) : Gx (jx_0 L) (d + 1) md_M_pressesMore 46 [o0, o1, some (.inl x2), o3, o4, some (.inl x5)] [] I Q := by
  show jm_Go (d + 1) 0 0 md_M_pressesMore 46 [o0, o1, some (.inl x2), o3, o4, some (.inl x5)] [] (jx (jx_0 L) I) (jx_Q (jx_0 L) Q)
  have hd : jm_dc md_M_pressesMore.2.1 46 [(.iload_n 2, 1), (.iload 5, 2), (.invokestatic 168, 3)] = true := by decide +kernel
  refine go_iload_n rfl hd (fun hd => ?_)
  refine go_iload rfl hd (fun hd => ?_)
  exact gx_static [.inl x2, .inl x5] [] mk_M_has ml_9_168 st_M_has rfl (Nat.le_of_ble_eq_true rfl) rfl (Nat.le_of_ble_eq_true rfl) rfl hd k
theorem b_M_pressesMore_52 {L : Nat} {d : Nat} {I : jm_I} {Q : Option jm_V → jm_I → Prop} {o0 : Option jm_V} {o1 : Option jm_V} {o2 : Option jm_V} {o3 : Option jm_V} {o4 : Option jm_V} {o5 : Option jm_V} {s0 : Int}  (hz : (-2147483648 ≤ s0 ∧ s0 < 2147483648)) (kt : s0 = 0 → Gx (jx_0 L) d md_M_pressesMore 79 [o0, o1, o2, o3, o4, o5] [] I Q) (kf : ¬ s0 = 0 → Gx (jx_0 L) d md_M_pressesMore 55 [o0, o1, o2, o3, o4, o5] [] I Q) : Gx (jx_0 L) d md_M_pressesMore 52 [o0, o1, o2, o3, o4, o5] [.inl s0] I Q := by
  have hz1 := hz
  show jm_Go d 0 0 md_M_pressesMore 52 [o0, o1, o2, o3, o4, o5] [.inl s0] (jx (jx_0 L) I) (jx_Q (jx_0 L) Q)
  have hd : jm_dc md_M_pressesMore.2.1 52 [(.ifCond .eq 27, 3)] = true := by decide +kernel
  exact go_if_eq (by decide) hz1 hd kt kf
theorem b_M_pressesMore_55 {L : Nat} {d : Nat} {I : jm_I} {Q : Option jm_V → jm_I → Prop} {o0 : Option jm_V} {o1 : Option jm_V} {o2 : Option jm_V} {x3 : Int} {o4 : Option jm_V} {x5 : Int}  (k : Cx (jx_0 L) d md_M_has [.inl x3, .inl x5] I (fun v J => Gx (jx_0 L) (d + 1) md_M_pressesMore 61 [o0, o1, o2, some (.inl x3), o4, some (.inl x5)] (v.toList ++ []) J Q)) : Gx (jx_0 L) (d + 1) md_M_pressesMore 55 [o0, o1, o2, some (.inl x3), o4, some (.inl x5)] [] I Q := by
  show jm_Go (d + 1) 0 0 md_M_pressesMore 55 [o0, o1, o2, some (.inl x3), o4, some (.inl x5)] [] (jx (jx_0 L) I) (jx_Q (jx_0 L) Q)
  have hd : jm_dc md_M_pressesMore.2.1 55 [(.iload_n 3, 1), (.iload 5, 2), (.invokestatic 168, 3)] = true := by decide +kernel
  refine go_iload_n rfl hd (fun hd => ?_)
  refine go_iload rfl hd (fun hd => ?_)
  exact gx_static [.inl x3, .inl x5] [] mk_M_has ml_9_168 st_M_has rfl (Nat.le_of_ble_eq_true rfl) rfl (Nat.le_of_ble_eq_true rfl) rfl hd k
theorem b_M_pressesMore_61 {L : Nat} {d : Nat} {I : jm_I} {Q : Option jm_V → jm_I → Prop} {o0 : Option jm_V} {o1 : Option jm_V} {o2 : Option jm_V} {o3 : Option jm_V} {o4 : Option jm_V} {o5 : Option jm_V} {s0 : Int}  (hz : (-2147483648 ≤ s0 ∧ s0 < 2147483648)) (kt : ¬ s0 = 0 → Gx (jx_0 L) d md_M_pressesMore 79 [o0, o1, o2, o3, o4, o5] [] I Q) (kf : s0 = 0 → Gx (jx_0 L) d md_M_pressesMore 64 [o0, o1, o2, o3, o4, o5] [] I Q) : Gx (jx_0 L) d md_M_pressesMore 61 [o0, o1, o2, o3, o4, o5] [.inl s0] I Q := by
  have hz1 := hz
  show jm_Go d 0 0 md_M_pressesMore 61 [o0, o1, o2, o3, o4, o5] [.inl s0] (jx (jx_0 L) I) (jx_Q (jx_0 L) Q)
  have hd : jm_dc md_M_pressesMore.2.1 61 [(.ifCond .ne 18, 3)] = true := by decide +kernel
  exact go_if_ne (by decide) hz1 hd kt kf
theorem b_M_pressesMore_64 {L : Nat} {d : Nat} {I : jm_I} {Q : Option jm_V → jm_I → Prop} {x1 : Int} {o2 : Option jm_V} {x3 : Int} {x4 : Int} {x5 : Int}  (k : Cx (jx_0 L) d md_M_carriesOn [.inr (.inl 167), .inl x1, .inl x5, .inl x4, .inl (jb_or x3 (jb_shl 1 x5))] I (fun v J => Gx (jx_0 L) (d + 1) md_M_pressesMore 79 [some (.inr (.inl 167)), some (.inl x1), o2, some (.inl x3), some (.inl x4), some (.inl x5)] (v.toList ++ []) J Q)) : Gx (jx_0 L) (d + 1) md_M_pressesMore 64 [some (.inr (.inl 167)), some (.inl x1), o2, some (.inl x3), some (.inl x4), some (.inl x5)] [] I Q := by
  show jm_Go (d + 1) 0 0 md_M_pressesMore 64 [some (.inr (.inl 167)), some (.inl x1), o2, some (.inl x3), some (.inl x4), some (.inl x5)] [] (jx (jx_0 L) I) (jx_Q (jx_0 L) Q)
  have hd : jm_dc md_M_pressesMore.2.1 64 [(.aload_n 0, 1), (.iload_n 1, 1), (.iload 5, 2), (.iload 4, 2), (.iload_n 3, 1), (.iconst 1, 1), (.iload 5, 2), (.ishl, 1), (.ior, 1), (.invokevirtual 208, 3)] = true := by decide +kernel
  refine go_aload_n rfl hd (fun hd => ?_)
  refine go_iload_n rfl hd (fun hd => ?_)
  refine go_iload rfl hd (fun hd => ?_)
  refine go_iload rfl hd (fun hd => ?_)
  refine go_iload_n rfl hd (fun hd => ?_)
  refine go_iconst hd (fun hd => ?_)
  refine go_iload rfl hd (fun hd => ?_)
  refine go_ishl hd (fun hd => ?_)
  refine go_ior hd (fun hd => ?_)
  exact gx_virtual 167 9 [.inl x1, .inl x5, .inl x4, .inl (jb_or x3 (jb_shl 1 x5))] [] mk_M_carriesOn co_X9 rfl ml_9_208 in_M_carriesOn se_M_carriesOn rfl rfl (Nat.le_of_ble_eq_true rfl) rfl (Nat.le_of_ble_eq_true rfl) rfl hd k
theorem b_M_pressesMore_79 {L : Nat} {d : Nat} {I : jm_I} {Q : Option jm_V → jm_I → Prop} {o0 : Option jm_V} {o1 : Option jm_V} {o2 : Option jm_V} {o3 : Option jm_V} {o4 : Option jm_V} {x5 : Int}  (k : Gx (jx_0 L) d md_M_pressesMore 21 [o0, o1, o2, o3, o4, some (.inl (x5 + 1))] [] I Q) : Gx (jx_0 L) d md_M_pressesMore 79 [o0, o1, o2, o3, o4, some (.inl x5)] [] I Q := by
  show jm_Go d 0 0 md_M_pressesMore 79 [o0, o1, o2, o3, o4, some (.inl x5)] [] (jx (jx_0 L) I) (jx_Q (jx_0 L) Q)
  have hd : jm_dc md_M_pressesMore.2.1 79 [(.iinc 5 1, 3), (.goto (-61), 3)] = true := by decide +kernel
  refine go_iinc rfl hd (fun hd => ?_)
  exact go_goto (by decide) hd k
theorem b_M_pressesMore_85 {L : Nat} {d : Nat} {I : jm_I} {Q : Option jm_V → jm_I → Prop} {o0 : Option jm_V} {o1 : Option jm_V} {o2 : Option jm_V} {o3 : Option jm_V} {x4 : Int} {o5 : Option jm_V}  (k : Gx (jx_0 L) d md_M_pressesMore 11 [o0, o1, o2, o3, some (.inl (x4 + 1)), o5] [] I Q) : Gx (jx_0 L) d md_M_pressesMore 85 [o0, o1, o2, o3, some (.inl x4), o5] [] I Q := by
  show jm_Go d 0 0 md_M_pressesMore 85 [o0, o1, o2, o3, some (.inl x4), o5] [] (jx (jx_0 L) I) (jx_Q (jx_0 L) Q)
  have hd : jm_dc md_M_pressesMore.2.1 85 [(.iinc 4 1, 3), (.goto (-77), 3)] = true := by decide +kernel
  refine go_iinc rfl hd (fun hd => ?_)
  exact go_goto (by decide) hd k
theorem b_M_pressesMore_91 {L : Nat} {d : Nat} {I : jm_I} {Q : Option jm_V → jm_I → Prop} {o0 : Option jm_V} {o1 : Option jm_V} {o2 : Option jm_V} {x3 : Int} {o4 : Option jm_V} {o5 : Option jm_V}  (k : Gx (jx_0 L) d md_M_pressesMore 2 [o0, o1, o2, some (.inl (x3 + 1)), o4, o5] [] I Q) : Gx (jx_0 L) d md_M_pressesMore 91 [o0, o1, o2, some (.inl x3), o4, o5] [] I Q := by
  show jm_Go d 0 0 md_M_pressesMore 91 [o0, o1, o2, some (.inl x3), o4, o5] [] (jx (jx_0 L) I) (jx_Q (jx_0 L) Q)
  have hd : jm_dc md_M_pressesMore.2.1 91 [(.iinc 3 1, 3), (.goto (-92), 3)] = true := by decide +kernel
  refine go_iinc rfl hd (fun hd => ?_)
  exact go_goto (by decide) hd k
theorem b_M_pressesMore_97 {L : Nat} {d : Nat} {I : jm_I} {Q : Option jm_V → jm_I → Prop} {o0 : Option jm_V} {o1 : Option jm_V} {o2 : Option jm_V} {o3 : Option jm_V} {o4 : Option jm_V} {o5 : Option jm_V}  (k : Q none I) : Gx (jx_0 L) d md_M_pressesMore 97 [o0, o1, o2, o3, o4, o5] [] I Q := by
  show jm_Go d 0 0 md_M_pressesMore 97 [o0, o1, o2, o3, o4, o5] [] (jx (jx_0 L) I) (jx_Q (jx_0 L) Q)
  have hd : jm_dc md_M_pressesMore.2.1 97 [(.return_, 1)] = true := by decide +kernel
  exact go_vreturn hd rfl ⟨_, rfl, k⟩
theorem b_M_carriesOn_0 {L : Nat} {d : Nat} {I : jm_I} {Q : Option jm_V → jm_I → Prop} {x1 : Int} {x2 : Int} {x3 : Int} {x4 : Int}  (k : Gx (jx_0 L) d md_M_carriesOn 3 [some (.inr (.inl 167)), some (.inl x1), some (.inl x2), some (.inl x3), some (.inl x4), some (.inl 0)] [] I Q) : Cx (jx_0 L) d md_M_carriesOn [.inr (.inl 167), .inl x1, .inl x2, .inl x3, .inl x4] I Q := by
  show jm_Go d 0 0 md_M_carriesOn 0 [some (.inr (.inl 167)), some (.inl x1), some (.inl x2), some (.inl x3), some (.inl x4), none] [] (jx (jx_0 L) I) (jx_Q (jx_0 L) Q)
  have hd : jm_dc md_M_carriesOn.2.1 0 [(.iconst 0, 1), (.istore 5, 2)] = true := by decide +kernel
  refine go_iconst hd (fun hd => ?_)
  refine go_istore (by decide) hd (fun hd => ?_)
  exact k
theorem b_M_carriesOn_3 {L : Nat} {d : Nat} {I : jm_I} {Q : Option jm_V → jm_I → Prop} {o1 : Option jm_V} {o2 : Option jm_V} {o3 : Option jm_V} {o4 : Option jm_V} {x5 : Int}  (hz : (-2147483648 ≤ x5 ∧ x5 < 2147483648) ∧ (-2147483648 ≤ I 167 0 ∧ I 167 0 < 2147483648)) (kt : (I 167 0) ≤ x5 → Gx (jx_0 L) d md_M_carriesOn 64 [some (.inr (.inl 167)), o1, o2, o3, o4, some (.inl x5)] [] I Q) (kf : ¬ ((I 167 0) ≤ x5) → Gx (jx_0 L) d md_M_carriesOn 12 [some (.inr (.inl 167)), o1, o2, o3, o4, some (.inl x5)] [] I Q) : Gx (jx_0 L) d md_M_carriesOn 3 [some (.inr (.inl 167)), o1, o2, o3, o4, some (.inl x5)] [] I Q := by
  obtain ⟨hz1, hz2⟩ := hz
  show jm_Go d 0 0 md_M_carriesOn 3 [some (.inr (.inl 167)), o1, o2, o3, o4, some (.inl x5)] [] (jx (jx_0 L) I) (jx_Q (jx_0 L) Q)
  have hd : jm_dc md_M_carriesOn.2.1 3 [(.iload 5, 2), (.aload_n 0, 1), (.getfield 7, 3), (.if_icmp .ge 55, 3)] = true := by decide +kernel
  refine go_iload rfl hd (fun hd => ?_)
  refine go_aload_n rfl hd (fun hd => ?_)
  refine go_getI co_X9 fl_9_7 (by decide) (Or.inl rfl) rfl hd (fun hd => ?_)
  exact go_icmp_ge (by decide) hz1 hz2 hd kt kf
theorem b_M_carriesOn_12 {L : Nat} {d : Nat} {I : jm_I} {Q : Option jm_V → jm_I → Prop} {x1 : Int} {x2 : Int} {x3 : Int} {o4 : Option jm_V} {o5 : Option jm_V}  (hz : (0 ≤ 1 + x2 ∧ 1 + x2 < 27)) (k : Cx (jx_0 L) d md_M_roomOf [.inr (.inl 167), .inl x1, .inl x3] I (fun v J => Gx (jx_0 L) (d + 1) md_M_carriesOn 27 [some (.inr (.inl 167)), some (.inl x1), some (.inl x2), some (.inl x3), o4, o5] (v.toList ++ [.inl (I 171 (1 + x2).toNat), .inr (.inl 167)]) J Q)) : Gx (jx_0 L) (d + 1) md_M_carriesOn 12 [some (.inr (.inl 167)), some (.inl x1), some (.inl x2), some (.inl x3), o4, o5] [] I Q := by
  have hz1 := hz
  show jm_Go (d + 1) 0 0 md_M_carriesOn 12 [some (.inr (.inl 167)), some (.inl x1), some (.inl x2), some (.inl x3), o4, o5] [] (jx (jx_0 L) I) (jx_Q (jx_0 L) Q)
  have hd : jm_dc md_M_carriesOn.2.1 12 [(.aload_n 0, 1), (.aload_n 0, 1), (.getfield 26, 3), (.iconst 1, 1), (.iload_n 2, 1), (.iadd, 1), (.iaload, 1), (.aload_n 0, 1), (.iload_n 1, 1), (.iload_n 3, 1), (.invokevirtual 202, 3)] = true := by decide +kernel
  refine go_aload_n rfl hd (fun hd => ?_)
  refine go_aload_n rfl hd (fun hd => ?_)
  refine go_getR co_X9 fl_9_26 (by decide) rfl rfl rfl hd (fun hd => ?_)
  refine go_iconst hd (fun hd => ?_)
  refine go_iload_n rfl hd (fun hd => ?_)
  refine go_iadd hd (fun hd => ?_)
  refine go_iaload rfl hz1.1 hz1.2 (by decide) hd (fun hd => ?_)
  refine go_aload_n rfl hd (fun hd => ?_)
  refine go_iload_n rfl hd (fun hd => ?_)
  refine go_iload_n rfl hd (fun hd => ?_)
  exact gx_virtual 167 9 [.inl x1, .inl x3] [.inl (I 171 (1 + x2).toNat), .inr (.inl 167)] mk_M_roomOf co_X9 rfl ml_9_202 in_M_roomOf se_M_roomOf rfl rfl (Nat.le_of_ble_eq_true rfl) rfl (Nat.le_of_ble_eq_true rfl) rfl hd k
theorem b_M_carriesOn_27 {L : Nat} {d : Nat} {I : jm_I} {Q : Option jm_V → jm_I → Prop} {o0 : Option jm_V} {o1 : Option jm_V} {o2 : Option jm_V} {o3 : Option jm_V} {o4 : Option jm_V} {x5 : Int} {s1 : Int} {s2 : Int}  (k : Cx (jx_0 L) d md_M_by [.inr (.inl 167), .inl s1, .inl s2, .inl x5] I (fun v J => Gx (jx_0 L) (d + 1) md_M_carriesOn 32 [o0, o1, o2, o3, o4, some (.inl x5)] (v.toList ++ []) J Q)) : Gx (jx_0 L) (d + 1) md_M_carriesOn 27 [o0, o1, o2, o3, o4, some (.inl x5)] [.inl s2, .inl s1, .inr (.inl 167)] I Q := by
  show jm_Go (d + 1) 0 0 md_M_carriesOn 27 [o0, o1, o2, o3, o4, some (.inl x5)] [.inl s2, .inl s1, .inr (.inl 167)] (jx (jx_0 L) I) (jx_Q (jx_0 L) Q)
  have hd : jm_dc md_M_carriesOn.2.1 27 [(.iload 5, 2), (.invokevirtual 185, 3)] = true := by decide +kernel
  refine go_iload rfl hd (fun hd => ?_)
  exact gx_virtual 167 9 [.inl s1, .inl s2, .inl x5] [] mk_M_by co_X9 rfl ml_9_185 in_M_by se_M_by rfl rfl (Nat.le_of_ble_eq_true rfl) rfl (Nat.le_of_ble_eq_true rfl) rfl hd k
theorem b_M_carriesOn_32 {L : Nat} {d : Nat} {I : jm_I} {Q : Option jm_V → jm_I → Prop} {o1 : Option jm_V} {o2 : Option jm_V} {o3 : Option jm_V} {o4 : Option jm_V} {o5 : Option jm_V} {s0 : Int}  (hz : (-2147483648 ≤ s0 ∧ s0 < 2147483648) ∧ (-2147483648 ≤ I 167 3 ∧ I 167 3 < 2147483648)) (kt : (I 167 3) < s0 → Gx (jx_0 L) d md_M_carriesOn 58 [some (.inr (.inl 167)), o1, o2, o3, o4, o5] [] I Q) (kf : ¬ ((I 167 3) < s0) → Gx (jx_0 L) d md_M_carriesOn 39 [some (.inr (.inl 167)), o1, o2, o3, o4, o5] [] I Q) : Gx (jx_0 L) d md_M_carriesOn 32 [some (.inr (.inl 167)), o1, o2, o3, o4, o5] [.inl s0] I Q := by
  obtain ⟨hz1, hz2⟩ := hz
  show jm_Go d 0 0 md_M_carriesOn 32 [some (.inr (.inl 167)), o1, o2, o3, o4, o5] [.inl s0] (jx (jx_0 L) I) (jx_Q (jx_0 L) Q)
  have hd : jm_dc md_M_carriesOn.2.1 32 [(.aload_n 0, 1), (.getfield 17, 3), (.if_icmp .gt 22, 3)] = true := by decide +kernel
  refine go_aload_n rfl hd (fun hd => ?_)
  refine go_getI co_X9 fl_9_17 (by decide) (Or.inl rfl) rfl hd (fun hd => ?_)
  exact go_icmp_gt (by decide) hz1 hz2 hd kt kf
theorem b_M_carriesOn_39 {L : Nat} {d : Nat} {I : jm_I} {Q : Option jm_V → jm_I → Prop} {x1 : Int} {o2 : Option jm_V} {o3 : Option jm_V} {x4 : Int} {x5 : Int}  (k : Cx (jx_0 L) d md_M_putIn [.inr (.inl 167), .inl x1, .inl x5] I (fun v J => Gx (jx_0 L) (d + 1) md_M_carriesOn 55 [some (.inr (.inl 167)), some (.inl x1), o2, o3, some (.inl x4), some (.inl x5)] (v.toList ++ [.inl (10 * x4), .inr (.inl 183)]) J Q)) : Gx (jx_0 L) (d + 1) md_M_carriesOn 39 [some (.inr (.inl 167)), some (.inl x1), o2, o3, some (.inl x4), some (.inl x5)] [] I Q := by
  show jm_Go (d + 1) 0 0 md_M_carriesOn 39 [some (.inr (.inl 167)), some (.inl x1), o2, o3, some (.inl x4), some (.inl x5)] [] (jx (jx_0 L) I) (jx_Q (jx_0 L) Q)
  have hd : jm_dc md_M_carriesOn.2.1 39 [(.aload_n 0, 1), (.getfield 63, 3), (.bipush 10, 2), (.iload 4, 2), (.imul, 1), (.aload_n 0, 1), (.iload_n 1, 1), (.iload 5, 2), (.invokevirtual 212, 3)] = true := by decide +kernel
  refine go_aload_n rfl hd (fun hd => ?_)
  refine go_getR co_X9 fl_9_63 (by decide) rfl rfl rfl hd (fun hd => ?_)
  refine go_bipush (by decide) hd (fun hd => ?_)
  refine go_iload rfl hd (fun hd => ?_)
  refine go_imul hd (fun hd => ?_)
  refine go_aload_n rfl hd (fun hd => ?_)
  refine go_iload_n rfl hd (fun hd => ?_)
  refine go_iload rfl hd (fun hd => ?_)
  exact gx_virtual 167 9 [.inl x1, .inl x5] [.inl (10 * x4), .inr (.inl 183)] mk_M_putIn co_X9 rfl ml_9_212 in_M_putIn se_M_putIn rfl rfl (Nat.le_of_ble_eq_true rfl) rfl (Nat.le_of_ble_eq_true rfl) rfl hd k
theorem b_M_carriesOn_55 {L : Nat} {d : Nat} {I : jm_I} {Q : Option jm_V → jm_I → Prop} {o0 : Option jm_V} {o1 : Option jm_V} {o2 : Option jm_V} {o3 : Option jm_V} {o4 : Option jm_V} {o5 : Option jm_V} {s1 : Int} {s2 : Int}  (hz : (0 ≤ s1 + s2 ∧ s1 + s2 < 320)) (k : Gx (jx_0 L) d md_M_carriesOn 58 [o0, o1, o2, o3, o4, o5] [] (jm_up I 183 ((s1 + s2).toNat) 1) Q) : Gx (jx_0 L) d md_M_carriesOn 55 [o0, o1, o2, o3, o4, o5] [.inl s2, .inl s1, .inr (.inl 183)] I Q := by
  have hz1 := hz
  show jm_Go d 0 0 md_M_carriesOn 55 [o0, o1, o2, o3, o4, o5] [.inl s2, .inl s1, .inr (.inl 183)] (jx (jx_0 L) I) (jx_Q (jx_0 L) Q)
  have hd : jm_dc md_M_carriesOn.2.1 55 [(.iadd, 1), (.iconst 1, 1), (.iastore, 1)] = true := by decide +kernel
  refine go_iadd hd (fun hd => ?_)
  refine go_iconst hd (fun hd => ?_)
  refine go_iastore rfl hz1.1 hz1.2 (by decide) hd (fun hd => ?_)
  exact k
theorem b_M_carriesOn_58 {L : Nat} {d : Nat} {I : jm_I} {Q : Option jm_V → jm_I → Prop} {o0 : Option jm_V} {o1 : Option jm_V} {o2 : Option jm_V} {o3 : Option jm_V} {o4 : Option jm_V} {x5 : Int}  (k : Gx (jx_0 L) d md_M_carriesOn 3 [o0, o1, o2, o3, o4, some (.inl (x5 + 1))] [] I Q) : Gx (jx_0 L) d md_M_carriesOn 58 [o0, o1, o2, o3, o4, some (.inl x5)] [] I Q := by
  show jm_Go d 0 0 md_M_carriesOn 58 [o0, o1, o2, o3, o4, some (.inl x5)] [] (jx (jx_0 L) I) (jx_Q (jx_0 L) Q)
  have hd : jm_dc md_M_carriesOn.2.1 58 [(.iinc 5 1, 3), (.goto (-58), 3)] = true := by decide +kernel
  refine go_iinc rfl hd (fun hd => ?_)
  exact go_goto (by decide) hd k
theorem b_M_carriesOn_64 {L : Nat} {d : Nat} {I : jm_I} {Q : Option jm_V → jm_I → Prop} {o0 : Option jm_V} {o1 : Option jm_V} {o2 : Option jm_V} {o3 : Option jm_V} {o4 : Option jm_V} {o5 : Option jm_V}  (k : Q none I) : Gx (jx_0 L) d md_M_carriesOn 64 [o0, o1, o2, o3, o4, o5] [] I Q := by
  show jm_Go d 0 0 md_M_carriesOn 64 [o0, o1, o2, o3, o4, o5] [] (jx (jx_0 L) I) (jx_Q (jx_0 L) Q)
  have hd : jm_dc md_M_carriesOn.2.1 64 [(.return_, 1)] = true := by decide +kernel
  exact go_vreturn hd rfl ⟨_, rfl, k⟩
theorem b_M_putIn_0 {L : Nat} {d : Nat} {I : jm_I} {Q : Option jm_V → jm_I → Prop} {x1 : Int} {x2 : Int}  (k : Cx (jx_0 L) d md_M_placeIn [.inr (.inl 167), .inl x1, .inl x2] I (fun v J => Gx (jx_0 L) (d + 1) md_M_putIn 6 [some (.inr (.inl 167)), some (.inl x1), some (.inl x2), none] (v.toList ++ []) J Q)) : Cx (jx_0 L) (d + 1) md_M_putIn [.inr (.inl 167), .inl x1, .inl x2] I Q := by
  show jm_Go (d + 1) 0 0 md_M_putIn 0 [some (.inr (.inl 167)), some (.inl x1), some (.inl x2), none] [] (jx (jx_0 L) I) (jx_Q (jx_0 L) Q)
  have hd : jm_dc md_M_putIn.2.1 0 [(.aload_n 0, 1), (.iload_n 1, 1), (.iload_n 2, 1), (.invokevirtual 192, 3)] = true := by decide +kernel
  refine go_aload_n rfl hd (fun hd => ?_)
  refine go_iload_n rfl hd (fun hd => ?_)
  refine go_iload_n rfl hd (fun hd => ?_)
  exact gx_virtual 167 9 [.inl x1, .inl x2] [] mk_M_placeIn co_X9 rfl ml_9_192 in_M_placeIn se_M_placeIn rfl rfl (Nat.le_of_ble_eq_true rfl) rfl (Nat.le_of_ble_eq_true rfl) rfl hd k
theorem b_M_putIn_6 {L : Nat} {d : Nat} {I : jm_I} {Q : Option jm_V → jm_I → Prop} {o0 : Option jm_V} {o1 : Option jm_V} {o2 : Option jm_V} {o3 : Option jm_V} {s0 : Int}  (hz : (-2147483648 ≤ s0 ∧ s0 < 2147483648)) (kt : ¬ s0 = (-9) → Gx (jx_0 L) d md_M_putIn 19 [o0, o1, o2, some (.inl s0)] [] I Q) (kf : s0 = (-9) → Gx (jx_0 L) d md_M_putIn 13 [o0, o1, o2, some (.inl s0)] [] I Q) : Gx (jx_0 L) d md_M_putIn 6 [o0, o1, o2, o3] [.inl s0] I Q := by
  have hz1 := hz
  show jm_Go d 0 0 md_M_putIn 6 [o0, o1, o2, o3] [.inl s0] (jx (jx_0 L) I) (jx_Q (jx_0 L) Q)
  have hd : jm_dc md_M_putIn.2.1 6 [(.istore_n 3, 1), (.iload_n 3, 1), (.bipush (-9), 2), (.if_icmp .ne 9, 3)] = true := by decide +kernel
  refine go_istore_n (by decide) hd (fun hd => ?_)
  refine go_iload_n rfl hd (fun hd => ?_)
  refine go_bipush (by decide) hd (fun hd => ?_)
  exact go_icmp_ne (by decide) hz1 ⟨by decide, by decide⟩ hd kt kf
theorem b_M_putIn_13 {L : Nat} {d : Nat} {I : jm_I} {Q : Option jm_V → jm_I → Prop} {o0 : Option jm_V} {o1 : Option jm_V} {x2 : Int} {o3 : Option jm_V}  (k : Gx (jx_0 L) d md_M_putIn 20 [o0, o1, some (.inl x2), o3] [.inl (4 + x2)] I Q) : Gx (jx_0 L) d md_M_putIn 13 [o0, o1, some (.inl x2), o3] [] I Q := by
  show jm_Go d 0 0 md_M_putIn 13 [o0, o1, some (.inl x2), o3] [] (jx (jx_0 L) I) (jx_Q (jx_0 L) Q)
  have hd : jm_dc md_M_putIn.2.1 13 [(.iconst 4, 1), (.iload_n 2, 1), (.iadd, 1), (.goto 4, 3)] = true := by decide +kernel
  refine go_iconst hd (fun hd => ?_)
  refine go_iload_n rfl hd (fun hd => ?_)
  refine go_iadd hd (fun hd => ?_)
  exact go_goto (by decide) hd k
theorem b_M_putIn_19 {L : Nat} {d : Nat} {I : jm_I} {Q : Option jm_V → jm_I → Prop} {o0 : Option jm_V} {o1 : Option jm_V} {o2 : Option jm_V} {x3 : Int}  (k : Gx (jx_0 L) d md_M_putIn 20 [o0, o1, o2, some (.inl x3)] [.inl x3] I Q) : Gx (jx_0 L) d md_M_putIn 19 [o0, o1, o2, some (.inl x3)] [] I Q := by
  show jm_Go d 0 0 md_M_putIn 19 [o0, o1, o2, some (.inl x3)] [] (jx (jx_0 L) I) (jx_Q (jx_0 L) Q)
  have hd : jm_dc md_M_putIn.2.1 19 [(.iload_n 3, 1)] = true := by decide +kernel
  refine go_iload_n rfl hd (fun hd => ?_)
  exact k
theorem b_M_putIn_20 {L : Nat} {d : Nat} {I : jm_I} {Q : Option jm_V → jm_I → Prop} {o0 : Option jm_V} {o1 : Option jm_V} {o2 : Option jm_V} {o3 : Option jm_V} {s0 : Int}  (k : Q (some (.inl s0)) I) : Gx (jx_0 L) d md_M_putIn 20 [o0, o1, o2, o3] [.inl s0] I Q := by
  show jm_Go d 0 0 md_M_putIn 20 [o0, o1, o2, o3] [.inl s0] (jx (jx_0 L) I) (jx_Q (jx_0 L) Q)
  have hd : jm_dc md_M_putIn.2.1 20 [(.ireturn, 1)] = true := by decide +kernel
  exact go_ireturn hd rfl ⟨_, rfl, k⟩
theorem b_M_notes_0 {L : Nat} {d : Nat} {I : jm_I} {Q : Option jm_V → jm_I → Prop} {x1 : Int} {x2 : Int}  (k : Gx (jx_0 L) d md_M_notes 2 [some (.inr (.inl 167)), some (.inl x1), some (.inl x2), some (.inl 0), none] [] I Q) : Cx (jx_0 L) d md_M_notes [.inr (.inl 167), .inl x1, .inl x2] I Q := by
  show jm_Go d 0 0 md_M_notes 0 [some (.inr (.inl 167)), some (.inl x1), some (.inl x2), none, none] [] (jx (jx_0 L) I) (jx_Q (jx_0 L) Q)
  have hd : jm_dc md_M_notes.2.1 0 [(.iconst 0, 1), (.istore_n 3, 1)] = true := by decide +kernel
  refine go_iconst hd (fun hd => ?_)
  refine go_istore_n (by decide) hd (fun hd => ?_)
  exact k
theorem b_M_notes_2 {L : Nat} {d : Nat} {I : jm_I} {Q : Option jm_V → jm_I → Prop} {o0 : Option jm_V} {o1 : Option jm_V} {o2 : Option jm_V} {x3 : Int} {o4 : Option jm_V}  (hz : (-2147483648 ≤ x3 ∧ x3 < 2147483648)) (kt : 320 ≤ x3 → Gx (jx_0 L) d md_M_notes 91 [o0, o1, o2, some (.inl x3), o4] [] I Q) (kf : ¬ (320 ≤ x3) → Gx (jx_0 L) d md_M_notes 9 [o0, o1, o2, some (.inl x3), o4] [] I Q) : Gx (jx_0 L) d md_M_notes 2 [o0, o1, o2, some (.inl x3), o4] [] I Q := by
  have hz1 := hz
  show jm_Go d 0 0 md_M_notes 2 [o0, o1, o2, some (.inl x3), o4] [] (jx (jx_0 L) I) (jx_Q (jx_0 L) Q)
  have hd : jm_dc md_M_notes.2.1 2 [(.iload_n 3, 1), (.sipush 320, 3), (.if_icmp .ge 85, 3)] = true := by decide +kernel
  refine go_iload_n rfl hd (fun hd => ?_)
  refine go_sipush (by decide) hd (fun hd => ?_)
  exact go_icmp_ge (by decide) hz1 ⟨by decide, by decide⟩ hd kt kf
theorem b_M_notes_9 {L : Nat} {d : Nat} {I : jm_I} {Q : Option jm_V → jm_I → Prop} {o1 : Option jm_V} {o2 : Option jm_V} {x3 : Int} {o4 : Option jm_V}  (hz : (0 ≤ x3 ∧ x3 < 320) ∧ (-2147483648 ≤ I 183 x3.toNat ∧ I 183 x3.toNat < 2147483648)) (kt : ¬ (I 183 x3.toNat) = 1 → Gx (jx_0 L) d md_M_notes 36 [some (.inr (.inl 167)), o1, o2, some (.inl x3), o4] [] I Q) (kf : (I 183 x3.toNat) = 1 → Gx (jx_0 L) d md_M_notes 19 [some (.inr (.inl 167)), o1, o2, some (.inl x3), o4] [] I Q) : Gx (jx_0 L) d md_M_notes 9 [some (.inr (.inl 167)), o1, o2, some (.inl x3), o4] [] I Q := by
  obtain ⟨hz1, hz2⟩ := hz
  show jm_Go d 0 0 md_M_notes 9 [some (.inr (.inl 167)), o1, o2, some (.inl x3), o4] [] (jx (jx_0 L) I) (jx_Q (jx_0 L) Q)
  have hd : jm_dc md_M_notes.2.1 9 [(.aload_n 0, 1), (.getfield 63, 3), (.iload_n 3, 1), (.iaload, 1), (.iconst 1, 1), (.if_icmp .ne 20, 3)] = true := by decide +kernel
  refine go_aload_n rfl hd (fun hd => ?_)
  refine go_getR co_X9 fl_9_63 (by decide) rfl rfl rfl hd (fun hd => ?_)
  refine go_iload_n rfl hd (fun hd => ?_)
  refine go_iaload rfl hz1.1 hz1.2 (by decide) hd (fun hd => ?_)
  refine go_iconst hd (fun hd => ?_)
  exact go_icmp_ne (by decide) hz2 ⟨by decide, by decide⟩ hd kt kf
theorem b_M_notes_19 {L : Nat} {d : Nat} {I : jm_I} {Q : Option jm_V → jm_I → Prop} {x1 : Int} {o2 : Option jm_V} {x3 : Int} {o4 : Option jm_V}  (hz : (0 ≤ x3 ∧ x3 < 2147483648)) (k : Cx (jx_0 L) d md_M_roomOf [.inr (.inl 167), .inl x1, .inl (x3 % 10)] I (fun v J => Gx (jx_0 L) (d + 1) md_M_notes 28 [some (.inr (.inl 167)), some (.inl x1), o2, some (.inl x3), o4] (v.toList ++ []) J Q)) : Gx (jx_0 L) (d + 1) md_M_notes 19 [some (.inr (.inl 167)), some (.inl x1), o2, some (.inl x3), o4] [] I Q := by
  have hz1 := hz
  show jm_Go (d + 1) 0 0 md_M_notes 19 [some (.inr (.inl 167)), some (.inl x1), o2, some (.inl x3), o4] [] (jx (jx_0 L) I) (jx_Q (jx_0 L) Q)
  have hd : jm_dc md_M_notes.2.1 19 [(.aload_n 0, 1), (.iload_n 1, 1), (.iload_n 3, 1), (.bipush 10, 2), (.irem, 1), (.invokevirtual 202, 3)] = true := by decide +kernel
  refine go_aload_n rfl hd (fun hd => ?_)
  refine go_iload_n rfl hd (fun hd => ?_)
  refine go_iload_n rfl hd (fun hd => ?_)
  refine go_bipush (by decide) hd (fun hd => ?_)
  refine go_irem hz1 (by decide) hd (fun hd => ?_)
  exact gx_virtual 167 9 [.inl x1, .inl (x3 % 10)] [] mk_M_roomOf co_X9 rfl ml_9_202 in_M_roomOf se_M_roomOf rfl rfl (Nat.le_of_ble_eq_true rfl) rfl (Nat.le_of_ble_eq_true rfl) rfl hd k
theorem b_M_notes_28 {L : Nat} {d : Nat} {I : jm_I} {Q : Option jm_V → jm_I → Prop} {o0 : Option jm_V} {o1 : Option jm_V} {x2 : Int} {o3 : Option jm_V} {o4 : Option jm_V} {s0 : Int}  (hz : (-2147483648 ≤ s0 ∧ s0 < 2147483648) ∧ (-2147483648 ≤ x2 ∧ x2 < 2147483648)) (kt : ¬ s0 = x2 → Gx (jx_0 L) d md_M_notes 36 [o0, o1, some (.inl x2), o3, o4] [] I Q) (kf : s0 = x2 → Gx (jx_0 L) d md_M_notes 32 [o0, o1, some (.inl x2), o3, o4] [] I Q) : Gx (jx_0 L) d md_M_notes 28 [o0, o1, some (.inl x2), o3, o4] [.inl s0] I Q := by
  obtain ⟨hz1, hz2⟩ := hz
  show jm_Go d 0 0 md_M_notes 28 [o0, o1, some (.inl x2), o3, o4] [.inl s0] (jx (jx_0 L) I) (jx_Q (jx_0 L) Q)
  have hd : jm_dc md_M_notes.2.1 28 [(.iload_n 2, 1), (.if_icmp .ne 7, 3)] = true := by decide +kernel
  refine go_iload_n rfl hd (fun hd => ?_)
  exact go_icmp_ne (by decide) hz1 hz2 hd kt kf
theorem b_M_notes_32 {L : Nat} {d : Nat} {I : jm_I} {Q : Option jm_V → jm_I → Prop} {o0 : Option jm_V} {o1 : Option jm_V} {o2 : Option jm_V} {o3 : Option jm_V} {o4 : Option jm_V}  (k : Gx (jx_0 L) d md_M_notes 37 [o0, o1, o2, o3, o4] [.inl 1] I Q) : Gx (jx_0 L) d md_M_notes 32 [o0, o1, o2, o3, o4] [] I Q := by
  show jm_Go d 0 0 md_M_notes 32 [o0, o1, o2, o3, o4] [] (jx (jx_0 L) I) (jx_Q (jx_0 L) Q)
  have hd : jm_dc md_M_notes.2.1 32 [(.iconst 1, 1), (.goto 4, 3)] = true := by decide +kernel
  refine go_iconst hd (fun hd => ?_)
  exact go_goto (by decide) hd k
theorem b_M_notes_36 {L : Nat} {d : Nat} {I : jm_I} {Q : Option jm_V → jm_I → Prop} {o0 : Option jm_V} {o1 : Option jm_V} {o2 : Option jm_V} {o3 : Option jm_V} {o4 : Option jm_V}  (k : Gx (jx_0 L) d md_M_notes 37 [o0, o1, o2, o3, o4] [.inl 0] I Q) : Gx (jx_0 L) d md_M_notes 36 [o0, o1, o2, o3, o4] [] I Q := by
  show jm_Go d 0 0 md_M_notes 36 [o0, o1, o2, o3, o4] [] (jx (jx_0 L) I) (jx_Q (jx_0 L) Q)
  have hd : jm_dc md_M_notes.2.1 36 [(.iconst 0, 1)] = true := by decide +kernel
  refine go_iconst hd (fun hd => ?_)
  exact k
theorem b_M_notes_37 {L : Nat} {d : Nat} {I : jm_I} {Q : Option jm_V → jm_I → Prop} {o1 : Option jm_V} {o2 : Option jm_V} {o3 : Option jm_V} {o4 : Option jm_V} {s0 : Int}  (hz : (-2147483648 ≤ s0 ∧ s0 < 2147483648)) (kt : s0 = 0 → Gx (jx_0 L) d md_M_notes 78 [some (.inr (.inl 167)), o1, o2, o3, some (.inl s0)] [.inr (.inl 167)] I Q) (kf : ¬ s0 = 0 → Gx (jx_0 L) d md_M_notes 45 [some (.inr (.inl 167)), o1, o2, o3, some (.inl s0)] [.inr (.inl 167)] I Q) : Gx (jx_0 L) d md_M_notes 37 [some (.inr (.inl 167)), o1, o2, o3, o4] [.inl s0] I Q := by
  have hz1 := hz
  show jm_Go d 0 0 md_M_notes 37 [some (.inr (.inl 167)), o1, o2, o3, o4] [.inl s0] (jx (jx_0 L) I) (jx_Q (jx_0 L) Q)
  have hd : jm_dc md_M_notes.2.1 37 [(.istore 4, 2), (.aload_n 0, 1), (.iload 4, 2), (.ifCond .eq 36, 3)] = true := by decide +kernel
  refine go_istore (by decide) hd (fun hd => ?_)
  refine go_aload_n rfl hd (fun hd => ?_)
  refine go_iload rfl hd (fun hd => ?_)
  exact go_if_eq (by decide) hz1 hd kt kf
theorem b_M_notes_45 {L : Nat} {d : Nat} {I : jm_I} {Q : Option jm_V → jm_I → Prop} {o1 : Option jm_V} {o2 : Option jm_V} {o3 : Option jm_V} {o4 : Option jm_V}  (hz : (-2147483648 ≤ I 167 35 ∧ I 167 35 < 2147483648)) (kt : (I 167 35) = (-9) → Gx (jx_0 L) d md_M_notes 68 [some (.inr (.inl 167)), o1, o2, o3, o4] [.inr (.inl 167)] I Q) (kf : ¬ (I 167 35) = (-9) → Gx (jx_0 L) d md_M_notes 54 [some (.inr (.inl 167)), o1, o2, o3, o4] [.inr (.inl 167)] I Q) : Gx (jx_0 L) d md_M_notes 45 [some (.inr (.inl 167)), o1, o2, o3, o4] [.inr (.inl 167)] I Q := by
  have hz1 := hz
  show jm_Go d 0 0 md_M_notes 45 [some (.inr (.inl 167)), o1, o2, o3, o4] [.inr (.inl 167)] (jx (jx_0 L) I) (jx_Q (jx_0 L) Q)
  have hd : jm_dc md_M_notes.2.1 45 [(.aload_n 0, 1), (.getfield 215, 3), (.bipush (-9), 2), (.if_icmp .eq 17, 3)] = true := by decide +kernel
  refine go_aload_n rfl hd (fun hd => ?_)
  refine go_getI co_X9 fl_9_215 (by decide) (Or.inl rfl) rfl hd (fun hd => ?_)
  refine go_bipush (by decide) hd (fun hd => ?_)
  exact go_icmp_eq (by decide) hz1 ⟨by decide, by decide⟩ hd kt kf
theorem b_M_notes_54 {L : Nat} {d : Nat} {I : jm_I} {Q : Option jm_V → jm_I → Prop} {o0 : Option jm_V} {o1 : Option jm_V} {o2 : Option jm_V} {x3 : Int} {o4 : Option jm_V}  (hz : (0 ≤ x3 ∧ x3 < 2147483648)) (k : Cx (jx_0 L) d md_M_bits [.inl (x3 / 10)] I (fun v J => Gx (jx_0 L) (d + 1) md_M_notes 61 [o0, o1, o2, some (.inl x3), o4] (v.toList ++ [.inr (.inl 167)]) J Q)) : Gx (jx_0 L) (d + 1) md_M_notes 54 [o0, o1, o2, some (.inl x3), o4] [.inr (.inl 167)] I Q := by
  have hz1 := hz
  show jm_Go (d + 1) 0 0 md_M_notes 54 [o0, o1, o2, some (.inl x3), o4] [.inr (.inl 167)] (jx (jx_0 L) I) (jx_Q (jx_0 L) Q)
  have hd : jm_dc md_M_notes.2.1 54 [(.iload_n 3, 1), (.bipush 10, 2), (.idiv, 1), (.invokestatic 218, 3)] = true := by decide +kernel
  refine go_iload_n rfl hd (fun hd => ?_)
  refine go_bipush (by decide) hd (fun hd => ?_)
  refine go_idiv hz1 (by decide) hd (fun hd => ?_)
  exact gx_static [.inl (x3 / 10)] [.inr (.inl 167)] mk_M_bits ml_9_218 st_M_bits rfl (Nat.le_of_ble_eq_true rfl) rfl (Nat.le_of_ble_eq_true rfl) rfl hd k
theorem b_M_notes_61 {L : Nat} {d : Nat} {I : jm_I} {Q : Option jm_V → jm_I → Prop} {o1 : Option jm_V} {o2 : Option jm_V} {o3 : Option jm_V} {o4 : Option jm_V} {s1 : Int}  (hz : (-2147483648 ≤ s1 ∧ s1 < 2147483648) ∧ (-2147483648 ≤ I 167 35 ∧ I 167 35 < 2147483648)) (kt : (I 167 35) ≤ s1 → Gx (jx_0 L) d md_M_notes 78 [some (.inr (.inl 167)), o1, o2, o3, o4] [.inr (.inl 167)] I Q) (kf : ¬ ((I 167 35) ≤ s1) → Gx (jx_0 L) d md_M_notes 68 [some (.inr (.inl 167)), o1, o2, o3, o4] [.inr (.inl 167)] I Q) : Gx (jx_0 L) d md_M_notes 61 [some (.inr (.inl 167)), o1, o2, o3, o4] [.inl s1, .inr (.inl 167)] I Q := by
  obtain ⟨hz1, hz2⟩ := hz
  show jm_Go d 0 0 md_M_notes 61 [some (.inr (.inl 167)), o1, o2, o3, o4] [.inl s1, .inr (.inl 167)] (jx (jx_0 L) I) (jx_Q (jx_0 L) Q)
  have hd : jm_dc md_M_notes.2.1 61 [(.aload_n 0, 1), (.getfield 215, 3), (.if_icmp .ge 13, 3)] = true := by decide +kernel
  refine go_aload_n rfl hd (fun hd => ?_)
  refine go_getI co_X9 fl_9_215 (by decide) (Or.inl rfl) rfl hd (fun hd => ?_)
  exact go_icmp_ge (by decide) hz1 hz2 hd kt kf
theorem b_M_notes_68 {L : Nat} {d : Nat} {I : jm_I} {Q : Option jm_V → jm_I → Prop} {o0 : Option jm_V} {o1 : Option jm_V} {o2 : Option jm_V} {x3 : Int} {o4 : Option jm_V}  (hz : (0 ≤ x3 ∧ x3 < 2147483648)) (k : Cx (jx_0 L) d md_M_bits [.inl (x3 / 10)] I (fun v J => Gx (jx_0 L) (d + 1) md_M_notes 75 [o0, o1, o2, some (.inl x3), o4] (v.toList ++ [.inr (.inl 167)]) J Q)) : Gx (jx_0 L) (d + 1) md_M_notes 68 [o0, o1, o2, some (.inl x3), o4] [.inr (.inl 167)] I Q := by
  have hz1 := hz
  show jm_Go (d + 1) 0 0 md_M_notes 68 [o0, o1, o2, some (.inl x3), o4] [.inr (.inl 167)] (jx (jx_0 L) I) (jx_Q (jx_0 L) Q)
  have hd : jm_dc md_M_notes.2.1 68 [(.iload_n 3, 1), (.bipush 10, 2), (.idiv, 1), (.invokestatic 218, 3)] = true := by decide +kernel
  refine go_iload_n rfl hd (fun hd => ?_)
  refine go_bipush (by decide) hd (fun hd => ?_)
  refine go_idiv hz1 (by decide) hd (fun hd => ?_)
  exact gx_static [.inl (x3 / 10)] [.inr (.inl 167)] mk_M_bits ml_9_218 st_M_bits rfl (Nat.le_of_ble_eq_true rfl) rfl (Nat.le_of_ble_eq_true rfl) rfl hd k
theorem b_M_notes_75 {L : Nat} {d : Nat} {I : jm_I} {Q : Option jm_V → jm_I → Prop} {o0 : Option jm_V} {o1 : Option jm_V} {o2 : Option jm_V} {o3 : Option jm_V} {o4 : Option jm_V} {s1 : Int}  (k : Gx (jx_0 L) d md_M_notes 82 [o0, o1, o2, o3, o4] [.inl s1, .inr (.inl 167)] I Q) : Gx (jx_0 L) d md_M_notes 75 [o0, o1, o2, o3, o4] [.inl s1, .inr (.inl 167)] I Q := by
  show jm_Go d 0 0 md_M_notes 75 [o0, o1, o2, o3, o4] [.inl s1, .inr (.inl 167)] (jx (jx_0 L) I) (jx_Q (jx_0 L) Q)
  have hd : jm_dc md_M_notes.2.1 75 [(.goto 7, 3)] = true := by decide +kernel
  exact go_goto (by decide) hd k
theorem b_M_notes_78 {L : Nat} {d : Nat} {I : jm_I} {Q : Option jm_V → jm_I → Prop} {o1 : Option jm_V} {o2 : Option jm_V} {o3 : Option jm_V} {o4 : Option jm_V}  (k : Gx (jx_0 L) d md_M_notes 82 [some (.inr (.inl 167)), o1, o2, o3, o4] [.inl (I 167 35), .inr (.inl 167)] I Q) : Gx (jx_0 L) d md_M_notes 78 [some (.inr (.inl 167)), o1, o2, o3, o4] [.inr (.inl 167)] I Q := by
  show jm_Go d 0 0 md_M_notes 78 [some (.inr (.inl 167)), o1, o2, o3, o4] [.inr (.inl 167)] (jx (jx_0 L) I) (jx_Q (jx_0 L) Q)
  have hd : jm_dc md_M_notes.2.1 78 [(.aload_n 0, 1), (.getfield 215, 3)] = true := by decide +kernel
  refine go_aload_n rfl hd (fun hd => ?_)
  refine go_getI co_X9 fl_9_215 (by decide) (Or.inl rfl) rfl hd (fun hd => ?_)
  exact k
theorem b_M_notes_82 {L : Nat} {d : Nat} {I : jm_I} {Q : Option jm_V → jm_I → Prop} {o0 : Option jm_V} {o1 : Option jm_V} {o2 : Option jm_V} {x3 : Int} {o4 : Option jm_V} {s1 : Int}  (k : Gx (jx_0 L) d md_M_notes 2 [o0, o1, o2, some (.inl (x3 + 1)), o4] [] (jm_up I 167 35 s1) Q) : Gx (jx_0 L) d md_M_notes 82 [o0, o1, o2, some (.inl x3), o4] [.inl s1, .inr (.inl 167)] I Q := by
  show jm_Go d 0 0 md_M_notes 82 [o0, o1, o2, some (.inl x3), o4] [.inl s1, .inr (.inl 167)] (jx (jx_0 L) I) (jx_Q (jx_0 L) Q)
  have hd : jm_dc md_M_notes.2.1 82 [(.putfield 215, 3), (.iinc 3 1, 3), (.goto (-86), 3)] = true := by decide +kernel
  refine go_putI co_X9 fl_9_215 (by decide) rfl rfl hd (fun hd => ?_)
  refine go_iinc rfl hd (fun hd => ?_)
  exact go_goto (by decide) hd k
theorem b_M_notes_91 {L : Nat} {d : Nat} {I : jm_I} {Q : Option jm_V → jm_I → Prop} {o0 : Option jm_V} {o1 : Option jm_V} {o2 : Option jm_V} {o3 : Option jm_V} {o4 : Option jm_V}  (k : Q none I) : Gx (jx_0 L) d md_M_notes 91 [o0, o1, o2, o3, o4] [] I Q := by
  show jm_Go d 0 0 md_M_notes 91 [o0, o1, o2, o3, o4] [] (jx (jx_0 L) I) (jx_Q (jx_0 L) Q)
  have hd : jm_dc md_M_notes.2.1 91 [(.return_, 1)] = true := by decide +kernel
  exact go_vreturn hd rfl ⟨_, rfl, k⟩
theorem b_M_bits_0 {L : Nat} {d : Nat} {I : jm_I} {Q : Option jm_V → jm_I → Prop} {x0 : Int}  (k : Gx (jx_0 L) d md_M_bits 4 [some (.inl x0), some (.inl 0), some (.inl x0)] [] I Q) : Cx (jx_0 L) d md_M_bits [.inl x0] I Q := by
  show jm_Go d 0 0 md_M_bits 0 [some (.inl x0), none, none] [] (jx (jx_0 L) I) (jx_Q (jx_0 L) Q)
  have hd : jm_dc md_M_bits.2.1 0 [(.iconst 0, 1), (.istore_n 1, 1), (.iload_n 0, 1), (.istore_n 2, 1)] = true := by decide +kernel
  refine go_iconst hd (fun hd => ?_)
  refine go_istore_n (by decide) hd (fun hd => ?_)
  refine go_iload_n rfl hd (fun hd => ?_)
  refine go_istore_n (by decide) hd (fun hd => ?_)
  exact k
theorem b_M_bits_4 {L : Nat} {d : Nat} {I : jm_I} {Q : Option jm_V → jm_I → Prop} {o0 : Option jm_V} {o1 : Option jm_V} {x2 : Int}  (hz : (-2147483648 ≤ x2 ∧ x2 < 2147483648)) (kt : x2 ≤ 0 → Gx (jx_0 L) d md_M_bits 20 [o0, o1, some (.inl x2)] [] I Q) (kf : ¬ (x2 ≤ 0) → Gx (jx_0 L) d md_M_bits 8 [o0, o1, some (.inl x2)] [] I Q) : Gx (jx_0 L) d md_M_bits 4 [o0, o1, some (.inl x2)] [] I Q := by
  have hz1 := hz
  show jm_Go d 0 0 md_M_bits 4 [o0, o1, some (.inl x2)] [] (jx (jx_0 L) I) (jx_Q (jx_0 L) Q)
  have hd : jm_dc md_M_bits.2.1 4 [(.iload_n 2, 1), (.ifCond .le 15, 3)] = true := by decide +kernel
  refine go_iload_n rfl hd (fun hd => ?_)
  exact go_if_le (by decide) hz1 hd kt kf
theorem b_M_bits_8 {L : Nat} {d : Nat} {I : jm_I} {Q : Option jm_V → jm_I → Prop} {o0 : Option jm_V} {x1 : Int} {x2 : Int}  (k : Gx (jx_0 L) d md_M_bits 4 [o0, some (.inl (x1 + 1)), some (.inl (jb_and x2 (x2 - 1)))] [] I Q) : Gx (jx_0 L) d md_M_bits 8 [o0, some (.inl x1), some (.inl x2)] [] I Q := by
  show jm_Go d 0 0 md_M_bits 8 [o0, some (.inl x1), some (.inl x2)] [] (jx (jx_0 L) I) (jx_Q (jx_0 L) Q)
  have hd : jm_dc md_M_bits.2.1 8 [(.iinc 1 1, 3), (.iload_n 2, 1), (.iload_n 2, 1), (.iconst 1, 1), (.isub, 1), (.iand, 1), (.istore_n 2, 1), (.goto (-13), 3)] = true := by decide +kernel
  refine go_iinc rfl hd (fun hd => ?_)
  refine go_iload_n rfl hd (fun hd => ?_)
  refine go_iload_n rfl hd (fun hd => ?_)
  refine go_iconst hd (fun hd => ?_)
  refine go_isub hd (fun hd => ?_)
  refine go_iand hd (fun hd => ?_)
  refine go_istore_n (by decide) hd (fun hd => ?_)
  exact go_goto (by decide) hd k
theorem b_M_bits_20 {L : Nat} {d : Nat} {I : jm_I} {Q : Option jm_V → jm_I → Prop} {o0 : Option jm_V} {x1 : Int} {o2 : Option jm_V}  (k : Q (some (.inl x1)) I) : Gx (jx_0 L) d md_M_bits 20 [o0, some (.inl x1), o2] [] I Q := by
  show jm_Go d 0 0 md_M_bits 20 [o0, some (.inl x1), o2] [] (jx (jx_0 L) I) (jx_Q (jx_0 L) Q)
  have hd : jm_dc md_M_bits.2.1 20 [(.iload_n 1, 1), (.ireturn, 1)] = true := by decide +kernel
  refine go_iload_n rfl hd (fun hd => ?_)
  exact go_ireturn hd rfl ⟨_, rfl, k⟩
theorem b_M_found_0 {L : Nat} {d : Nat} {I : jm_I} {Q : Option jm_V → jm_I → Prop} {x1 : Int} {x2 : Int} {x3 : Int}  (k : Cx (jx_0 L) d md_M_isThing [.inr (.inl 167), .inl x1] I (fun v J => Gx (jx_0 L) (d + 1) md_M_found 5 [some (.inr (.inl 167)), some (.inl x1), some (.inl x2), some (.inl x3)] (v.toList ++ []) J Q)) : Cx (jx_0 L) (d + 1) md_M_found [.inr (.inl 167), .inl x1, .inl x2, .inl x3] I Q := by
  show jm_Go (d + 1) 0 0 md_M_found 0 [some (.inr (.inl 167)), some (.inl x1), some (.inl x2), some (.inl x3)] [] (jx (jx_0 L) I) (jx_Q (jx_0 L) Q)
  have hd : jm_dc md_M_found.2.1 0 [(.aload_n 0, 1), (.iload_n 1, 1), (.invokevirtual 172, 3)] = true := by decide +kernel
  refine go_aload_n rfl hd (fun hd => ?_)
  refine go_iload_n rfl hd (fun hd => ?_)
  exact gx_virtual 167 9 [.inl x1] [] mk_M_isThing co_X9 rfl ml_9_172 in_M_isThing se_M_isThing rfl rfl (Nat.le_of_ble_eq_true rfl) rfl (Nat.le_of_ble_eq_true rfl) rfl hd k
theorem b_M_found_5 {L : Nat} {d : Nat} {I : jm_I} {Q : Option jm_V → jm_I → Prop} {o0 : Option jm_V} {o1 : Option jm_V} {o2 : Option jm_V} {o3 : Option jm_V} {s0 : Int}  (hz : (-2147483648 ≤ s0 ∧ s0 < 2147483648)) (kt : s0 = 0 → Gx (jx_0 L) d md_M_found 26 [o0, o1, o2, o3] [] I Q) (kf : ¬ s0 = 0 → Gx (jx_0 L) d md_M_found 8 [o0, o1, o2, o3] [] I Q) : Gx (jx_0 L) d md_M_found 5 [o0, o1, o2, o3] [.inl s0] I Q := by
  have hz1 := hz
  show jm_Go d 0 0 md_M_found 5 [o0, o1, o2, o3] [.inl s0] (jx (jx_0 L) I) (jx_Q (jx_0 L) Q)
  have hd : jm_dc md_M_found.2.1 5 [(.ifCond .eq 21, 3)] = true := by decide +kernel
  exact go_if_eq (by decide) hz1 hd kt kf
theorem b_M_found_8 {L : Nat} {d : Nat} {I : jm_I} {Q : Option jm_V → jm_I → Prop} {o1 : Option jm_V} {x2 : Int} {o3 : Option jm_V}  (k : Cx (jx_0 L) d md_M_isRoom [.inr (.inl 167), .inl x2] I (fun v J => Gx (jx_0 L) (d + 1) md_M_found 13 [some (.inr (.inl 167)), o1, some (.inl x2), o3] (v.toList ++ []) J Q)) : Gx (jx_0 L) (d + 1) md_M_found 8 [some (.inr (.inl 167)), o1, some (.inl x2), o3] [] I Q := by
  show jm_Go (d + 1) 0 0 md_M_found 8 [some (.inr (.inl 167)), o1, some (.inl x2), o3] [] (jx (jx_0 L) I) (jx_Q (jx_0 L) Q)
  have hd : jm_dc md_M_found.2.1 8 [(.aload_n 0, 1), (.iload_n 2, 1), (.invokevirtual 178, 3)] = true := by decide +kernel
  refine go_aload_n rfl hd (fun hd => ?_)
  refine go_iload_n rfl hd (fun hd => ?_)
  exact gx_virtual 167 9 [.inl x2] [] mk_M_isRoom co_X9 rfl ml_9_178 in_M_isRoom se_M_isRoom rfl rfl (Nat.le_of_ble_eq_true rfl) rfl (Nat.le_of_ble_eq_true rfl) rfl hd k
theorem b_M_found_13 {L : Nat} {d : Nat} {I : jm_I} {Q : Option jm_V → jm_I → Prop} {o0 : Option jm_V} {o1 : Option jm_V} {o2 : Option jm_V} {o3 : Option jm_V} {s0 : Int}  (hz : (-2147483648 ≤ s0 ∧ s0 < 2147483648)) (kt : s0 = 0 → Gx (jx_0 L) d md_M_found 26 [o0, o1, o2, o3] [] I Q) (kf : ¬ s0 = 0 → Gx (jx_0 L) d md_M_found 16 [o0, o1, o2, o3] [] I Q) : Gx (jx_0 L) d md_M_found 13 [o0, o1, o2, o3] [.inl s0] I Q := by
  have hz1 := hz
  show jm_Go d 0 0 md_M_found 13 [o0, o1, o2, o3] [.inl s0] (jx (jx_0 L) I) (jx_Q (jx_0 L) Q)
  have hd : jm_dc md_M_found.2.1 13 [(.ifCond .eq 13, 3)] = true := by decide +kernel
  exact go_if_eq (by decide) hz1 hd kt kf
theorem b_M_found_16 {L : Nat} {d : Nat} {I : jm_I} {Q : Option jm_V → jm_I → Prop} {o0 : Option jm_V} {o1 : Option jm_V} {o2 : Option jm_V} {x3 : Int}  (k : Cx (jx_0 L) d md_M_in [.inl x3, .inl 0, .inl 20] I (fun v J => Gx (jx_0 L) (d + 1) md_M_found 23 [o0, o1, o2, some (.inl x3)] (v.toList ++ []) J Q)) : Gx (jx_0 L) (d + 1) md_M_found 16 [o0, o1, o2, some (.inl x3)] [] I Q := by
  show jm_Go (d + 1) 0 0 md_M_found 16 [o0, o1, o2, some (.inl x3)] [] (jx (jx_0 L) I) (jx_Q (jx_0 L) Q)
  have hd : jm_dc md_M_found.2.1 16 [(.iload_n 3, 1), (.iconst 0, 1), (.bipush 20, 2), (.invokestatic 78, 3)] = true := by decide +kernel
  refine go_iload_n rfl hd (fun hd => ?_)
  refine go_iconst hd (fun hd => ?_)
  refine go_bipush (by decide) hd (fun hd => ?_)
  exact gx_static [.inl x3, .inl 0, .inl 20] [] mk_M_in ml_9_78 st_M_in rfl (Nat.le_of_ble_eq_true rfl) rfl (Nat.le_of_ble_eq_true rfl) rfl hd k
theorem b_M_found_23 {L : Nat} {d : Nat} {I : jm_I} {Q : Option jm_V → jm_I → Prop} {o0 : Option jm_V} {o1 : Option jm_V} {o2 : Option jm_V} {o3 : Option jm_V} {s0 : Int}  (hz : (-2147483648 ≤ s0 ∧ s0 < 2147483648)) (kt : ¬ s0 = 0 → Gx (jx_0 L) d md_M_found 28 [o0, o1, o2, o3] [] I Q) (kf : s0 = 0 → Gx (jx_0 L) d md_M_found 26 [o0, o1, o2, o3] [] I Q) : Gx (jx_0 L) d md_M_found 23 [o0, o1, o2, o3] [.inl s0] I Q := by
  have hz1 := hz
  show jm_Go d 0 0 md_M_found 23 [o0, o1, o2, o3] [.inl s0] (jx (jx_0 L) I) (jx_Q (jx_0 L) Q)
  have hd : jm_dc md_M_found.2.1 23 [(.ifCond .ne 5, 3)] = true := by decide +kernel
  exact go_if_ne (by decide) hz1 hd kt kf
theorem b_M_found_26 {L : Nat} {d : Nat} {I : jm_I} {Q : Option jm_V → jm_I → Prop} {o0 : Option jm_V} {o1 : Option jm_V} {o2 : Option jm_V} {o3 : Option jm_V}  (k : Q (some (.inl (-1))) I) : Gx (jx_0 L) d md_M_found 26 [o0, o1, o2, o3] [] I Q := by
  show jm_Go d 0 0 md_M_found 26 [o0, o1, o2, o3] [] (jx (jx_0 L) I) (jx_Q (jx_0 L) Q)
  have hd : jm_dc md_M_found.2.1 26 [(.iconst (-1), 1), (.ireturn, 1)] = true := by decide +kernel
  refine go_iconst hd (fun hd => ?_)
  exact go_ireturn hd rfl ⟨_, rfl, k⟩
theorem b_M_found_28 {L : Nat} {d : Nat} {I : jm_I} {Q : Option jm_V → jm_I → Prop} {o1 : Option jm_V} {o2 : Option jm_V} {o3 : Option jm_V}  (hz : (-2147483648 ≤ I 167 13 ∧ I 167 13 < 2147483648)) (kt : ¬ (I 167 13) = 4 → Gx (jx_0 L) d md_M_found 39 [some (.inr (.inl 167)), o1, o2, o3] [] I Q) (kf : (I 167 13) = 4 → Gx (jx_0 L) d md_M_found 36 [some (.inr (.inl 167)), o1, o2, o3] [] I Q) : Gx (jx_0 L) d md_M_found 28 [some (.inr (.inl 167)), o1, o2, o3] [] I Q := by
  have hz1 := hz
  show jm_Go d 0 0 md_M_found 28 [some (.inr (.inl 167)), o1, o2, o3] [] (jx (jx_0 L) I) (jx_Q (jx_0 L) Q)
  have hd : jm_dc md_M_found.2.1 28 [(.aload_n 0, 1), (.getfield 161, 3), (.iconst 4, 1), (.if_icmp .ne 6, 3)] = true := by decide +kernel
  refine go_aload_n rfl hd (fun hd => ?_)
  refine go_getI co_X9 fl_9_161 (by decide) (Or.inl rfl) rfl hd (fun hd => ?_)
  refine go_iconst hd (fun hd => ?_)
  exact go_icmp_ne (by decide) hz1 ⟨by decide, by decide⟩ hd kt kf
theorem b_M_found_36 {L : Nat} {d : Nat} {I : jm_I} {Q : Option jm_V → jm_I → Prop} {o0 : Option jm_V} {o1 : Option jm_V} {o2 : Option jm_V} {o3 : Option jm_V}  (k : Q (some (.inl (-3))) I) : Gx (jx_0 L) d md_M_found 36 [o0, o1, o2, o3] [] I Q := by
  show jm_Go d 0 0 md_M_found 36 [o0, o1, o2, o3] [] (jx (jx_0 L) I) (jx_Q (jx_0 L) Q)
  have hd : jm_dc md_M_found.2.1 36 [(.bipush (-3), 2), (.ireturn, 1)] = true := by decide +kernel
  refine go_bipush (by decide) hd (fun hd => ?_)
  exact go_ireturn hd rfl ⟨_, rfl, k⟩
theorem b_M_found_39 {L : Nat} {d : Nat} {I : jm_I} {Q : Option jm_V → jm_I → Prop} {x1 : Int} {x2 : Int} {x3 : Int}  (hz : (0 ≤ 3 * (I 167 13) ∧ 3 * (I 167 13) < 12) ∧ (0 ≤ (3 * (I 167 13)) + 1 ∧ (3 * (I 167 13)) + 1 < 12) ∧ (0 ≤ (3 * (I 167 13)) + 2 ∧ (3 * (I 167 13)) + 2 < 12)) (k : Q (some (.inl (((I 167 13) + 1)))) (jm_up (jm_up (jm_up (jm_up I 175 ((3 * (I 167 13)).toNat) x1) 175 (((3 * (I 167 13)) + 1).toNat) x2) 175 (((3 * (I 167 13)) + 2).toNat) x3) 167 13 ((I 167 13) + 1))) : Gx (jx_0 L) d md_M_found 39 [some (.inr (.inl 167)), some (.inl x1), some (.inl x2), some (.inl x3)] [] I Q := by
  obtain ⟨hz1, hz2, hz3⟩ := hz
  show jm_Go d 0 0 md_M_found 39 [some (.inr (.inl 167)), some (.inl x1), some (.inl x2), some (.inl x3)] [] (jx (jx_0 L) I) (jx_Q (jx_0 L) Q)
  have hd : jm_dc md_M_found.2.1 39 [(.aload_n 0, 1), (.getfield 39, 3), (.iconst 3, 1), (.aload_n 0, 1), (.getfield 161, 3), (.imul, 1), (.iload_n 1, 1), (.iastore, 1), (.aload_n 0, 1), (.getfield 39, 3), (.iconst 3, 1), (.aload_n 0, 1), (.getfield 161, 3), (.imul, 1), (.iconst 1, 1), (.iadd, 1), (.iload_n 2, 1), (.iastore, 1), (.aload_n 0, 1), (.getfield 39, 3), (.iconst 3, 1), (.aload_n 0, 1), (.getfield 161, 3), (.imul, 1), (.iconst 2, 1), (.iadd, 1), (.iload_n 3, 1), (.iastore, 1), (.aload_n 0, 1), (.dup, 1), (.getfield 161, 3), (.iconst 1, 1), (.iadd, 1), (.putfield 161, 3), (.aload_n 0, 1), (.getfield 161, 3), (.ireturn, 1)] = true := by decide +kernel
  refine go_aload_n rfl hd (fun hd => ?_)
  refine go_getR co_X9 fl_9_39 (by decide) rfl rfl rfl hd (fun hd => ?_)
  refine go_iconst hd (fun hd => ?_)
  refine go_aload_n rfl hd (fun hd => ?_)
  refine go_getI co_X9 fl_9_161 (by decide) (Or.inl rfl) rfl hd (fun hd => ?_)
  refine go_imul hd (fun hd => ?_)
  refine go_iload_n rfl hd (fun hd => ?_)
  refine go_iastore rfl hz1.1 hz1.2 (by decide) hd (fun hd => ?_)
  refine go_aload_n rfl hd (fun hd => ?_)
  refine go_getR co_X9 fl_9_39 (by decide) rfl rfl rfl hd (fun hd => ?_)
  refine go_iconst hd (fun hd => ?_)
  refine go_aload_n rfl hd (fun hd => ?_)
  refine go_getI co_X9 fl_9_161 (by decide) (Or.inl rfl) rfl hd (fun hd => ?_)
  refine go_imul hd (fun hd => ?_)
  refine go_iconst hd (fun hd => ?_)
  refine go_iadd hd (fun hd => ?_)
  refine go_iload_n rfl hd (fun hd => ?_)
  refine go_iastore rfl hz2.1 hz2.2 (by decide) hd (fun hd => ?_)
  refine go_aload_n rfl hd (fun hd => ?_)
  refine go_getR co_X9 fl_9_39 (by decide) rfl rfl rfl hd (fun hd => ?_)
  refine go_iconst hd (fun hd => ?_)
  refine go_aload_n rfl hd (fun hd => ?_)
  refine go_getI co_X9 fl_9_161 (by decide) (Or.inl rfl) rfl hd (fun hd => ?_)
  refine go_imul hd (fun hd => ?_)
  refine go_iconst hd (fun hd => ?_)
  refine go_iadd hd (fun hd => ?_)
  refine go_iload_n rfl hd (fun hd => ?_)
  refine go_iastore rfl hz3.1 hz3.2 (by decide) hd (fun hd => ?_)
  refine go_aload_n rfl hd (fun hd => ?_)
  refine go_dup rfl hd (fun hd => ?_)
  refine go_getI co_X9 fl_9_161 (by decide) (Or.inl rfl) rfl hd (fun hd => ?_)
  refine go_iconst hd (fun hd => ?_)
  refine go_iadd hd (fun hd => ?_)
  refine go_putI co_X9 fl_9_161 (by decide) rfl rfl hd (fun hd => ?_)
  refine go_aload_n rfl hd (fun hd => ?_)
  refine go_getI co_X9 fl_9_161 (by decide) (Or.inl rfl) rfl hd (fun hd => ?_)
  exact go_ireturn hd rfl ⟨_, rfl, k⟩
theorem b_M_forget_0 {L : Nat} {d : Nat} {I : jm_I} {Q : Option jm_V → jm_I → Prop}   (k : Q (some (.inl (I 167 13))) (jm_up I 167 13 0)) : Cx (jx_0 L) d md_M_forget [.inr (.inl 167)] I Q := by
  show jm_Go d 0 0 md_M_forget 0 [some (.inr (.inl 167)), none] [] (jx (jx_0 L) I) (jx_Q (jx_0 L) Q)
  have hd : jm_dc md_M_forget.2.1 0 [(.aload_n 0, 1), (.getfield 161, 3), (.istore_n 1, 1), (.aload_n 0, 1), (.iconst 0, 1), (.putfield 161, 3), (.iload_n 1, 1), (.ireturn, 1)] = true := by decide +kernel
  refine go_aload_n rfl hd (fun hd => ?_)
  refine go_getI co_X9 fl_9_161 (by decide) (Or.inl rfl) rfl hd (fun hd => ?_)
  refine go_istore_n (by decide) hd (fun hd => ?_)
  refine go_aload_n rfl hd (fun hd => ?_)
  refine go_iconst hd (fun hd => ?_)
  refine go_putI co_X9 fl_9_161 (by decide) rfl rfl hd (fun hd => ?_)
  refine go_iload_n rfl hd (fun hd => ?_)
  exact go_ireturn hd rfl ⟨_, rfl, k⟩
theorem b_M_doneBy_0 {L : Nat} {d : Nat} {I : jm_I} {Q : Option jm_V → jm_I → Prop}   (k : Cx (jx_0 L) d md_M_findFar [.inr (.inl 167), .inl 0] I (fun v J => Gx (jx_0 L) (d + 1) md_M_doneBy 5 [some (.inr (.inl 167)), none, none] (v.toList ++ []) J Q)) : Cx (jx_0 L) (d + 1) md_M_doneBy [.inr (.inl 167)] I Q := by
  show jm_Go (d + 1) 0 0 md_M_doneBy 0 [some (.inr (.inl 167)), none, none] [] (jx (jx_0 L) I) (jx_Q (jx_0 L) Q)
  have hd : jm_dc md_M_doneBy.2.1 0 [(.aload_n 0, 1), (.iconst 0, 1), (.invokevirtual 181, 3)] = true := by decide +kernel
  refine go_aload_n rfl hd (fun hd => ?_)
  refine go_iconst hd (fun hd => ?_)
  exact gx_virtual 167 9 [.inl 0] [] mk_M_findFar co_X9 rfl ml_9_181 in_M_findFar se_M_findFar rfl rfl (Nat.le_of_ble_eq_true rfl) rfl (Nat.le_of_ble_eq_true rfl) rfl hd k
theorem b_M_doneBy_5 {L : Nat} {d : Nat} {I : jm_I} {Q : Option jm_V → jm_I → Prop} {o0 : Option jm_V} {o1 : Option jm_V} {o2 : Option jm_V}  (k : Gx (jx_0 L) d md_M_doneBy 9 [o0, some (.inl 0), some (.inl 0)] [] I Q) : Gx (jx_0 L) d md_M_doneBy 5 [o0, o1, o2] [] I Q := by
  show jm_Go d 0 0 md_M_doneBy 5 [o0, o1, o2] [] (jx (jx_0 L) I) (jx_Q (jx_0 L) Q)
  have hd : jm_dc md_M_doneBy.2.1 5 [(.iconst 0, 1), (.istore_n 1, 1), (.iconst 0, 1), (.istore_n 2, 1)] = true := by decide +kernel
  refine go_iconst hd (fun hd => ?_)
  refine go_istore_n (by decide) hd (fun hd => ?_)
  refine go_iconst hd (fun hd => ?_)
  refine go_istore_n (by decide) hd (fun hd => ?_)
  exact k
theorem b_M_doneBy_9 {L : Nat} {d : Nat} {I : jm_I} {Q : Option jm_V → jm_I → Prop} {o1 : Option jm_V} {x2 : Int}  (hz : (-2147483648 ≤ x2 ∧ x2 < 2147483648) ∧ (-2147483648 ≤ I 167 4 ∧ I 167 4 < 2147483648)) (kt : (I 167 4) ≤ x2 → Gx (jx_0 L) d md_M_doneBy 52 [some (.inr (.inl 167)), o1, some (.inl x2)] [] I Q) (kf : ¬ ((I 167 4) ≤ x2) → Gx (jx_0 L) d md_M_doneBy 17 [some (.inr (.inl 167)), o1, some (.inl x2)] [] I Q) : Gx (jx_0 L) d md_M_doneBy 9 [some (.inr (.inl 167)), o1, some (.inl x2)] [] I Q := by
  obtain ⟨hz1, hz2⟩ := hz
  show jm_Go d 0 0 md_M_doneBy 9 [some (.inr (.inl 167)), o1, some (.inl x2)] [] (jx (jx_0 L) I) (jx_Q (jx_0 L) Q)
  have hd : jm_dc md_M_doneBy.2.1 9 [(.iload_n 2, 1), (.aload_n 0, 1), (.getfield 82, 3), (.if_icmp .ge 38, 3)] = true := by decide +kernel
  refine go_iload_n rfl hd (fun hd => ?_)
  refine go_aload_n rfl hd (fun hd => ?_)
  refine go_getI co_X9 fl_9_82 (by decide) (Or.inl rfl) rfl hd (fun hd => ?_)
  exact go_icmp_ge (by decide) hz1 hz2 hd kt kf
theorem b_M_doneBy_17 {L : Nat} {d : Nat} {I : jm_I} {Q : Option jm_V → jm_I → Prop} {x1 : Int} {o2 : Option jm_V}  (k : Cx (jx_0 L) d md_M_mayPress [.inr (.inl 167)] I (fun v J => Gx (jx_0 L) (d + 1) md_M_doneBy 22 [some (.inr (.inl 167)), some (.inl x1), o2] (v.toList ++ [.inl x1]) J Q)) : Gx (jx_0 L) (d + 1) md_M_doneBy 17 [some (.inr (.inl 167)), some (.inl x1), o2] [] I Q := by
  show jm_Go (d + 1) 0 0 md_M_doneBy 17 [some (.inr (.inl 167)), some (.inl x1), o2] [] (jx (jx_0 L) I) (jx_Q (jx_0 L) Q)
  have hd : jm_dc md_M_doneBy.2.1 17 [(.iload_n 1, 1), (.aload_n 0, 1), (.invokevirtual 228, 3)] = true := by decide +kernel
  refine go_iload_n rfl hd (fun hd => ?_)
  refine go_aload_n rfl hd (fun hd => ?_)
  exact gx_virtual 167 9 [] [.inl x1] mk_M_mayPress co_X9 rfl ml_9_228 in_M_mayPress se_M_mayPress rfl rfl (Nat.le_of_ble_eq_true rfl) rfl (Nat.le_of_ble_eq_true rfl) rfl hd k
theorem b_M_doneBy_22 {L : Nat} {d : Nat} {I : jm_I} {Q : Option jm_V → jm_I → Prop} {o0 : Option jm_V} {o1 : Option jm_V} {x2 : Int} {s0 : Int} {s1 : Int}  (k : Cx (jx_0 L) d md_M_has [.inl s1, .inl x2] I (fun v J => Gx (jx_0 L) (d + 1) md_M_doneBy 26 [o0, o1, some (.inl x2)] (v.toList ++ [.inl s0]) J Q)) : Gx (jx_0 L) (d + 1) md_M_doneBy 22 [o0, o1, some (.inl x2)] [.inl s1, .inl s0] I Q := by
  show jm_Go (d + 1) 0 0 md_M_doneBy 22 [o0, o1, some (.inl x2)] [.inl s1, .inl s0] (jx (jx_0 L) I) (jx_Q (jx_0 L) Q)
  have hd : jm_dc md_M_doneBy.2.1 22 [(.iload_n 2, 1), (.invokestatic 168, 3)] = true := by decide +kernel
  refine go_iload_n rfl hd (fun hd => ?_)
  exact gx_static [.inl s1, .inl x2] [.inl s0] mk_M_has ml_9_168 st_M_has rfl (Nat.le_of_ble_eq_true rfl) rfl (Nat.le_of_ble_eq_true rfl) rfl hd k
theorem b_M_doneBy_26 {L : Nat} {d : Nat} {I : jm_I} {Q : Option jm_V → jm_I → Prop} {o0 : Option jm_V} {o1 : Option jm_V} {o2 : Option jm_V} {s0 : Int} {s1 : Int}  (hz : (-2147483648 ≤ s1 ∧ s1 < 2147483648)) (kt : s1 = 0 → Gx (jx_0 L) d md_M_doneBy 43 [o0, o1, o2] [.inl s0] I Q) (kf : ¬ s1 = 0 → Gx (jx_0 L) d md_M_doneBy 29 [o0, o1, o2] [.inl s0] I Q) : Gx (jx_0 L) d md_M_doneBy 26 [o0, o1, o2] [.inl s1, .inl s0] I Q := by
  have hz1 := hz
  show jm_Go d 0 0 md_M_doneBy 26 [o0, o1, o2] [.inl s1, .inl s0] (jx (jx_0 L) I) (jx_Q (jx_0 L) Q)
  have hd : jm_dc md_M_doneBy.2.1 26 [(.ifCond .eq 17, 3)] = true := by decide +kernel
  exact go_if_eq (by decide) hz1 hd kt kf
theorem b_M_doneBy_29 {L : Nat} {d : Nat} {I : jm_I} {Q : Option jm_V → jm_I → Prop} {o1 : Option jm_V} {x2 : Int} {s0 : Int}  (k : Cx (jx_0 L) d md_M_canHave [.inr (.inl 167), .inl x2] I (fun v J => Gx (jx_0 L) (d + 1) md_M_doneBy 34 [some (.inr (.inl 167)), o1, some (.inl x2)] (v.toList ++ [.inl s0]) J Q)) : Gx (jx_0 L) (d + 1) md_M_doneBy 29 [some (.inr (.inl 167)), o1, some (.inl x2)] [.inl s0] I Q := by
  show jm_Go (d + 1) 0 0 md_M_doneBy 29 [some (.inr (.inl 167)), o1, some (.inl x2)] [.inl s0] (jx (jx_0 L) I) (jx_Q (jx_0 L) Q)
  have hd : jm_dc md_M_doneBy.2.1 29 [(.aload_n 0, 1), (.iload_n 2, 1), (.invokevirtual 245, 3)] = true := by decide +kernel
  refine go_aload_n rfl hd (fun hd => ?_)
  refine go_iload_n rfl hd (fun hd => ?_)
  exact gx_virtual 167 9 [.inl x2] [.inl s0] mk_M_canHave co_X9 rfl ml_9_245 in_M_canHave se_M_canHave rfl rfl (Nat.le_of_ble_eq_true rfl) rfl (Nat.le_of_ble_eq_true rfl) rfl hd k
theorem b_M_doneBy_34 {L : Nat} {d : Nat} {I : jm_I} {Q : Option jm_V → jm_I → Prop} {o0 : Option jm_V} {o1 : Option jm_V} {o2 : Option jm_V} {s0 : Int} {s1 : Int}  (hz : (-2147483648 ≤ s1 ∧ s1 < 2147483648)) (kt : s1 = 0 → Gx (jx_0 L) d md_M_doneBy 43 [o0, o1, o2] [.inl s0] I Q) (kf : ¬ s1 = 0 → Gx (jx_0 L) d md_M_doneBy 37 [o0, o1, o2] [.inl s0] I Q) : Gx (jx_0 L) d md_M_doneBy 34 [o0, o1, o2] [.inl s1, .inl s0] I Q := by
  have hz1 := hz
  show jm_Go d 0 0 md_M_doneBy 34 [o0, o1, o2] [.inl s1, .inl s0] (jx (jx_0 L) I) (jx_Q (jx_0 L) Q)
  have hd : jm_dc md_M_doneBy.2.1 34 [(.ifCond .eq 9, 3)] = true := by decide +kernel
  exact go_if_eq (by decide) hz1 hd kt kf
theorem b_M_doneBy_37 {L : Nat} {d : Nat} {I : jm_I} {Q : Option jm_V → jm_I → Prop} {o0 : Option jm_V} {o1 : Option jm_V} {x2 : Int} {s0 : Int}  (k : Gx (jx_0 L) d md_M_doneBy 44 [o0, o1, some (.inl x2)] [.inl (jb_shl 1 x2), .inl s0] I Q) : Gx (jx_0 L) d md_M_doneBy 37 [o0, o1, some (.inl x2)] [.inl s0] I Q := by
  show jm_Go d 0 0 md_M_doneBy 37 [o0, o1, some (.inl x2)] [.inl s0] (jx (jx_0 L) I) (jx_Q (jx_0 L) Q)
  have hd : jm_dc md_M_doneBy.2.1 37 [(.iconst 1, 1), (.iload_n 2, 1), (.ishl, 1), (.goto 4, 3)] = true := by decide +kernel
  refine go_iconst hd (fun hd => ?_)
  refine go_iload_n rfl hd (fun hd => ?_)
  refine go_ishl hd (fun hd => ?_)
  exact go_goto (by decide) hd k
theorem b_M_doneBy_43 {L : Nat} {d : Nat} {I : jm_I} {Q : Option jm_V → jm_I → Prop} {o0 : Option jm_V} {o1 : Option jm_V} {o2 : Option jm_V} {s0 : Int}  (k : Gx (jx_0 L) d md_M_doneBy 44 [o0, o1, o2] [.inl 0, .inl s0] I Q) : Gx (jx_0 L) d md_M_doneBy 43 [o0, o1, o2] [.inl s0] I Q := by
  show jm_Go d 0 0 md_M_doneBy 43 [o0, o1, o2] [.inl s0] (jx (jx_0 L) I) (jx_Q (jx_0 L) Q)
  have hd : jm_dc md_M_doneBy.2.1 43 [(.iconst 0, 1)] = true := by decide +kernel
  refine go_iconst hd (fun hd => ?_)
  exact k
theorem b_M_doneBy_44 {L : Nat} {d : Nat} {I : jm_I} {Q : Option jm_V → jm_I → Prop} {o0 : Option jm_V} {o1 : Option jm_V} {x2 : Int} {s0 : Int} {s1 : Int}  (k : Gx (jx_0 L) d md_M_doneBy 9 [o0, some (.inl (jb_or s0 s1)), some (.inl (x2 + 1))] [] I Q) : Gx (jx_0 L) d md_M_doneBy 44 [o0, o1, some (.inl x2)] [.inl s1, .inl s0] I Q := by
  show jm_Go d 0 0 md_M_doneBy 44 [o0, o1, some (.inl x2)] [.inl s1, .inl s0] (jx (jx_0 L) I) (jx_Q (jx_0 L) Q)
  have hd : jm_dc md_M_doneBy.2.1 44 [(.ior, 1), (.istore_n 1, 1), (.iinc 2 1, 3), (.goto (-40), 3)] = true := by decide +kernel
  refine go_ior hd (fun hd => ?_)
  refine go_istore_n (by decide) hd (fun hd => ?_)
  refine go_iinc rfl hd (fun hd => ?_)
  exact go_goto (by decide) hd k
theorem b_M_doneBy_52 {L : Nat} {d : Nat} {I : jm_I} {Q : Option jm_V → jm_I → Prop} {o0 : Option jm_V} {x1 : Int} {o2 : Option jm_V}  (k : Q (some (.inl x1)) I) : Gx (jx_0 L) d md_M_doneBy 52 [o0, some (.inl x1), o2] [] I Q := by
  show jm_Go d 0 0 md_M_doneBy 52 [o0, some (.inl x1), o2] [] (jx (jx_0 L) I) (jx_Q (jx_0 L) Q)
  have hd : jm_dc md_M_doneBy.2.1 52 [(.iload_n 1, 1), (.ireturn, 1)] = true := by decide +kernel
  refine go_iload_n rfl hd (fun hd => ?_)
  exact go_ireturn hd rfl ⟨_, rfl, k⟩
theorem b_M_canHave_0 {L : Nat} {d : Nat} {I : jm_I} {Q : Option jm_V → jm_I → Prop} {x1 : Int}  (k : Gx (jx_0 L) d md_M_canHave 2 [some (.inr (.inl 167)), some (.inl x1), some (.inl 0), none] [] I Q) : Cx (jx_0 L) d md_M_canHave [.inr (.inl 167), .inl x1] I Q := by
  show jm_Go d 0 0 md_M_canHave 0 [some (.inr (.inl 167)), some (.inl x1), none, none] [] (jx (jx_0 L) I) (jx_Q (jx_0 L) Q)
  have hd : jm_dc md_M_canHave.2.1 0 [(.iconst 0, 1), (.istore_n 2, 1)] = true := by decide +kernel
  refine go_iconst hd (fun hd => ?_)
  refine go_istore_n (by decide) hd (fun hd => ?_)
  exact k
theorem b_M_canHave_2 {L : Nat} {d : Nat} {I : jm_I} {Q : Option jm_V → jm_I → Prop} {o0 : Option jm_V} {o1 : Option jm_V} {x2 : Int} {o3 : Option jm_V}  (hz : (-2147483648 ≤ x2 ∧ x2 < 2147483648)) (kt : 6 ≤ x2 → Gx (jx_0 L) d md_M_canHave 39 [o0, o1, some (.inl x2), o3] [] I Q) (kf : ¬ (6 ≤ x2) → Gx (jx_0 L) d md_M_canHave 8 [o0, o1, some (.inl x2), o3] [] I Q) : Gx (jx_0 L) d md_M_canHave 2 [o0, o1, some (.inl x2), o3] [] I Q := by
  have hz1 := hz
  show jm_Go d 0 0 md_M_canHave 2 [o0, o1, some (.inl x2), o3] [] (jx (jx_0 L) I) (jx_Q (jx_0 L) Q)
  have hd : jm_dc md_M_canHave.2.1 2 [(.iload_n 2, 1), (.bipush 6, 2), (.if_icmp .ge 34, 3)] = true := by decide +kernel
  refine go_iload_n rfl hd (fun hd => ?_)
  refine go_bipush (by decide) hd (fun hd => ?_)
  exact go_icmp_ge (by decide) hz1 ⟨by decide, by decide⟩ hd kt kf
theorem b_M_canHave_8 {L : Nat} {d : Nat} {I : jm_I} {Q : Option jm_V → jm_I → Prop} {x1 : Int} {x2 : Int} {o3 : Option jm_V}  (hz : (0 ≤ 1 + x1 ∧ 1 + x1 < 27) ∧ (-2147483648 ≤ x2 ∧ x2 < 2147483648) ∧ (-2147483648 ≤ I 171 (1 + x1).toNat ∧ I 171 (1 + x1).toNat < 2147483648)) (kt : ¬ x2 = (I 171 (1 + x1).toNat) → Gx (jx_0 L) d md_M_canHave 29 [some (.inr (.inl 167)), some (.inl x1), some (.inl x2), o3] [.inl x2, .inr (.inl 185)] I Q) (kf : x2 = (I 171 (1 + x1).toNat) → Gx (jx_0 L) d md_M_canHave 25 [some (.inr (.inl 167)), some (.inl x1), some (.inl x2), o3] [.inl x2, .inr (.inl 185)] I Q) : Gx (jx_0 L) d md_M_canHave 8 [some (.inr (.inl 167)), some (.inl x1), some (.inl x2), o3] [] I Q := by
  obtain ⟨hz1, hz2, hz3⟩ := hz
  show jm_Go d 0 0 md_M_canHave 8 [some (.inr (.inl 167)), some (.inl x1), some (.inl x2), o3] [] (jx (jx_0 L) I) (jx_Q (jx_0 L) Q)
  have hd : jm_dc md_M_canHave.2.1 8 [(.aload_n 0, 1), (.getfield 69, 3), (.iload_n 2, 1), (.iload_n 2, 1), (.aload_n 0, 1), (.getfield 26, 3), (.iconst 1, 1), (.iload_n 1, 1), (.iadd, 1), (.iaload, 1), (.if_icmp .ne 7, 3)] = true := by decide +kernel
  refine go_aload_n rfl hd (fun hd => ?_)
  refine go_getR co_X9 fl_9_69 (by decide) rfl rfl rfl hd (fun hd => ?_)
  refine go_iload_n rfl hd (fun hd => ?_)
  refine go_iload_n rfl hd (fun hd => ?_)
  refine go_aload_n rfl hd (fun hd => ?_)
  refine go_getR co_X9 fl_9_26 (by decide) rfl rfl rfl hd (fun hd => ?_)
  refine go_iconst hd (fun hd => ?_)
  refine go_iload_n rfl hd (fun hd => ?_)
  refine go_iadd hd (fun hd => ?_)
  refine go_iaload rfl hz1.1 hz1.2 (by decide) hd (fun hd => ?_)
  exact go_icmp_ne (by decide) hz2 hz3 hd kt kf
theorem b_M_canHave_25 {L : Nat} {d : Nat} {I : jm_I} {Q : Option jm_V → jm_I → Prop} {o0 : Option jm_V} {o1 : Option jm_V} {o2 : Option jm_V} {o3 : Option jm_V} {s1 : Int}  (k : Gx (jx_0 L) d md_M_canHave 32 [o0, o1, o2, o3] [.inl 0, .inl s1, .inr (.inl 185)] I Q) : Gx (jx_0 L) d md_M_canHave 25 [o0, o1, o2, o3] [.inl s1, .inr (.inl 185)] I Q := by
  show jm_Go d 0 0 md_M_canHave 25 [o0, o1, o2, o3] [.inl s1, .inr (.inl 185)] (jx (jx_0 L) I) (jx_Q (jx_0 L) Q)
  have hd : jm_dc md_M_canHave.2.1 25 [(.iconst 0, 1), (.goto 6, 3)] = true := by decide +kernel
  refine go_iconst hd (fun hd => ?_)
  exact go_goto (by decide) hd k
theorem b_M_canHave_29 {L : Nat} {d : Nat} {I : jm_I} {Q : Option jm_V → jm_I → Prop} {o0 : Option jm_V} {o1 : Option jm_V} {o2 : Option jm_V} {o3 : Option jm_V} {s1 : Int}  (k : Gx (jx_0 L) d md_M_canHave 32 [o0, o1, o2, o3] [.inl 10000, .inl s1, .inr (.inl 185)] I Q) : Gx (jx_0 L) d md_M_canHave 29 [o0, o1, o2, o3] [.inl s1, .inr (.inl 185)] I Q := by
  show jm_Go d 0 0 md_M_canHave 29 [o0, o1, o2, o3] [.inl s1, .inr (.inl 185)] (jx (jx_0 L) I) (jx_Q (jx_0 L) Q)
  have hd : jm_dc md_M_canHave.2.1 29 [(.sipush 10000, 3)] = true := by decide +kernel
  refine go_sipush (by decide) hd (fun hd => ?_)
  exact k
theorem b_M_canHave_32 {L : Nat} {d : Nat} {I : jm_I} {Q : Option jm_V → jm_I → Prop} {o0 : Option jm_V} {o1 : Option jm_V} {x2 : Int} {o3 : Option jm_V} {s1 : Int} {s2 : Int}  (hz : (0 ≤ s1 ∧ s1 < 6)) (k : Gx (jx_0 L) d md_M_canHave 2 [o0, o1, some (.inl (x2 + 1)), o3] [] (jm_up I 185 (s1.toNat) s2) Q) : Gx (jx_0 L) d md_M_canHave 32 [o0, o1, some (.inl x2), o3] [.inl s2, .inl s1, .inr (.inl 185)] I Q := by
  have hz1 := hz
  show jm_Go d 0 0 md_M_canHave 32 [o0, o1, some (.inl x2), o3] [.inl s2, .inl s1, .inr (.inl 185)] (jx (jx_0 L) I) (jx_Q (jx_0 L) Q)
  have hd : jm_dc md_M_canHave.2.1 32 [(.iastore, 1), (.iinc 2 1, 3), (.goto (-34), 3)] = true := by decide +kernel
  refine go_iastore rfl hz1.1 hz1.2 (by decide) hd (fun hd => ?_)
  refine go_iinc rfl hd (fun hd => ?_)
  exact go_goto (by decide) hd k
theorem b_M_canHave_39 {L : Nat} {d : Nat} {I : jm_I} {Q : Option jm_V → jm_I → Prop} {o0 : Option jm_V} {o1 : Option jm_V} {o2 : Option jm_V} {o3 : Option jm_V}  (k : Gx (jx_0 L) d md_M_canHave 41 [o0, o1, some (.inl 0), o3] [] I Q) : Gx (jx_0 L) d md_M_canHave 39 [o0, o1, o2, o3] [] I Q := by
  show jm_Go d 0 0 md_M_canHave 39 [o0, o1, o2, o3] [] (jx (jx_0 L) I) (jx_Q (jx_0 L) Q)
  have hd : jm_dc md_M_canHave.2.1 39 [(.iconst 0, 1), (.istore_n 2, 1)] = true := by decide +kernel
  refine go_iconst hd (fun hd => ?_)
  refine go_istore_n (by decide) hd (fun hd => ?_)
  exact k
theorem b_M_canHave_41 {L : Nat} {d : Nat} {I : jm_I} {Q : Option jm_V → jm_I → Prop} {o1 : Option jm_V} {x2 : Int} {o3 : Option jm_V}  (hz : (-2147483648 ≤ x2 ∧ x2 < 2147483648) ∧ (-2147483648 ≤ I 167 5 ∧ I 167 5 < 2147483648)) (kt : (I 167 5) ≤ x2 → Gx (jx_0 L) d md_M_canHave 68 [some (.inr (.inl 167)), o1, some (.inl x2), o3] [] I Q) (kf : ¬ ((I 167 5) ≤ x2) → Gx (jx_0 L) d md_M_canHave 49 [some (.inr (.inl 167)), o1, some (.inl x2), o3] [] I Q) : Gx (jx_0 L) d md_M_canHave 41 [some (.inr (.inl 167)), o1, some (.inl x2), o3] [] I Q := by
  obtain ⟨hz1, hz2⟩ := hz
  show jm_Go d 0 0 md_M_canHave 41 [some (.inr (.inl 167)), o1, some (.inl x2), o3] [] (jx (jx_0 L) I) (jx_Q (jx_0 L) Q)
  have hd : jm_dc md_M_canHave.2.1 41 [(.iload_n 2, 1), (.aload_n 0, 1), (.getfield 85, 3), (.if_icmp .ge 22, 3)] = true := by decide +kernel
  refine go_iload_n rfl hd (fun hd => ?_)
  refine go_aload_n rfl hd (fun hd => ?_)
  refine go_getI co_X9 fl_9_85 (by decide) (Or.inl rfl) rfl hd (fun hd => ?_)
  exact go_icmp_ge (by decide) hz1 hz2 hd kt kf
theorem b_M_canHave_49 {L : Nat} {d : Nat} {I : jm_I} {Q : Option jm_V → jm_I → Prop} {o1 : Option jm_V} {x2 : Int} {o3 : Option jm_V}  (k : Cx (jx_0 L) d md_M_isFound [.inr (.inl 167), .inl x2] I (fun v J => Gx (jx_0 L) (d + 1) md_M_canHave 54 [some (.inr (.inl 167)), o1, some (.inl x2), o3] (v.toList ++ []) J Q)) : Gx (jx_0 L) (d + 1) md_M_canHave 49 [some (.inr (.inl 167)), o1, some (.inl x2), o3] [] I Q := by
  show jm_Go (d + 1) 0 0 md_M_canHave 49 [some (.inr (.inl 167)), o1, some (.inl x2), o3] [] (jx (jx_0 L) I) (jx_Q (jx_0 L) Q)
  have hd : jm_dc md_M_canHave.2.1 49 [(.aload_n 0, 1), (.iload_n 2, 1), (.invokevirtual 239, 3)] = true := by decide +kernel
  refine go_aload_n rfl hd (fun hd => ?_)
  refine go_iload_n rfl hd (fun hd => ?_)
  exact gx_virtual 167 9 [.inl x2] [] mk_M_isFound co_X9 rfl ml_9_239 in_M_isFound se_M_isFound rfl rfl (Nat.le_of_ble_eq_true rfl) rfl (Nat.le_of_ble_eq_true rfl) rfl hd k
theorem b_M_canHave_54 {L : Nat} {d : Nat} {I : jm_I} {Q : Option jm_V → jm_I → Prop} {o0 : Option jm_V} {o1 : Option jm_V} {o2 : Option jm_V} {o3 : Option jm_V} {s0 : Int}  (hz : (-2147483648 ≤ s0 ∧ s0 < 2147483648)) (kt : s0 = 0 → Gx (jx_0 L) d md_M_canHave 62 [o0, o1, o2, o3] [] I Q) (kf : ¬ s0 = 0 → Gx (jx_0 L) d md_M_canHave 57 [o0, o1, o2, o3] [] I Q) : Gx (jx_0 L) d md_M_canHave 54 [o0, o1, o2, o3] [.inl s0] I Q := by
  have hz1 := hz
  show jm_Go d 0 0 md_M_canHave 54 [o0, o1, o2, o3] [.inl s0] (jx (jx_0 L) I) (jx_Q (jx_0 L) Q)
  have hd : jm_dc md_M_canHave.2.1 54 [(.ifCond .eq 8, 3)] = true := by decide +kernel
  exact go_if_eq (by decide) hz1 hd kt kf
theorem b_M_canHave_57 {L : Nat} {d : Nat} {I : jm_I} {Q : Option jm_V → jm_I → Prop} {o1 : Option jm_V} {x2 : Int} {o3 : Option jm_V}  (k : Cx (jx_0 L) d md_M_findCosts [.inr (.inl 167), .inl x2] I (fun v J => Gx (jx_0 L) (d + 1) md_M_canHave 62 [some (.inr (.inl 167)), o1, some (.inl x2), o3] (v.toList ++ []) J Q)) : Gx (jx_0 L) (d + 1) md_M_canHave 57 [some (.inr (.inl 167)), o1, some (.inl x2), o3] [] I Q := by
  show jm_Go (d + 1) 0 0 md_M_canHave 57 [some (.inr (.inl 167)), o1, some (.inl x2), o3] [] (jx (jx_0 L) I) (jx_Q (jx_0 L) Q)
  have hd : jm_dc md_M_canHave.2.1 57 [(.aload_n 0, 1), (.iload_n 2, 1), (.invokevirtual 242, 3)] = true := by decide +kernel
  refine go_aload_n rfl hd (fun hd => ?_)
  refine go_iload_n rfl hd (fun hd => ?_)
  exact gx_virtual 167 9 [.inl x2] [] mk_M_findCosts co_X9 rfl ml_9_242 in_M_findCosts se_M_findCosts rfl rfl (Nat.le_of_ble_eq_true rfl) rfl (Nat.le_of_ble_eq_true rfl) rfl hd k
theorem b_M_canHave_62 {L : Nat} {d : Nat} {I : jm_I} {Q : Option jm_V → jm_I → Prop} {o0 : Option jm_V} {o1 : Option jm_V} {x2 : Int} {o3 : Option jm_V}  (k : Gx (jx_0 L) d md_M_canHave 41 [o0, o1, some (.inl (x2 + 1)), o3] [] I Q) : Gx (jx_0 L) d md_M_canHave 62 [o0, o1, some (.inl x2), o3] [] I Q := by
  show jm_Go d 0 0 md_M_canHave 62 [o0, o1, some (.inl x2), o3] [] (jx (jx_0 L) I) (jx_Q (jx_0 L) Q)
  have hd : jm_dc md_M_canHave.2.1 62 [(.iinc 2 1, 3), (.goto (-24), 3)] = true := by decide +kernel
  refine go_iinc rfl hd (fun hd => ?_)
  exact go_goto (by decide) hd k
theorem b_M_canHave_68 {L : Nat} {d : Nat} {I : jm_I} {Q : Option jm_V → jm_I → Prop} {o0 : Option jm_V} {o1 : Option jm_V} {o2 : Option jm_V} {o3 : Option jm_V}  (k : Gx (jx_0 L) d md_M_canHave 72 [o0, o1, some (.inl 0), some (.inl 0)] [] I Q) : Gx (jx_0 L) d md_M_canHave 68 [o0, o1, o2, o3] [] I Q := by
  show jm_Go d 0 0 md_M_canHave 68 [o0, o1, o2, o3] [] (jx (jx_0 L) I) (jx_Q (jx_0 L) Q)
  have hd : jm_dc md_M_canHave.2.1 68 [(.iconst 0, 1), (.istore_n 2, 1), (.iconst 0, 1), (.istore_n 3, 1)] = true := by decide +kernel
  refine go_iconst hd (fun hd => ?_)
  refine go_istore_n (by decide) hd (fun hd => ?_)
  refine go_iconst hd (fun hd => ?_)
  refine go_istore_n (by decide) hd (fun hd => ?_)
  exact k
theorem b_M_canHave_72 {L : Nat} {d : Nat} {I : jm_I} {Q : Option jm_V → jm_I → Prop} {o1 : Option jm_V} {o2 : Option jm_V} {x3 : Int}  (hz : (-2147483648 ≤ x3 ∧ x3 < 2147483648) ∧ (-2147483648 ≤ I 167 0 ∧ I 167 0 < 2147483648)) (kt : (I 167 0) ≤ x3 → Gx (jx_0 L) d md_M_canHave 109 [some (.inr (.inl 167)), o1, o2, some (.inl x3)] [] I Q) (kf : ¬ ((I 167 0) ≤ x3) → Gx (jx_0 L) d md_M_canHave 80 [some (.inr (.inl 167)), o1, o2, some (.inl x3)] [] I Q) : Gx (jx_0 L) d md_M_canHave 72 [some (.inr (.inl 167)), o1, o2, some (.inl x3)] [] I Q := by
  obtain ⟨hz1, hz2⟩ := hz
  show jm_Go d 0 0 md_M_canHave 72 [some (.inr (.inl 167)), o1, o2, some (.inl x3)] [] (jx (jx_0 L) I) (jx_Q (jx_0 L) Q)
  have hd : jm_dc md_M_canHave.2.1 72 [(.iload_n 3, 1), (.aload_n 0, 1), (.getfield 7, 3), (.if_icmp .ge 32, 3)] = true := by decide +kernel
  refine go_iload_n rfl hd (fun hd => ?_)
  refine go_aload_n rfl hd (fun hd => ?_)
  refine go_getI co_X9 fl_9_7 (by decide) (Or.inl rfl) rfl hd (fun hd => ?_)
  exact go_icmp_ge (by decide) hz1 hz2 hd kt kf
theorem b_M_canHave_80 {L : Nat} {d : Nat} {I : jm_I} {Q : Option jm_V → jm_I → Prop} {o0 : Option jm_V} {o1 : Option jm_V} {x2 : Int} {o3 : Option jm_V}  (hz : (-2147483648 ≤ x2 ∧ x2 < 2147483648)) (kt : ¬ x2 = 0 → Gx (jx_0 L) d md_M_canHave 97 [o0, o1, some (.inl x2), o3] [] I Q) (kf : x2 = 0 → Gx (jx_0 L) d md_M_canHave 84 [o0, o1, some (.inl x2), o3] [] I Q) : Gx (jx_0 L) d md_M_canHave 80 [o0, o1, some (.inl x2), o3] [] I Q := by
  have hz1 := hz
  show jm_Go d 0 0 md_M_canHave 80 [o0, o1, some (.inl x2), o3] [] (jx (jx_0 L) I) (jx_Q (jx_0 L) Q)
  have hd : jm_dc md_M_canHave.2.1 80 [(.iload_n 2, 1), (.ifCond .ne 16, 3)] = true := by decide +kernel
  refine go_iload_n rfl hd (fun hd => ?_)
  exact go_if_ne (by decide) hz1 hd kt kf
theorem b_M_canHave_84 {L : Nat} {d : Nat} {I : jm_I} {Q : Option jm_V → jm_I → Prop} {o1 : Option jm_V} {o2 : Option jm_V} {x3 : Int}  (hz : (0 ≤ x3 ∧ x3 < 6) ∧ (-2147483648 ≤ I 185 x3.toNat ∧ I 185 x3.toNat < 2147483648) ∧ (-2147483648 ≤ I 167 3 ∧ I 167 3 < 2147483648)) (kt : (I 167 3) < (I 185 x3.toNat) → Gx (jx_0 L) d md_M_canHave 101 [some (.inr (.inl 167)), o1, o2, some (.inl x3)] [] I Q) (kf : ¬ ((I 167 3) < (I 185 x3.toNat)) → Gx (jx_0 L) d md_M_canHave 97 [some (.inr (.inl 167)), o1, o2, some (.inl x3)] [] I Q) : Gx (jx_0 L) d md_M_canHave 84 [some (.inr (.inl 167)), o1, o2, some (.inl x3)] [] I Q := by
  obtain ⟨hz1, hz2, hz3⟩ := hz
  show jm_Go d 0 0 md_M_canHave 84 [some (.inr (.inl 167)), o1, o2, some (.inl x3)] [] (jx (jx_0 L) I) (jx_Q (jx_0 L) Q)
  have hd : jm_dc md_M_canHave.2.1 84 [(.aload_n 0, 1), (.getfield 69, 3), (.iload_n 3, 1), (.iaload, 1), (.aload_n 0, 1), (.getfield 17, 3), (.if_icmp .gt 7, 3)] = true := by decide +kernel
  refine go_aload_n rfl hd (fun hd => ?_)
  refine go_getR co_X9 fl_9_69 (by decide) rfl rfl rfl hd (fun hd => ?_)
  refine go_iload_n rfl hd (fun hd => ?_)
  refine go_iaload rfl hz1.1 hz1.2 (by decide) hd (fun hd => ?_)
  refine go_aload_n rfl hd (fun hd => ?_)
  refine go_getI co_X9 fl_9_17 (by decide) (Or.inl rfl) rfl hd (fun hd => ?_)
  exact go_icmp_gt (by decide) hz2 hz3 hd kt kf
theorem b_M_canHave_97 {L : Nat} {d : Nat} {I : jm_I} {Q : Option jm_V → jm_I → Prop} {o0 : Option jm_V} {o1 : Option jm_V} {o2 : Option jm_V} {o3 : Option jm_V}  (k : Gx (jx_0 L) d md_M_canHave 102 [o0, o1, o2, o3] [.inl 1] I Q) : Gx (jx_0 L) d md_M_canHave 97 [o0, o1, o2, o3] [] I Q := by
  show jm_Go d 0 0 md_M_canHave 97 [o0, o1, o2, o3] [] (jx (jx_0 L) I) (jx_Q (jx_0 L) Q)
  have hd : jm_dc md_M_canHave.2.1 97 [(.iconst 1, 1), (.goto 4, 3)] = true := by decide +kernel
  refine go_iconst hd (fun hd => ?_)
  exact go_goto (by decide) hd k
theorem b_M_canHave_101 {L : Nat} {d : Nat} {I : jm_I} {Q : Option jm_V → jm_I → Prop} {o0 : Option jm_V} {o1 : Option jm_V} {o2 : Option jm_V} {o3 : Option jm_V}  (k : Gx (jx_0 L) d md_M_canHave 102 [o0, o1, o2, o3] [.inl 0] I Q) : Gx (jx_0 L) d md_M_canHave 101 [o0, o1, o2, o3] [] I Q := by
  show jm_Go d 0 0 md_M_canHave 101 [o0, o1, o2, o3] [] (jx (jx_0 L) I) (jx_Q (jx_0 L) Q)
  have hd : jm_dc md_M_canHave.2.1 101 [(.iconst 0, 1)] = true := by decide +kernel
  refine go_iconst hd (fun hd => ?_)
  exact k
theorem b_M_canHave_102 {L : Nat} {d : Nat} {I : jm_I} {Q : Option jm_V → jm_I → Prop} {o0 : Option jm_V} {o1 : Option jm_V} {o2 : Option jm_V} {x3 : Int} {s0 : Int}  (k : Gx (jx_0 L) d md_M_canHave 72 [o0, o1, some (.inl s0), some (.inl (x3 + 1))] [] I Q) : Gx (jx_0 L) d md_M_canHave 102 [o0, o1, o2, some (.inl x3)] [.inl s0] I Q := by
  show jm_Go d 0 0 md_M_canHave 102 [o0, o1, o2, some (.inl x3)] [.inl s0] (jx (jx_0 L) I) (jx_Q (jx_0 L) Q)
  have hd : jm_dc md_M_canHave.2.1 102 [(.istore_n 2, 1), (.iinc 3 1, 3), (.goto (-34), 3)] = true := by decide +kernel
  refine go_istore_n (by decide) hd (fun hd => ?_)
  refine go_iinc rfl hd (fun hd => ?_)
  exact go_goto (by decide) hd k
theorem b_M_canHave_109 {L : Nat} {d : Nat} {I : jm_I} {Q : Option jm_V → jm_I → Prop} {o0 : Option jm_V} {o1 : Option jm_V} {x2 : Int} {o3 : Option jm_V}  (hz : (x2 = 0 ∨ x2 = 1)) (k : Q (some (.inl x2)) I) : Gx (jx_0 L) d md_M_canHave 109 [o0, o1, some (.inl x2), o3] [] I Q := by
  have hz1 := hz
  show jm_Go d 0 0 md_M_canHave 109 [o0, o1, some (.inl x2), o3] [] (jx (jx_0 L) I) (jx_Q (jx_0 L) Q)
  have hd : jm_dc md_M_canHave.2.1 109 [(.iload_n 2, 1), (.ireturn, 1)] = true := by decide +kernel
  refine go_iload_n rfl hd (fun hd => ?_)
  exact go_zreturn hd rfl hz1 ⟨_, rfl, k⟩
theorem b_M_isFound_0 {L : Nat} {d : Nat} {I : jm_I} {Q : Option jm_V → jm_I → Prop} {x1 : Int}  (k : Gx (jx_0 L) d md_M_isFound 4 [some (.inr (.inl 167)), some (.inl x1), some (.inl 0), some (.inl 0)] [] I Q) : Cx (jx_0 L) d md_M_isFound [.inr (.inl 167), .inl x1] I Q := by
  show jm_Go d 0 0 md_M_isFound 0 [some (.inr (.inl 167)), some (.inl x1), none, none] [] (jx (jx_0 L) I) (jx_Q (jx_0 L) Q)
  have hd : jm_dc md_M_isFound.2.1 0 [(.iconst 0, 1), (.istore_n 2, 1), (.iconst 0, 1), (.istore_n 3, 1)] = true := by decide +kernel
  refine go_iconst hd (fun hd => ?_)
  refine go_istore_n (by decide) hd (fun hd => ?_)
  refine go_iconst hd (fun hd => ?_)
  refine go_istore_n (by decide) hd (fun hd => ?_)
  exact k
theorem b_M_isFound_4 {L : Nat} {d : Nat} {I : jm_I} {Q : Option jm_V → jm_I → Prop} {o1 : Option jm_V} {o2 : Option jm_V} {x3 : Int}  (hz : (-2147483648 ≤ x3 ∧ x3 < 2147483648) ∧ (-2147483648 ≤ I 167 13 ∧ I 167 13 < 2147483648)) (kt : (I 167 13) ≤ x3 → Gx (jx_0 L) d md_M_isFound 40 [some (.inr (.inl 167)), o1, o2, some (.inl x3)] [] I Q) (kf : ¬ ((I 167 13) ≤ x3) → Gx (jx_0 L) d md_M_isFound 12 [some (.inr (.inl 167)), o1, o2, some (.inl x3)] [] I Q) : Gx (jx_0 L) d md_M_isFound 4 [some (.inr (.inl 167)), o1, o2, some (.inl x3)] [] I Q := by
  obtain ⟨hz1, hz2⟩ := hz
  show jm_Go d 0 0 md_M_isFound 4 [some (.inr (.inl 167)), o1, o2, some (.inl x3)] [] (jx (jx_0 L) I) (jx_Q (jx_0 L) Q)
  have hd : jm_dc md_M_isFound.2.1 4 [(.iload_n 3, 1), (.aload_n 0, 1), (.getfield 161, 3), (.if_icmp .ge 31, 3)] = true := by decide +kernel
  refine go_iload_n rfl hd (fun hd => ?_)
  refine go_aload_n rfl hd (fun hd => ?_)
  refine go_getI co_X9 fl_9_161 (by decide) (Or.inl rfl) rfl hd (fun hd => ?_)
  exact go_icmp_ge (by decide) hz1 hz2 hd kt kf
theorem b_M_isFound_12 {L : Nat} {d : Nat} {I : jm_I} {Q : Option jm_V → jm_I → Prop} {o0 : Option jm_V} {o1 : Option jm_V} {x2 : Int} {o3 : Option jm_V}  (hz : (-2147483648 ≤ x2 ∧ x2 < 2147483648)) (kt : ¬ x2 = 0 → Gx (jx_0 L) d md_M_isFound 28 [o0, o1, some (.inl x2), o3] [] I Q) (kf : x2 = 0 → Gx (jx_0 L) d md_M_isFound 16 [o0, o1, some (.inl x2), o3] [] I Q) : Gx (jx_0 L) d md_M_isFound 12 [o0, o1, some (.inl x2), o3] [] I Q := by
  have hz1 := hz
  show jm_Go d 0 0 md_M_isFound 12 [o0, o1, some (.inl x2), o3] [] (jx (jx_0 L) I) (jx_Q (jx_0 L) Q)
  have hd : jm_dc md_M_isFound.2.1 12 [(.iload_n 2, 1), (.ifCond .ne 15, 3)] = true := by decide +kernel
  refine go_iload_n rfl hd (fun hd => ?_)
  exact go_if_ne (by decide) hz1 hd kt kf
theorem b_M_isFound_16 {L : Nat} {d : Nat} {I : jm_I} {Q : Option jm_V → jm_I → Prop} {x1 : Int} {o2 : Option jm_V} {x3 : Int}  (hz : (0 ≤ 3 * x3 ∧ 3 * x3 < 12) ∧ (-2147483648 ≤ I 175 (3 * x3).toNat ∧ I 175 (3 * x3).toNat < 2147483648) ∧ (-2147483648 ≤ x1 ∧ x1 < 2147483648)) (kt : ¬ (I 175 (3 * x3).toNat) = x1 → Gx (jx_0 L) d md_M_isFound 32 [some (.inr (.inl 167)), some (.inl x1), o2, some (.inl x3)] [] I Q) (kf : (I 175 (3 * x3).toNat) = x1 → Gx (jx_0 L) d md_M_isFound 28 [some (.inr (.inl 167)), some (.inl x1), o2, some (.inl x3)] [] I Q) : Gx (jx_0 L) d md_M_isFound 16 [some (.inr (.inl 167)), some (.inl x1), o2, some (.inl x3)] [] I Q := by
  obtain ⟨hz1, hz2, hz3⟩ := hz
  show jm_Go d 0 0 md_M_isFound 16 [some (.inr (.inl 167)), some (.inl x1), o2, some (.inl x3)] [] (jx (jx_0 L) I) (jx_Q (jx_0 L) Q)
  have hd : jm_dc md_M_isFound.2.1 16 [(.aload_n 0, 1), (.getfield 39, 3), (.iconst 3, 1), (.iload_n 3, 1), (.imul, 1), (.iaload, 1), (.iload_n 1, 1), (.if_icmp .ne 7, 3)] = true := by decide +kernel
  refine go_aload_n rfl hd (fun hd => ?_)
  refine go_getR co_X9 fl_9_39 (by decide) rfl rfl rfl hd (fun hd => ?_)
  refine go_iconst hd (fun hd => ?_)
  refine go_iload_n rfl hd (fun hd => ?_)
  refine go_imul hd (fun hd => ?_)
  refine go_iaload rfl hz1.1 hz1.2 (by decide) hd (fun hd => ?_)
  refine go_iload_n rfl hd (fun hd => ?_)
  exact go_icmp_ne (by decide) hz2 hz3 hd kt kf
theorem b_M_isFound_28 {L : Nat} {d : Nat} {I : jm_I} {Q : Option jm_V → jm_I → Prop} {o0 : Option jm_V} {o1 : Option jm_V} {o2 : Option jm_V} {o3 : Option jm_V}  (k : Gx (jx_0 L) d md_M_isFound 33 [o0, o1, o2, o3] [.inl 1] I Q) : Gx (jx_0 L) d md_M_isFound 28 [o0, o1, o2, o3] [] I Q := by
  show jm_Go d 0 0 md_M_isFound 28 [o0, o1, o2, o3] [] (jx (jx_0 L) I) (jx_Q (jx_0 L) Q)
  have hd : jm_dc md_M_isFound.2.1 28 [(.iconst 1, 1), (.goto 4, 3)] = true := by decide +kernel
  refine go_iconst hd (fun hd => ?_)
  exact go_goto (by decide) hd k
theorem b_M_isFound_32 {L : Nat} {d : Nat} {I : jm_I} {Q : Option jm_V → jm_I → Prop} {o0 : Option jm_V} {o1 : Option jm_V} {o2 : Option jm_V} {o3 : Option jm_V}  (k : Gx (jx_0 L) d md_M_isFound 33 [o0, o1, o2, o3] [.inl 0] I Q) : Gx (jx_0 L) d md_M_isFound 32 [o0, o1, o2, o3] [] I Q := by
  show jm_Go d 0 0 md_M_isFound 32 [o0, o1, o2, o3] [] (jx (jx_0 L) I) (jx_Q (jx_0 L) Q)
  have hd : jm_dc md_M_isFound.2.1 32 [(.iconst 0, 1)] = true := by decide +kernel
  refine go_iconst hd (fun hd => ?_)
  exact k
theorem b_M_isFound_33 {L : Nat} {d : Nat} {I : jm_I} {Q : Option jm_V → jm_I → Prop} {o0 : Option jm_V} {o1 : Option jm_V} {o2 : Option jm_V} {x3 : Int} {s0 : Int}  (k : Gx (jx_0 L) d md_M_isFound 4 [o0, o1, some (.inl s0), some (.inl (x3 + 1))] [] I Q) : Gx (jx_0 L) d md_M_isFound 33 [o0, o1, o2, some (.inl x3)] [.inl s0] I Q := by
  show jm_Go d 0 0 md_M_isFound 33 [o0, o1, o2, some (.inl x3)] [.inl s0] (jx (jx_0 L) I) (jx_Q (jx_0 L) Q)
  have hd : jm_dc md_M_isFound.2.1 33 [(.istore_n 2, 1), (.iinc 3 1, 3), (.goto (-33), 3)] = true := by decide +kernel
  refine go_istore_n (by decide) hd (fun hd => ?_)
  refine go_iinc rfl hd (fun hd => ?_)
  exact go_goto (by decide) hd k
theorem b_M_isFound_40 {L : Nat} {d : Nat} {I : jm_I} {Q : Option jm_V → jm_I → Prop} {o0 : Option jm_V} {o1 : Option jm_V} {x2 : Int} {o3 : Option jm_V}  (hz : (x2 = 0 ∨ x2 = 1)) (k : Q (some (.inl x2)) I) : Gx (jx_0 L) d md_M_isFound 40 [o0, o1, some (.inl x2), o3] [] I Q := by
  have hz1 := hz
  show jm_Go d 0 0 md_M_isFound 40 [o0, o1, some (.inl x2), o3] [] (jx (jx_0 L) I) (jx_Q (jx_0 L) Q)
  have hd : jm_dc md_M_isFound.2.1 40 [(.iload_n 2, 1), (.ireturn, 1)] = true := by decide +kernel
  refine go_iload_n rfl hd (fun hd => ?_)
  exact go_zreturn hd rfl hz1 ⟨_, rfl, k⟩
theorem b_M_findCosts_0 {L : Nat} {d : Nat} {I : jm_I} {Q : Option jm_V → jm_I → Prop} {x1 : Int}  (k : Gx (jx_0 L) d md_M_findCosts 2 [some (.inr (.inl 167)), some (.inl x1), some (.inl 0), none, none, none] [] I Q) : Cx (jx_0 L) d md_M_findCosts [.inr (.inl 167), .inl x1] I Q := by
  show jm_Go d 0 0 md_M_findCosts 0 [some (.inr (.inl 167)), some (.inl x1), none, none, none, none] [] (jx (jx_0 L) I) (jx_Q (jx_0 L) Q)
  have hd : jm_dc md_M_findCosts.2.1 0 [(.iconst 0, 1), (.istore_n 2, 1)] = true := by decide +kernel
  refine go_iconst hd (fun hd => ?_)
  refine go_istore_n (by decide) hd (fun hd => ?_)
  exact k
theorem b_M_findCosts_2 {L : Nat} {d : Nat} {I : jm_I} {Q : Option jm_V → jm_I → Prop} {o0 : Option jm_V} {o1 : Option jm_V} {x2 : Int} {o3 : Option jm_V} {o4 : Option jm_V} {o5 : Option jm_V}  (hz : (-2147483648 ≤ x2 ∧ x2 < 2147483648)) (kt : 6 ≤ x2 → Gx (jx_0 L) d md_M_findCosts 45 [o0, o1, some (.inl x2), o3, o4, o5] [] I Q) (kf : ¬ (6 ≤ x2) → Gx (jx_0 L) d md_M_findCosts 8 [o0, o1, some (.inl x2), o3, o4, o5] [] I Q) : Gx (jx_0 L) d md_M_findCosts 2 [o0, o1, some (.inl x2), o3, o4, o5] [] I Q := by
  have hz1 := hz
  show jm_Go d 0 0 md_M_findCosts 2 [o0, o1, some (.inl x2), o3, o4, o5] [] (jx (jx_0 L) I) (jx_Q (jx_0 L) Q)
  have hd : jm_dc md_M_findCosts.2.1 2 [(.iload_n 2, 1), (.bipush 6, 2), (.if_icmp .ge 40, 3)] = true := by decide +kernel
  refine go_iload_n rfl hd (fun hd => ?_)
  refine go_bipush (by decide) hd (fun hd => ?_)
  exact go_icmp_ge (by decide) hz1 ⟨by decide, by decide⟩ hd kt kf
theorem b_M_findCosts_8 {L : Nat} {d : Nat} {I : jm_I} {Q : Option jm_V → jm_I → Prop} {x1 : Int} {x2 : Int} {o3 : Option jm_V} {o4 : Option jm_V} {o5 : Option jm_V}  (k : Cx (jx_0 L) d md_M_isNow [.inr (.inl 167), .inl x1] I (fun v J => Gx (jx_0 L) (d + 1) md_M_findCosts 20 [some (.inr (.inl 167)), some (.inl x1), some (.inl x2), o3, o4, o5] (v.toList ++ [.inl x1, .inr (.inl 167), .inl x2, .inr (.inl 186)]) J Q)) : Gx (jx_0 L) (d + 1) md_M_findCosts 8 [some (.inr (.inl 167)), some (.inl x1), some (.inl x2), o3, o4, o5] [] I Q := by
  show jm_Go (d + 1) 0 0 md_M_findCosts 8 [some (.inr (.inl 167)), some (.inl x1), some (.inl x2), o3, o4, o5] [] (jx (jx_0 L) I) (jx_Q (jx_0 L) Q)
  have hd : jm_dc md_M_findCosts.2.1 8 [(.aload_n 0, 1), (.getfield 72, 3), (.iload_n 2, 1), (.aload_n 0, 1), (.iload_n 1, 1), (.aload_n 0, 1), (.iload_n 1, 1), (.invokevirtual 196, 3)] = true := by decide +kernel
  refine go_aload_n rfl hd (fun hd => ?_)
  refine go_getR co_X9 fl_9_72 (by decide) rfl rfl rfl hd (fun hd => ?_)
  refine go_iload_n rfl hd (fun hd => ?_)
  refine go_aload_n rfl hd (fun hd => ?_)
  refine go_iload_n rfl hd (fun hd => ?_)
  refine go_aload_n rfl hd (fun hd => ?_)
  refine go_iload_n rfl hd (fun hd => ?_)
  exact gx_virtual 167 9 [.inl x1] [.inl x1, .inr (.inl 167), .inl x2, .inr (.inl 186)] mk_M_isNow co_X9 rfl ml_9_196 in_M_isNow se_M_isNow rfl rfl (Nat.le_of_ble_eq_true rfl) rfl (Nat.le_of_ble_eq_true rfl) rfl hd k
theorem b_M_findCosts_20 {L : Nat} {d : Nat} {I : jm_I} {Q : Option jm_V → jm_I → Prop} {o0 : Option jm_V} {o1 : Option jm_V} {o2 : Option jm_V} {o3 : Option jm_V} {o4 : Option jm_V} {o5 : Option jm_V} {s1 : Int} {s3 : Int} {s4 : Int}  (k : Cx (jx_0 L) d md_M_isSo [.inr (.inl 167), .inl s3, .inl s4] I (fun v J => Gx (jx_0 L) (d + 1) md_M_findCosts 23 [o0, o1, o2, o3, o4, o5] (v.toList ++ [.inl s1, .inr (.inl 186)]) J Q)) : Gx (jx_0 L) (d + 1) md_M_findCosts 20 [o0, o1, o2, o3, o4, o5] [.inl s4, .inl s3, .inr (.inl 167), .inl s1, .inr (.inl 186)] I Q := by
  show jm_Go (d + 1) 0 0 md_M_findCosts 20 [o0, o1, o2, o3, o4, o5] [.inl s4, .inl s3, .inr (.inl 167), .inl s1, .inr (.inl 186)] (jx (jx_0 L) I) (jx_Q (jx_0 L) Q)
  have hd : jm_dc md_M_findCosts.2.1 20 [(.invokevirtual 236, 3)] = true := by decide +kernel
  exact gx_virtual 167 9 [.inl s3, .inl s4] [.inl s1, .inr (.inl 186)] mk_M_isSo co_X9 rfl ml_9_236 in_M_isSo se_M_isSo rfl rfl (Nat.le_of_ble_eq_true rfl) rfl (Nat.le_of_ble_eq_true rfl) rfl hd k
theorem b_M_findCosts_23 {L : Nat} {d : Nat} {I : jm_I} {Q : Option jm_V → jm_I → Prop} {o0 : Option jm_V} {o1 : Option jm_V} {o2 : Option jm_V} {o3 : Option jm_V} {o4 : Option jm_V} {o5 : Option jm_V} {s1 : Int} {s2 : Int}  (hz : (-2147483648 ≤ s2 ∧ s2 < 2147483648)) (kt : s2 = 0 → Gx (jx_0 L) d md_M_findCosts 35 [o0, o1, o2, o3, o4, o5] [.inl s1, .inr (.inl 186)] I Q) (kf : ¬ s2 = 0 → Gx (jx_0 L) d md_M_findCosts 26 [o0, o1, o2, o3, o4, o5] [.inl s1, .inr (.inl 186)] I Q) : Gx (jx_0 L) d md_M_findCosts 23 [o0, o1, o2, o3, o4, o5] [.inl s2, .inl s1, .inr (.inl 186)] I Q := by
  have hz1 := hz
  show jm_Go d 0 0 md_M_findCosts 23 [o0, o1, o2, o3, o4, o5] [.inl s2, .inl s1, .inr (.inl 186)] (jx (jx_0 L) I) (jx_Q (jx_0 L) Q)
  have hd : jm_dc md_M_findCosts.2.1 23 [(.ifCond .eq 12, 3)] = true := by decide +kernel
  exact go_if_eq (by decide) hz1 hd kt kf
theorem b_M_findCosts_26 {L : Nat} {d : Nat} {I : jm_I} {Q : Option jm_V → jm_I → Prop} {o1 : Option jm_V} {x2 : Int} {o3 : Option jm_V} {o4 : Option jm_V} {o5 : Option jm_V} {s1 : Int}  (hz : (0 ≤ x2 ∧ x2 < 6)) (k : Gx (jx_0 L) d md_M_findCosts 38 [some (.inr (.inl 167)), o1, some (.inl x2), o3, o4, o5] [.inl (I 185 x2.toNat), .inl s1, .inr (.inl 186)] I Q) : Gx (jx_0 L) d md_M_findCosts 26 [some (.inr (.inl 167)), o1, some (.inl x2), o3, o4, o5] [.inl s1, .inr (.inl 186)] I Q := by
  have hz1 := hz
  show jm_Go d 0 0 md_M_findCosts 26 [some (.inr (.inl 167)), o1, some (.inl x2), o3, o4, o5] [.inl s1, .inr (.inl 186)] (jx (jx_0 L) I) (jx_Q (jx_0 L) Q)
  have hd : jm_dc md_M_findCosts.2.1 26 [(.aload_n 0, 1), (.getfield 69, 3), (.iload_n 2, 1), (.iaload, 1), (.goto 6, 3)] = true := by decide +kernel
  refine go_aload_n rfl hd (fun hd => ?_)
  refine go_getR co_X9 fl_9_69 (by decide) rfl rfl rfl hd (fun hd => ?_)
  refine go_iload_n rfl hd (fun hd => ?_)
  refine go_iaload rfl hz1.1 hz1.2 (by decide) hd (fun hd => ?_)
  exact go_goto (by decide) hd k
theorem b_M_findCosts_35 {L : Nat} {d : Nat} {I : jm_I} {Q : Option jm_V → jm_I → Prop} {o0 : Option jm_V} {o1 : Option jm_V} {o2 : Option jm_V} {o3 : Option jm_V} {o4 : Option jm_V} {o5 : Option jm_V} {s1 : Int}  (k : Gx (jx_0 L) d md_M_findCosts 38 [o0, o1, o2, o3, o4, o5] [.inl 10000, .inl s1, .inr (.inl 186)] I Q) : Gx (jx_0 L) d md_M_findCosts 35 [o0, o1, o2, o3, o4, o5] [.inl s1, .inr (.inl 186)] I Q := by
  show jm_Go d 0 0 md_M_findCosts 35 [o0, o1, o2, o3, o4, o5] [.inl s1, .inr (.inl 186)] (jx (jx_0 L) I) (jx_Q (jx_0 L) Q)
  have hd : jm_dc md_M_findCosts.2.1 35 [(.sipush 10000, 3)] = true := by decide +kernel
  refine go_sipush (by decide) hd (fun hd => ?_)
  exact k
theorem b_M_findCosts_38 {L : Nat} {d : Nat} {I : jm_I} {Q : Option jm_V → jm_I → Prop} {o0 : Option jm_V} {o1 : Option jm_V} {x2 : Int} {o3 : Option jm_V} {o4 : Option jm_V} {o5 : Option jm_V} {s1 : Int} {s2 : Int}  (hz : (0 ≤ s1 ∧ s1 < 6)) (k : Gx (jx_0 L) d md_M_findCosts 2 [o0, o1, some (.inl (x2 + 1)), o3, o4, o5] [] (jm_up I 186 (s1.toNat) s2) Q) : Gx (jx_0 L) d md_M_findCosts 38 [o0, o1, some (.inl x2), o3, o4, o5] [.inl s2, .inl s1, .inr (.inl 186)] I Q := by
  have hz1 := hz
  show jm_Go d 0 0 md_M_findCosts 38 [o0, o1, some (.inl x2), o3, o4, o5] [.inl s2, .inl s1, .inr (.inl 186)] (jx (jx_0 L) I) (jx_Q (jx_0 L) Q)
  have hd : jm_dc md_M_findCosts.2.1 38 [(.iastore, 1), (.iinc 2 1, 3), (.goto (-40), 3)] = true := by decide +kernel
  refine go_iastore rfl hz1.1 hz1.2 (by decide) hd (fun hd => ?_)
  refine go_iinc rfl hd (fun hd => ?_)
  exact go_goto (by decide) hd k
theorem b_M_findCosts_45 {L : Nat} {d : Nat} {I : jm_I} {Q : Option jm_V → jm_I → Prop} {o0 : Option jm_V} {o1 : Option jm_V} {o2 : Option jm_V} {o3 : Option jm_V} {o4 : Option jm_V} {o5 : Option jm_V}  (k : Gx (jx_0 L) d md_M_findCosts 47 [o0, o1, some (.inl 0), o3, o4, o5] [] I Q) : Gx (jx_0 L) d md_M_findCosts 45 [o0, o1, o2, o3, o4, o5] [] I Q := by
  show jm_Go d 0 0 md_M_findCosts 45 [o0, o1, o2, o3, o4, o5] [] (jx (jx_0 L) I) (jx_Q (jx_0 L) Q)
  have hd : jm_dc md_M_findCosts.2.1 45 [(.iconst 0, 1), (.istore_n 2, 1)] = true := by decide +kernel
  refine go_iconst hd (fun hd => ?_)
  refine go_istore_n (by decide) hd (fun hd => ?_)
  exact k
theorem b_M_findCosts_47 {L : Nat} {d : Nat} {I : jm_I} {Q : Option jm_V → jm_I → Prop} {o1 : Option jm_V} {x2 : Int} {o3 : Option jm_V} {o4 : Option jm_V} {o5 : Option jm_V}  (hz : (-2147483648 ≤ x2 ∧ x2 < 2147483648) ∧ (-2147483648 ≤ (I 167 0) * (I 167 0) ∧ (I 167 0) * (I 167 0) < 2147483648)) (kt : ((I 167 0) * (I 167 0)) ≤ x2 → Gx (jx_0 L) d md_M_findCosts 152 [some (.inr (.inl 167)), o1, some (.inl x2), o3, o4, o5] [] I Q) (kf : ¬ (((I 167 0) * (I 167 0)) ≤ x2) → Gx (jx_0 L) d md_M_findCosts 60 [some (.inr (.inl 167)), o1, some (.inl x2), o3, o4, o5] [] I Q) : Gx (jx_0 L) d md_M_findCosts 47 [some (.inr (.inl 167)), o1, some (.inl x2), o3, o4, o5] [] I Q := by
  obtain ⟨hz1, hz2⟩ := hz
  show jm_Go d 0 0 md_M_findCosts 47 [some (.inr (.inl 167)), o1, some (.inl x2), o3, o4, o5] [] (jx (jx_0 L) I) (jx_Q (jx_0 L) Q)
  have hd : jm_dc md_M_findCosts.2.1 47 [(.iload_n 2, 1), (.aload_n 0, 1), (.getfield 7, 3), (.aload_n 0, 1), (.getfield 7, 3), (.imul, 1), (.if_icmp .ge 95, 3)] = true := by decide +kernel
  refine go_iload_n rfl hd (fun hd => ?_)
  refine go_aload_n rfl hd (fun hd => ?_)
  refine go_getI co_X9 fl_9_7 (by decide) (Or.inl rfl) rfl hd (fun hd => ?_)
  refine go_aload_n rfl hd (fun hd => ?_)
  refine go_getI co_X9 fl_9_7 (by decide) (Or.inl rfl) rfl hd (fun hd => ?_)
  refine go_imul hd (fun hd => ?_)
  exact go_icmp_ge (by decide) hz1 hz2 hd kt kf
theorem b_M_findCosts_60 {L : Nat} {d : Nat} {I : jm_I} {Q : Option jm_V → jm_I → Prop} {x1 : Int} {x2 : Int} {o3 : Option jm_V} {o4 : Option jm_V} {o5 : Option jm_V}  (hz : (0 ≤ x2 ∧ x2 < 2147483648) ∧ (0 < I 167 0 ∧ I 167 0 < 2147483648) ∧ (0 ≤ x2 ∧ x2 < 2147483648) ∧ (0 < I 167 0 ∧ I 167 0 < 2147483648) ∧ (0 ≤ x2 / (I 167 0) ∧ x2 / (I 167 0) < 6) ∧ (0 ≤ 17 + x1 ∧ 17 + x1 < 27)) (k : Cx (jx_0 L) d md_M_by [.inr (.inl 167), .inl (x2 / (I 167 0)), .inl (I 171 (17 + x1).toNat), .inl (x2 % (I 167 0))] I (fun v J => Gx (jx_0 L) (d + 1) md_M_findCosts 97 [some (.inr (.inl 167)), some (.inl x1), some (.inl x2), some (.inl (x2 / (I 167 0))), some (.inl (x2 % (I 167 0))), o5] (v.toList ++ [.inl (I 185 (x2 / (I 167 0)).toNat)]) J Q)) : Gx (jx_0 L) (d + 1) md_M_findCosts 60 [some (.inr (.inl 167)), some (.inl x1), some (.inl x2), o3, o4, o5] [] I Q := by
  obtain ⟨hz1, hz2, hz3, hz4, hz5, hz6⟩ := hz
  show jm_Go (d + 1) 0 0 md_M_findCosts 60 [some (.inr (.inl 167)), some (.inl x1), some (.inl x2), o3, o4, o5] [] (jx (jx_0 L) I) (jx_Q (jx_0 L) Q)
  have hd : jm_dc md_M_findCosts.2.1 60 [(.iload_n 2, 1), (.aload_n 0, 1), (.getfield 7, 3), (.idiv, 1), (.istore_n 3, 1), (.iload_n 2, 1), (.aload_n 0, 1), (.getfield 7, 3), (.irem, 1), (.istore 4, 2), (.aload_n 0, 1), (.getfield 69, 3), (.iload_n 3, 1), (.iaload, 1), (.aload_n 0, 1), (.iload_n 3, 1), (.aload_n 0, 1), (.getfield 26, 3), (.bipush 17, 2), (.iload_n 1, 1), (.iadd, 1), (.iaload, 1), (.iload 4, 2), (.invokevirtual 185, 3)] = true := by decide +kernel
  refine go_iload_n rfl hd (fun hd => ?_)
  refine go_aload_n rfl hd (fun hd => ?_)
  refine go_getI co_X9 fl_9_7 (by decide) (Or.inl rfl) rfl hd (fun hd => ?_)
  refine go_idiv hz1 hz2 hd (fun hd => ?_)
  refine go_istore_n (by decide) hd (fun hd => ?_)
  refine go_iload_n rfl hd (fun hd => ?_)
  refine go_aload_n rfl hd (fun hd => ?_)
  refine go_getI co_X9 fl_9_7 (by decide) (Or.inl rfl) rfl hd (fun hd => ?_)
  refine go_irem hz3 hz4 hd (fun hd => ?_)
  refine go_istore (by decide) hd (fun hd => ?_)
  refine go_aload_n rfl hd (fun hd => ?_)
  refine go_getR co_X9 fl_9_69 (by decide) rfl rfl rfl hd (fun hd => ?_)
  refine go_iload_n rfl hd (fun hd => ?_)
  refine go_iaload rfl hz5.1 hz5.2 (by decide) hd (fun hd => ?_)
  refine go_aload_n rfl hd (fun hd => ?_)
  refine go_iload_n rfl hd (fun hd => ?_)
  refine go_aload_n rfl hd (fun hd => ?_)
  refine go_getR co_X9 fl_9_26 (by decide) rfl rfl rfl hd (fun hd => ?_)
  refine go_bipush (by decide) hd (fun hd => ?_)
  refine go_iload_n rfl hd (fun hd => ?_)
  refine go_iadd hd (fun hd => ?_)
  refine go_iaload rfl hz6.1 hz6.2 (by decide) hd (fun hd => ?_)
  refine go_iload rfl hd (fun hd => ?_)
  exact gx_virtual 167 9 [.inl (x2 / (I 167 0)), .inl (I 171 (17 + x1).toNat), .inl (x2 % (I 167 0))] [.inl (I 185 (x2 / (I 167 0)).toNat)] mk_M_by co_X9 rfl ml_9_185 in_M_by se_M_by rfl rfl (Nat.le_of_ble_eq_true rfl) rfl (Nat.le_of_ble_eq_true rfl) rfl hd k
theorem b_M_findCosts_97 {L : Nat} {d : Nat} {I : jm_I} {Q : Option jm_V → jm_I → Prop} {x1 : Int} {o2 : Option jm_V} {o3 : Option jm_V} {x4 : Int} {o5 : Option jm_V} {s0 : Int} {s1 : Int}  (k : Cx (jx_0 L) d md_M_putIn [.inr (.inl 167), .inl x1, .inl x4] I (fun v J => Gx (jx_0 L) (d + 1) md_M_findCosts 115 [some (.inr (.inl 167)), some (.inl x1), o2, o3, some (.inl x4), some (.inl (s0 + s1))] (v.toList ++ [.inl x1, .inr (.inl 167), .inl x4, .inr (.inl 186)]) J Q)) : Gx (jx_0 L) (d + 1) md_M_findCosts 97 [some (.inr (.inl 167)), some (.inl x1), o2, o3, some (.inl x4), o5] [.inl s1, .inl s0] I Q := by
  show jm_Go (d + 1) 0 0 md_M_findCosts 97 [some (.inr (.inl 167)), some (.inl x1), o2, o3, some (.inl x4), o5] [.inl s1, .inl s0] (jx (jx_0 L) I) (jx_Q (jx_0 L) Q)
  have hd : jm_dc md_M_findCosts.2.1 97 [(.iadd, 1), (.istore 5, 2), (.aload_n 0, 1), (.getfield 72, 3), (.iload 4, 2), (.aload_n 0, 1), (.iload_n 1, 1), (.aload_n 0, 1), (.iload_n 1, 1), (.iload 4, 2), (.invokevirtual 212, 3)] = true := by decide +kernel
  refine go_iadd hd (fun hd => ?_)
  refine go_istore (by decide) hd (fun hd => ?_)
  refine go_aload_n rfl hd (fun hd => ?_)
  refine go_getR co_X9 fl_9_72 (by decide) rfl rfl rfl hd (fun hd => ?_)
  refine go_iload rfl hd (fun hd => ?_)
  refine go_aload_n rfl hd (fun hd => ?_)
  refine go_iload_n rfl hd (fun hd => ?_)
  refine go_aload_n rfl hd (fun hd => ?_)
  refine go_iload_n rfl hd (fun hd => ?_)
  refine go_iload rfl hd (fun hd => ?_)
  exact gx_virtual 167 9 [.inl x1, .inl x4] [.inl x1, .inr (.inl 167), .inl x4, .inr (.inl 186)] mk_M_putIn co_X9 rfl ml_9_212 in_M_putIn se_M_putIn rfl rfl (Nat.le_of_ble_eq_true rfl) rfl (Nat.le_of_ble_eq_true rfl) rfl hd k
theorem b_M_findCosts_115 {L : Nat} {d : Nat} {I : jm_I} {Q : Option jm_V → jm_I → Prop} {o0 : Option jm_V} {o1 : Option jm_V} {o2 : Option jm_V} {o3 : Option jm_V} {o4 : Option jm_V} {o5 : Option jm_V} {s1 : Int} {s3 : Int} {s4 : Int}  (k : Cx (jx_0 L) d md_M_isSo [.inr (.inl 167), .inl s3, .inl s4] I (fun v J => Gx (jx_0 L) (d + 1) md_M_findCosts 118 [o0, o1, o2, o3, o4, o5] (v.toList ++ [.inl s1, .inr (.inl 186)]) J Q)) : Gx (jx_0 L) (d + 1) md_M_findCosts 115 [o0, o1, o2, o3, o4, o5] [.inl s4, .inl s3, .inr (.inl 167), .inl s1, .inr (.inl 186)] I Q := by
  show jm_Go (d + 1) 0 0 md_M_findCosts 115 [o0, o1, o2, o3, o4, o5] [.inl s4, .inl s3, .inr (.inl 167), .inl s1, .inr (.inl 186)] (jx (jx_0 L) I) (jx_Q (jx_0 L) Q)
  have hd : jm_dc md_M_findCosts.2.1 115 [(.invokevirtual 236, 3)] = true := by decide +kernel
  exact gx_virtual 167 9 [.inl s3, .inl s4] [.inl s1, .inr (.inl 186)] mk_M_isSo co_X9 rfl ml_9_236 in_M_isSo se_M_isSo rfl rfl (Nat.le_of_ble_eq_true rfl) rfl (Nat.le_of_ble_eq_true rfl) rfl hd k
theorem b_M_findCosts_118 {L : Nat} {d : Nat} {I : jm_I} {Q : Option jm_V → jm_I → Prop} {o0 : Option jm_V} {o1 : Option jm_V} {o2 : Option jm_V} {o3 : Option jm_V} {o4 : Option jm_V} {o5 : Option jm_V} {s1 : Int} {s2 : Int}  (hz : (-2147483648 ≤ s2 ∧ s2 < 2147483648)) (kt : s2 = 0 → Gx (jx_0 L) d md_M_findCosts 138 [o0, o1, o2, o3, o4, o5] [.inl s1, .inr (.inl 186)] I Q) (kf : ¬ s2 = 0 → Gx (jx_0 L) d md_M_findCosts 121 [o0, o1, o2, o3, o4, o5] [.inl s1, .inr (.inl 186)] I Q) : Gx (jx_0 L) d md_M_findCosts 118 [o0, o1, o2, o3, o4, o5] [.inl s2, .inl s1, .inr (.inl 186)] I Q := by
  have hz1 := hz
  show jm_Go d 0 0 md_M_findCosts 118 [o0, o1, o2, o3, o4, o5] [.inl s2, .inl s1, .inr (.inl 186)] (jx (jx_0 L) I) (jx_Q (jx_0 L) Q)
  have hd : jm_dc md_M_findCosts.2.1 118 [(.ifCond .eq 20, 3)] = true := by decide +kernel
  exact go_if_eq (by decide) hz1 hd kt kf
theorem b_M_findCosts_121 {L : Nat} {d : Nat} {I : jm_I} {Q : Option jm_V → jm_I → Prop} {o1 : Option jm_V} {o2 : Option jm_V} {o3 : Option jm_V} {x4 : Int} {x5 : Int} {s1 : Int}  (hz : (0 ≤ x4 ∧ x4 < 6) ∧ (-2147483648 ≤ x5 ∧ x5 < 2147483648) ∧ (-2147483648 ≤ I 186 x4.toNat ∧ I 186 x4.toNat < 2147483648)) (kt : (I 186 x4.toNat) ≤ x5 → Gx (jx_0 L) d md_M_findCosts 138 [some (.inr (.inl 167)), o1, o2, o3, some (.inl x4), some (.inl x5)] [.inl s1, .inr (.inl 186)] I Q) (kf : ¬ ((I 186 x4.toNat) ≤ x5) → Gx (jx_0 L) d md_M_findCosts 133 [some (.inr (.inl 167)), o1, o2, o3, some (.inl x4), some (.inl x5)] [.inl s1, .inr (.inl 186)] I Q) : Gx (jx_0 L) d md_M_findCosts 121 [some (.inr (.inl 167)), o1, o2, o3, some (.inl x4), some (.inl x5)] [.inl s1, .inr (.inl 186)] I Q := by
  obtain ⟨hz1, hz2, hz3⟩ := hz
  show jm_Go d 0 0 md_M_findCosts 121 [some (.inr (.inl 167)), o1, o2, o3, some (.inl x4), some (.inl x5)] [.inl s1, .inr (.inl 186)] (jx (jx_0 L) I) (jx_Q (jx_0 L) Q)
  have hd : jm_dc md_M_findCosts.2.1 121 [(.iload 5, 2), (.aload_n 0, 1), (.getfield 72, 3), (.iload 4, 2), (.iaload, 1), (.if_icmp .ge 8, 3)] = true := by decide +kernel
  refine go_iload rfl hd (fun hd => ?_)
  refine go_aload_n rfl hd (fun hd => ?_)
  refine go_getR co_X9 fl_9_72 (by decide) rfl rfl rfl hd (fun hd => ?_)
  refine go_iload rfl hd (fun hd => ?_)
  refine go_iaload rfl hz1.1 hz1.2 (by decide) hd (fun hd => ?_)
  exact go_icmp_ge (by decide) hz2 hz3 hd kt kf
theorem b_M_findCosts_133 {L : Nat} {d : Nat} {I : jm_I} {Q : Option jm_V → jm_I → Prop} {o0 : Option jm_V} {o1 : Option jm_V} {o2 : Option jm_V} {o3 : Option jm_V} {o4 : Option jm_V} {x5 : Int} {s1 : Int}  (k : Gx (jx_0 L) d md_M_findCosts 145 [o0, o1, o2, o3, o4, some (.inl x5)] [.inl x5, .inl s1, .inr (.inl 186)] I Q) : Gx (jx_0 L) d md_M_findCosts 133 [o0, o1, o2, o3, o4, some (.inl x5)] [.inl s1, .inr (.inl 186)] I Q := by
  show jm_Go d 0 0 md_M_findCosts 133 [o0, o1, o2, o3, o4, some (.inl x5)] [.inl s1, .inr (.inl 186)] (jx (jx_0 L) I) (jx_Q (jx_0 L) Q)
  have hd : jm_dc md_M_findCosts.2.1 133 [(.iload 5, 2), (.goto 10, 3)] = true := by decide +kernel
  refine go_iload rfl hd (fun hd => ?_)
  exact go_goto (by decide) hd k
theorem b_M_findCosts_138 {L : Nat} {d : Nat} {I : jm_I} {Q : Option jm_V → jm_I → Prop} {o1 : Option jm_V} {o2 : Option jm_V} {o3 : Option jm_V} {x4 : Int} {o5 : Option jm_V} {s1 : Int}  (hz : (0 ≤ x4 ∧ x4 < 6)) (k : Gx (jx_0 L) d md_M_findCosts 145 [some (.inr (.inl 167)), o1, o2, o3, some (.inl x4), o5] [.inl (I 186 x4.toNat), .inl s1, .inr (.inl 186)] I Q) : Gx (jx_0 L) d md_M_findCosts 138 [some (.inr (.inl 167)), o1, o2, o3, some (.inl x4), o5] [.inl s1, .inr (.inl 186)] I Q := by
  have hz1 := hz
  show jm_Go d 0 0 md_M_findCosts 138 [some (.inr (.inl 167)), o1, o2, o3, some (.inl x4), o5] [.inl s1, .inr (.inl 186)] (jx (jx_0 L) I) (jx_Q (jx_0 L) Q)
  have hd : jm_dc md_M_findCosts.2.1 138 [(.aload_n 0, 1), (.getfield 72, 3), (.iload 4, 2), (.iaload, 1)] = true := by decide +kernel
  refine go_aload_n rfl hd (fun hd => ?_)
  refine go_getR co_X9 fl_9_72 (by decide) rfl rfl rfl hd (fun hd => ?_)
  refine go_iload rfl hd (fun hd => ?_)
  refine go_iaload rfl hz1.1 hz1.2 (by decide) hd (fun hd => ?_)
  exact k
theorem b_M_findCosts_145 {L : Nat} {d : Nat} {I : jm_I} {Q : Option jm_V → jm_I → Prop} {o0 : Option jm_V} {o1 : Option jm_V} {x2 : Int} {o3 : Option jm_V} {o4 : Option jm_V} {o5 : Option jm_V} {s1 : Int} {s2 : Int}  (hz : (0 ≤ s1 ∧ s1 < 6)) (k : Gx (jx_0 L) d md_M_findCosts 47 [o0, o1, some (.inl (x2 + 1)), o3, o4, o5] [] (jm_up I 186 (s1.toNat) s2) Q) : Gx (jx_0 L) d md_M_findCosts 145 [o0, o1, some (.inl x2), o3, o4, o5] [.inl s2, .inl s1, .inr (.inl 186)] I Q := by
  have hz1 := hz
  show jm_Go d 0 0 md_M_findCosts 145 [o0, o1, some (.inl x2), o3, o4, o5] [.inl s2, .inl s1, .inr (.inl 186)] (jx (jx_0 L) I) (jx_Q (jx_0 L) Q)
  have hd : jm_dc md_M_findCosts.2.1 145 [(.iastore, 1), (.iinc 2 1, 3), (.goto (-102), 3)] = true := by decide +kernel
  refine go_iastore rfl hz1.1 hz1.2 (by decide) hd (fun hd => ?_)
  refine go_iinc rfl hd (fun hd => ?_)
  exact go_goto (by decide) hd k
theorem b_M_findCosts_152 {L : Nat} {d : Nat} {I : jm_I} {Q : Option jm_V → jm_I → Prop} {o0 : Option jm_V} {o1 : Option jm_V} {o2 : Option jm_V} {o3 : Option jm_V} {o4 : Option jm_V} {o5 : Option jm_V}  (k : Gx (jx_0 L) d md_M_findCosts 154 [o0, o1, some (.inl 0), o3, o4, o5] [] I Q) : Gx (jx_0 L) d md_M_findCosts 152 [o0, o1, o2, o3, o4, o5] [] I Q := by
  show jm_Go d 0 0 md_M_findCosts 152 [o0, o1, o2, o3, o4, o5] [] (jx (jx_0 L) I) (jx_Q (jx_0 L) Q)
  have hd : jm_dc md_M_findCosts.2.1 152 [(.iconst 0, 1), (.istore_n 2, 1)] = true := by decide +kernel
  refine go_iconst hd (fun hd => ?_)
  refine go_istore_n (by decide) hd (fun hd => ?_)
  exact k
theorem b_M_findCosts_154 {L : Nat} {d : Nat} {I : jm_I} {Q : Option jm_V → jm_I → Prop} {o0 : Option jm_V} {o1 : Option jm_V} {x2 : Int} {o3 : Option jm_V} {o4 : Option jm_V} {o5 : Option jm_V}  (hz : (-2147483648 ≤ x2 ∧ x2 < 2147483648)) (kt : 6 ≤ x2 → Gx (jx_0 L) d md_M_findCosts 178 [o0, o1, some (.inl x2), o3, o4, o5] [] I Q) (kf : ¬ (6 ≤ x2) → Gx (jx_0 L) d md_M_findCosts 160 [o0, o1, some (.inl x2), o3, o4, o5] [] I Q) : Gx (jx_0 L) d md_M_findCosts 154 [o0, o1, some (.inl x2), o3, o4, o5] [] I Q := by
  have hz1 := hz
  show jm_Go d 0 0 md_M_findCosts 154 [o0, o1, some (.inl x2), o3, o4, o5] [] (jx (jx_0 L) I) (jx_Q (jx_0 L) Q)
  have hd : jm_dc md_M_findCosts.2.1 154 [(.iload_n 2, 1), (.bipush 6, 2), (.if_icmp .ge 21, 3)] = true := by decide +kernel
  refine go_iload_n rfl hd (fun hd => ?_)
  refine go_bipush (by decide) hd (fun hd => ?_)
  exact go_icmp_ge (by decide) hz1 ⟨by decide, by decide⟩ hd kt kf
theorem b_M_findCosts_160 {L : Nat} {d : Nat} {I : jm_I} {Q : Option jm_V → jm_I → Prop} {o1 : Option jm_V} {x2 : Int} {o3 : Option jm_V} {o4 : Option jm_V} {o5 : Option jm_V}  (hz : (0 ≤ x2 ∧ x2 < 6) ∧ (0 ≤ x2 ∧ x2 < 6)) (k : Gx (jx_0 L) d md_M_findCosts 154 [some (.inr (.inl 167)), o1, some (.inl (x2 + 1)), o3, o4, o5] [] (jm_up I 185 (x2.toNat) (I 186 x2.toNat)) Q) : Gx (jx_0 L) d md_M_findCosts 160 [some (.inr (.inl 167)), o1, some (.inl x2), o3, o4, o5] [] I Q := by
  obtain ⟨hz1, hz2⟩ := hz
  show jm_Go d 0 0 md_M_findCosts 160 [some (.inr (.inl 167)), o1, some (.inl x2), o3, o4, o5] [] (jx (jx_0 L) I) (jx_Q (jx_0 L) Q)
  have hd : jm_dc md_M_findCosts.2.1 160 [(.aload_n 0, 1), (.getfield 69, 3), (.iload_n 2, 1), (.aload_n 0, 1), (.getfield 72, 3), (.iload_n 2, 1), (.iaload, 1), (.iastore, 1), (.iinc 2 1, 3), (.goto (-21), 3)] = true := by decide +kernel
  refine go_aload_n rfl hd (fun hd => ?_)
  refine go_getR co_X9 fl_9_69 (by decide) rfl rfl rfl hd (fun hd => ?_)
  refine go_iload_n rfl hd (fun hd => ?_)
  refine go_aload_n rfl hd (fun hd => ?_)
  refine go_getR co_X9 fl_9_72 (by decide) rfl rfl rfl hd (fun hd => ?_)
  refine go_iload_n rfl hd (fun hd => ?_)
  refine go_iaload rfl hz1.1 hz1.2 (by decide) hd (fun hd => ?_)
  refine go_iastore rfl hz2.1 hz2.2 (by decide) hd (fun hd => ?_)
  refine go_iinc rfl hd (fun hd => ?_)
  exact go_goto (by decide) hd k
theorem b_M_findCosts_178 {L : Nat} {d : Nat} {I : jm_I} {Q : Option jm_V → jm_I → Prop} {o0 : Option jm_V} {o1 : Option jm_V} {o2 : Option jm_V} {o3 : Option jm_V} {o4 : Option jm_V} {o5 : Option jm_V}  (k : Q none I) : Gx (jx_0 L) d md_M_findCosts 178 [o0, o1, o2, o3, o4, o5] [] I Q := by
  show jm_Go d 0 0 md_M_findCosts 178 [o0, o1, o2, o3, o4, o5] [] (jx (jx_0 L) I) (jx_Q (jx_0 L) Q)
  have hd : jm_dc md_M_findCosts.2.1 178 [(.return_, 1)] = true := by decide +kernel
  exact go_vreturn hd rfl ⟨_, rfl, k⟩
theorem b_M_isSo_0 {L : Nat} {d : Nat} {I : jm_I} {Q : Option jm_V → jm_I → Prop} {x1 : Int} {x2 : Int}  (k : Gx (jx_0 L) d md_M_isSo 5 [some (.inr (.inl 167)), some (.inl x1), some (.inl x2), some (.inl 1), some (.inl 0)] [] I Q) : Cx (jx_0 L) d md_M_isSo [.inr (.inl 167), .inl x1, .inl x2] I Q := by
  show jm_Go d 0 0 md_M_isSo 0 [some (.inr (.inl 167)), some (.inl x1), some (.inl x2), none, none] [] (jx (jx_0 L) I) (jx_Q (jx_0 L) Q)
  have hd : jm_dc md_M_isSo.2.1 0 [(.iconst 1, 1), (.istore_n 3, 1), (.iconst 0, 1), (.istore 4, 2)] = true := by decide +kernel
  refine go_iconst hd (fun hd => ?_)
  refine go_istore_n (by decide) hd (fun hd => ?_)
  refine go_iconst hd (fun hd => ?_)
  refine go_istore (by decide) hd (fun hd => ?_)
  exact k
theorem b_M_isSo_5 {L : Nat} {d : Nat} {I : jm_I} {Q : Option jm_V → jm_I → Prop} {o1 : Option jm_V} {o2 : Option jm_V} {o3 : Option jm_V} {x4 : Int}  (hz : (-2147483648 ≤ x4 ∧ x4 < 2147483648) ∧ (-2147483648 ≤ I 167 13 ∧ I 167 13 < 2147483648)) (kt : (I 167 13) ≤ x4 → Gx (jx_0 L) d md_M_isSo 79 [some (.inr (.inl 167)), o1, o2, o3, some (.inl x4)] [] I Q) (kf : ¬ ((I 167 13) ≤ x4) → Gx (jx_0 L) d md_M_isSo 14 [some (.inr (.inl 167)), o1, o2, o3, some (.inl x4)] [] I Q) : Gx (jx_0 L) d md_M_isSo 5 [some (.inr (.inl 167)), o1, o2, o3, some (.inl x4)] [] I Q := by
  obtain ⟨hz1, hz2⟩ := hz
  show jm_Go d 0 0 md_M_isSo 5 [some (.inr (.inl 167)), o1, o2, o3, some (.inl x4)] [] (jx (jx_0 L) I) (jx_Q (jx_0 L) Q)
  have hd : jm_dc md_M_isSo.2.1 5 [(.iload 4, 2), (.aload_n 0, 1), (.getfield 161, 3), (.if_icmp .ge 68, 3)] = true := by decide +kernel
  refine go_iload rfl hd (fun hd => ?_)
  refine go_aload_n rfl hd (fun hd => ?_)
  refine go_getI co_X9 fl_9_161 (by decide) (Or.inl rfl) rfl hd (fun hd => ?_)
  exact go_icmp_ge (by decide) hz1 hz2 hd kt kf
theorem b_M_isSo_14 {L : Nat} {d : Nat} {I : jm_I} {Q : Option jm_V → jm_I → Prop} {o0 : Option jm_V} {o1 : Option jm_V} {o2 : Option jm_V} {x3 : Int} {o4 : Option jm_V}  (hz : (-2147483648 ≤ x3 ∧ x3 < 2147483648)) (kt : x3 = 0 → Gx (jx_0 L) d md_M_isSo 71 [o0, o1, o2, some (.inl x3), o4] [] I Q) (kf : ¬ x3 = 0 → Gx (jx_0 L) d md_M_isSo 18 [o0, o1, o2, some (.inl x3), o4] [] I Q) : Gx (jx_0 L) d md_M_isSo 14 [o0, o1, o2, some (.inl x3), o4] [] I Q := by
  have hz1 := hz
  show jm_Go d 0 0 md_M_isSo 14 [o0, o1, o2, some (.inl x3), o4] [] (jx (jx_0 L) I) (jx_Q (jx_0 L) Q)
  have hd : jm_dc md_M_isSo.2.1 14 [(.iload_n 3, 1), (.ifCond .eq 56, 3)] = true := by decide +kernel
  refine go_iload_n rfl hd (fun hd => ?_)
  exact go_if_eq (by decide) hz1 hd kt kf
theorem b_M_isSo_18 {L : Nat} {d : Nat} {I : jm_I} {Q : Option jm_V → jm_I → Prop} {x1 : Int} {o2 : Option jm_V} {o3 : Option jm_V} {x4 : Int}  (hz : (0 ≤ 3 * x4 ∧ 3 * x4 < 12) ∧ (-2147483648 ≤ I 175 (3 * x4).toNat ∧ I 175 (3 * x4).toNat < 2147483648) ∧ (-2147483648 ≤ x1 ∧ x1 < 2147483648)) (kt : ¬ (I 175 (3 * x4).toNat) = x1 → Gx (jx_0 L) d md_M_isSo 67 [some (.inr (.inl 167)), some (.inl x1), o2, o3, some (.inl x4)] [] I Q) (kf : (I 175 (3 * x4).toNat) = x1 → Gx (jx_0 L) d md_M_isSo 31 [some (.inr (.inl 167)), some (.inl x1), o2, o3, some (.inl x4)] [] I Q) : Gx (jx_0 L) d md_M_isSo 18 [some (.inr (.inl 167)), some (.inl x1), o2, o3, some (.inl x4)] [] I Q := by
  obtain ⟨hz1, hz2, hz3⟩ := hz
  show jm_Go d 0 0 md_M_isSo 18 [some (.inr (.inl 167)), some (.inl x1), o2, o3, some (.inl x4)] [] (jx (jx_0 L) I) (jx_Q (jx_0 L) Q)
  have hd : jm_dc md_M_isSo.2.1 18 [(.aload_n 0, 1), (.getfield 39, 3), (.iconst 3, 1), (.iload 4, 2), (.imul, 1), (.iaload, 1), (.iload_n 1, 1), (.if_icmp .ne 39, 3)] = true := by decide +kernel
  refine go_aload_n rfl hd (fun hd => ?_)
  refine go_getR co_X9 fl_9_39 (by decide) rfl rfl rfl hd (fun hd => ?_)
  refine go_iconst hd (fun hd => ?_)
  refine go_iload rfl hd (fun hd => ?_)
  refine go_imul hd (fun hd => ?_)
  refine go_iaload rfl hz1.1 hz1.2 (by decide) hd (fun hd => ?_)
  refine go_iload_n rfl hd (fun hd => ?_)
  exact go_icmp_ne (by decide) hz2 hz3 hd kt kf
theorem b_M_isSo_31 {L : Nat} {d : Nat} {I : jm_I} {Q : Option jm_V → jm_I → Prop} {x1 : Int} {x2 : Int} {o3 : Option jm_V} {x4 : Int}  (hz : (0 ≤ (3 * x4) + 2 ∧ (3 * x4) + 2 < 12)) (k : Cx (jx_0 L) d md_M_later [.inr (.inl 167), .inl x1, .inl x2, .inl (I 175 ((3 * x4) + 2).toNat)] I (fun v J => Gx (jx_0 L) (d + 1) md_M_isSo 50 [some (.inr (.inl 167)), some (.inl x1), some (.inl x2), o3, some (.inl x4)] (v.toList ++ [.inl x1, .inr (.inl 167)]) J Q)) : Gx (jx_0 L) (d + 1) md_M_isSo 31 [some (.inr (.inl 167)), some (.inl x1), some (.inl x2), o3, some (.inl x4)] [] I Q := by
  have hz1 := hz
  show jm_Go (d + 1) 0 0 md_M_isSo 31 [some (.inr (.inl 167)), some (.inl x1), some (.inl x2), o3, some (.inl x4)] [] (jx (jx_0 L) I) (jx_Q (jx_0 L) Q)
  have hd : jm_dc md_M_isSo.2.1 31 [(.aload_n 0, 1), (.iload_n 1, 1), (.aload_n 0, 1), (.iload_n 1, 1), (.iload_n 2, 1), (.aload_n 0, 1), (.getfield 39, 3), (.iconst 3, 1), (.iload 4, 2), (.imul, 1), (.iconst 2, 1), (.iadd, 1), (.iaload, 1), (.invokevirtual 199, 3)] = true := by decide +kernel
  refine go_aload_n rfl hd (fun hd => ?_)
  refine go_iload_n rfl hd (fun hd => ?_)
  refine go_aload_n rfl hd (fun hd => ?_)
  refine go_iload_n rfl hd (fun hd => ?_)
  refine go_iload_n rfl hd (fun hd => ?_)
  refine go_aload_n rfl hd (fun hd => ?_)
  refine go_getR co_X9 fl_9_39 (by decide) rfl rfl rfl hd (fun hd => ?_)
  refine go_iconst hd (fun hd => ?_)
  refine go_iload rfl hd (fun hd => ?_)
  refine go_imul hd (fun hd => ?_)
  refine go_iconst hd (fun hd => ?_)
  refine go_iadd hd (fun hd => ?_)
  refine go_iaload rfl hz1.1 hz1.2 (by decide) hd (fun hd => ?_)
  exact gx_virtual 167 9 [.inl x1, .inl x2, .inl (I 175 ((3 * x4) + 2).toNat)] [.inl x1, .inr (.inl 167)] mk_M_later co_X9 rfl ml_9_199 in_M_later se_M_later rfl rfl (Nat.le_of_ble_eq_true rfl) rfl (Nat.le_of_ble_eq_true rfl) rfl hd k
theorem b_M_isSo_50 {L : Nat} {d : Nat} {I : jm_I} {Q : Option jm_V → jm_I → Prop} {o0 : Option jm_V} {o1 : Option jm_V} {o2 : Option jm_V} {o3 : Option jm_V} {o4 : Option jm_V} {s1 : Int} {s2 : Int}  (k : Cx (jx_0 L) d md_M_roomOf [.inr (.inl 167), .inl s1, .inl s2] I (fun v J => Gx (jx_0 L) (d + 1) md_M_isSo 53 [o0, o1, o2, o3, o4] (v.toList ++ []) J Q)) : Gx (jx_0 L) (d + 1) md_M_isSo 50 [o0, o1, o2, o3, o4] [.inl s2, .inl s1, .inr (.inl 167)] I Q := by
  show jm_Go (d + 1) 0 0 md_M_isSo 50 [o0, o1, o2, o3, o4] [.inl s2, .inl s1, .inr (.inl 167)] (jx (jx_0 L) I) (jx_Q (jx_0 L) Q)
  have hd : jm_dc md_M_isSo.2.1 50 [(.invokevirtual 202, 3)] = true := by decide +kernel
  exact gx_virtual 167 9 [.inl s1, .inl s2] [] mk_M_roomOf co_X9 rfl ml_9_202 in_M_roomOf se_M_roomOf rfl rfl (Nat.le_of_ble_eq_true rfl) rfl (Nat.le_of_ble_eq_true rfl) rfl hd k
theorem b_M_isSo_53 {L : Nat} {d : Nat} {I : jm_I} {Q : Option jm_V → jm_I → Prop} {o1 : Option jm_V} {o2 : Option jm_V} {o3 : Option jm_V} {x4 : Int} {s0 : Int}  (hz : (0 ≤ (3 * x4) + 1 ∧ (3 * x4) + 1 < 12) ∧ (-2147483648 ≤ s0 ∧ s0 < 2147483648) ∧ (-2147483648 ≤ I 175 ((3 * x4) + 1).toNat ∧ I 175 ((3 * x4) + 1).toNat < 2147483648)) (kt : ¬ s0 = (I 175 ((3 * x4) + 1).toNat) → Gx (jx_0 L) d md_M_isSo 71 [some (.inr (.inl 167)), o1, o2, o3, some (.inl x4)] [] I Q) (kf : s0 = (I 175 ((3 * x4) + 1).toNat) → Gx (jx_0 L) d md_M_isSo 67 [some (.inr (.inl 167)), o1, o2, o3, some (.inl x4)] [] I Q) : Gx (jx_0 L) d md_M_isSo 53 [some (.inr (.inl 167)), o1, o2, o3, some (.inl x4)] [.inl s0] I Q := by
  obtain ⟨hz1, hz2, hz3⟩ := hz
  show jm_Go d 0 0 md_M_isSo 53 [some (.inr (.inl 167)), o1, o2, o3, some (.inl x4)] [.inl s0] (jx (jx_0 L) I) (jx_Q (jx_0 L) Q)
  have hd : jm_dc md_M_isSo.2.1 53 [(.aload_n 0, 1), (.getfield 39, 3), (.iconst 3, 1), (.iload 4, 2), (.imul, 1), (.iconst 1, 1), (.iadd, 1), (.iaload, 1), (.if_icmp .ne 7, 3)] = true := by decide +kernel
  refine go_aload_n rfl hd (fun hd => ?_)
  refine go_getR co_X9 fl_9_39 (by decide) rfl rfl rfl hd (fun hd => ?_)
  refine go_iconst hd (fun hd => ?_)
  refine go_iload rfl hd (fun hd => ?_)
  refine go_imul hd (fun hd => ?_)
  refine go_iconst hd (fun hd => ?_)
  refine go_iadd hd (fun hd => ?_)
  refine go_iaload rfl hz1.1 hz1.2 (by decide) hd (fun hd => ?_)
  exact go_icmp_ne (by decide) hz2 hz3 hd kt kf
theorem b_M_isSo_67 {L : Nat} {d : Nat} {I : jm_I} {Q : Option jm_V → jm_I → Prop} {o0 : Option jm_V} {o1 : Option jm_V} {o2 : Option jm_V} {o3 : Option jm_V} {o4 : Option jm_V}  (k : Gx (jx_0 L) d md_M_isSo 72 [o0, o1, o2, o3, o4] [.inl 1] I Q) : Gx (jx_0 L) d md_M_isSo 67 [o0, o1, o2, o3, o4] [] I Q := by
  show jm_Go d 0 0 md_M_isSo 67 [o0, o1, o2, o3, o4] [] (jx (jx_0 L) I) (jx_Q (jx_0 L) Q)
  have hd : jm_dc md_M_isSo.2.1 67 [(.iconst 1, 1), (.goto 4, 3)] = true := by decide +kernel
  refine go_iconst hd (fun hd => ?_)
  exact go_goto (by decide) hd k
theorem b_M_isSo_71 {L : Nat} {d : Nat} {I : jm_I} {Q : Option jm_V → jm_I → Prop} {o0 : Option jm_V} {o1 : Option jm_V} {o2 : Option jm_V} {o3 : Option jm_V} {o4 : Option jm_V}  (k : Gx (jx_0 L) d md_M_isSo 72 [o0, o1, o2, o3, o4] [.inl 0] I Q) : Gx (jx_0 L) d md_M_isSo 71 [o0, o1, o2, o3, o4] [] I Q := by
  show jm_Go d 0 0 md_M_isSo 71 [o0, o1, o2, o3, o4] [] (jx (jx_0 L) I) (jx_Q (jx_0 L) Q)
  have hd : jm_dc md_M_isSo.2.1 71 [(.iconst 0, 1)] = true := by decide +kernel
  refine go_iconst hd (fun hd => ?_)
  exact k
theorem b_M_isSo_72 {L : Nat} {d : Nat} {I : jm_I} {Q : Option jm_V → jm_I → Prop} {o0 : Option jm_V} {o1 : Option jm_V} {o2 : Option jm_V} {o3 : Option jm_V} {x4 : Int} {s0 : Int}  (k : Gx (jx_0 L) d md_M_isSo 5 [o0, o1, o2, some (.inl s0), some (.inl (x4 + 1))] [] I Q) : Gx (jx_0 L) d md_M_isSo 72 [o0, o1, o2, o3, some (.inl x4)] [.inl s0] I Q := by
  show jm_Go d 0 0 md_M_isSo 72 [o0, o1, o2, o3, some (.inl x4)] [.inl s0] (jx (jx_0 L) I) (jx_Q (jx_0 L) Q)
  have hd : jm_dc md_M_isSo.2.1 72 [(.istore_n 3, 1), (.iinc 4 1, 3), (.goto (-71), 3)] = true := by decide +kernel
  refine go_istore_n (by decide) hd (fun hd => ?_)
  refine go_iinc rfl hd (fun hd => ?_)
  exact go_goto (by decide) hd k
theorem b_M_isSo_79 {L : Nat} {d : Nat} {I : jm_I} {Q : Option jm_V → jm_I → Prop} {o0 : Option jm_V} {o1 : Option jm_V} {o2 : Option jm_V} {x3 : Int} {o4 : Option jm_V}  (hz : (x3 = 0 ∨ x3 = 1)) (k : Q (some (.inl x3)) I) : Gx (jx_0 L) d md_M_isSo 79 [o0, o1, o2, some (.inl x3), o4] [] I Q := by
  have hz1 := hz
  show jm_Go d 0 0 md_M_isSo 79 [o0, o1, o2, some (.inl x3), o4] [] (jx (jx_0 L) I) (jx_Q (jx_0 L) Q)
  have hd : jm_dc md_M_isSo.2.1 79 [(.iload_n 3, 1), (.ireturn, 1)] = true := by decide +kernel
  refine go_iload_n rfl hd (fun hd => ?_)
  exact go_zreturn hd rfl hz1 ⟨_, rfl, k⟩
theorem b_M_guard_0 {L : Nat} {d : Nat} {I : jm_I} {Q : Option jm_V → jm_I → Prop} {x1 : Int} {x2 : Int}  (k : Cx (jx_0 L) d md_M_isThing [.inr (.inl 167), .inl x1] I (fun v J => Gx (jx_0 L) (d + 1) md_M_guard 5 [some (.inr (.inl 167)), some (.inl x1), some (.inl x2), none, none, none, none, none, none] (v.toList ++ []) J Q)) : Cx (jx_0 L) (d + 1) md_M_guard [.inr (.inl 167), .inl x1, .inl x2] I Q := by
  show jm_Go (d + 1) 0 0 md_M_guard 0 [some (.inr (.inl 167)), some (.inl x1), some (.inl x2), none, none, none, none, none, none] [] (jx (jx_0 L) I) (jx_Q (jx_0 L) Q)
  have hd : jm_dc md_M_guard.2.1 0 [(.aload_n 0, 1), (.iload_n 1, 1), (.invokevirtual 172, 3)] = true := by decide +kernel
  refine go_aload_n rfl hd (fun hd => ?_)
  refine go_iload_n rfl hd (fun hd => ?_)
  exact gx_virtual 167 9 [.inl x1] [] mk_M_isThing co_X9 rfl ml_9_172 in_M_isThing se_M_isThing rfl rfl (Nat.le_of_ble_eq_true rfl) rfl (Nat.le_of_ble_eq_true rfl) rfl hd k
theorem b_M_guard_5 {L : Nat} {d : Nat} {I : jm_I} {Q : Option jm_V → jm_I → Prop} {o0 : Option jm_V} {o1 : Option jm_V} {o2 : Option jm_V} {o3 : Option jm_V} {o4 : Option jm_V} {o5 : Option jm_V} {o6 : Option jm_V} {o7 : Option jm_V} {o8 : Option jm_V} {s0 : Int}  (hz : (-2147483648 ≤ s0 ∧ s0 < 2147483648)) (kt : s0 = 0 → Gx (jx_0 L) d md_M_guard 16 [o0, o1, o2, o3, o4, o5, o6, o7, o8] [] I Q) (kf : ¬ s0 = 0 → Gx (jx_0 L) d md_M_guard 8 [o0, o1, o2, o3, o4, o5, o6, o7, o8] [] I Q) : Gx (jx_0 L) d md_M_guard 5 [o0, o1, o2, o3, o4, o5, o6, o7, o8] [.inl s0] I Q := by
  have hz1 := hz
  show jm_Go d 0 0 md_M_guard 5 [o0, o1, o2, o3, o4, o5, o6, o7, o8] [.inl s0] (jx (jx_0 L) I) (jx_Q (jx_0 L) Q)
  have hd : jm_dc md_M_guard.2.1 5 [(.ifCond .eq 11, 3)] = true := by decide +kernel
  exact go_if_eq (by decide) hz1 hd kt kf
theorem b_M_guard_8 {L : Nat} {d : Nat} {I : jm_I} {Q : Option jm_V → jm_I → Prop} {o1 : Option jm_V} {x2 : Int} {o3 : Option jm_V} {o4 : Option jm_V} {o5 : Option jm_V} {o6 : Option jm_V} {o7 : Option jm_V} {o8 : Option jm_V}  (k : Cx (jx_0 L) d md_M_isRoom [.inr (.inl 167), .inl x2] I (fun v J => Gx (jx_0 L) (d + 1) md_M_guard 13 [some (.inr (.inl 167)), o1, some (.inl x2), o3, o4, o5, o6, o7, o8] (v.toList ++ []) J Q)) : Gx (jx_0 L) (d + 1) md_M_guard 8 [some (.inr (.inl 167)), o1, some (.inl x2), o3, o4, o5, o6, o7, o8] [] I Q := by
  show jm_Go (d + 1) 0 0 md_M_guard 8 [some (.inr (.inl 167)), o1, some (.inl x2), o3, o4, o5, o6, o7, o8] [] (jx (jx_0 L) I) (jx_Q (jx_0 L) Q)
  have hd : jm_dc md_M_guard.2.1 8 [(.aload_n 0, 1), (.iload_n 2, 1), (.invokevirtual 178, 3)] = true := by decide +kernel
  refine go_aload_n rfl hd (fun hd => ?_)
  refine go_iload_n rfl hd (fun hd => ?_)
  exact gx_virtual 167 9 [.inl x2] [] mk_M_isRoom co_X9 rfl ml_9_178 in_M_isRoom se_M_isRoom rfl rfl (Nat.le_of_ble_eq_true rfl) rfl (Nat.le_of_ble_eq_true rfl) rfl hd k
theorem b_M_guard_13 {L : Nat} {d : Nat} {I : jm_I} {Q : Option jm_V → jm_I → Prop} {o0 : Option jm_V} {o1 : Option jm_V} {o2 : Option jm_V} {o3 : Option jm_V} {o4 : Option jm_V} {o5 : Option jm_V} {o6 : Option jm_V} {o7 : Option jm_V} {o8 : Option jm_V} {s0 : Int}  (hz : (-2147483648 ≤ s0 ∧ s0 < 2147483648)) (kt : ¬ s0 = 0 → Gx (jx_0 L) d md_M_guard 18 [o0, o1, o2, o3, o4, o5, o6, o7, o8] [] I Q) (kf : s0 = 0 → Gx (jx_0 L) d md_M_guard 16 [o0, o1, o2, o3, o4, o5, o6, o7, o8] [] I Q) : Gx (jx_0 L) d md_M_guard 13 [o0, o1, o2, o3, o4, o5, o6, o7, o8] [.inl s0] I Q := by
  have hz1 := hz
  show jm_Go d 0 0 md_M_guard 13 [o0, o1, o2, o3, o4, o5, o6, o7, o8] [.inl s0] (jx (jx_0 L) I) (jx_Q (jx_0 L) Q)
  have hd : jm_dc md_M_guard.2.1 13 [(.ifCond .ne 5, 3)] = true := by decide +kernel
  exact go_if_ne (by decide) hz1 hd kt kf
theorem b_M_guard_16 {L : Nat} {d : Nat} {I : jm_I} {Q : Option jm_V → jm_I → Prop} {o0 : Option jm_V} {o1 : Option jm_V} {o2 : Option jm_V} {o3 : Option jm_V} {o4 : Option jm_V} {o5 : Option jm_V} {o6 : Option jm_V} {o7 : Option jm_V} {o8 : Option jm_V}  (k : Q (some (.inl (-1))) I) : Gx (jx_0 L) d md_M_guard 16 [o0, o1, o2, o3, o4, o5, o6, o7, o8] [] I Q := by
  show jm_Go d 0 0 md_M_guard 16 [o0, o1, o2, o3, o4, o5, o6, o7, o8] [] (jx (jx_0 L) I) (jx_Q (jx_0 L) Q)
  have hd : jm_dc md_M_guard.2.1 16 [(.iconst (-1), 1), (.ireturn, 1)] = true := by decide +kernel
  refine go_iconst hd (fun hd => ?_)
  exact go_ireturn hd rfl ⟨_, rfl, k⟩
theorem b_M_guard_18 {L : Nat} {d : Nat} {I : jm_I} {Q : Option jm_V → jm_I → Prop} {o0 : Option jm_V} {o1 : Option jm_V} {o2 : Option jm_V} {o3 : Option jm_V} {o4 : Option jm_V} {o5 : Option jm_V} {o6 : Option jm_V} {o7 : Option jm_V} {o8 : Option jm_V}  (k : Gx (jx_0 L) d md_M_guard 23 [o0, o1, o2, some (.inl 0), some (.inl 0), o5, o6, o7, o8] [] I Q) : Gx (jx_0 L) d md_M_guard 18 [o0, o1, o2, o3, o4, o5, o6, o7, o8] [] I Q := by
  show jm_Go d 0 0 md_M_guard 18 [o0, o1, o2, o3, o4, o5, o6, o7, o8] [] (jx (jx_0 L) I) (jx_Q (jx_0 L) Q)
  have hd : jm_dc md_M_guard.2.1 18 [(.iconst 0, 1), (.istore_n 3, 1), (.iconst 0, 1), (.istore 4, 2)] = true := by decide +kernel
  refine go_iconst hd (fun hd => ?_)
  refine go_istore_n (by decide) hd (fun hd => ?_)
  refine go_iconst hd (fun hd => ?_)
  refine go_istore (by decide) hd (fun hd => ?_)
  exact k
theorem b_M_guard_23 {L : Nat} {d : Nat} {I : jm_I} {Q : Option jm_V → jm_I → Prop} {o1 : Option jm_V} {o2 : Option jm_V} {o3 : Option jm_V} {x4 : Int} {o5 : Option jm_V} {o6 : Option jm_V} {o7 : Option jm_V} {o8 : Option jm_V}  (hz : (-2147483648 ≤ x4 ∧ x4 < 2147483648) ∧ (-2147483648 ≤ I 167 1 ∧ I 167 1 < 2147483648)) (kt : (I 167 1) ≤ x4 → Gx (jx_0 L) d md_M_guard 63 [some (.inr (.inl 167)), o1, o2, o3, some (.inl x4), o5, o6, o7, o8] [] I Q) (kf : ¬ ((I 167 1) ≤ x4) → Gx (jx_0 L) d md_M_guard 32 [some (.inr (.inl 167)), o1, o2, o3, some (.inl x4), o5, o6, o7, o8] [] I Q) : Gx (jx_0 L) d md_M_guard 23 [some (.inr (.inl 167)), o1, o2, o3, some (.inl x4), o5, o6, o7, o8] [] I Q := by
  obtain ⟨hz1, hz2⟩ := hz
  show jm_Go d 0 0 md_M_guard 23 [some (.inr (.inl 167)), o1, o2, o3, some (.inl x4), o5, o6, o7, o8] [] (jx (jx_0 L) I) (jx_Q (jx_0 L) Q)
  have hd : jm_dc md_M_guard.2.1 23 [(.iload 4, 2), (.aload_n 0, 1), (.getfield 155, 3), (.if_icmp .ge 34, 3)] = true := by decide +kernel
  refine go_iload rfl hd (fun hd => ?_)
  refine go_aload_n rfl hd (fun hd => ?_)
  refine go_getI co_X9 fl_9_155 (by decide) (Or.inl rfl) rfl hd (fun hd => ?_)
  exact go_icmp_ge (by decide) hz1 hz2 hd kt kf
theorem b_M_guard_32 {L : Nat} {d : Nat} {I : jm_I} {Q : Option jm_V → jm_I → Prop} {o1 : Option jm_V} {o2 : Option jm_V} {x3 : Int} {x4 : Int} {o5 : Option jm_V} {o6 : Option jm_V} {o7 : Option jm_V} {o8 : Option jm_V}  (hz : (0 ≤ (3 * x4) + 2 ∧ (3 * x4) + 2 < 24) ∧ (-2147483648 ≤ I 168 ((3 * x4) + 2).toNat ∧ I 168 ((3 * x4) + 2).toNat < 2147483648)) (kt : ¬ (I 168 ((3 * x4) + 2).toNat) = 0 → Gx (jx_0 L) d md_M_guard 54 [some (.inr (.inl 167)), o1, o2, some (.inl x3), some (.inl x4), o5, o6, o7, o8] [.inl x3] I Q) (kf : (I 168 ((3 * x4) + 2).toNat) = 0 → Gx (jx_0 L) d md_M_guard 47 [some (.inr (.inl 167)), o1, o2, some (.inl x3), some (.inl x4), o5, o6, o7, o8] [.inl x3] I Q) : Gx (jx_0 L) d md_M_guard 32 [some (.inr (.inl 167)), o1, o2, some (.inl x3), some (.inl x4), o5, o6, o7, o8] [] I Q := by
  obtain ⟨hz1, hz2⟩ := hz
  show jm_Go d 0 0 md_M_guard 32 [some (.inr (.inl 167)), o1, o2, some (.inl x3), some (.inl x4), o5, o6, o7, o8] [] (jx (jx_0 L) I) (jx_Q (jx_0 L) Q)
  have hd : jm_dc md_M_guard.2.1 32 [(.iload_n 3, 1), (.aload_n 0, 1), (.getfield 13, 3), (.iconst 3, 1), (.iload 4, 2), (.imul, 1), (.iconst 2, 1), (.iadd, 1), (.iaload, 1), (.ifCond .ne 10, 3)] = true := by decide +kernel
  refine go_iload_n rfl hd (fun hd => ?_)
  refine go_aload_n rfl hd (fun hd => ?_)
  refine go_getR co_X9 fl_9_13 (by decide) rfl rfl rfl hd (fun hd => ?_)
  refine go_iconst hd (fun hd => ?_)
  refine go_iload rfl hd (fun hd => ?_)
  refine go_imul hd (fun hd => ?_)
  refine go_iconst hd (fun hd => ?_)
  refine go_iadd hd (fun hd => ?_)
  refine go_iaload rfl hz1.1 hz1.2 (by decide) hd (fun hd => ?_)
  exact go_if_ne (by decide) hz2 hd kt kf
theorem b_M_guard_47 {L : Nat} {d : Nat} {I : jm_I} {Q : Option jm_V → jm_I → Prop} {o0 : Option jm_V} {o1 : Option jm_V} {o2 : Option jm_V} {o3 : Option jm_V} {x4 : Int} {o5 : Option jm_V} {o6 : Option jm_V} {o7 : Option jm_V} {o8 : Option jm_V} {s0 : Int}  (k : Gx (jx_0 L) d md_M_guard 55 [o0, o1, o2, o3, some (.inl x4), o5, o6, o7, o8] [.inl (jb_shl 1 x4), .inl s0] I Q) : Gx (jx_0 L) d md_M_guard 47 [o0, o1, o2, o3, some (.inl x4), o5, o6, o7, o8] [.inl s0] I Q := by
  show jm_Go d 0 0 md_M_guard 47 [o0, o1, o2, o3, some (.inl x4), o5, o6, o7, o8] [.inl s0] (jx (jx_0 L) I) (jx_Q (jx_0 L) Q)
  have hd : jm_dc md_M_guard.2.1 47 [(.iconst 1, 1), (.iload 4, 2), (.ishl, 1), (.goto 4, 3)] = true := by decide +kernel
  refine go_iconst hd (fun hd => ?_)
  refine go_iload rfl hd (fun hd => ?_)
  refine go_ishl hd (fun hd => ?_)
  exact go_goto (by decide) hd k
theorem b_M_guard_54 {L : Nat} {d : Nat} {I : jm_I} {Q : Option jm_V → jm_I → Prop} {o0 : Option jm_V} {o1 : Option jm_V} {o2 : Option jm_V} {o3 : Option jm_V} {o4 : Option jm_V} {o5 : Option jm_V} {o6 : Option jm_V} {o7 : Option jm_V} {o8 : Option jm_V} {s0 : Int}  (k : Gx (jx_0 L) d md_M_guard 55 [o0, o1, o2, o3, o4, o5, o6, o7, o8] [.inl 0, .inl s0] I Q) : Gx (jx_0 L) d md_M_guard 54 [o0, o1, o2, o3, o4, o5, o6, o7, o8] [.inl s0] I Q := by
  show jm_Go d 0 0 md_M_guard 54 [o0, o1, o2, o3, o4, o5, o6, o7, o8] [.inl s0] (jx (jx_0 L) I) (jx_Q (jx_0 L) Q)
  have hd : jm_dc md_M_guard.2.1 54 [(.iconst 0, 1)] = true := by decide +kernel
  refine go_iconst hd (fun hd => ?_)
  exact k
theorem b_M_guard_55 {L : Nat} {d : Nat} {I : jm_I} {Q : Option jm_V → jm_I → Prop} {o0 : Option jm_V} {o1 : Option jm_V} {o2 : Option jm_V} {o3 : Option jm_V} {x4 : Int} {o5 : Option jm_V} {o6 : Option jm_V} {o7 : Option jm_V} {o8 : Option jm_V} {s0 : Int} {s1 : Int}  (k : Gx (jx_0 L) d md_M_guard 23 [o0, o1, o2, some (.inl (jb_or s0 s1)), some (.inl (x4 + 1)), o5, o6, o7, o8] [] I Q) : Gx (jx_0 L) d md_M_guard 55 [o0, o1, o2, o3, some (.inl x4), o5, o6, o7, o8] [.inl s1, .inl s0] I Q := by
  show jm_Go d 0 0 md_M_guard 55 [o0, o1, o2, o3, some (.inl x4), o5, o6, o7, o8] [.inl s1, .inl s0] (jx (jx_0 L) I) (jx_Q (jx_0 L) Q)
  have hd : jm_dc md_M_guard.2.1 55 [(.ior, 1), (.istore_n 3, 1), (.iinc 4 1, 3), (.goto (-37), 3)] = true := by decide +kernel
  refine go_ior hd (fun hd => ?_)
  refine go_istore_n (by decide) hd (fun hd => ?_)
  refine go_iinc rfl hd (fun hd => ?_)
  exact go_goto (by decide) hd k
theorem b_M_guard_63 {L : Nat} {d : Nat} {I : jm_I} {Q : Option jm_V → jm_I → Prop} {o0 : Option jm_V} {o1 : Option jm_V} {o2 : Option jm_V} {o3 : Option jm_V} {o4 : Option jm_V} {o5 : Option jm_V} {o6 : Option jm_V} {o7 : Option jm_V} {o8 : Option jm_V}  (k : Gx (jx_0 L) d md_M_guard 70 [o0, o1, o2, o3, some (.inl (-9)), some (.inl 0), o6, o7, o8] [] I Q) : Gx (jx_0 L) d md_M_guard 63 [o0, o1, o2, o3, o4, o5, o6, o7, o8] [] I Q := by
  show jm_Go d 0 0 md_M_guard 63 [o0, o1, o2, o3, o4, o5, o6, o7, o8] [] (jx (jx_0 L) I) (jx_Q (jx_0 L) Q)
  have hd : jm_dc md_M_guard.2.1 63 [(.bipush (-9), 2), (.istore 4, 2), (.iconst 0, 1), (.istore 5, 2)] = true := by decide +kernel
  refine go_bipush (by decide) hd (fun hd => ?_)
  refine go_istore (by decide) hd (fun hd => ?_)
  refine go_iconst hd (fun hd => ?_)
  refine go_istore (by decide) hd (fun hd => ?_)
  exact k
theorem b_M_guard_70 {L : Nat} {d : Nat} {I : jm_I} {Q : Option jm_V → jm_I → Prop} {o1 : Option jm_V} {o2 : Option jm_V} {o3 : Option jm_V} {o4 : Option jm_V} {x5 : Int} {o6 : Option jm_V} {o7 : Option jm_V} {o8 : Option jm_V}  (hz : (-2147483648 ≤ x5 ∧ x5 < 2147483648) ∧ (-2147483648 ≤ jb_shl 1 (I 167 1) ∧ jb_shl 1 (I 167 1) < 2147483648)) (kt : (jb_shl 1 (I 167 1)) ≤ x5 → Gx (jx_0 L) d md_M_guard 204 [some (.inr (.inl 167)), o1, o2, o3, o4, some (.inl x5), o6, o7, o8] [] I Q) (kf : ¬ ((jb_shl 1 (I 167 1)) ≤ x5) → Gx (jx_0 L) d md_M_guard 81 [some (.inr (.inl 167)), o1, o2, o3, o4, some (.inl x5), o6, o7, o8] [] I Q) : Gx (jx_0 L) d md_M_guard 70 [some (.inr (.inl 167)), o1, o2, o3, o4, some (.inl x5), o6, o7, o8] [] I Q := by
  obtain ⟨hz1, hz2⟩ := hz
  show jm_Go d 0 0 md_M_guard 70 [some (.inr (.inl 167)), o1, o2, o3, o4, some (.inl x5), o6, o7, o8] [] (jx (jx_0 L) I) (jx_Q (jx_0 L) Q)
  have hd : jm_dc md_M_guard.2.1 70 [(.iload 5, 2), (.iconst 1, 1), (.aload_n 0, 1), (.getfield 155, 3), (.ishl, 1), (.if_icmp .ge 126, 3)] = true := by decide +kernel
  refine go_iload rfl hd (fun hd => ?_)
  refine go_iconst hd (fun hd => ?_)
  refine go_aload_n rfl hd (fun hd => ?_)
  refine go_getI co_X9 fl_9_155 (by decide) (Or.inl rfl) rfl hd (fun hd => ?_)
  refine go_ishl hd (fun hd => ?_)
  exact go_icmp_ge (by decide) hz1 hz2 hd kt kf
theorem b_M_guard_81 {L : Nat} {d : Nat} {I : jm_I} {Q : Option jm_V → jm_I → Prop} {o0 : Option jm_V} {o1 : Option jm_V} {o2 : Option jm_V} {x3 : Int} {o4 : Option jm_V} {x5 : Int} {o6 : Option jm_V} {o7 : Option jm_V} {o8 : Option jm_V}  (hz : (-2147483648 ≤ jb_and x5 (jb_xor x3 (-1)) ∧ jb_and x5 (jb_xor x3 (-1)) < 2147483648)) (kt : ¬ (jb_and x5 (jb_xor x3 (-1))) = 0 → Gx (jx_0 L) d md_M_guard 114 [o0, o1, o2, some (.inl x3), o4, some (.inl x5), o6, o7, o8] [] I Q) (kf : (jb_and x5 (jb_xor x3 (-1))) = 0 → Gx (jx_0 L) d md_M_guard 90 [o0, o1, o2, some (.inl x3), o4, some (.inl x5), o6, o7, o8] [] I Q) : Gx (jx_0 L) d md_M_guard 81 [o0, o1, o2, some (.inl x3), o4, some (.inl x5), o6, o7, o8] [] I Q := by
  have hz1 := hz
  show jm_Go d 0 0 md_M_guard 81 [o0, o1, o2, some (.inl x3), o4, some (.inl x5), o6, o7, o8] [] (jx (jx_0 L) I) (jx_Q (jx_0 L) Q)
  have hd : jm_dc md_M_guard.2.1 81 [(.iload 5, 2), (.iload_n 3, 1), (.iconst (-1), 1), (.ixor, 1), (.iand, 1), (.ifCond .ne 27, 3)] = true := by decide +kernel
  refine go_iload rfl hd (fun hd => ?_)
  refine go_iload_n rfl hd (fun hd => ?_)
  refine go_iconst hd (fun hd => ?_)
  refine go_ixor hd (fun hd => ?_)
  refine go_iand hd (fun hd => ?_)
  exact go_if_ne (by decide) hz1 hd kt kf
theorem b_M_guard_90 {L : Nat} {d : Nat} {I : jm_I} {Q : Option jm_V → jm_I → Prop} {o0 : Option jm_V} {o1 : Option jm_V} {o2 : Option jm_V} {o3 : Option jm_V} {x4 : Int} {o5 : Option jm_V} {o6 : Option jm_V} {o7 : Option jm_V} {o8 : Option jm_V}  (hz : (-2147483648 ≤ x4 ∧ x4 < 2147483648)) (kt : x4 = (-9) → Gx (jx_0 L) d md_M_guard 110 [o0, o1, o2, o3, some (.inl x4), o5, o6, o7, o8] [] I Q) (kf : ¬ x4 = (-9) → Gx (jx_0 L) d md_M_guard 97 [o0, o1, o2, o3, some (.inl x4), o5, o6, o7, o8] [] I Q) : Gx (jx_0 L) d md_M_guard 90 [o0, o1, o2, o3, some (.inl x4), o5, o6, o7, o8] [] I Q := by
  have hz1 := hz
  show jm_Go d 0 0 md_M_guard 90 [o0, o1, o2, o3, some (.inl x4), o5, o6, o7, o8] [] (jx (jx_0 L) I) (jx_Q (jx_0 L) Q)
  have hd : jm_dc md_M_guard.2.1 90 [(.iload 4, 2), (.bipush (-9), 2), (.if_icmp .eq 16, 3)] = true := by decide +kernel
  refine go_iload rfl hd (fun hd => ?_)
  refine go_bipush (by decide) hd (fun hd => ?_)
  exact go_icmp_eq (by decide) hz1 ⟨by decide, by decide⟩ hd kt kf
theorem b_M_guard_97 {L : Nat} {d : Nat} {I : jm_I} {Q : Option jm_V → jm_I → Prop} {o0 : Option jm_V} {o1 : Option jm_V} {o2 : Option jm_V} {o3 : Option jm_V} {o4 : Option jm_V} {x5 : Int} {o6 : Option jm_V} {o7 : Option jm_V} {o8 : Option jm_V}  (k : Cx (jx_0 L) d md_M_bits [.inl x5] I (fun v J => Gx (jx_0 L) (d + 1) md_M_guard 102 [o0, o1, o2, o3, o4, some (.inl x5), o6, o7, o8] (v.toList ++ []) J Q)) : Gx (jx_0 L) (d + 1) md_M_guard 97 [o0, o1, o2, o3, o4, some (.inl x5), o6, o7, o8] [] I Q := by
  show jm_Go (d + 1) 0 0 md_M_guard 97 [o0, o1, o2, o3, o4, some (.inl x5), o6, o7, o8] [] (jx (jx_0 L) I) (jx_Q (jx_0 L) Q)
  have hd : jm_dc md_M_guard.2.1 97 [(.iload 5, 2), (.invokestatic 218, 3)] = true := by decide +kernel
  refine go_iload rfl hd (fun hd => ?_)
  exact gx_static [.inl x5] [] mk_M_bits ml_9_218 st_M_bits rfl (Nat.le_of_ble_eq_true rfl) rfl (Nat.le_of_ble_eq_true rfl) rfl hd k
theorem b_M_guard_102 {L : Nat} {d : Nat} {I : jm_I} {Q : Option jm_V → jm_I → Prop} {o0 : Option jm_V} {o1 : Option jm_V} {o2 : Option jm_V} {o3 : Option jm_V} {x4 : Int} {o5 : Option jm_V} {o6 : Option jm_V} {o7 : Option jm_V} {o8 : Option jm_V} {s0 : Int}  (k : Cx (jx_0 L) d md_M_bits [.inl x4] I (fun v J => Gx (jx_0 L) (d + 1) md_M_guard 107 [o0, o1, o2, o3, some (.inl x4), o5, o6, o7, o8] (v.toList ++ [.inl s0]) J Q)) : Gx (jx_0 L) (d + 1) md_M_guard 102 [o0, o1, o2, o3, some (.inl x4), o5, o6, o7, o8] [.inl s0] I Q := by
  show jm_Go (d + 1) 0 0 md_M_guard 102 [o0, o1, o2, o3, some (.inl x4), o5, o6, o7, o8] [.inl s0] (jx (jx_0 L) I) (jx_Q (jx_0 L) Q)
  have hd : jm_dc md_M_guard.2.1 102 [(.iload 4, 2), (.invokestatic 218, 3)] = true := by decide +kernel
  refine go_iload rfl hd (fun hd => ?_)
  exact gx_static [.inl x4] [.inl s0] mk_M_bits ml_9_218 st_M_bits rfl (Nat.le_of_ble_eq_true rfl) rfl (Nat.le_of_ble_eq_true rfl) rfl hd k
theorem b_M_guard_107 {L : Nat} {d : Nat} {I : jm_I} {Q : Option jm_V → jm_I → Prop} {o0 : Option jm_V} {o1 : Option jm_V} {o2 : Option jm_V} {o3 : Option jm_V} {o4 : Option jm_V} {o5 : Option jm_V} {o6 : Option jm_V} {o7 : Option jm_V} {o8 : Option jm_V} {s0 : Int} {s1 : Int}  (hz : (-2147483648 ≤ s0 ∧ s0 < 2147483648) ∧ (-2147483648 ≤ s1 ∧ s1 < 2147483648)) (kt : s1 ≤ s0 → Gx (jx_0 L) d md_M_guard 114 [o0, o1, o2, o3, o4, o5, o6, o7, o8] [] I Q) (kf : ¬ (s1 ≤ s0) → Gx (jx_0 L) d md_M_guard 110 [o0, o1, o2, o3, o4, o5, o6, o7, o8] [] I Q) : Gx (jx_0 L) d md_M_guard 107 [o0, o1, o2, o3, o4, o5, o6, o7, o8] [.inl s1, .inl s0] I Q := by
  obtain ⟨hz1, hz2⟩ := hz
  show jm_Go d 0 0 md_M_guard 107 [o0, o1, o2, o3, o4, o5, o6, o7, o8] [.inl s1, .inl s0] (jx (jx_0 L) I) (jx_Q (jx_0 L) Q)
  have hd : jm_dc md_M_guard.2.1 107 [(.if_icmp .ge 7, 3)] = true := by decide +kernel
  exact go_icmp_ge (by decide) hz1 hz2 hd kt kf
theorem b_M_guard_110 {L : Nat} {d : Nat} {I : jm_I} {Q : Option jm_V → jm_I → Prop} {o0 : Option jm_V} {o1 : Option jm_V} {o2 : Option jm_V} {o3 : Option jm_V} {o4 : Option jm_V} {o5 : Option jm_V} {o6 : Option jm_V} {o7 : Option jm_V} {o8 : Option jm_V}  (k : Gx (jx_0 L) d md_M_guard 115 [o0, o1, o2, o3, o4, o5, o6, o7, o8] [.inl 1] I Q) : Gx (jx_0 L) d md_M_guard 110 [o0, o1, o2, o3, o4, o5, o6, o7, o8] [] I Q := by
  show jm_Go d 0 0 md_M_guard 110 [o0, o1, o2, o3, o4, o5, o6, o7, o8] [] (jx (jx_0 L) I) (jx_Q (jx_0 L) Q)
  have hd : jm_dc md_M_guard.2.1 110 [(.iconst 1, 1), (.goto 4, 3)] = true := by decide +kernel
  refine go_iconst hd (fun hd => ?_)
  exact go_goto (by decide) hd k
theorem b_M_guard_114 {L : Nat} {d : Nat} {I : jm_I} {Q : Option jm_V → jm_I → Prop} {o0 : Option jm_V} {o1 : Option jm_V} {o2 : Option jm_V} {o3 : Option jm_V} {o4 : Option jm_V} {o5 : Option jm_V} {o6 : Option jm_V} {o7 : Option jm_V} {o8 : Option jm_V}  (k : Gx (jx_0 L) d md_M_guard 115 [o0, o1, o2, o3, o4, o5, o6, o7, o8] [.inl 0] I Q) : Gx (jx_0 L) d md_M_guard 114 [o0, o1, o2, o3, o4, o5, o6, o7, o8] [] I Q := by
  show jm_Go d 0 0 md_M_guard 114 [o0, o1, o2, o3, o4, o5, o6, o7, o8] [] (jx (jx_0 L) I) (jx_Q (jx_0 L) Q)
  have hd : jm_dc md_M_guard.2.1 114 [(.iconst 0, 1)] = true := by decide +kernel
  refine go_iconst hd (fun hd => ?_)
  exact k
theorem b_M_guard_115 {L : Nat} {d : Nat} {I : jm_I} {Q : Option jm_V → jm_I → Prop} {o0 : Option jm_V} {o1 : Option jm_V} {o2 : Option jm_V} {o3 : Option jm_V} {o4 : Option jm_V} {o5 : Option jm_V} {o6 : Option jm_V} {o7 : Option jm_V} {o8 : Option jm_V} {s0 : Int}  (hz : (-2147483648 ≤ s0 ∧ s0 < 2147483648)) (kt : s0 = 0 → Gx (jx_0 L) d md_M_guard 198 [o0, o1, o2, o3, o4, o5, some (.inl s0), o7, o8] [] I Q) (kf : ¬ s0 = 0 → Gx (jx_0 L) d md_M_guard 122 [o0, o1, o2, o3, o4, o5, some (.inl s0), o7, o8] [] I Q) : Gx (jx_0 L) d md_M_guard 115 [o0, o1, o2, o3, o4, o5, o6, o7, o8] [.inl s0] I Q := by
  have hz1 := hz
  show jm_Go d 0 0 md_M_guard 115 [o0, o1, o2, o3, o4, o5, o6, o7, o8] [.inl s0] (jx (jx_0 L) I) (jx_Q (jx_0 L) Q)
  have hd : jm_dc md_M_guard.2.1 115 [(.istore 6, 2), (.iload 6, 2), (.ifCond .eq 79, 3)] = true := by decide +kernel
  refine go_istore (by decide) hd (fun hd => ?_)
  refine go_iload rfl hd (fun hd => ?_)
  exact go_if_eq (by decide) hz1 hd kt kf
theorem b_M_guard_122 {L : Nat} {d : Nat} {I : jm_I} {Q : Option jm_V → jm_I → Prop} {o1 : Option jm_V} {o2 : Option jm_V} {o3 : Option jm_V} {o4 : Option jm_V} {x5 : Int} {o6 : Option jm_V} {o7 : Option jm_V} {o8 : Option jm_V}  (k : Cx (jx_0 L) d md_M_findFar [.inr (.inl 167), .inl x5] I (fun v J => Gx (jx_0 L) (d + 1) md_M_guard 128 [some (.inr (.inl 167)), o1, o2, o3, o4, some (.inl x5), o6, o7, o8] (v.toList ++ []) J Q)) : Gx (jx_0 L) (d + 1) md_M_guard 122 [some (.inr (.inl 167)), o1, o2, o3, o4, some (.inl x5), o6, o7, o8] [] I Q := by
  show jm_Go (d + 1) 0 0 md_M_guard 122 [some (.inr (.inl 167)), o1, o2, o3, o4, some (.inl x5), o6, o7, o8] [] (jx (jx_0 L) I) (jx_Q (jx_0 L) Q)
  have hd : jm_dc md_M_guard.2.1 122 [(.aload_n 0, 1), (.iload 5, 2), (.invokevirtual 181, 3)] = true := by decide +kernel
  refine go_aload_n rfl hd (fun hd => ?_)
  refine go_iload rfl hd (fun hd => ?_)
  exact gx_virtual 167 9 [.inl x5] [] mk_M_findFar co_X9 rfl ml_9_181 in_M_findFar se_M_findFar rfl rfl (Nat.le_of_ble_eq_true rfl) rfl (Nat.le_of_ble_eq_true rfl) rfl hd k
theorem b_M_guard_128 {L : Nat} {d : Nat} {I : jm_I} {Q : Option jm_V → jm_I → Prop} {o0 : Option jm_V} {o1 : Option jm_V} {o2 : Option jm_V} {o3 : Option jm_V} {o4 : Option jm_V} {o5 : Option jm_V} {o6 : Option jm_V} {o7 : Option jm_V} {o8 : Option jm_V}  (k : Gx (jx_0 L) d md_M_guard 134 [o0, o1, o2, o3, o4, o5, o6, some (.inl 0), some (.inl 0)] [] I Q) : Gx (jx_0 L) d md_M_guard 128 [o0, o1, o2, o3, o4, o5, o6, o7, o8] [] I Q := by
  show jm_Go d 0 0 md_M_guard 128 [o0, o1, o2, o3, o4, o5, o6, o7, o8] [] (jx (jx_0 L) I) (jx_Q (jx_0 L) Q)
  have hd : jm_dc md_M_guard.2.1 128 [(.iconst 0, 1), (.istore 7, 2), (.iconst 0, 1), (.istore 8, 2)] = true := by decide +kernel
  refine go_iconst hd (fun hd => ?_)
  refine go_istore (by decide) hd (fun hd => ?_)
  refine go_iconst hd (fun hd => ?_)
  refine go_istore (by decide) hd (fun hd => ?_)
  exact k
theorem b_M_guard_134 {L : Nat} {d : Nat} {I : jm_I} {Q : Option jm_V → jm_I → Prop} {o1 : Option jm_V} {o2 : Option jm_V} {o3 : Option jm_V} {o4 : Option jm_V} {o5 : Option jm_V} {o6 : Option jm_V} {o7 : Option jm_V} {x8 : Int}  (hz : (-2147483648 ≤ x8 ∧ x8 < 2147483648) ∧ (-2147483648 ≤ I 167 4 ∧ I 167 4 < 2147483648)) (kt : (I 167 4) ≤ x8 → Gx (jx_0 L) d md_M_guard 184 [some (.inr (.inl 167)), o1, o2, o3, o4, o5, o6, o7, some (.inl x8)] [] I Q) (kf : ¬ ((I 167 4) ≤ x8) → Gx (jx_0 L) d md_M_guard 143 [some (.inr (.inl 167)), o1, o2, o3, o4, o5, o6, o7, some (.inl x8)] [] I Q) : Gx (jx_0 L) d md_M_guard 134 [some (.inr (.inl 167)), o1, o2, o3, o4, o5, o6, o7, some (.inl x8)] [] I Q := by
  obtain ⟨hz1, hz2⟩ := hz
  show jm_Go d 0 0 md_M_guard 134 [some (.inr (.inl 167)), o1, o2, o3, o4, o5, o6, o7, some (.inl x8)] [] (jx (jx_0 L) I) (jx_Q (jx_0 L) Q)
  have hd : jm_dc md_M_guard.2.1 134 [(.iload 8, 2), (.aload_n 0, 1), (.getfield 82, 3), (.if_icmp .ge 44, 3)] = true := by decide +kernel
  refine go_iload rfl hd (fun hd => ?_)
  refine go_aload_n rfl hd (fun hd => ?_)
  refine go_getI co_X9 fl_9_82 (by decide) (Or.inl rfl) rfl hd (fun hd => ?_)
  exact go_icmp_ge (by decide) hz1 hz2 hd kt kf
theorem b_M_guard_143 {L : Nat} {d : Nat} {I : jm_I} {Q : Option jm_V → jm_I → Prop} {o0 : Option jm_V} {o1 : Option jm_V} {o2 : Option jm_V} {o3 : Option jm_V} {o4 : Option jm_V} {o5 : Option jm_V} {o6 : Option jm_V} {x7 : Int} {o8 : Option jm_V}  (hz : (-2147483648 ≤ x7 ∧ x7 < 2147483648)) (kt : ¬ x7 = 0 → Gx (jx_0 L) d md_M_guard 171 [o0, o1, o2, o3, o4, o5, o6, some (.inl x7), o8] [] I Q) (kf : x7 = 0 → Gx (jx_0 L) d md_M_guard 148 [o0, o1, o2, o3, o4, o5, o6, some (.inl x7), o8] [] I Q) : Gx (jx_0 L) d md_M_guard 143 [o0, o1, o2, o3, o4, o5, o6, some (.inl x7), o8] [] I Q := by
  have hz1 := hz
  show jm_Go d 0 0 md_M_guard 143 [o0, o1, o2, o3, o4, o5, o6, some (.inl x7), o8] [] (jx (jx_0 L) I) (jx_Q (jx_0 L) Q)
  have hd : jm_dc md_M_guard.2.1 143 [(.iload 7, 2), (.ifCond .ne 26, 3)] = true := by decide +kernel
  refine go_iload rfl hd (fun hd => ?_)
  exact go_if_ne (by decide) hz1 hd kt kf
theorem b_M_guard_148 {L : Nat} {d : Nat} {I : jm_I} {Q : Option jm_V → jm_I → Prop} {o1 : Option jm_V} {o2 : Option jm_V} {o3 : Option jm_V} {o4 : Option jm_V} {o5 : Option jm_V} {o6 : Option jm_V} {o7 : Option jm_V} {o8 : Option jm_V}  (k : Cx (jx_0 L) d md_M_mayPress [.inr (.inl 167)] I (fun v J => Gx (jx_0 L) (d + 1) md_M_guard 152 [some (.inr (.inl 167)), o1, o2, o3, o4, o5, o6, o7, o8] (v.toList ++ []) J Q)) : Gx (jx_0 L) (d + 1) md_M_guard 148 [some (.inr (.inl 167)), o1, o2, o3, o4, o5, o6, o7, o8] [] I Q := by
  show jm_Go (d + 1) 0 0 md_M_guard 148 [some (.inr (.inl 167)), o1, o2, o3, o4, o5, o6, o7, o8] [] (jx (jx_0 L) I) (jx_Q (jx_0 L) Q)
  have hd : jm_dc md_M_guard.2.1 148 [(.aload_n 0, 1), (.invokevirtual 228, 3)] = true := by decide +kernel
  refine go_aload_n rfl hd (fun hd => ?_)
  exact gx_virtual 167 9 [] [] mk_M_mayPress co_X9 rfl ml_9_228 in_M_mayPress se_M_mayPress rfl rfl (Nat.le_of_ble_eq_true rfl) rfl (Nat.le_of_ble_eq_true rfl) rfl hd k
theorem b_M_guard_152 {L : Nat} {d : Nat} {I : jm_I} {Q : Option jm_V → jm_I → Prop} {o0 : Option jm_V} {o1 : Option jm_V} {o2 : Option jm_V} {o3 : Option jm_V} {o4 : Option jm_V} {o5 : Option jm_V} {o6 : Option jm_V} {o7 : Option jm_V} {x8 : Int} {s0 : Int}  (k : Cx (jx_0 L) d md_M_has [.inl s0, .inl x8] I (fun v J => Gx (jx_0 L) (d + 1) md_M_guard 157 [o0, o1, o2, o3, o4, o5, o6, o7, some (.inl x8)] (v.toList ++ []) J Q)) : Gx (jx_0 L) (d + 1) md_M_guard 152 [o0, o1, o2, o3, o4, o5, o6, o7, some (.inl x8)] [.inl s0] I Q := by
  show jm_Go (d + 1) 0 0 md_M_guard 152 [o0, o1, o2, o3, o4, o5, o6, o7, some (.inl x8)] [.inl s0] (jx (jx_0 L) I) (jx_Q (jx_0 L) Q)
  have hd : jm_dc md_M_guard.2.1 152 [(.iload 8, 2), (.invokestatic 168, 3)] = true := by decide +kernel
  refine go_iload rfl hd (fun hd => ?_)
  exact gx_static [.inl s0, .inl x8] [] mk_M_has ml_9_168 st_M_has rfl (Nat.le_of_ble_eq_true rfl) rfl (Nat.le_of_ble_eq_true rfl) rfl hd k
theorem b_M_guard_157 {L : Nat} {d : Nat} {I : jm_I} {Q : Option jm_V → jm_I → Prop} {o0 : Option jm_V} {o1 : Option jm_V} {o2 : Option jm_V} {o3 : Option jm_V} {o4 : Option jm_V} {o5 : Option jm_V} {o6 : Option jm_V} {o7 : Option jm_V} {o8 : Option jm_V} {s0 : Int}  (hz : (-2147483648 ≤ s0 ∧ s0 < 2147483648)) (kt : s0 = 0 → Gx (jx_0 L) d md_M_guard 175 [o0, o1, o2, o3, o4, o5, o6, o7, o8] [] I Q) (kf : ¬ s0 = 0 → Gx (jx_0 L) d md_M_guard 160 [o0, o1, o2, o3, o4, o5, o6, o7, o8] [] I Q) : Gx (jx_0 L) d md_M_guard 157 [o0, o1, o2, o3, o4, o5, o6, o7, o8] [.inl s0] I Q := by
  have hz1 := hz
  show jm_Go d 0 0 md_M_guard 157 [o0, o1, o2, o3, o4, o5, o6, o7, o8] [.inl s0] (jx (jx_0 L) I) (jx_Q (jx_0 L) Q)
  have hd : jm_dc md_M_guard.2.1 157 [(.ifCond .eq 18, 3)] = true := by decide +kernel
  exact go_if_eq (by decide) hz1 hd kt kf
theorem b_M_guard_160 {L : Nat} {d : Nat} {I : jm_I} {Q : Option jm_V → jm_I → Prop} {x1 : Int} {x2 : Int} {o3 : Option jm_V} {o4 : Option jm_V} {o5 : Option jm_V} {o6 : Option jm_V} {o7 : Option jm_V} {x8 : Int}  (k : Cx (jx_0 L) d md_M_canCarry [.inr (.inl 167), .inl x8, .inl x1, .inl x2] I (fun v J => Gx (jx_0 L) (d + 1) md_M_guard 168 [some (.inr (.inl 167)), some (.inl x1), some (.inl x2), o3, o4, o5, o6, o7, some (.inl x8)] (v.toList ++ []) J Q)) : Gx (jx_0 L) (d + 1) md_M_guard 160 [some (.inr (.inl 167)), some (.inl x1), some (.inl x2), o3, o4, o5, o6, o7, some (.inl x8)] [] I Q := by
  show jm_Go (d + 1) 0 0 md_M_guard 160 [some (.inr (.inl 167)), some (.inl x1), some (.inl x2), o3, o4, o5, o6, o7, some (.inl x8)] [] (jx (jx_0 L) I) (jx_Q (jx_0 L) Q)
  have hd : jm_dc md_M_guard.2.1 160 [(.aload_n 0, 1), (.iload 8, 2), (.iload_n 1, 1), (.iload_n 2, 1), (.invokevirtual 248, 3)] = true := by decide +kernel
  refine go_aload_n rfl hd (fun hd => ?_)
  refine go_iload rfl hd (fun hd => ?_)
  refine go_iload_n rfl hd (fun hd => ?_)
  refine go_iload_n rfl hd (fun hd => ?_)
  exact gx_virtual 167 9 [.inl x8, .inl x1, .inl x2] [] mk_M_canCarry co_X9 rfl ml_9_248 in_M_canCarry se_M_canCarry rfl rfl (Nat.le_of_ble_eq_true rfl) rfl (Nat.le_of_ble_eq_true rfl) rfl hd k
theorem b_M_guard_168 {L : Nat} {d : Nat} {I : jm_I} {Q : Option jm_V → jm_I → Prop} {o0 : Option jm_V} {o1 : Option jm_V} {o2 : Option jm_V} {o3 : Option jm_V} {o4 : Option jm_V} {o5 : Option jm_V} {o6 : Option jm_V} {o7 : Option jm_V} {o8 : Option jm_V} {s0 : Int}  (hz : (-2147483648 ≤ s0 ∧ s0 < 2147483648)) (kt : s0 = 0 → Gx (jx_0 L) d md_M_guard 175 [o0, o1, o2, o3, o4, o5, o6, o7, o8] [] I Q) (kf : ¬ s0 = 0 → Gx (jx_0 L) d md_M_guard 171 [o0, o1, o2, o3, o4, o5, o6, o7, o8] [] I Q) : Gx (jx_0 L) d md_M_guard 168 [o0, o1, o2, o3, o4, o5, o6, o7, o8] [.inl s0] I Q := by
  have hz1 := hz
  show jm_Go d 0 0 md_M_guard 168 [o0, o1, o2, o3, o4, o5, o6, o7, o8] [.inl s0] (jx (jx_0 L) I) (jx_Q (jx_0 L) Q)
  have hd : jm_dc md_M_guard.2.1 168 [(.ifCond .eq 7, 3)] = true := by decide +kernel
  exact go_if_eq (by decide) hz1 hd kt kf
theorem b_M_guard_171 {L : Nat} {d : Nat} {I : jm_I} {Q : Option jm_V → jm_I → Prop} {o0 : Option jm_V} {o1 : Option jm_V} {o2 : Option jm_V} {o3 : Option jm_V} {o4 : Option jm_V} {o5 : Option jm_V} {o6 : Option jm_V} {o7 : Option jm_V} {o8 : Option jm_V}  (k : Gx (jx_0 L) d md_M_guard 176 [o0, o1, o2, o3, o4, o5, o6, o7, o8] [.inl 1] I Q) : Gx (jx_0 L) d md_M_guard 171 [o0, o1, o2, o3, o4, o5, o6, o7, o8] [] I Q := by
  show jm_Go d 0 0 md_M_guard 171 [o0, o1, o2, o3, o4, o5, o6, o7, o8] [] (jx (jx_0 L) I) (jx_Q (jx_0 L) Q)
  have hd : jm_dc md_M_guard.2.1 171 [(.iconst 1, 1), (.goto 4, 3)] = true := by decide +kernel
  refine go_iconst hd (fun hd => ?_)
  exact go_goto (by decide) hd k
theorem b_M_guard_175 {L : Nat} {d : Nat} {I : jm_I} {Q : Option jm_V → jm_I → Prop} {o0 : Option jm_V} {o1 : Option jm_V} {o2 : Option jm_V} {o3 : Option jm_V} {o4 : Option jm_V} {o5 : Option jm_V} {o6 : Option jm_V} {o7 : Option jm_V} {o8 : Option jm_V}  (k : Gx (jx_0 L) d md_M_guard 176 [o0, o1, o2, o3, o4, o5, o6, o7, o8] [.inl 0] I Q) : Gx (jx_0 L) d md_M_guard 175 [o0, o1, o2, o3, o4, o5, o6, o7, o8] [] I Q := by
  show jm_Go d 0 0 md_M_guard 175 [o0, o1, o2, o3, o4, o5, o6, o7, o8] [] (jx (jx_0 L) I) (jx_Q (jx_0 L) Q)
  have hd : jm_dc md_M_guard.2.1 175 [(.iconst 0, 1)] = true := by decide +kernel
  refine go_iconst hd (fun hd => ?_)
  exact k
theorem b_M_guard_176 {L : Nat} {d : Nat} {I : jm_I} {Q : Option jm_V → jm_I → Prop} {o0 : Option jm_V} {o1 : Option jm_V} {o2 : Option jm_V} {o3 : Option jm_V} {o4 : Option jm_V} {o5 : Option jm_V} {o6 : Option jm_V} {o7 : Option jm_V} {x8 : Int} {s0 : Int}  (k : Gx (jx_0 L) d md_M_guard 134 [o0, o1, o2, o3, o4, o5, o6, some (.inl s0), some (.inl (x8 + 1))] [] I Q) : Gx (jx_0 L) d md_M_guard 176 [o0, o1, o2, o3, o4, o5, o6, o7, some (.inl x8)] [.inl s0] I Q := by
  show jm_Go d 0 0 md_M_guard 176 [o0, o1, o2, o3, o4, o5, o6, o7, some (.inl x8)] [.inl s0] (jx (jx_0 L) I) (jx_Q (jx_0 L) Q)
  have hd : jm_dc md_M_guard.2.1 176 [(.istore 7, 2), (.iinc 8 1, 3), (.goto (-47), 3)] = true := by decide +kernel
  refine go_istore (by decide) hd (fun hd => ?_)
  refine go_iinc rfl hd (fun hd => ?_)
  exact go_goto (by decide) hd k
theorem b_M_guard_184 {L : Nat} {d : Nat} {I : jm_I} {Q : Option jm_V → jm_I → Prop} {o0 : Option jm_V} {o1 : Option jm_V} {o2 : Option jm_V} {o3 : Option jm_V} {o4 : Option jm_V} {o5 : Option jm_V} {o6 : Option jm_V} {x7 : Int} {o8 : Option jm_V}  (hz : (-2147483648 ≤ x7 ∧ x7 < 2147483648)) (kt : x7 = 0 → Gx (jx_0 L) d md_M_guard 194 [o0, o1, o2, o3, o4, o5, o6, some (.inl x7), o8] [] I Q) (kf : ¬ x7 = 0 → Gx (jx_0 L) d md_M_guard 189 [o0, o1, o2, o3, o4, o5, o6, some (.inl x7), o8] [] I Q) : Gx (jx_0 L) d md_M_guard 184 [o0, o1, o2, o3, o4, o5, o6, some (.inl x7), o8] [] I Q := by
  have hz1 := hz
  show jm_Go d 0 0 md_M_guard 184 [o0, o1, o2, o3, o4, o5, o6, some (.inl x7), o8] [] (jx (jx_0 L) I) (jx_Q (jx_0 L) Q)
  have hd : jm_dc md_M_guard.2.1 184 [(.iload 7, 2), (.ifCond .eq 8, 3)] = true := by decide +kernel
  refine go_iload rfl hd (fun hd => ?_)
  exact go_if_eq (by decide) hz1 hd kt kf
theorem b_M_guard_189 {L : Nat} {d : Nat} {I : jm_I} {Q : Option jm_V → jm_I → Prop} {o0 : Option jm_V} {o1 : Option jm_V} {o2 : Option jm_V} {o3 : Option jm_V} {x4 : Int} {o5 : Option jm_V} {o6 : Option jm_V} {o7 : Option jm_V} {o8 : Option jm_V}  (k : Gx (jx_0 L) d md_M_guard 196 [o0, o1, o2, o3, some (.inl x4), o5, o6, o7, o8] [.inl x4] I Q) : Gx (jx_0 L) d md_M_guard 189 [o0, o1, o2, o3, some (.inl x4), o5, o6, o7, o8] [] I Q := by
  show jm_Go d 0 0 md_M_guard 189 [o0, o1, o2, o3, some (.inl x4), o5, o6, o7, o8] [] (jx (jx_0 L) I) (jx_Q (jx_0 L) Q)
  have hd : jm_dc md_M_guard.2.1 189 [(.iload 4, 2), (.goto 5, 3)] = true := by decide +kernel
  refine go_iload rfl hd (fun hd => ?_)
  exact go_goto (by decide) hd k
theorem b_M_guard_194 {L : Nat} {d : Nat} {I : jm_I} {Q : Option jm_V → jm_I → Prop} {o0 : Option jm_V} {o1 : Option jm_V} {o2 : Option jm_V} {o3 : Option jm_V} {o4 : Option jm_V} {x5 : Int} {o6 : Option jm_V} {o7 : Option jm_V} {o8 : Option jm_V}  (k : Gx (jx_0 L) d md_M_guard 196 [o0, o1, o2, o3, o4, some (.inl x5), o6, o7, o8] [.inl x5] I Q) : Gx (jx_0 L) d md_M_guard 194 [o0, o1, o2, o3, o4, some (.inl x5), o6, o7, o8] [] I Q := by
  show jm_Go d 0 0 md_M_guard 194 [o0, o1, o2, o3, o4, some (.inl x5), o6, o7, o8] [] (jx (jx_0 L) I) (jx_Q (jx_0 L) Q)
  have hd : jm_dc md_M_guard.2.1 194 [(.iload 5, 2)] = true := by decide +kernel
  refine go_iload rfl hd (fun hd => ?_)
  exact k
theorem b_M_guard_196 {L : Nat} {d : Nat} {I : jm_I} {Q : Option jm_V → jm_I → Prop} {o0 : Option jm_V} {o1 : Option jm_V} {o2 : Option jm_V} {o3 : Option jm_V} {o4 : Option jm_V} {o5 : Option jm_V} {o6 : Option jm_V} {o7 : Option jm_V} {o8 : Option jm_V} {s0 : Int}  (k : Gx (jx_0 L) d md_M_guard 198 [o0, o1, o2, o3, some (.inl s0), o5, o6, o7, o8] [] I Q) : Gx (jx_0 L) d md_M_guard 196 [o0, o1, o2, o3, o4, o5, o6, o7, o8] [.inl s0] I Q := by
  show jm_Go d 0 0 md_M_guard 196 [o0, o1, o2, o3, o4, o5, o6, o7, o8] [.inl s0] (jx (jx_0 L) I) (jx_Q (jx_0 L) Q)
  have hd : jm_dc md_M_guard.2.1 196 [(.istore 4, 2)] = true := by decide +kernel
  refine go_istore (by decide) hd (fun hd => ?_)
  exact k
theorem b_M_guard_198 {L : Nat} {d : Nat} {I : jm_I} {Q : Option jm_V → jm_I → Prop} {o0 : Option jm_V} {o1 : Option jm_V} {o2 : Option jm_V} {o3 : Option jm_V} {o4 : Option jm_V} {x5 : Int} {o6 : Option jm_V} {o7 : Option jm_V} {o8 : Option jm_V}  (k : Gx (jx_0 L) d md_M_guard 70 [o0, o1, o2, o3, o4, some (.inl (x5 + 1)), o6, o7, o8] [] I Q) : Gx (jx_0 L) d md_M_guard 198 [o0, o1, o2, o3, o4, some (.inl x5), o6, o7, o8] [] I Q := by
  show jm_Go d 0 0 md_M_guard 198 [o0, o1, o2, o3, o4, some (.inl x5), o6, o7, o8] [] (jx (jx_0 L) I) (jx_Q (jx_0 L) Q)
  have hd : jm_dc md_M_guard.2.1 198 [(.iinc 5 1, 3), (.goto (-131), 3)] = true := by decide +kernel
  refine go_iinc rfl hd (fun hd => ?_)
  exact go_goto (by decide) hd k
theorem b_M_guard_204 {L : Nat} {d : Nat} {I : jm_I} {Q : Option jm_V → jm_I → Prop} {o0 : Option jm_V} {o1 : Option jm_V} {o2 : Option jm_V} {o3 : Option jm_V} {x4 : Int} {o5 : Option jm_V} {o6 : Option jm_V} {o7 : Option jm_V} {o8 : Option jm_V}  (k : Q (some (.inl x4)) I) : Gx (jx_0 L) d md_M_guard 204 [o0, o1, o2, o3, some (.inl x4), o5, o6, o7, o8] [] I Q := by
  show jm_Go d 0 0 md_M_guard 204 [o0, o1, o2, o3, some (.inl x4), o5, o6, o7, o8] [] (jx (jx_0 L) I) (jx_Q (jx_0 L) Q)
  have hd : jm_dc md_M_guard.2.1 204 [(.iload 4, 2), (.ireturn, 1)] = true := by decide +kernel
  refine go_iload rfl hd (fun hd => ?_)
  exact go_ireturn hd rfl ⟨_, rfl, k⟩
theorem b_M_canCarry_0 {L : Nat} {d : Nat} {I : jm_I} {Q : Option jm_V → jm_I → Prop} {x1 : Int} {x2 : Int} {x3 : Int}  (hz : (0 ≤ 1 + x1 ∧ 1 + x1 < 27) ∧ (0 ≤ 17 + x2 ∧ 17 + x2 < 27)) (k : Cx (jx_0 L) d md_M_by [.inr (.inl 167), .inl (I 171 (1 + x1).toNat), .inl (I 171 (17 + x2).toNat), .inl x3] I (fun v J => Gx (jx_0 L) (d + 1) md_M_canCarry 22 [some (.inr (.inl 167)), some (.inl x1), some (.inl x2), some (.inl x3)] (v.toList ++ []) J Q)) : Cx (jx_0 L) (d + 1) md_M_canCarry [.inr (.inl 167), .inl x1, .inl x2, .inl x3] I Q := by
  obtain ⟨hz1, hz2⟩ := hz
  show jm_Go (d + 1) 0 0 md_M_canCarry 0 [some (.inr (.inl 167)), some (.inl x1), some (.inl x2), some (.inl x3)] [] (jx (jx_0 L) I) (jx_Q (jx_0 L) Q)
  have hd : jm_dc md_M_canCarry.2.1 0 [(.aload_n 0, 1), (.aload_n 0, 1), (.getfield 26, 3), (.iconst 1, 1), (.iload_n 1, 1), (.iadd, 1), (.iaload, 1), (.aload_n 0, 1), (.getfield 26, 3), (.bipush 17, 2), (.iload_n 2, 1), (.iadd, 1), (.iaload, 1), (.iload_n 3, 1), (.invokevirtual 185, 3)] = true := by decide +kernel
  refine go_aload_n rfl hd (fun hd => ?_)
  refine go_aload_n rfl hd (fun hd => ?_)
  refine go_getR co_X9 fl_9_26 (by decide) rfl rfl rfl hd (fun hd => ?_)
  refine go_iconst hd (fun hd => ?_)
  refine go_iload_n rfl hd (fun hd => ?_)
  refine go_iadd hd (fun hd => ?_)
  refine go_iaload rfl hz1.1 hz1.2 (by decide) hd (fun hd => ?_)
  refine go_aload_n rfl hd (fun hd => ?_)
  refine go_getR co_X9 fl_9_26 (by decide) rfl rfl rfl hd (fun hd => ?_)
  refine go_bipush (by decide) hd (fun hd => ?_)
  refine go_iload_n rfl hd (fun hd => ?_)
  refine go_iadd hd (fun hd => ?_)
  refine go_iaload rfl hz2.1 hz2.2 (by decide) hd (fun hd => ?_)
  refine go_iload_n rfl hd (fun hd => ?_)
  exact gx_virtual 167 9 [.inl (I 171 (1 + x1).toNat), .inl (I 171 (17 + x2).toNat), .inl x3] [] mk_M_by co_X9 rfl ml_9_185 in_M_by se_M_by rfl rfl (Nat.le_of_ble_eq_true rfl) rfl (Nat.le_of_ble_eq_true rfl) rfl hd k
theorem b_M_canCarry_22 {L : Nat} {d : Nat} {I : jm_I} {Q : Option jm_V → jm_I → Prop} {o1 : Option jm_V} {o2 : Option jm_V} {o3 : Option jm_V} {s0 : Int}  (hz : (-2147483648 ≤ s0 ∧ s0 < 2147483648) ∧ (-2147483648 ≤ I 167 3 ∧ I 167 3 < 2147483648)) (kt : (I 167 3) < s0 → Gx (jx_0 L) d md_M_canCarry 33 [some (.inr (.inl 167)), o1, o2, o3] [] I Q) (kf : ¬ ((I 167 3) < s0) → Gx (jx_0 L) d md_M_canCarry 29 [some (.inr (.inl 167)), o1, o2, o3] [] I Q) : Gx (jx_0 L) d md_M_canCarry 22 [some (.inr (.inl 167)), o1, o2, o3] [.inl s0] I Q := by
  obtain ⟨hz1, hz2⟩ := hz
  show jm_Go d 0 0 md_M_canCarry 22 [some (.inr (.inl 167)), o1, o2, o3] [.inl s0] (jx (jx_0 L) I) (jx_Q (jx_0 L) Q)
  have hd : jm_dc md_M_canCarry.2.1 22 [(.aload_n 0, 1), (.getfield 17, 3), (.if_icmp .gt 7, 3)] = true := by decide +kernel
  refine go_aload_n rfl hd (fun hd => ?_)
  refine go_getI co_X9 fl_9_17 (by decide) (Or.inl rfl) rfl hd (fun hd => ?_)
  exact go_icmp_gt (by decide) hz1 hz2 hd kt kf
theorem b_M_canCarry_29 {L : Nat} {d : Nat} {I : jm_I} {Q : Option jm_V → jm_I → Prop} {o0 : Option jm_V} {o1 : Option jm_V} {o2 : Option jm_V} {o3 : Option jm_V}  (k : Gx (jx_0 L) d md_M_canCarry 34 [o0, o1, o2, o3] [.inl 1] I Q) : Gx (jx_0 L) d md_M_canCarry 29 [o0, o1, o2, o3] [] I Q := by
  show jm_Go d 0 0 md_M_canCarry 29 [o0, o1, o2, o3] [] (jx (jx_0 L) I) (jx_Q (jx_0 L) Q)
  have hd : jm_dc md_M_canCarry.2.1 29 [(.iconst 1, 1), (.goto 4, 3)] = true := by decide +kernel
  refine go_iconst hd (fun hd => ?_)
  exact go_goto (by decide) hd k
theorem b_M_canCarry_33 {L : Nat} {d : Nat} {I : jm_I} {Q : Option jm_V → jm_I → Prop} {o0 : Option jm_V} {o1 : Option jm_V} {o2 : Option jm_V} {o3 : Option jm_V}  (k : Gx (jx_0 L) d md_M_canCarry 34 [o0, o1, o2, o3] [.inl 0] I Q) : Gx (jx_0 L) d md_M_canCarry 33 [o0, o1, o2, o3] [] I Q := by
  show jm_Go d 0 0 md_M_canCarry 33 [o0, o1, o2, o3] [] (jx (jx_0 L) I) (jx_Q (jx_0 L) Q)
  have hd : jm_dc md_M_canCarry.2.1 33 [(.iconst 0, 1)] = true := by decide +kernel
  refine go_iconst hd (fun hd => ?_)
  exact k
theorem b_M_canCarry_34 {L : Nat} {d : Nat} {I : jm_I} {Q : Option jm_V → jm_I → Prop} {o0 : Option jm_V} {o1 : Option jm_V} {o2 : Option jm_V} {o3 : Option jm_V} {s0 : Int}  (hz : (s0 = 0 ∨ s0 = 1)) (k : Q (some (.inl s0)) I) : Gx (jx_0 L) d md_M_canCarry 34 [o0, o1, o2, o3] [.inl s0] I Q := by
  have hz1 := hz
  show jm_Go d 0 0 md_M_canCarry 34 [o0, o1, o2, o3] [.inl s0] (jx (jx_0 L) I) (jx_Q (jx_0 L) Q)
  have hd : jm_dc md_M_canCarry.2.1 34 [(.ireturn, 1)] = true := by decide +kernel
  exact go_zreturn hd rfl hz1 ⟨_, rfl, k⟩
theorem b_M_taking_0 {L : Nat} {d : Nat} {I : jm_I} {Q : Option jm_V → jm_I → Prop} {x1 : Int} {x2 : Int}  (k : Cx (jx_0 L) d md_M_isPerson [.inr (.inl 167), .inl x1] I (fun v J => Gx (jx_0 L) (d + 1) md_M_taking 5 [some (.inr (.inl 167)), some (.inl x1), some (.inl x2), none, none, none] (v.toList ++ []) J Q)) : Cx (jx_0 L) (d + 1) md_M_taking [.inr (.inl 167), .inl x1, .inl x2] I Q := by
  show jm_Go (d + 1) 0 0 md_M_taking 0 [some (.inr (.inl 167)), some (.inl x1), some (.inl x2), none, none, none] [] (jx (jx_0 L) I) (jx_Q (jx_0 L) Q)
  have hd : jm_dc md_M_taking.2.1 0 [(.aload_n 0, 1), (.iload_n 1, 1), (.invokevirtual 164, 3)] = true := by decide +kernel
  refine go_aload_n rfl hd (fun hd => ?_)
  refine go_iload_n rfl hd (fun hd => ?_)
  exact gx_virtual 167 9 [.inl x1] [] mk_M_isPerson co_X9 rfl ml_9_164 in_M_isPerson se_M_isPerson rfl rfl (Nat.le_of_ble_eq_true rfl) rfl (Nat.le_of_ble_eq_true rfl) rfl hd k
theorem b_M_taking_5 {L : Nat} {d : Nat} {I : jm_I} {Q : Option jm_V → jm_I → Prop} {o0 : Option jm_V} {o1 : Option jm_V} {o2 : Option jm_V} {o3 : Option jm_V} {o4 : Option jm_V} {o5 : Option jm_V} {s0 : Int}  (hz : (-2147483648 ≤ s0 ∧ s0 < 2147483648)) (kt : s0 = 0 → Gx (jx_0 L) d md_M_taking 21 [o0, o1, o2, o3, o4, o5] [] I Q) (kf : ¬ s0 = 0 → Gx (jx_0 L) d md_M_taking 8 [o0, o1, o2, o3, o4, o5] [] I Q) : Gx (jx_0 L) d md_M_taking 5 [o0, o1, o2, o3, o4, o5] [.inl s0] I Q := by
  have hz1 := hz
  show jm_Go d 0 0 md_M_taking 5 [o0, o1, o2, o3, o4, o5] [.inl s0] (jx (jx_0 L) I) (jx_Q (jx_0 L) Q)
  have hd : jm_dc md_M_taking.2.1 5 [(.ifCond .eq 16, 3)] = true := by decide +kernel
  exact go_if_eq (by decide) hz1 hd kt kf
theorem b_M_taking_8 {L : Nat} {d : Nat} {I : jm_I} {Q : Option jm_V → jm_I → Prop} {o1 : Option jm_V} {x2 : Int} {o3 : Option jm_V} {o4 : Option jm_V} {o5 : Option jm_V}  (k : Cx (jx_0 L) d md_M_isPerson [.inr (.inl 167), .inl x2] I (fun v J => Gx (jx_0 L) (d + 1) md_M_taking 13 [some (.inr (.inl 167)), o1, some (.inl x2), o3, o4, o5] (v.toList ++ []) J Q)) : Gx (jx_0 L) (d + 1) md_M_taking 8 [some (.inr (.inl 167)), o1, some (.inl x2), o3, o4, o5] [] I Q := by
  show jm_Go (d + 1) 0 0 md_M_taking 8 [some (.inr (.inl 167)), o1, some (.inl x2), o3, o4, o5] [] (jx (jx_0 L) I) (jx_Q (jx_0 L) Q)
  have hd : jm_dc md_M_taking.2.1 8 [(.aload_n 0, 1), (.iload_n 2, 1), (.invokevirtual 164, 3)] = true := by decide +kernel
  refine go_aload_n rfl hd (fun hd => ?_)
  refine go_iload_n rfl hd (fun hd => ?_)
  exact gx_virtual 167 9 [.inl x2] [] mk_M_isPerson co_X9 rfl ml_9_164 in_M_isPerson se_M_isPerson rfl rfl (Nat.le_of_ble_eq_true rfl) rfl (Nat.le_of_ble_eq_true rfl) rfl hd k
theorem b_M_taking_13 {L : Nat} {d : Nat} {I : jm_I} {Q : Option jm_V → jm_I → Prop} {o0 : Option jm_V} {o1 : Option jm_V} {o2 : Option jm_V} {o3 : Option jm_V} {o4 : Option jm_V} {o5 : Option jm_V} {s0 : Int}  (hz : (-2147483648 ≤ s0 ∧ s0 < 2147483648)) (kt : s0 = 0 → Gx (jx_0 L) d md_M_taking 21 [o0, o1, o2, o3, o4, o5] [] I Q) (kf : ¬ s0 = 0 → Gx (jx_0 L) d md_M_taking 16 [o0, o1, o2, o3, o4, o5] [] I Q) : Gx (jx_0 L) d md_M_taking 13 [o0, o1, o2, o3, o4, o5] [.inl s0] I Q := by
  have hz1 := hz
  show jm_Go d 0 0 md_M_taking 13 [o0, o1, o2, o3, o4, o5] [.inl s0] (jx (jx_0 L) I) (jx_Q (jx_0 L) Q)
  have hd : jm_dc md_M_taking.2.1 13 [(.ifCond .eq 8, 3)] = true := by decide +kernel
  exact go_if_eq (by decide) hz1 hd kt kf
theorem b_M_taking_16 {L : Nat} {d : Nat} {I : jm_I} {Q : Option jm_V → jm_I → Prop} {o0 : Option jm_V} {x1 : Int} {x2 : Int} {o3 : Option jm_V} {o4 : Option jm_V} {o5 : Option jm_V}  (hz : (-2147483648 ≤ x1 ∧ x1 < 2147483648) ∧ (-2147483648 ≤ x2 ∧ x2 < 2147483648)) (kt : ¬ x1 = x2 → Gx (jx_0 L) d md_M_taking 24 [o0, some (.inl x1), some (.inl x2), o3, o4, o5] [] I Q) (kf : x1 = x2 → Gx (jx_0 L) d md_M_taking 21 [o0, some (.inl x1), some (.inl x2), o3, o4, o5] [] I Q) : Gx (jx_0 L) d md_M_taking 16 [o0, some (.inl x1), some (.inl x2), o3, o4, o5] [] I Q := by
  obtain ⟨hz1, hz2⟩ := hz
  show jm_Go d 0 0 md_M_taking 16 [o0, some (.inl x1), some (.inl x2), o3, o4, o5] [] (jx (jx_0 L) I) (jx_Q (jx_0 L) Q)
  have hd : jm_dc md_M_taking.2.1 16 [(.iload_n 1, 1), (.iload_n 2, 1), (.if_icmp .ne 6, 3)] = true := by decide +kernel
  refine go_iload_n rfl hd (fun hd => ?_)
  refine go_iload_n rfl hd (fun hd => ?_)
  exact go_icmp_ne (by decide) hz1 hz2 hd kt kf
theorem b_M_taking_21 {L : Nat} {d : Nat} {I : jm_I} {Q : Option jm_V → jm_I → Prop} {o0 : Option jm_V} {o1 : Option jm_V} {o2 : Option jm_V} {o3 : Option jm_V} {o4 : Option jm_V} {o5 : Option jm_V}  (k : Q (some (.inl (-1000000))) I) : Gx (jx_0 L) d md_M_taking 21 [o0, o1, o2, o3, o4, o5] [] I Q := by
  show jm_Go d 0 0 md_M_taking 21 [o0, o1, o2, o3, o4, o5] [] (jx (jx_0 L) I) (jx_Q (jx_0 L) Q)
  have hd : jm_dc md_M_taking.2.1 21 [(.ldc 251, 2), (.ireturn, 1)] = true := by decide +kernel
  refine go_ldc (-1000000) (-1000000) (by decide) kc_9_251 hd (fun hd => ?_)
  exact go_ireturn hd rfl ⟨_, rfl, k⟩
theorem b_M_taking_24 {L : Nat} {d : Nat} {I : jm_I} {Q : Option jm_V → jm_I → Prop} {o1 : Option jm_V} {o2 : Option jm_V} {o3 : Option jm_V} {o4 : Option jm_V} {o5 : Option jm_V}  (k : Cx (jx_0 L) d md_M_findFar [.inr (.inl 167), .inl 0] I (fun v J => Gx (jx_0 L) (d + 1) md_M_taking 29 [some (.inr (.inl 167)), o1, o2, o3, o4, o5] (v.toList ++ []) J Q)) : Gx (jx_0 L) (d + 1) md_M_taking 24 [some (.inr (.inl 167)), o1, o2, o3, o4, o5] [] I Q := by
  show jm_Go (d + 1) 0 0 md_M_taking 24 [some (.inr (.inl 167)), o1, o2, o3, o4, o5] [] (jx (jx_0 L) I) (jx_Q (jx_0 L) Q)
  have hd : jm_dc md_M_taking.2.1 24 [(.aload_n 0, 1), (.iconst 0, 1), (.invokevirtual 181, 3)] = true := by decide +kernel
  refine go_aload_n rfl hd (fun hd => ?_)
  refine go_iconst hd (fun hd => ?_)
  exact gx_virtual 167 9 [.inl 0] [] mk_M_findFar co_X9 rfl ml_9_181 in_M_findFar se_M_findFar rfl rfl (Nat.le_of_ble_eq_true rfl) rfl (Nat.le_of_ble_eq_true rfl) rfl hd k
theorem b_M_taking_29 {L : Nat} {d : Nat} {I : jm_I} {Q : Option jm_V → jm_I → Prop} {o0 : Option jm_V} {o1 : Option jm_V} {o2 : Option jm_V} {o3 : Option jm_V} {o4 : Option jm_V} {o5 : Option jm_V}  (k : Gx (jx_0 L) d md_M_taking 31 [o0, o1, o2, some (.inl 0), o4, o5] [] I Q) : Gx (jx_0 L) d md_M_taking 29 [o0, o1, o2, o3, o4, o5] [] I Q := by
  show jm_Go d 0 0 md_M_taking 29 [o0, o1, o2, o3, o4, o5] [] (jx (jx_0 L) I) (jx_Q (jx_0 L) Q)
  have hd : jm_dc md_M_taking.2.1 29 [(.iconst 0, 1), (.istore_n 3, 1)] = true := by decide +kernel
  refine go_iconst hd (fun hd => ?_)
  refine go_istore_n (by decide) hd (fun hd => ?_)
  exact k
theorem b_M_taking_31 {L : Nat} {d : Nat} {I : jm_I} {Q : Option jm_V → jm_I → Prop} {o0 : Option jm_V} {o1 : Option jm_V} {o2 : Option jm_V} {x3 : Int} {o4 : Option jm_V} {o5 : Option jm_V}  (hz : (-2147483648 ≤ x3 ∧ x3 < 2147483648)) (kt : 9 ≤ x3 → Gx (jx_0 L) d md_M_taking 50 [o0, o1, o2, some (.inl x3), o4, o5] [] I Q) (kf : ¬ (9 ≤ x3) → Gx (jx_0 L) d md_M_taking 37 [o0, o1, o2, some (.inl x3), o4, o5] [] I Q) : Gx (jx_0 L) d md_M_taking 31 [o0, o1, o2, some (.inl x3), o4, o5] [] I Q := by
  have hz1 := hz
  show jm_Go d 0 0 md_M_taking 31 [o0, o1, o2, some (.inl x3), o4, o5] [] (jx (jx_0 L) I) (jx_Q (jx_0 L) Q)
  have hd : jm_dc md_M_taking.2.1 31 [(.iload_n 3, 1), (.bipush 9, 2), (.if_icmp .ge 16, 3)] = true := by decide +kernel
  refine go_iload_n rfl hd (fun hd => ?_)
  refine go_bipush (by decide) hd (fun hd => ?_)
  exact go_icmp_ge (by decide) hz1 ⟨by decide, by decide⟩ hd kt kf
theorem b_M_taking_37 {L : Nat} {d : Nat} {I : jm_I} {Q : Option jm_V → jm_I → Prop} {o1 : Option jm_V} {o2 : Option jm_V} {x3 : Int} {o4 : Option jm_V} {o5 : Option jm_V}  (hz : (0 ≤ x3 ∧ x3 < 90)) (k : Gx (jx_0 L) d md_M_taking 31 [some (.inr (.inl 167)), o1, o2, some (.inl (x3 + 1)), o4, o5] [] (jm_up I 187 (x3.toNat) 0) Q) : Gx (jx_0 L) d md_M_taking 37 [some (.inr (.inl 167)), o1, o2, some (.inl x3), o4, o5] [] I Q := by
  have hz1 := hz
  show jm_Go d 0 0 md_M_taking 37 [some (.inr (.inl 167)), o1, o2, some (.inl x3), o4, o5] [] (jx (jx_0 L) I) (jx_Q (jx_0 L) Q)
  have hd : jm_dc md_M_taking.2.1 37 [(.aload_n 0, 1), (.getfield 75, 3), (.iload_n 3, 1), (.iconst 0, 1), (.iastore, 1), (.iinc 3 1, 3), (.goto (-16), 3)] = true := by decide +kernel
  refine go_aload_n rfl hd (fun hd => ?_)
  refine go_getR co_X9 fl_9_75 (by decide) rfl rfl rfl hd (fun hd => ?_)
  refine go_iload_n rfl hd (fun hd => ?_)
  refine go_iconst hd (fun hd => ?_)
  refine go_iastore rfl hz1.1 hz1.2 (by decide) hd (fun hd => ?_)
  refine go_iinc rfl hd (fun hd => ?_)
  exact go_goto (by decide) hd k
theorem b_M_taking_50 {L : Nat} {d : Nat} {I : jm_I} {Q : Option jm_V → jm_I → Prop} {x1 : Int} {x2 : Int} {o3 : Option jm_V} {o4 : Option jm_V} {o5 : Option jm_V}  (hz : (0 ≤ 1 + x1 ∧ 1 + x1 < 27) ∧ (0 ≤ 1 + x2 ∧ 1 + x2 < 27)) (k : Gx (jx_0 L) d md_M_taking 109 [some (.inr (.inl 167)), some (.inl x1), some (.inl x2), some (.inl 0), o4, o5] [] (jm_up (jm_up (jm_up (jm_up (jm_up I 187 1 (I 171 (1 + x1).toNat)) 187 2 (I 171 (1 + x2).toNat)) 187 3 (I 167 3)) 187 4 (I 167 3)) 187 8 (-1000000)) Q) : Gx (jx_0 L) d md_M_taking 50 [some (.inr (.inl 167)), some (.inl x1), some (.inl x2), o3, o4, o5] [] I Q := by
  obtain ⟨hz1, hz2⟩ := hz
  show jm_Go d 0 0 md_M_taking 50 [some (.inr (.inl 167)), some (.inl x1), some (.inl x2), o3, o4, o5] [] (jx (jx_0 L) I) (jx_Q (jx_0 L) Q)
  have hd : jm_dc md_M_taking.2.1 50 [(.aload_n 0, 1), (.getfield 75, 3), (.iconst 1, 1), (.aload_n 0, 1), (.getfield 26, 3), (.iconst 1, 1), (.iload_n 1, 1), (.iadd, 1), (.iaload, 1), (.iastore, 1), (.aload_n 0, 1), (.getfield 75, 3), (.iconst 2, 1), (.aload_n 0, 1), (.getfield 26, 3), (.iconst 1, 1), (.iload_n 2, 1), (.iadd, 1), (.iaload, 1), (.iastore, 1), (.aload_n 0, 1), (.getfield 75, 3), (.iconst 3, 1), (.aload_n 0, 1), (.getfield 17, 3), (.iastore, 1), (.aload_n 0, 1), (.getfield 75, 3), (.iconst 4, 1), (.aload_n 0, 1), (.getfield 17, 3), (.iastore, 1), (.aload_n 0, 1), (.getfield 75, 3), (.bipush 8, 2), (.ldc 251, 2), (.iastore, 1), (.iconst 0, 1), (.istore_n 3, 1)] = true := by decide +kernel
  refine go_aload_n rfl hd (fun hd => ?_)
  refine go_getR co_X9 fl_9_75 (by decide) rfl rfl rfl hd (fun hd => ?_)
  refine go_iconst hd (fun hd => ?_)
  refine go_aload_n rfl hd (fun hd => ?_)
  refine go_getR co_X9 fl_9_26 (by decide) rfl rfl rfl hd (fun hd => ?_)
  refine go_iconst hd (fun hd => ?_)
  refine go_iload_n rfl hd (fun hd => ?_)
  refine go_iadd hd (fun hd => ?_)
  refine go_iaload rfl hz1.1 hz1.2 (by decide) hd (fun hd => ?_)
  refine go_iastore rfl (by decide) (by decide) (by decide) hd (fun hd => ?_)
  refine go_aload_n rfl hd (fun hd => ?_)
  refine go_getR co_X9 fl_9_75 (by decide) rfl rfl rfl hd (fun hd => ?_)
  refine go_iconst hd (fun hd => ?_)
  refine go_aload_n rfl hd (fun hd => ?_)
  refine go_getR co_X9 fl_9_26 (by decide) rfl rfl rfl hd (fun hd => ?_)
  refine go_iconst hd (fun hd => ?_)
  refine go_iload_n rfl hd (fun hd => ?_)
  refine go_iadd hd (fun hd => ?_)
  refine go_iaload rfl hz2.1 hz2.2 (by decide) hd (fun hd => ?_)
  refine go_iastore rfl (by decide) (by decide) (by decide) hd (fun hd => ?_)
  refine go_aload_n rfl hd (fun hd => ?_)
  refine go_getR co_X9 fl_9_75 (by decide) rfl rfl rfl hd (fun hd => ?_)
  refine go_iconst hd (fun hd => ?_)
  refine go_aload_n rfl hd (fun hd => ?_)
  refine go_getI co_X9 fl_9_17 (by decide) (Or.inl rfl) rfl hd (fun hd => ?_)
  refine go_iastore rfl (by decide) (by decide) (by decide) hd (fun hd => ?_)
  refine go_aload_n rfl hd (fun hd => ?_)
  refine go_getR co_X9 fl_9_75 (by decide) rfl rfl rfl hd (fun hd => ?_)
  refine go_iconst hd (fun hd => ?_)
  refine go_aload_n rfl hd (fun hd => ?_)
  refine go_getI co_X9 fl_9_17 (by decide) (Or.inl rfl) rfl hd (fun hd => ?_)
  refine go_iastore rfl (by decide) (by decide) (by decide) hd (fun hd => ?_)
  refine go_aload_n rfl hd (fun hd => ?_)
  refine go_getR co_X9 fl_9_75 (by decide) rfl rfl rfl hd (fun hd => ?_)
  refine go_bipush (by decide) hd (fun hd => ?_)
  refine go_ldc (-1000000) (-1000000) (by decide) kc_9_251 hd (fun hd => ?_)
  refine go_iastore rfl (by decide) (by decide) (by decide) hd (fun hd => ?_)
  refine go_iconst hd (fun hd => ?_)
  refine go_istore_n (by decide) hd (fun hd => ?_)
  exact k
theorem b_M_taking_109 {L : Nat} {d : Nat} {I : jm_I} {Q : Option jm_V → jm_I → Prop} {o0 : Option jm_V} {o1 : Option jm_V} {o2 : Option jm_V} {x3 : Int} {o4 : Option jm_V} {o5 : Option jm_V}  (hz : (-2147483648 ≤ x3 ∧ x3 < 2147483648)) (kt : 0 < x3 → Gx (jx_0 L) d md_M_taking 127 [o0, o1, o2, some (.inl x3), o4, o5] [] I Q) (kf : ¬ (0 < x3) → Gx (jx_0 L) d md_M_taking 113 [o0, o1, o2, some (.inl x3), o4, o5] [] I Q) : Gx (jx_0 L) d md_M_taking 109 [o0, o1, o2, some (.inl x3), o4, o5] [] I Q := by
  have hz1 := hz
  show jm_Go d 0 0 md_M_taking 109 [o0, o1, o2, some (.inl x3), o4, o5] [] (jx (jx_0 L) I) (jx_Q (jx_0 L) Q)
  have hd : jm_dc md_M_taking.2.1 109 [(.iload_n 3, 1), (.ifCond .gt 17, 3)] = true := by decide +kernel
  refine go_iload_n rfl hd (fun hd => ?_)
  exact go_if_gt (by decide) hz1 hd kt kf
theorem b_M_taking_113 {L : Nat} {d : Nat} {I : jm_I} {Q : Option jm_V → jm_I → Prop} {o1 : Option jm_V} {o2 : Option jm_V} {o3 : Option jm_V} {o4 : Option jm_V} {o5 : Option jm_V}  (hz : (-2147483648 ≤ I 187 7 ∧ I 187 7 < 2147483648) ∧ (-2147483648 ≤ I 167 5 ∧ I 167 5 < 2147483648)) (kt : (I 167 5) < (I 187 7) → Gx (jx_0 L) d md_M_taking 246 [some (.inr (.inl 167)), o1, o2, o3, o4, o5] [] I Q) (kf : ¬ ((I 167 5) < (I 187 7)) → Gx (jx_0 L) d md_M_taking 127 [some (.inr (.inl 167)), o1, o2, o3, o4, o5] [] I Q) : Gx (jx_0 L) d md_M_taking 113 [some (.inr (.inl 167)), o1, o2, o3, o4, o5] [] I Q := by
  obtain ⟨hz1, hz2⟩ := hz
  show jm_Go d 0 0 md_M_taking 113 [some (.inr (.inl 167)), o1, o2, o3, o4, o5] [] (jx (jx_0 L) I) (jx_Q (jx_0 L) Q)
  have hd : jm_dc md_M_taking.2.1 113 [(.aload_n 0, 1), (.getfield 75, 3), (.bipush 7, 2), (.iaload, 1), (.aload_n 0, 1), (.getfield 85, 3), (.if_icmp .gt 122, 3)] = true := by decide +kernel
  refine go_aload_n rfl hd (fun hd => ?_)
  refine go_getR co_X9 fl_9_75 (by decide) rfl rfl rfl hd (fun hd => ?_)
  refine go_bipush (by decide) hd (fun hd => ?_)
  refine go_iaload rfl (by decide) (by decide) (by decide) hd (fun hd => ?_)
  refine go_aload_n rfl hd (fun hd => ?_)
  refine go_getI co_X9 fl_9_85 (by decide) (Or.inl rfl) rfl hd (fun hd => ?_)
  exact go_icmp_gt (by decide) hz1 hz2 hd kt kf
theorem b_M_taking_127 {L : Nat} {d : Nat} {I : jm_I} {Q : Option jm_V → jm_I → Prop} {o1 : Option jm_V} {o2 : Option jm_V} {x3 : Int} {o4 : Option jm_V} {o5 : Option jm_V}  (hz : (0 ≤ x3 + 5 ∧ x3 + 5 < 90) ∧ (-2147483648 ≤ I 187 (x3 + 5).toNat ∧ I 187 (x3 + 5).toNat < 2147483648)) (kt : ¬ (I 187 (x3 + 5).toNat) = 3 → Gx (jx_0 L) d md_M_taking 143 [some (.inr (.inl 167)), o1, o2, some (.inl x3), o4, o5] [] I Q) (kf : (I 187 (x3 + 5).toNat) = 3 → Gx (jx_0 L) d md_M_taking 139 [some (.inr (.inl 167)), o1, o2, some (.inl x3), o4, o5] [] I Q) : Gx (jx_0 L) d md_M_taking 127 [some (.inr (.inl 167)), o1, o2, some (.inl x3), o4, o5] [] I Q := by
  obtain ⟨hz1, hz2⟩ := hz
  show jm_Go d 0 0 md_M_taking 127 [some (.inr (.inl 167)), o1, o2, some (.inl x3), o4, o5] [] (jx (jx_0 L) I) (jx_Q (jx_0 L) Q)
  have hd : jm_dc md_M_taking.2.1 127 [(.aload_n 0, 1), (.getfield 75, 3), (.iload_n 3, 1), (.iconst 5, 1), (.iadd, 1), (.iaload, 1), (.iconst 3, 1), (.if_icmp .ne 7, 3)] = true := by decide +kernel
  refine go_aload_n rfl hd (fun hd => ?_)
  refine go_getR co_X9 fl_9_75 (by decide) rfl rfl rfl hd (fun hd => ?_)
  refine go_iload_n rfl hd (fun hd => ?_)
  refine go_iconst hd (fun hd => ?_)
  refine go_iadd hd (fun hd => ?_)
  refine go_iaload rfl hz1.1 hz1.2 (by decide) hd (fun hd => ?_)
  refine go_iconst hd (fun hd => ?_)
  exact go_icmp_ne (by decide) hz2 ⟨by decide, by decide⟩ hd kt kf
theorem b_M_taking_139 {L : Nat} {d : Nat} {I : jm_I} {Q : Option jm_V → jm_I → Prop} {o0 : Option jm_V} {o1 : Option jm_V} {o2 : Option jm_V} {o3 : Option jm_V} {o4 : Option jm_V} {o5 : Option jm_V}  (k : Gx (jx_0 L) d md_M_taking 144 [o0, o1, o2, o3, o4, o5] [.inl 1] I Q) : Gx (jx_0 L) d md_M_taking 139 [o0, o1, o2, o3, o4, o5] [] I Q := by
  show jm_Go d 0 0 md_M_taking 139 [o0, o1, o2, o3, o4, o5] [] (jx (jx_0 L) I) (jx_Q (jx_0 L) Q)
  have hd : jm_dc md_M_taking.2.1 139 [(.iconst 1, 1), (.goto 4, 3)] = true := by decide +kernel
  refine go_iconst hd (fun hd => ?_)
  exact go_goto (by decide) hd k
theorem b_M_taking_143 {L : Nat} {d : Nat} {I : jm_I} {Q : Option jm_V → jm_I → Prop} {o0 : Option jm_V} {o1 : Option jm_V} {o2 : Option jm_V} {o3 : Option jm_V} {o4 : Option jm_V} {o5 : Option jm_V}  (k : Gx (jx_0 L) d md_M_taking 144 [o0, o1, o2, o3, o4, o5] [.inl 0] I Q) : Gx (jx_0 L) d md_M_taking 143 [o0, o1, o2, o3, o4, o5] [] I Q := by
  show jm_Go d 0 0 md_M_taking 143 [o0, o1, o2, o3, o4, o5] [] (jx (jx_0 L) I) (jx_Q (jx_0 L) Q)
  have hd : jm_dc md_M_taking.2.1 143 [(.iconst 0, 1)] = true := by decide +kernel
  refine go_iconst hd (fun hd => ?_)
  exact k
theorem b_M_taking_144 {L : Nat} {d : Nat} {I : jm_I} {Q : Option jm_V → jm_I → Prop} {o0 : Option jm_V} {o1 : Option jm_V} {o2 : Option jm_V} {o3 : Option jm_V} {o4 : Option jm_V} {o5 : Option jm_V} {s0 : Int}  (hz : (-2147483648 ≤ s0 ∧ s0 < 2147483648)) (kt : ¬ s0 = 0 → Gx (jx_0 L) d md_M_taking 167 [o0, o1, o2, o3, some (.inl s0), o5] [] I Q) (kf : s0 = 0 → Gx (jx_0 L) d md_M_taking 151 [o0, o1, o2, o3, some (.inl s0), o5] [] I Q) : Gx (jx_0 L) d md_M_taking 144 [o0, o1, o2, o3, o4, o5] [.inl s0] I Q := by
  have hz1 := hz
  show jm_Go d 0 0 md_M_taking 144 [o0, o1, o2, o3, o4, o5] [.inl s0] (jx (jx_0 L) I) (jx_Q (jx_0 L) Q)
  have hd : jm_dc md_M_taking.2.1 144 [(.istore 4, 2), (.iload 4, 2), (.ifCond .ne 19, 3)] = true := by decide +kernel
  refine go_istore (by decide) hd (fun hd => ?_)
  refine go_iload rfl hd (fun hd => ?_)
  exact go_if_ne (by decide) hz1 hd kt kf
theorem b_M_taking_151 {L : Nat} {d : Nat} {I : jm_I} {Q : Option jm_V → jm_I → Prop} {o1 : Option jm_V} {o2 : Option jm_V} {x3 : Int} {o4 : Option jm_V} {o5 : Option jm_V}  (hz : (0 ≤ x3 + 7 ∧ x3 + 7 < 90) ∧ (-2147483648 ≤ I 187 (x3 + 7).toNat ∧ I 187 (x3 + 7).toNat < 2147483648) ∧ (-2147483648 ≤ I 167 5 ∧ I 167 5 < 2147483648)) (kt : (I 187 (x3 + 7).toNat) ≤ (I 167 5) → Gx (jx_0 L) d md_M_taking 200 [some (.inr (.inl 167)), o1, o2, some (.inl x3), o4, o5] [] I Q) (kf : ¬ ((I 187 (x3 + 7).toNat) ≤ (I 167 5)) → Gx (jx_0 L) d md_M_taking 167 [some (.inr (.inl 167)), o1, o2, some (.inl x3), o4, o5] [] I Q) : Gx (jx_0 L) d md_M_taking 151 [some (.inr (.inl 167)), o1, o2, some (.inl x3), o4, o5] [] I Q := by
  obtain ⟨hz1, hz2, hz3⟩ := hz
  show jm_Go d 0 0 md_M_taking 151 [some (.inr (.inl 167)), o1, o2, some (.inl x3), o4, o5] [] (jx (jx_0 L) I) (jx_Q (jx_0 L) Q)
  have hd : jm_dc md_M_taking.2.1 151 [(.aload_n 0, 1), (.getfield 75, 3), (.iload_n 3, 1), (.bipush 7, 2), (.iadd, 1), (.iaload, 1), (.aload_n 0, 1), (.getfield 85, 3), (.if_icmp .le 36, 3)] = true := by decide +kernel
  refine go_aload_n rfl hd (fun hd => ?_)
  refine go_getR co_X9 fl_9_75 (by decide) rfl rfl rfl hd (fun hd => ?_)
  refine go_iload_n rfl hd (fun hd => ?_)
  refine go_bipush (by decide) hd (fun hd => ?_)
  refine go_iadd hd (fun hd => ?_)
  refine go_iaload rfl hz1.1 hz1.2 (by decide) hd (fun hd => ?_)
  refine go_aload_n rfl hd (fun hd => ?_)
  refine go_getI co_X9 fl_9_85 (by decide) (Or.inl rfl) rfl hd (fun hd => ?_)
  exact go_icmp_le (by decide) hz2 hz3 hd kt kf
theorem b_M_taking_167 {L : Nat} {d : Nat} {I : jm_I} {Q : Option jm_V → jm_I → Prop} {o0 : Option jm_V} {o1 : Option jm_V} {o2 : Option jm_V} {o3 : Option jm_V} {x4 : Int} {o5 : Option jm_V}  (hz : (-2147483648 ≤ x4 ∧ x4 < 2147483648)) (kt : x4 = 0 → Gx (jx_0 L) d md_M_taking 176 [o0, o1, o2, o3, some (.inl x4), o5] [] I Q) (kf : ¬ x4 = 0 → Gx (jx_0 L) d md_M_taking 172 [o0, o1, o2, o3, some (.inl x4), o5] [] I Q) : Gx (jx_0 L) d md_M_taking 167 [o0, o1, o2, o3, some (.inl x4), o5] [] I Q := by
  have hz1 := hz
  show jm_Go d 0 0 md_M_taking 167 [o0, o1, o2, o3, some (.inl x4), o5] [] (jx (jx_0 L) I) (jx_Q (jx_0 L) Q)
  have hd : jm_dc md_M_taking.2.1 167 [(.iload 4, 2), (.ifCond .eq 7, 3)] = true := by decide +kernel
  refine go_iload rfl hd (fun hd => ?_)
  exact go_if_eq (by decide) hz1 hd kt kf
theorem b_M_taking_172 {L : Nat} {d : Nat} {I : jm_I} {Q : Option jm_V → jm_I → Prop} {o0 : Option jm_V} {o1 : Option jm_V} {o2 : Option jm_V} {o3 : Option jm_V} {o4 : Option jm_V} {o5 : Option jm_V}  (k : Gx (jx_0 L) d md_M_taking 185 [o0, o1, o2, o3, o4, o5] [.inl 0] I Q) : Gx (jx_0 L) d md_M_taking 172 [o0, o1, o2, o3, o4, o5] [] I Q := by
  show jm_Go d 0 0 md_M_taking 172 [o0, o1, o2, o3, o4, o5] [] (jx (jx_0 L) I) (jx_Q (jx_0 L) Q)
  have hd : jm_dc md_M_taking.2.1 172 [(.iconst 0, 1), (.goto 12, 3)] = true := by decide +kernel
  refine go_iconst hd (fun hd => ?_)
  exact go_goto (by decide) hd k
theorem b_M_taking_176 {L : Nat} {d : Nat} {I : jm_I} {Q : Option jm_V → jm_I → Prop} {o1 : Option jm_V} {o2 : Option jm_V} {x3 : Int} {o4 : Option jm_V} {o5 : Option jm_V}  (hz : (0 ≤ x3 + 8 ∧ x3 + 8 < 90)) (k : Gx (jx_0 L) d md_M_taking 185 [some (.inr (.inl 167)), o1, o2, some (.inl x3), o4, o5] [.inl (I 187 (x3 + 8).toNat)] I Q) : Gx (jx_0 L) d md_M_taking 176 [some (.inr (.inl 167)), o1, o2, some (.inl x3), o4, o5] [] I Q := by
  have hz1 := hz
  show jm_Go d 0 0 md_M_taking 176 [some (.inr (.inl 167)), o1, o2, some (.inl x3), o4, o5] [] (jx (jx_0 L) I) (jx_Q (jx_0 L) Q)
  have hd : jm_dc md_M_taking.2.1 176 [(.aload_n 0, 1), (.getfield 75, 3), (.iload_n 3, 1), (.bipush 8, 2), (.iadd, 1), (.iaload, 1)] = true := by decide +kernel
  refine go_aload_n rfl hd (fun hd => ?_)
  refine go_getR co_X9 fl_9_75 (by decide) rfl rfl rfl hd (fun hd => ?_)
  refine go_iload_n rfl hd (fun hd => ?_)
  refine go_bipush (by decide) hd (fun hd => ?_)
  refine go_iadd hd (fun hd => ?_)
  refine go_iaload rfl hz1.1 hz1.2 (by decide) hd (fun hd => ?_)
  exact k
theorem b_M_taking_185 {L : Nat} {d : Nat} {I : jm_I} {Q : Option jm_V → jm_I → Prop} {o1 : Option jm_V} {o2 : Option jm_V} {x3 : Int} {o4 : Option jm_V} {o5 : Option jm_V} {s0 : Int}  (k : Cx (jx_0 L) d md_M_comesBack [.inr (.inl 167), .inl (x3 + (-9)), .inl s0] I (fun v J => Gx (jx_0 L) (d + 1) md_M_taking 197 [some (.inr (.inl 167)), o1, o2, some (.inl (x3 + (-9))), o4, some (.inl s0)] (v.toList ++ []) J Q)) : Gx (jx_0 L) (d + 1) md_M_taking 185 [some (.inr (.inl 167)), o1, o2, some (.inl x3), o4, o5] [.inl s0] I Q := by
  show jm_Go (d + 1) 0 0 md_M_taking 185 [some (.inr (.inl 167)), o1, o2, some (.inl x3), o4, o5] [.inl s0] (jx (jx_0 L) I) (jx_Q (jx_0 L) Q)
  have hd : jm_dc md_M_taking.2.1 185 [(.istore 5, 2), (.iinc 3 (-9), 3), (.aload_n 0, 1), (.iload_n 3, 1), (.iload 5, 2), (.invokevirtual 255, 3)] = true := by decide +kernel
  refine go_istore (by decide) hd (fun hd => ?_)
  refine go_iinc rfl hd (fun hd => ?_)
  refine go_aload_n rfl hd (fun hd => ?_)
  refine go_iload_n rfl hd (fun hd => ?_)
  refine go_iload rfl hd (fun hd => ?_)
  exact gx_virtual 167 9 [.inl (x3 + (-9)), .inl s0] [] mk_M_comesBack co_X9 rfl ml_9_255 in_M_comesBack se_M_comesBack rfl rfl (Nat.le_of_ble_eq_true rfl) rfl (Nat.le_of_ble_eq_true rfl) rfl hd k
theorem b_M_taking_197 {L : Nat} {d : Nat} {I : jm_I} {Q : Option jm_V → jm_I → Prop} {o0 : Option jm_V} {o1 : Option jm_V} {o2 : Option jm_V} {o3 : Option jm_V} {o4 : Option jm_V} {o5 : Option jm_V}  (k : Gx (jx_0 L) d md_M_taking 243 [o0, o1, o2, o3, o4, o5] [] I Q) : Gx (jx_0 L) d md_M_taking 197 [o0, o1, o2, o3, o4, o5] [] I Q := by
  show jm_Go d 0 0 md_M_taking 197 [o0, o1, o2, o3, o4, o5] [] (jx (jx_0 L) I) (jx_Q (jx_0 L) Q)
  have hd : jm_dc md_M_taking.2.1 197 [(.goto 46, 3)] = true := by decide +kernel
  exact go_goto (by decide) hd k
theorem b_M_taking_200 {L : Nat} {d : Nat} {I : jm_I} {Q : Option jm_V → jm_I → Prop} {o1 : Option jm_V} {o2 : Option jm_V} {x3 : Int} {o4 : Option jm_V} {o5 : Option jm_V}  (hz : (0 ≤ x3 + 7 ∧ x3 + 7 < 90) ∧ (0 ≤ x3 + 7 ∧ x3 + 7 < 90) ∧ (0 ≤ x3 + 7 ∧ x3 + 7 < 90)) (k : Cx (jx_0 L) d md_M_triesOn [.inr (.inl 167), .inl x3, .inl (I 187 (x3 + 7).toNat)] (jm_up I 187 ((x3 + 7).toNat) ((I 187 (x3 + 7).toNat) + 1)) (fun v J => Gx (jx_0 L) (d + 1) md_M_taking 232 [some (.inr (.inl 167)), o1, o2, some (.inl x3), o4, some (.inl (I 187 (x3 + 7).toNat))] (v.toList ++ [.inl x3]) J Q)) : Gx (jx_0 L) (d + 1) md_M_taking 200 [some (.inr (.inl 167)), o1, o2, some (.inl x3), o4, o5] [] I Q := by
  obtain ⟨hz1, hz2, hz3⟩ := hz
  show jm_Go (d + 1) 0 0 md_M_taking 200 [some (.inr (.inl 167)), o1, o2, some (.inl x3), o4, o5] [] (jx (jx_0 L) I) (jx_Q (jx_0 L) Q)
  have hd : jm_dc md_M_taking.2.1 200 [(.aload_n 0, 1), (.getfield 75, 3), (.iload_n 3, 1), (.bipush 7, 2), (.iadd, 1), (.iaload, 1), (.istore 5, 2), (.aload_n 0, 1), (.getfield 75, 3), (.iload_n 3, 1), (.bipush 7, 2), (.iadd, 1), (.dup2, 1), (.iaload, 1), (.iconst 1, 1), (.iadd, 1), (.iastore, 1), (.iload_n 3, 1), (.aload_n 0, 1), (.iload_n 3, 1), (.iload 5, 2), (.invokevirtual 258, 3)] = true := by decide +kernel
  refine go_aload_n rfl hd (fun hd => ?_)
  refine go_getR co_X9 fl_9_75 (by decide) rfl rfl rfl hd (fun hd => ?_)
  refine go_iload_n rfl hd (fun hd => ?_)
  refine go_bipush (by decide) hd (fun hd => ?_)
  refine go_iadd hd (fun hd => ?_)
  refine go_iaload rfl hz1.1 hz1.2 (by decide) hd (fun hd => ?_)
  refine go_istore (by decide) hd (fun hd => ?_)
  refine go_aload_n rfl hd (fun hd => ?_)
  refine go_getR co_X9 fl_9_75 (by decide) rfl rfl rfl hd (fun hd => ?_)
  refine go_iload_n rfl hd (fun hd => ?_)
  refine go_bipush (by decide) hd (fun hd => ?_)
  refine go_iadd hd (fun hd => ?_)
  refine go_dup2 rfl rfl hd (fun hd => ?_)
  refine go_iaload rfl hz2.1 hz2.2 (by decide) hd (fun hd => ?_)
  refine go_iconst hd (fun hd => ?_)
  refine go_iadd hd (fun hd => ?_)
  refine go_iastore rfl hz3.1 hz3.2 (by decide) hd (fun hd => ?_)
  refine go_iload_n rfl hd (fun hd => ?_)
  refine go_aload_n rfl hd (fun hd => ?_)
  refine go_iload_n rfl hd (fun hd => ?_)
  refine go_iload rfl hd (fun hd => ?_)
  exact gx_virtual 167 9 [.inl x3, .inl (I 187 (x3 + 7).toNat)] [.inl x3] mk_M_triesOn co_X9 rfl ml_9_258 in_M_triesOn se_M_triesOn rfl rfl (Nat.le_of_ble_eq_true rfl) rfl (Nat.le_of_ble_eq_true rfl) rfl hd k
theorem b_M_taking_232 {L : Nat} {d : Nat} {I : jm_I} {Q : Option jm_V → jm_I → Prop} {o0 : Option jm_V} {o1 : Option jm_V} {o2 : Option jm_V} {o3 : Option jm_V} {o4 : Option jm_V} {o5 : Option jm_V} {s0 : Int} {s1 : Int}  (hz : (-2147483648 ≤ s1 ∧ s1 < 2147483648)) (kt : s1 = 0 → Gx (jx_0 L) d md_M_taking 240 [o0, o1, o2, o3, o4, o5] [.inl s0] I Q) (kf : ¬ s1 = 0 → Gx (jx_0 L) d md_M_taking 235 [o0, o1, o2, o3, o4, o5] [.inl s0] I Q) : Gx (jx_0 L) d md_M_taking 232 [o0, o1, o2, o3, o4, o5] [.inl s1, .inl s0] I Q := by
  have hz1 := hz
  show jm_Go d 0 0 md_M_taking 232 [o0, o1, o2, o3, o4, o5] [.inl s1, .inl s0] (jx (jx_0 L) I) (jx_Q (jx_0 L) Q)
  have hd : jm_dc md_M_taking.2.1 232 [(.ifCond .eq 8, 3)] = true := by decide +kernel
  exact go_if_eq (by decide) hz1 hd kt kf
theorem b_M_taking_235 {L : Nat} {d : Nat} {I : jm_I} {Q : Option jm_V → jm_I → Prop} {o0 : Option jm_V} {o1 : Option jm_V} {o2 : Option jm_V} {o3 : Option jm_V} {o4 : Option jm_V} {o5 : Option jm_V} {s0 : Int}  (k : Gx (jx_0 L) d md_M_taking 241 [o0, o1, o2, o3, o4, o5] [.inl 9, .inl s0] I Q) : Gx (jx_0 L) d md_M_taking 235 [o0, o1, o2, o3, o4, o5] [.inl s0] I Q := by
  show jm_Go d 0 0 md_M_taking 235 [o0, o1, o2, o3, o4, o5] [.inl s0] (jx (jx_0 L) I) (jx_Q (jx_0 L) Q)
  have hd : jm_dc md_M_taking.2.1 235 [(.bipush 9, 2), (.goto 4, 3)] = true := by decide +kernel
  refine go_bipush (by decide) hd (fun hd => ?_)
  exact go_goto (by decide) hd k
theorem b_M_taking_240 {L : Nat} {d : Nat} {I : jm_I} {Q : Option jm_V → jm_I → Prop} {o0 : Option jm_V} {o1 : Option jm_V} {o2 : Option jm_V} {o3 : Option jm_V} {o4 : Option jm_V} {o5 : Option jm_V} {s0 : Int}  (k : Gx (jx_0 L) d md_M_taking 241 [o0, o1, o2, o3, o4, o5] [.inl 0, .inl s0] I Q) : Gx (jx_0 L) d md_M_taking 240 [o0, o1, o2, o3, o4, o5] [.inl s0] I Q := by
  show jm_Go d 0 0 md_M_taking 240 [o0, o1, o2, o3, o4, o5] [.inl s0] (jx (jx_0 L) I) (jx_Q (jx_0 L) Q)
  have hd : jm_dc md_M_taking.2.1 240 [(.iconst 0, 1)] = true := by decide +kernel
  refine go_iconst hd (fun hd => ?_)
  exact k
theorem b_M_taking_241 {L : Nat} {d : Nat} {I : jm_I} {Q : Option jm_V → jm_I → Prop} {o0 : Option jm_V} {o1 : Option jm_V} {o2 : Option jm_V} {o3 : Option jm_V} {o4 : Option jm_V} {o5 : Option jm_V} {s0 : Int} {s1 : Int}  (k : Gx (jx_0 L) d md_M_taking 243 [o0, o1, o2, some (.inl (s0 + s1)), o4, o5] [] I Q) : Gx (jx_0 L) d md_M_taking 241 [o0, o1, o2, o3, o4, o5] [.inl s1, .inl s0] I Q := by
  show jm_Go d 0 0 md_M_taking 241 [o0, o1, o2, o3, o4, o5] [.inl s1, .inl s0] (jx (jx_0 L) I) (jx_Q (jx_0 L) Q)
  have hd : jm_dc md_M_taking.2.1 241 [(.iadd, 1), (.istore_n 3, 1)] = true := by decide +kernel
  refine go_iadd hd (fun hd => ?_)
  refine go_istore_n (by decide) hd (fun hd => ?_)
  exact k
theorem b_M_taking_243 {L : Nat} {d : Nat} {I : jm_I} {Q : Option jm_V → jm_I → Prop} {o0 : Option jm_V} {o1 : Option jm_V} {o2 : Option jm_V} {o3 : Option jm_V} {o4 : Option jm_V} {o5 : Option jm_V}  (k : Gx (jx_0 L) d md_M_taking 109 [o0, o1, o2, o3, o4, o5] [] I Q) : Gx (jx_0 L) d md_M_taking 243 [o0, o1, o2, o3, o4, o5] [] I Q := by
  show jm_Go d 0 0 md_M_taking 243 [o0, o1, o2, o3, o4, o5] [] (jx (jx_0 L) I) (jx_Q (jx_0 L) Q)
  have hd : jm_dc md_M_taking.2.1 243 [(.goto (-134), 3)] = true := by decide +kernel
  exact go_goto (by decide) hd k
theorem b_M_taking_246 {L : Nat} {d : Nat} {I : jm_I} {Q : Option jm_V → jm_I → Prop} {o1 : Option jm_V} {o2 : Option jm_V} {o3 : Option jm_V} {o4 : Option jm_V} {o5 : Option jm_V}  (k : Q (some (.inl (I 187 8))) I) : Gx (jx_0 L) d md_M_taking 246 [some (.inr (.inl 167)), o1, o2, o3, o4, o5] [] I Q := by
  show jm_Go d 0 0 md_M_taking 246 [some (.inr (.inl 167)), o1, o2, o3, o4, o5] [] (jx (jx_0 L) I) (jx_Q (jx_0 L) Q)
  have hd : jm_dc md_M_taking.2.1 246 [(.aload_n 0, 1), (.getfield 75, 3), (.bipush 8, 2), (.iaload, 1), (.ireturn, 1)] = true := by decide +kernel
  refine go_aload_n rfl hd (fun hd => ?_)
  refine go_getR co_X9 fl_9_75 (by decide) rfl rfl rfl hd (fun hd => ?_)
  refine go_bipush (by decide) hd (fun hd => ?_)
  refine go_iaload rfl (by decide) (by decide) (by decide) hd (fun hd => ?_)
  exact go_ireturn hd rfl ⟨_, rfl, k⟩
theorem b_M_comesBack_0 {L : Nat} {d : Nat} {I : jm_I} {Q : Option jm_V → jm_I → Prop} {x1 : Int} {x2 : Int}  (hz : (0 ≤ x1 + 7 ∧ x1 + 7 < 90) ∧ (0 ≤ x1 + 6 ∧ x1 + 6 < 90) ∧ (-2147483648 ≤ (I 187 (x1 + 7).toNat) - 1 ∧ (I 187 (x1 + 7).toNat) - 1 < 2147483648) ∧ (-2147483648 ≤ I 167 5 ∧ I 167 5 < 2147483648)) (kt : ¬ ((I 187 (x1 + 7).toNat) - 1) = (I 167 5) → Gx (jx_0 L) d md_M_comesBack 35 [some (.inr (.inl 167)), some (.inl x1), some (.inl x2), some (.inl ((I 187 (x1 + 7).toNat) - 1)), some (.inl (I 187 (x1 + 6).toNat)), none, none, none] [] I Q) (kf : ((I 187 (x1 + 7).toNat) - 1) = (I 167 5) → Gx (jx_0 L) d md_M_comesBack 31 [some (.inr (.inl 167)), some (.inl x1), some (.inl x2), some (.inl ((I 187 (x1 + 7).toNat) - 1)), some (.inl (I 187 (x1 + 6).toNat)), none, none, none] [] I Q) : Cx (jx_0 L) d md_M_comesBack [.inr (.inl 167), .inl x1, .inl x2] I Q := by
  obtain ⟨hz1, hz2, hz3, hz4⟩ := hz
  show jm_Go d 0 0 md_M_comesBack 0 [some (.inr (.inl 167)), some (.inl x1), some (.inl x2), none, none, none, none, none] [] (jx (jx_0 L) I) (jx_Q (jx_0 L) Q)
  have hd : jm_dc md_M_comesBack.2.1 0 [(.aload_n 0, 1), (.getfield 75, 3), (.iload_n 1, 1), (.bipush 7, 2), (.iadd, 1), (.iaload, 1), (.iconst 1, 1), (.isub, 1), (.istore_n 3, 1), (.aload_n 0, 1), (.getfield 75, 3), (.iload_n 1, 1), (.bipush 6, 2), (.iadd, 1), (.iaload, 1), (.istore 4, 2), (.iload_n 3, 1), (.aload_n 0, 1), (.getfield 85, 3), (.if_icmp .ne 7, 3)] = true := by decide +kernel
  refine go_aload_n rfl hd (fun hd => ?_)
  refine go_getR co_X9 fl_9_75 (by decide) rfl rfl rfl hd (fun hd => ?_)
  refine go_iload_n rfl hd (fun hd => ?_)
  refine go_bipush (by decide) hd (fun hd => ?_)
  refine go_iadd hd (fun hd => ?_)
  refine go_iaload rfl hz1.1 hz1.2 (by decide) hd (fun hd => ?_)
  refine go_iconst hd (fun hd => ?_)
  refine go_isub hd (fun hd => ?_)
  refine go_istore_n (by decide) hd (fun hd => ?_)
  refine go_aload_n rfl hd (fun hd => ?_)
  refine go_getR co_X9 fl_9_75 (by decide) rfl rfl rfl hd (fun hd => ?_)
  refine go_iload_n rfl hd (fun hd => ?_)
  refine go_bipush (by decide) hd (fun hd => ?_)
  refine go_iadd hd (fun hd => ?_)
  refine go_iaload rfl hz2.1 hz2.2 (by decide) hd (fun hd => ?_)
  refine go_istore (by decide) hd (fun hd => ?_)
  refine go_iload_n rfl hd (fun hd => ?_)
  refine go_aload_n rfl hd (fun hd => ?_)
  refine go_getI co_X9 fl_9_85 (by decide) (Or.inl rfl) rfl hd (fun hd => ?_)
  exact go_icmp_ne (by decide) hz3 hz4 hd kt kf
theorem b_M_comesBack_31 {L : Nat} {d : Nat} {I : jm_I} {Q : Option jm_V → jm_I → Prop} {o0 : Option jm_V} {o1 : Option jm_V} {x2 : Int} {o3 : Option jm_V} {o4 : Option jm_V} {o5 : Option jm_V} {o6 : Option jm_V} {o7 : Option jm_V}  (k : Gx (jx_0 L) d md_M_comesBack 49 [o0, o1, some (.inl x2), o3, o4, o5, o6, o7] [.inl x2] I Q) : Gx (jx_0 L) d md_M_comesBack 31 [o0, o1, some (.inl x2), o3, o4, o5, o6, o7] [] I Q := by
  show jm_Go d 0 0 md_M_comesBack 31 [o0, o1, some (.inl x2), o3, o4, o5, o6, o7] [] (jx (jx_0 L) I) (jx_Q (jx_0 L) Q)
  have hd : jm_dc md_M_comesBack.2.1 31 [(.iload_n 2, 1), (.goto 17, 3)] = true := by decide +kernel
  refine go_iload_n rfl hd (fun hd => ?_)
  exact go_goto (by decide) hd k
theorem b_M_comesBack_35 {L : Nat} {d : Nat} {I : jm_I} {Q : Option jm_V → jm_I → Prop} {o0 : Option jm_V} {o1 : Option jm_V} {o2 : Option jm_V} {o3 : Option jm_V} {x4 : Int} {o5 : Option jm_V} {o6 : Option jm_V} {o7 : Option jm_V}  (hz : (-2147483648 ≤ x4 ∧ x4 < 2147483648)) (kt : ¬ x4 = 0 → Gx (jx_0 L) d md_M_comesBack 46 [o0, o1, o2, o3, some (.inl x4), o5, o6, o7] [] I Q) (kf : x4 = 0 → Gx (jx_0 L) d md_M_comesBack 40 [o0, o1, o2, o3, some (.inl x4), o5, o6, o7] [] I Q) : Gx (jx_0 L) d md_M_comesBack 35 [o0, o1, o2, o3, some (.inl x4), o5, o6, o7] [] I Q := by
  have hz1 := hz
  show jm_Go d 0 0 md_M_comesBack 35 [o0, o1, o2, o3, some (.inl x4), o5, o6, o7] [] (jx (jx_0 L) I) (jx_Q (jx_0 L) Q)
  have hd : jm_dc md_M_comesBack.2.1 35 [(.iload 4, 2), (.ifCond .ne 9, 3)] = true := by decide +kernel
  refine go_iload rfl hd (fun hd => ?_)
  exact go_if_ne (by decide) hz1 hd kt kf
theorem b_M_comesBack_40 {L : Nat} {d : Nat} {I : jm_I} {Q : Option jm_V → jm_I → Prop} {o0 : Option jm_V} {o1 : Option jm_V} {x2 : Int} {o3 : Option jm_V} {o4 : Option jm_V} {o5 : Option jm_V} {o6 : Option jm_V} {o7 : Option jm_V}  (k : Gx (jx_0 L) d md_M_comesBack 49 [o0, o1, some (.inl x2), o3, o4, o5, o6, o7] [.inl (x2 + 1)] I Q) : Gx (jx_0 L) d md_M_comesBack 40 [o0, o1, some (.inl x2), o3, o4, o5, o6, o7] [] I Q := by
  show jm_Go d 0 0 md_M_comesBack 40 [o0, o1, some (.inl x2), o3, o4, o5, o6, o7] [] (jx (jx_0 L) I) (jx_Q (jx_0 L) Q)
  have hd : jm_dc md_M_comesBack.2.1 40 [(.iload_n 2, 1), (.iconst 1, 1), (.iadd, 1), (.goto 6, 3)] = true := by decide +kernel
  refine go_iload_n rfl hd (fun hd => ?_)
  refine go_iconst hd (fun hd => ?_)
  refine go_iadd hd (fun hd => ?_)
  exact go_goto (by decide) hd k
theorem b_M_comesBack_46 {L : Nat} {d : Nat} {I : jm_I} {Q : Option jm_V → jm_I → Prop} {o0 : Option jm_V} {o1 : Option jm_V} {x2 : Int} {o3 : Option jm_V} {o4 : Option jm_V} {o5 : Option jm_V} {o6 : Option jm_V} {o7 : Option jm_V}  (k : Gx (jx_0 L) d md_M_comesBack 49 [o0, o1, some (.inl x2), o3, o4, o5, o6, o7] [.inl (x2 - 1)] I Q) : Gx (jx_0 L) d md_M_comesBack 46 [o0, o1, some (.inl x2), o3, o4, o5, o6, o7] [] I Q := by
  show jm_Go d 0 0 md_M_comesBack 46 [o0, o1, some (.inl x2), o3, o4, o5, o6, o7] [] (jx (jx_0 L) I) (jx_Q (jx_0 L) Q)
  have hd : jm_dc md_M_comesBack.2.1 46 [(.iload_n 2, 1), (.iconst 1, 1), (.isub, 1)] = true := by decide +kernel
  refine go_iload_n rfl hd (fun hd => ?_)
  refine go_iconst hd (fun hd => ?_)
  refine go_isub hd (fun hd => ?_)
  exact k
theorem b_M_comesBack_49 {L : Nat} {d : Nat} {I : jm_I} {Q : Option jm_V → jm_I → Prop} {x1 : Int} {o2 : Option jm_V} {o3 : Option jm_V} {o4 : Option jm_V} {o5 : Option jm_V} {o6 : Option jm_V} {o7 : Option jm_V} {s0 : Int}  (hz : (0 ≤ x1 + 8 ∧ x1 + 8 < 90) ∧ (-2147483648 ≤ I 187 (x1 + 8).toNat ∧ I 187 (x1 + 8).toNat < 2147483648)) (kt : (I 187 (x1 + 8).toNat) = (-1000000) → Gx (jx_0 L) d md_M_comesBack 91 [some (.inr (.inl 167)), some (.inl x1), o2, o3, o4, some (.inl s0), some (.inl (I 187 (x1 + 8).toNat)), o7] [] I Q) (kf : ¬ (I 187 (x1 + 8).toNat) = (-1000000) → Gx (jx_0 L) d md_M_comesBack 69 [some (.inr (.inl 167)), some (.inl x1), o2, o3, o4, some (.inl s0), some (.inl (I 187 (x1 + 8).toNat)), o7] [] I Q) : Gx (jx_0 L) d md_M_comesBack 49 [some (.inr (.inl 167)), some (.inl x1), o2, o3, o4, o5, o6, o7] [.inl s0] I Q := by
  obtain ⟨hz1, hz2⟩ := hz
  show jm_Go d 0 0 md_M_comesBack 49 [some (.inr (.inl 167)), some (.inl x1), o2, o3, o4, o5, o6, o7] [.inl s0] (jx (jx_0 L) I) (jx_Q (jx_0 L) Q)
  have hd : jm_dc md_M_comesBack.2.1 49 [(.istore 5, 2), (.aload_n 0, 1), (.getfield 75, 3), (.iload_n 1, 1), (.bipush 8, 2), (.iadd, 1), (.iaload, 1), (.istore 6, 2), (.iload 6, 2), (.ldc 251, 2), (.if_icmp .eq 25, 3)] = true := by decide +kernel
  refine go_istore (by decide) hd (fun hd => ?_)
  refine go_aload_n rfl hd (fun hd => ?_)
  refine go_getR co_X9 fl_9_75 (by decide) rfl rfl rfl hd (fun hd => ?_)
  refine go_iload_n rfl hd (fun hd => ?_)
  refine go_bipush (by decide) hd (fun hd => ?_)
  refine go_iadd hd (fun hd => ?_)
  refine go_iaload rfl hz1.1 hz1.2 (by decide) hd (fun hd => ?_)
  refine go_istore (by decide) hd (fun hd => ?_)
  refine go_iload rfl hd (fun hd => ?_)
  refine go_ldc (-1000000) (-1000000) (by decide) kc_9_251 hd (fun hd => ?_)
  exact go_icmp_eq (by decide) hz2 ⟨by decide, by decide⟩ hd kt kf
theorem b_M_comesBack_69 {L : Nat} {d : Nat} {I : jm_I} {Q : Option jm_V → jm_I → Prop} {o0 : Option jm_V} {o1 : Option jm_V} {o2 : Option jm_V} {o3 : Option jm_V} {x4 : Int} {o5 : Option jm_V} {o6 : Option jm_V} {o7 : Option jm_V}  (hz : (-2147483648 ≤ x4 ∧ x4 < 2147483648)) (kt : ¬ x4 = 0 → Gx (jx_0 L) d md_M_comesBack 84 [o0, o1, o2, o3, some (.inl x4), o5, o6, o7] [] I Q) (kf : x4 = 0 → Gx (jx_0 L) d md_M_comesBack 74 [o0, o1, o2, o3, some (.inl x4), o5, o6, o7] [] I Q) : Gx (jx_0 L) d md_M_comesBack 69 [o0, o1, o2, o3, some (.inl x4), o5, o6, o7] [] I Q := by
  have hz1 := hz
  show jm_Go d 0 0 md_M_comesBack 69 [o0, o1, o2, o3, some (.inl x4), o5, o6, o7] [] (jx (jx_0 L) I) (jx_Q (jx_0 L) Q)
  have hd : jm_dc md_M_comesBack.2.1 69 [(.iload 4, 2), (.ifCond .ne 13, 3)] = true := by decide +kernel
  refine go_iload rfl hd (fun hd => ?_)
  exact go_if_ne (by decide) hz1 hd kt kf
theorem b_M_comesBack_74 {L : Nat} {d : Nat} {I : jm_I} {Q : Option jm_V → jm_I → Prop} {o0 : Option jm_V} {o1 : Option jm_V} {o2 : Option jm_V} {o3 : Option jm_V} {o4 : Option jm_V} {x5 : Int} {x6 : Int} {o7 : Option jm_V}  (hz : (-2147483648 ≤ x5 ∧ x5 < 2147483648) ∧ (-2147483648 ≤ x6 ∧ x6 < 2147483648)) (kt : x5 ≤ x6 → Gx (jx_0 L) d md_M_comesBack 95 [o0, o1, o2, o3, o4, some (.inl x5), some (.inl x6), o7] [] I Q) (kf : ¬ (x5 ≤ x6) → Gx (jx_0 L) d md_M_comesBack 81 [o0, o1, o2, o3, o4, some (.inl x5), some (.inl x6), o7] [] I Q) : Gx (jx_0 L) d md_M_comesBack 74 [o0, o1, o2, o3, o4, some (.inl x5), some (.inl x6), o7] [] I Q := by
  obtain ⟨hz1, hz2⟩ := hz
  show jm_Go d 0 0 md_M_comesBack 74 [o0, o1, o2, o3, o4, some (.inl x5), some (.inl x6), o7] [] (jx (jx_0 L) I) (jx_Q (jx_0 L) Q)
  have hd : jm_dc md_M_comesBack.2.1 74 [(.iload 5, 2), (.iload 6, 2), (.if_icmp .le 17, 3)] = true := by decide +kernel
  refine go_iload rfl hd (fun hd => ?_)
  refine go_iload rfl hd (fun hd => ?_)
  exact go_icmp_le (by decide) hz1 hz2 hd kt kf
theorem b_M_comesBack_81 {L : Nat} {d : Nat} {I : jm_I} {Q : Option jm_V → jm_I → Prop} {o0 : Option jm_V} {o1 : Option jm_V} {o2 : Option jm_V} {o3 : Option jm_V} {o4 : Option jm_V} {o5 : Option jm_V} {o6 : Option jm_V} {o7 : Option jm_V}  (k : Gx (jx_0 L) d md_M_comesBack 91 [o0, o1, o2, o3, o4, o5, o6, o7] [] I Q) : Gx (jx_0 L) d md_M_comesBack 81 [o0, o1, o2, o3, o4, o5, o6, o7] [] I Q := by
  show jm_Go d 0 0 md_M_comesBack 81 [o0, o1, o2, o3, o4, o5, o6, o7] [] (jx (jx_0 L) I) (jx_Q (jx_0 L) Q)
  have hd : jm_dc md_M_comesBack.2.1 81 [(.goto 10, 3)] = true := by decide +kernel
  exact go_goto (by decide) hd k
theorem b_M_comesBack_84 {L : Nat} {d : Nat} {I : jm_I} {Q : Option jm_V → jm_I → Prop} {o0 : Option jm_V} {o1 : Option jm_V} {o2 : Option jm_V} {o3 : Option jm_V} {o4 : Option jm_V} {x5 : Int} {x6 : Int} {o7 : Option jm_V}  (hz : (-2147483648 ≤ x5 ∧ x5 < 2147483648) ∧ (-2147483648 ≤ x6 ∧ x6 < 2147483648)) (kt : x6 ≤ x5 → Gx (jx_0 L) d md_M_comesBack 95 [o0, o1, o2, o3, o4, some (.inl x5), some (.inl x6), o7] [] I Q) (kf : ¬ (x6 ≤ x5) → Gx (jx_0 L) d md_M_comesBack 91 [o0, o1, o2, o3, o4, some (.inl x5), some (.inl x6), o7] [] I Q) : Gx (jx_0 L) d md_M_comesBack 84 [o0, o1, o2, o3, o4, some (.inl x5), some (.inl x6), o7] [] I Q := by
  obtain ⟨hz1, hz2⟩ := hz
  show jm_Go d 0 0 md_M_comesBack 84 [o0, o1, o2, o3, o4, some (.inl x5), some (.inl x6), o7] [] (jx (jx_0 L) I) (jx_Q (jx_0 L) Q)
  have hd : jm_dc md_M_comesBack.2.1 84 [(.iload 5, 2), (.iload 6, 2), (.if_icmp .ge 7, 3)] = true := by decide +kernel
  refine go_iload rfl hd (fun hd => ?_)
  refine go_iload rfl hd (fun hd => ?_)
  exact go_icmp_ge (by decide) hz1 hz2 hd kt kf
theorem b_M_comesBack_91 {L : Nat} {d : Nat} {I : jm_I} {Q : Option jm_V → jm_I → Prop} {o0 : Option jm_V} {o1 : Option jm_V} {o2 : Option jm_V} {o3 : Option jm_V} {o4 : Option jm_V} {o5 : Option jm_V} {o6 : Option jm_V} {o7 : Option jm_V}  (k : Gx (jx_0 L) d md_M_comesBack 96 [o0, o1, o2, o3, o4, o5, o6, o7] [.inl 1] I Q) : Gx (jx_0 L) d md_M_comesBack 91 [o0, o1, o2, o3, o4, o5, o6, o7] [] I Q := by
  show jm_Go d 0 0 md_M_comesBack 91 [o0, o1, o2, o3, o4, o5, o6, o7] [] (jx (jx_0 L) I) (jx_Q (jx_0 L) Q)
  have hd : jm_dc md_M_comesBack.2.1 91 [(.iconst 1, 1), (.goto 4, 3)] = true := by decide +kernel
  refine go_iconst hd (fun hd => ?_)
  exact go_goto (by decide) hd k
theorem b_M_comesBack_95 {L : Nat} {d : Nat} {I : jm_I} {Q : Option jm_V → jm_I → Prop} {o0 : Option jm_V} {o1 : Option jm_V} {o2 : Option jm_V} {o3 : Option jm_V} {o4 : Option jm_V} {o5 : Option jm_V} {o6 : Option jm_V} {o7 : Option jm_V}  (k : Gx (jx_0 L) d md_M_comesBack 96 [o0, o1, o2, o3, o4, o5, o6, o7] [.inl 0] I Q) : Gx (jx_0 L) d md_M_comesBack 95 [o0, o1, o2, o3, o4, o5, o6, o7] [] I Q := by
  show jm_Go d 0 0 md_M_comesBack 95 [o0, o1, o2, o3, o4, o5, o6, o7] [] (jx (jx_0 L) I) (jx_Q (jx_0 L) Q)
  have hd : jm_dc md_M_comesBack.2.1 95 [(.iconst 0, 1)] = true := by decide +kernel
  refine go_iconst hd (fun hd => ?_)
  exact k
theorem b_M_comesBack_96 {L : Nat} {d : Nat} {I : jm_I} {Q : Option jm_V → jm_I → Prop} {x1 : Int} {o2 : Option jm_V} {o3 : Option jm_V} {o4 : Option jm_V} {o5 : Option jm_V} {o6 : Option jm_V} {o7 : Option jm_V} {s0 : Int}  (hz : (-2147483648 ≤ s0 ∧ s0 < 2147483648)) (kt : s0 = 0 → Gx (jx_0 L) d md_M_comesBack 116 [some (.inr (.inl 167)), some (.inl x1), o2, o3, o4, o5, o6, some (.inl s0)] [.inl (x1 + 8), .inr (.inl 187)] I Q) (kf : ¬ s0 = 0 → Gx (jx_0 L) d md_M_comesBack 111 [some (.inr (.inl 167)), some (.inl x1), o2, o3, o4, o5, o6, some (.inl s0)] [.inl (x1 + 8), .inr (.inl 187)] I Q) : Gx (jx_0 L) d md_M_comesBack 96 [some (.inr (.inl 167)), some (.inl x1), o2, o3, o4, o5, o6, o7] [.inl s0] I Q := by
  have hz1 := hz
  show jm_Go d 0 0 md_M_comesBack 96 [some (.inr (.inl 167)), some (.inl x1), o2, o3, o4, o5, o6, o7] [.inl s0] (jx (jx_0 L) I) (jx_Q (jx_0 L) Q)
  have hd : jm_dc md_M_comesBack.2.1 96 [(.istore 7, 2), (.aload_n 0, 1), (.getfield 75, 3), (.iload_n 1, 1), (.bipush 8, 2), (.iadd, 1), (.iload 7, 2), (.ifCond .eq 8, 3)] = true := by decide +kernel
  refine go_istore (by decide) hd (fun hd => ?_)
  refine go_aload_n rfl hd (fun hd => ?_)
  refine go_getR co_X9 fl_9_75 (by decide) rfl rfl rfl hd (fun hd => ?_)
  refine go_iload_n rfl hd (fun hd => ?_)
  refine go_bipush (by decide) hd (fun hd => ?_)
  refine go_iadd hd (fun hd => ?_)
  refine go_iload rfl hd (fun hd => ?_)
  exact go_if_eq (by decide) hz1 hd kt kf
theorem b_M_comesBack_111 {L : Nat} {d : Nat} {I : jm_I} {Q : Option jm_V → jm_I → Prop} {o0 : Option jm_V} {o1 : Option jm_V} {o2 : Option jm_V} {o3 : Option jm_V} {o4 : Option jm_V} {x5 : Int} {o6 : Option jm_V} {o7 : Option jm_V} {s1 : Int}  (k : Gx (jx_0 L) d md_M_comesBack 118 [o0, o1, o2, o3, o4, some (.inl x5), o6, o7] [.inl x5, .inl s1, .inr (.inl 187)] I Q) : Gx (jx_0 L) d md_M_comesBack 111 [o0, o1, o2, o3, o4, some (.inl x5), o6, o7] [.inl s1, .inr (.inl 187)] I Q := by
  show jm_Go d 0 0 md_M_comesBack 111 [o0, o1, o2, o3, o4, some (.inl x5), o6, o7] [.inl s1, .inr (.inl 187)] (jx (jx_0 L) I) (jx_Q (jx_0 L) Q)
  have hd : jm_dc md_M_comesBack.2.1 111 [(.iload 5, 2), (.goto 5, 3)] = true := by decide +kernel
  refine go_iload rfl hd (fun hd => ?_)
  exact go_goto (by decide) hd k
theorem b_M_comesBack_116 {L : Nat} {d : Nat} {I : jm_I} {Q : Option jm_V → jm_I → Prop} {o0 : Option jm_V} {o1 : Option jm_V} {o2 : Option jm_V} {o3 : Option jm_V} {o4 : Option jm_V} {o5 : Option jm_V} {x6 : Int} {o7 : Option jm_V} {s1 : Int}  (k : Gx (jx_0 L) d md_M_comesBack 118 [o0, o1, o2, o3, o4, o5, some (.inl x6), o7] [.inl x6, .inl s1, .inr (.inl 187)] I Q) : Gx (jx_0 L) d md_M_comesBack 116 [o0, o1, o2, o3, o4, o5, some (.inl x6), o7] [.inl s1, .inr (.inl 187)] I Q := by
  show jm_Go d 0 0 md_M_comesBack 116 [o0, o1, o2, o3, o4, o5, some (.inl x6), o7] [.inl s1, .inr (.inl 187)] (jx (jx_0 L) I) (jx_Q (jx_0 L) Q)
  have hd : jm_dc md_M_comesBack.2.1 116 [(.iload 6, 2)] = true := by decide +kernel
  refine go_iload rfl hd (fun hd => ?_)
  exact k
theorem b_M_comesBack_118 {L : Nat} {d : Nat} {I : jm_I} {Q : Option jm_V → jm_I → Prop} {o0 : Option jm_V} {o1 : Option jm_V} {o2 : Option jm_V} {o3 : Option jm_V} {o4 : Option jm_V} {o5 : Option jm_V} {o6 : Option jm_V} {o7 : Option jm_V} {s1 : Int} {s2 : Int}  (hz : (0 ≤ s1 ∧ s1 < 90)) (k : Q none (jm_up I 187 (s1.toNat) s2)) : Gx (jx_0 L) d md_M_comesBack 118 [o0, o1, o2, o3, o4, o5, o6, o7] [.inl s2, .inl s1, .inr (.inl 187)] I Q := by
  have hz1 := hz
  show jm_Go d 0 0 md_M_comesBack 118 [o0, o1, o2, o3, o4, o5, o6, o7] [.inl s2, .inl s1, .inr (.inl 187)] (jx (jx_0 L) I) (jx_Q (jx_0 L) Q)
  have hd : jm_dc md_M_comesBack.2.1 118 [(.iastore, 1), (.return_, 1)] = true := by decide +kernel
  refine go_iastore rfl hz1.1 hz1.2 (by decide) hd (fun hd => ?_)
  exact go_vreturn hd rfl ⟨_, rfl, k⟩
theorem b_M_triesOn_0 {L : Nat} {d : Nat} {I : jm_I} {Q : Option jm_V → jm_I → Prop} {x1 : Int} {x2 : Int}  (hz : (0 ≤ x1 + 6 ∧ x1 + 6 < 90) ∧ (0 ≤ (x1 + 1) + (I 187 (x1 + 6).toNat) ∧ (x1 + 1) + (I 187 (x1 + 6).toNat) < 90) ∧ (-2147483648 ≤ x2 ∧ x2 < 2147483648) ∧ (-2147483648 ≤ I 167 5 ∧ I 167 5 < 2147483648)) (kt : ¬ x2 = (I 167 5) → Gx (jx_0 L) d md_M_triesOn 34 [some (.inr (.inl 167)), some (.inl x1), some (.inl x2), some (.inl (I 187 (x1 + 6).toNat)), some (.inl (I 187 ((x1 + 1) + (I 187 (x1 + 6).toNat)).toNat)), none, none, none] [] I Q) (kf : x2 = (I 167 5) → Gx (jx_0 L) d md_M_triesOn 30 [some (.inr (.inl 167)), some (.inl x1), some (.inl x2), some (.inl (I 187 (x1 + 6).toNat)), some (.inl (I 187 ((x1 + 1) + (I 187 (x1 + 6).toNat)).toNat)), none, none, none] [] I Q) : Cx (jx_0 L) d md_M_triesOn [.inr (.inl 167), .inl x1, .inl x2] I Q := by
  obtain ⟨hz1, hz2, hz3, hz4⟩ := hz
  show jm_Go d 0 0 md_M_triesOn 0 [some (.inr (.inl 167)), some (.inl x1), some (.inl x2), none, none, none, none, none] [] (jx (jx_0 L) I) (jx_Q (jx_0 L) Q)
  have hd : jm_dc md_M_triesOn.2.1 0 [(.aload_n 0, 1), (.getfield 75, 3), (.iload_n 1, 1), (.bipush 6, 2), (.iadd, 1), (.iaload, 1), (.istore_n 3, 1), (.aload_n 0, 1), (.getfield 75, 3), (.iload_n 1, 1), (.iconst 1, 1), (.iadd, 1), (.iload_n 3, 1), (.iadd, 1), (.iaload, 1), (.istore 4, 2), (.iload_n 2, 1), (.aload_n 0, 1), (.getfield 85, 3), (.if_icmp .ne 7, 3)] = true := by decide +kernel
  refine go_aload_n rfl hd (fun hd => ?_)
  refine go_getR co_X9 fl_9_75 (by decide) rfl rfl rfl hd (fun hd => ?_)
  refine go_iload_n rfl hd (fun hd => ?_)
  refine go_bipush (by decide) hd (fun hd => ?_)
  refine go_iadd hd (fun hd => ?_)
  refine go_iaload rfl hz1.1 hz1.2 (by decide) hd (fun hd => ?_)
  refine go_istore_n (by decide) hd (fun hd => ?_)
  refine go_aload_n rfl hd (fun hd => ?_)
  refine go_getR co_X9 fl_9_75 (by decide) rfl rfl rfl hd (fun hd => ?_)
  refine go_iload_n rfl hd (fun hd => ?_)
  refine go_iconst hd (fun hd => ?_)
  refine go_iadd hd (fun hd => ?_)
  refine go_iload_n rfl hd (fun hd => ?_)
  refine go_iadd hd (fun hd => ?_)
  refine go_iaload rfl hz2.1 hz2.2 (by decide) hd (fun hd => ?_)
  refine go_istore (by decide) hd (fun hd => ?_)
  refine go_iload_n rfl hd (fun hd => ?_)
  refine go_aload_n rfl hd (fun hd => ?_)
  refine go_getI co_X9 fl_9_85 (by decide) (Or.inl rfl) rfl hd (fun hd => ?_)
  exact go_icmp_ne (by decide) hz3 hz4 hd kt kf
theorem b_M_triesOn_30 {L : Nat} {d : Nat} {I : jm_I} {Q : Option jm_V → jm_I → Prop} {o0 : Option jm_V} {o1 : Option jm_V} {o2 : Option jm_V} {o3 : Option jm_V} {o4 : Option jm_V} {o5 : Option jm_V} {o6 : Option jm_V} {o7 : Option jm_V}  (k : Gx (jx_0 L) d md_M_triesOn 35 [o0, o1, o2, o3, o4, o5, o6, o7] [.inl 1] I Q) : Gx (jx_0 L) d md_M_triesOn 30 [o0, o1, o2, o3, o4, o5, o6, o7] [] I Q := by
  show jm_Go d 0 0 md_M_triesOn 30 [o0, o1, o2, o3, o4, o5, o6, o7] [] (jx (jx_0 L) I) (jx_Q (jx_0 L) Q)
  have hd : jm_dc md_M_triesOn.2.1 30 [(.iconst 1, 1), (.goto 4, 3)] = true := by decide +kernel
  refine go_iconst hd (fun hd => ?_)
  exact go_goto (by decide) hd k
theorem b_M_triesOn_34 {L : Nat} {d : Nat} {I : jm_I} {Q : Option jm_V → jm_I → Prop} {o0 : Option jm_V} {o1 : Option jm_V} {o2 : Option jm_V} {o3 : Option jm_V} {o4 : Option jm_V} {o5 : Option jm_V} {o6 : Option jm_V} {o7 : Option jm_V}  (k : Gx (jx_0 L) d md_M_triesOn 35 [o0, o1, o2, o3, o4, o5, o6, o7] [.inl 0] I Q) : Gx (jx_0 L) d md_M_triesOn 34 [o0, o1, o2, o3, o4, o5, o6, o7] [] I Q := by
  show jm_Go d 0 0 md_M_triesOn 34 [o0, o1, o2, o3, o4, o5, o6, o7] [] (jx (jx_0 L) I) (jx_Q (jx_0 L) Q)
  have hd : jm_dc md_M_triesOn.2.1 34 [(.iconst 0, 1)] = true := by decide +kernel
  refine go_iconst hd (fun hd => ?_)
  exact k
theorem b_M_triesOn_35 {L : Nat} {d : Nat} {I : jm_I} {Q : Option jm_V → jm_I → Prop} {o0 : Option jm_V} {o1 : Option jm_V} {o2 : Option jm_V} {o3 : Option jm_V} {o4 : Option jm_V} {o5 : Option jm_V} {o6 : Option jm_V} {o7 : Option jm_V} {s0 : Int}  (hz : (-2147483648 ≤ s0 ∧ s0 < 2147483648)) (kt : s0 = 0 → Gx (jx_0 L) d md_M_triesOn 46 [o0, o1, o2, o3, o4, some (.inl s0), o6, o7] [] I Q) (kf : ¬ s0 = 0 → Gx (jx_0 L) d md_M_triesOn 42 [o0, o1, o2, o3, o4, some (.inl s0), o6, o7] [] I Q) : Gx (jx_0 L) d md_M_triesOn 35 [o0, o1, o2, o3, o4, o5, o6, o7] [.inl s0] I Q := by
  have hz1 := hz
  show jm_Go d 0 0 md_M_triesOn 35 [o0, o1, o2, o3, o4, o5, o6, o7] [.inl s0] (jx (jx_0 L) I) (jx_Q (jx_0 L) Q)
  have hd : jm_dc md_M_triesOn.2.1 35 [(.istore 5, 2), (.iload 5, 2), (.ifCond .eq 7, 3)] = true := by decide +kernel
  refine go_istore (by decide) hd (fun hd => ?_)
  refine go_iload rfl hd (fun hd => ?_)
  exact go_if_eq (by decide) hz1 hd kt kf
theorem b_M_triesOn_42 {L : Nat} {d : Nat} {I : jm_I} {Q : Option jm_V → jm_I → Prop} {o0 : Option jm_V} {o1 : Option jm_V} {o2 : Option jm_V} {o3 : Option jm_V} {o4 : Option jm_V} {o5 : Option jm_V} {o6 : Option jm_V} {o7 : Option jm_V}  (k : Gx (jx_0 L) d md_M_triesOn 66 [o0, o1, o2, o3, o4, o5, o6, o7] [.inl 0] I Q) : Gx (jx_0 L) d md_M_triesOn 42 [o0, o1, o2, o3, o4, o5, o6, o7] [] I Q := by
  show jm_Go d 0 0 md_M_triesOn 42 [o0, o1, o2, o3, o4, o5, o6, o7] [] (jx (jx_0 L) I) (jx_Q (jx_0 L) Q)
  have hd : jm_dc md_M_triesOn.2.1 42 [(.iconst 0, 1), (.goto 23, 3)] = true := by decide +kernel
  refine go_iconst hd (fun hd => ?_)
  exact go_goto (by decide) hd k
theorem b_M_triesOn_46 {L : Nat} {d : Nat} {I : jm_I} {Q : Option jm_V → jm_I → Prop} {o1 : Option jm_V} {x2 : Int} {o3 : Option jm_V} {x4 : Int} {o5 : Option jm_V} {o6 : Option jm_V} {o7 : Option jm_V}  (hz : (0 ≤ 17 + x2 ∧ 17 + x2 < 27) ∧ (0 ≤ (6 * x4) + (I 171 (17 + x2).toNat) ∧ (6 * x4) + (I 171 (17 + x2).toNat) < 36)) (k : Gx (jx_0 L) d md_M_triesOn 66 [some (.inr (.inl 167)), o1, some (.inl x2), o3, some (.inl x4), o5, o6, o7] [.inl (I 182 ((6 * x4) + (I 171 (17 + x2).toNat)).toNat)] I Q) : Gx (jx_0 L) d md_M_triesOn 46 [some (.inr (.inl 167)), o1, some (.inl x2), o3, some (.inl x4), o5, o6, o7] [] I Q := by
  obtain ⟨hz1, hz2⟩ := hz
  show jm_Go d 0 0 md_M_triesOn 46 [some (.inr (.inl 167)), o1, some (.inl x2), o3, some (.inl x4), o5, o6, o7] [] (jx (jx_0 L) I) (jx_Q (jx_0 L) Q)
  have hd : jm_dc md_M_triesOn.2.1 46 [(.aload_n 0, 1), (.getfield 60, 3), (.bipush 6, 2), (.iload 4, 2), (.imul, 1), (.aload_n 0, 1), (.getfield 26, 3), (.bipush 17, 2), (.iload_n 2, 1), (.iadd, 1), (.iaload, 1), (.iadd, 1), (.iaload, 1)] = true := by decide +kernel
  refine go_aload_n rfl hd (fun hd => ?_)
  refine go_getR co_X9 fl_9_60 (by decide) rfl rfl rfl hd (fun hd => ?_)
  refine go_bipush (by decide) hd (fun hd => ?_)
  refine go_iload rfl hd (fun hd => ?_)
  refine go_imul hd (fun hd => ?_)
  refine go_aload_n rfl hd (fun hd => ?_)
  refine go_getR co_X9 fl_9_26 (by decide) rfl rfl rfl hd (fun hd => ?_)
  refine go_bipush (by decide) hd (fun hd => ?_)
  refine go_iload_n rfl hd (fun hd => ?_)
  refine go_iadd hd (fun hd => ?_)
  refine go_iaload rfl hz1.1 hz1.2 (by decide) hd (fun hd => ?_)
  refine go_iadd hd (fun hd => ?_)
  refine go_iaload rfl hz2.1 hz2.2 (by decide) hd (fun hd => ?_)
  exact k
theorem b_M_triesOn_66 {L : Nat} {d : Nat} {I : jm_I} {Q : Option jm_V → jm_I → Prop} {o0 : Option jm_V} {o1 : Option jm_V} {o2 : Option jm_V} {o3 : Option jm_V} {o4 : Option jm_V} {x5 : Int} {o6 : Option jm_V} {o7 : Option jm_V} {s0 : Int}  (hz : (-2147483648 ≤ x5 ∧ x5 < 2147483648)) (kt : ¬ x5 = 0 → Gx (jx_0 L) d md_M_triesOn 105 [o0, o1, o2, o3, o4, some (.inl x5), some (.inl s0), o7] [] I Q) (kf : x5 = 0 → Gx (jx_0 L) d md_M_triesOn 73 [o0, o1, o2, o3, o4, some (.inl x5), some (.inl s0), o7] [] I Q) : Gx (jx_0 L) d md_M_triesOn 66 [o0, o1, o2, o3, o4, some (.inl x5), o6, o7] [.inl s0] I Q := by
  have hz1 := hz
  show jm_Go d 0 0 md_M_triesOn 66 [o0, o1, o2, o3, o4, some (.inl x5), o6, o7] [.inl s0] (jx (jx_0 L) I) (jx_Q (jx_0 L) Q)
  have hd : jm_dc md_M_triesOn.2.1 66 [(.istore 6, 2), (.iload 5, 2), (.ifCond .ne 35, 3)] = true := by decide +kernel
  refine go_istore (by decide) hd (fun hd => ?_)
  refine go_iload rfl hd (fun hd => ?_)
  exact go_if_ne (by decide) hz1 hd kt kf
theorem b_M_triesOn_73 {L : Nat} {d : Nat} {I : jm_I} {Q : Option jm_V → jm_I → Prop} {x1 : Int} {x2 : Int} {o3 : Option jm_V} {o4 : Option jm_V} {o5 : Option jm_V} {o6 : Option jm_V} {o7 : Option jm_V}  (hz : (0 ≤ x1 + 0 ∧ x1 + 0 < 90)) (k : Cx (jx_0 L) d md_M_has [.inl (I 187 (x1 + 0).toNat), .inl x2] I (fun v J => Gx (jx_0 L) (d + 1) md_M_triesOn 85 [some (.inr (.inl 167)), some (.inl x1), some (.inl x2), o3, o4, o5, o6, o7] (v.toList ++ []) J Q)) : Gx (jx_0 L) (d + 1) md_M_triesOn 73 [some (.inr (.inl 167)), some (.inl x1), some (.inl x2), o3, o4, o5, o6, o7] [] I Q := by
  have hz1 := hz
  show jm_Go (d + 1) 0 0 md_M_triesOn 73 [some (.inr (.inl 167)), some (.inl x1), some (.inl x2), o3, o4, o5, o6, o7] [] (jx (jx_0 L) I) (jx_Q (jx_0 L) Q)
  have hd : jm_dc md_M_triesOn.2.1 73 [(.aload_n 0, 1), (.getfield 75, 3), (.iload_n 1, 1), (.iconst 0, 1), (.iadd, 1), (.iaload, 1), (.iload_n 2, 1), (.invokestatic 168, 3)] = true := by decide +kernel
  refine go_aload_n rfl hd (fun hd => ?_)
  refine go_getR co_X9 fl_9_75 (by decide) rfl rfl rfl hd (fun hd => ?_)
  refine go_iload_n rfl hd (fun hd => ?_)
  refine go_iconst hd (fun hd => ?_)
  refine go_iadd hd (fun hd => ?_)
  refine go_iaload rfl hz1.1 hz1.2 (by decide) hd (fun hd => ?_)
  refine go_iload_n rfl hd (fun hd => ?_)
  exact gx_static [.inl (I 187 (x1 + 0).toNat), .inl x2] [] mk_M_has ml_9_168 st_M_has rfl (Nat.le_of_ble_eq_true rfl) rfl (Nat.le_of_ble_eq_true rfl) rfl hd k
theorem b_M_triesOn_85 {L : Nat} {d : Nat} {I : jm_I} {Q : Option jm_V → jm_I → Prop} {o0 : Option jm_V} {o1 : Option jm_V} {o2 : Option jm_V} {o3 : Option jm_V} {o4 : Option jm_V} {o5 : Option jm_V} {o6 : Option jm_V} {o7 : Option jm_V} {s0 : Int}  (hz : (-2147483648 ≤ s0 ∧ s0 < 2147483648)) (kt : ¬ s0 = 0 → Gx (jx_0 L) d md_M_triesOn 103 [o0, o1, o2, o3, o4, o5, o6, o7] [] I Q) (kf : s0 = 0 → Gx (jx_0 L) d md_M_triesOn 88 [o0, o1, o2, o3, o4, o5, o6, o7] [] I Q) : Gx (jx_0 L) d md_M_triesOn 85 [o0, o1, o2, o3, o4, o5, o6, o7] [.inl s0] I Q := by
  have hz1 := hz
  show jm_Go d 0 0 md_M_triesOn 85 [o0, o1, o2, o3, o4, o5, o6, o7] [.inl s0] (jx (jx_0 L) I) (jx_Q (jx_0 L) Q)
  have hd : jm_dc md_M_triesOn.2.1 85 [(.ifCond .ne 18, 3)] = true := by decide +kernel
  exact go_if_ne (by decide) hz1 hd kt kf
theorem b_M_triesOn_88 {L : Nat} {d : Nat} {I : jm_I} {Q : Option jm_V → jm_I → Prop} {x1 : Int} {o2 : Option jm_V} {x3 : Int} {o4 : Option jm_V} {o5 : Option jm_V} {x6 : Int} {o7 : Option jm_V}  (hz : (0 ≤ (x1 + 3) + x3 ∧ (x1 + 3) + x3 < 90) ∧ (-2147483648 ≤ x6 ∧ x6 < 2147483648) ∧ (-2147483648 ≤ I 187 ((x1 + 3) + x3).toNat ∧ I 187 ((x1 + 3) + x3).toNat < 2147483648)) (kt : x6 ≤ (I 187 ((x1 + 3) + x3).toNat) → Gx (jx_0 L) d md_M_triesOn 105 [some (.inr (.inl 167)), some (.inl x1), o2, some (.inl x3), o4, o5, some (.inl x6), o7] [] I Q) (kf : ¬ (x6 ≤ (I 187 ((x1 + 3) + x3).toNat)) → Gx (jx_0 L) d md_M_triesOn 103 [some (.inr (.inl 167)), some (.inl x1), o2, some (.inl x3), o4, o5, some (.inl x6), o7] [] I Q) : Gx (jx_0 L) d md_M_triesOn 88 [some (.inr (.inl 167)), some (.inl x1), o2, some (.inl x3), o4, o5, some (.inl x6), o7] [] I Q := by
  obtain ⟨hz1, hz2, hz3⟩ := hz
  show jm_Go d 0 0 md_M_triesOn 88 [some (.inr (.inl 167)), some (.inl x1), o2, some (.inl x3), o4, o5, some (.inl x6), o7] [] (jx (jx_0 L) I) (jx_Q (jx_0 L) Q)
  have hd : jm_dc md_M_triesOn.2.1 88 [(.iload 6, 2), (.aload_n 0, 1), (.getfield 75, 3), (.iload_n 1, 1), (.iconst 3, 1), (.iadd, 1), (.iload_n 3, 1), (.iadd, 1), (.iaload, 1), (.if_icmp .le 5, 3)] = true := by decide +kernel
  refine go_iload rfl hd (fun hd => ?_)
  refine go_aload_n rfl hd (fun hd => ?_)
  refine go_getR co_X9 fl_9_75 (by decide) rfl rfl rfl hd (fun hd => ?_)
  refine go_iload_n rfl hd (fun hd => ?_)
  refine go_iconst hd (fun hd => ?_)
  refine go_iadd hd (fun hd => ?_)
  refine go_iload_n rfl hd (fun hd => ?_)
  refine go_iadd hd (fun hd => ?_)
  refine go_iaload rfl hz1.1 hz1.2 (by decide) hd (fun hd => ?_)
  exact go_icmp_le (by decide) hz2 hz3 hd kt kf
theorem b_M_triesOn_103 {L : Nat} {d : Nat} {I : jm_I} {Q : Option jm_V → jm_I → Prop} {o0 : Option jm_V} {o1 : Option jm_V} {o2 : Option jm_V} {o3 : Option jm_V} {o4 : Option jm_V} {o5 : Option jm_V} {o6 : Option jm_V} {o7 : Option jm_V}  (k : Q (some (.inl 0)) I) : Gx (jx_0 L) d md_M_triesOn 103 [o0, o1, o2, o3, o4, o5, o6, o7] [] I Q := by
  show jm_Go d 0 0 md_M_triesOn 103 [o0, o1, o2, o3, o4, o5, o6, o7] [] (jx (jx_0 L) I) (jx_Q (jx_0 L) Q)
  have hd : jm_dc md_M_triesOn.2.1 103 [(.iconst 0, 1), (.ireturn, 1)] = true := by decide +kernel
  refine go_iconst hd (fun hd => ?_)
  exact go_zreturn hd rfl (Or.inl rfl) ⟨_, rfl, k⟩
theorem b_M_triesOn_105 {L : Nat} {d : Nat} {I : jm_I} {Q : Option jm_V → jm_I → Prop} {x1 : Int} {o2 : Option jm_V} {o3 : Option jm_V} {o4 : Option jm_V} {o5 : Option jm_V} {o6 : Option jm_V} {o7 : Option jm_V}  (k : Cx (jx_0 L) d md_M_copiesOn [.inr (.inl 167), .inl x1] I (fun v J => Gx (jx_0 L) (d + 1) md_M_triesOn 110 [some (.inr (.inl 167)), some (.inl x1), o2, o3, o4, o5, o6, o7] (v.toList ++ []) J Q)) : Gx (jx_0 L) (d + 1) md_M_triesOn 105 [some (.inr (.inl 167)), some (.inl x1), o2, o3, o4, o5, o6, o7] [] I Q := by
  show jm_Go (d + 1) 0 0 md_M_triesOn 105 [some (.inr (.inl 167)), some (.inl x1), o2, o3, o4, o5, o6, o7] [] (jx (jx_0 L) I) (jx_Q (jx_0 L) Q)
  have hd : jm_dc md_M_triesOn.2.1 105 [(.aload_n 0, 1), (.iload_n 1, 1), (.invokevirtual 252, 3)] = true := by decide +kernel
  refine go_aload_n rfl hd (fun hd => ?_)
  refine go_iload_n rfl hd (fun hd => ?_)
  exact gx_virtual 167 9 [.inl x1] [] mk_M_copiesOn co_X9 rfl ml_9_252 in_M_copiesOn se_M_copiesOn rfl rfl (Nat.le_of_ble_eq_true rfl) rfl (Nat.le_of_ble_eq_true rfl) rfl hd k
theorem b_M_triesOn_110 {L : Nat} {d : Nat} {I : jm_I} {Q : Option jm_V → jm_I → Prop} {x1 : Int} {o2 : Option jm_V} {o3 : Option jm_V} {o4 : Option jm_V} {x5 : Int} {o6 : Option jm_V} {o7 : Option jm_V}  (hz : (0 ≤ (x1 + 9) + 0 ∧ (x1 + 9) + 0 < 90) ∧ (-2147483648 ≤ x5 ∧ x5 < 2147483648)) (kt : x5 = 0 → Gx (jx_0 L) d md_M_triesOn 135 [some (.inr (.inl 167)), some (.inl x1), o2, o3, o4, some (.inl x5), o6, some (.inl (x1 + 9))] [.inl (I 187 ((x1 + 9) + 0).toNat), .inl ((x1 + 9) + 0), .inr (.inl 187)] I Q) (kf : ¬ x5 = 0 → Gx (jx_0 L) d md_M_triesOn 131 [some (.inr (.inl 167)), some (.inl x1), o2, o3, o4, some (.inl x5), o6, some (.inl (x1 + 9))] [.inl (I 187 ((x1 + 9) + 0).toNat), .inl ((x1 + 9) + 0), .inr (.inl 187)] I Q) : Gx (jx_0 L) d md_M_triesOn 110 [some (.inr (.inl 167)), some (.inl x1), o2, o3, o4, some (.inl x5), o6, o7] [] I Q := by
  obtain ⟨hz1, hz2⟩ := hz
  show jm_Go d 0 0 md_M_triesOn 110 [some (.inr (.inl 167)), some (.inl x1), o2, o3, o4, some (.inl x5), o6, o7] [] (jx (jx_0 L) I) (jx_Q (jx_0 L) Q)
  have hd : jm_dc md_M_triesOn.2.1 110 [(.iload_n 1, 1), (.bipush 9, 2), (.iadd, 1), (.istore 7, 2), (.aload_n 0, 1), (.getfield 75, 3), (.iload 7, 2), (.iconst 0, 1), (.iadd, 1), (.dup2, 1), (.iaload, 1), (.iload 5, 2), (.ifCond .eq 7, 3)] = true := by decide +kernel
  refine go_iload_n rfl hd (fun hd => ?_)
  refine go_bipush (by decide) hd (fun hd => ?_)
  refine go_iadd hd (fun hd => ?_)
  refine go_istore (by decide) hd (fun hd => ?_)
  refine go_aload_n rfl hd (fun hd => ?_)
  refine go_getR co_X9 fl_9_75 (by decide) rfl rfl rfl hd (fun hd => ?_)
  refine go_iload rfl hd (fun hd => ?_)
  refine go_iconst hd (fun hd => ?_)
  refine go_iadd hd (fun hd => ?_)
  refine go_dup2 rfl rfl hd (fun hd => ?_)
  refine go_iaload rfl hz1.1 hz1.2 (by decide) hd (fun hd => ?_)
  refine go_iload rfl hd (fun hd => ?_)
  exact go_if_eq (by decide) hz2 hd kt kf
theorem b_M_triesOn_131 {L : Nat} {d : Nat} {I : jm_I} {Q : Option jm_V → jm_I → Prop} {o0 : Option jm_V} {o1 : Option jm_V} {o2 : Option jm_V} {o3 : Option jm_V} {o4 : Option jm_V} {o5 : Option jm_V} {o6 : Option jm_V} {o7 : Option jm_V} {s1 : Int} {s2 : Int}  (k : Gx (jx_0 L) d md_M_triesOn 138 [o0, o1, o2, o3, o4, o5, o6, o7] [.inl 0, .inl s2, .inl s1, .inr (.inl 187)] I Q) : Gx (jx_0 L) d md_M_triesOn 131 [o0, o1, o2, o3, o4, o5, o6, o7] [.inl s2, .inl s1, .inr (.inl 187)] I Q := by
  show jm_Go d 0 0 md_M_triesOn 131 [o0, o1, o2, o3, o4, o5, o6, o7] [.inl s2, .inl s1, .inr (.inl 187)] (jx (jx_0 L) I) (jx_Q (jx_0 L) Q)
  have hd : jm_dc md_M_triesOn.2.1 131 [(.iconst 0, 1), (.goto 6, 3)] = true := by decide +kernel
  refine go_iconst hd (fun hd => ?_)
  exact go_goto (by decide) hd k
theorem b_M_triesOn_135 {L : Nat} {d : Nat} {I : jm_I} {Q : Option jm_V → jm_I → Prop} {o0 : Option jm_V} {o1 : Option jm_V} {x2 : Int} {o3 : Option jm_V} {o4 : Option jm_V} {o5 : Option jm_V} {o6 : Option jm_V} {o7 : Option jm_V} {s1 : Int} {s2 : Int}  (k : Gx (jx_0 L) d md_M_triesOn 138 [o0, o1, some (.inl x2), o3, o4, o5, o6, o7] [.inl (jb_shl 1 x2), .inl s2, .inl s1, .inr (.inl 187)] I Q) : Gx (jx_0 L) d md_M_triesOn 135 [o0, o1, some (.inl x2), o3, o4, o5, o6, o7] [.inl s2, .inl s1, .inr (.inl 187)] I Q := by
  show jm_Go d 0 0 md_M_triesOn 135 [o0, o1, some (.inl x2), o3, o4, o5, o6, o7] [.inl s2, .inl s1, .inr (.inl 187)] (jx (jx_0 L) I) (jx_Q (jx_0 L) Q)
  have hd : jm_dc md_M_triesOn.2.1 135 [(.iconst 1, 1), (.iload_n 2, 1), (.ishl, 1)] = true := by decide +kernel
  refine go_iconst hd (fun hd => ?_)
  refine go_iload_n rfl hd (fun hd => ?_)
  refine go_ishl hd (fun hd => ?_)
  exact k
theorem b_M_triesOn_138 {L : Nat} {d : Nat} {I : jm_I} {Q : Option jm_V → jm_I → Prop} {o1 : Option jm_V} {o2 : Option jm_V} {x3 : Int} {o4 : Option jm_V} {x5 : Int} {o6 : Option jm_V} {x7 : Int} {s1 : Int} {s2 : Int} {s3 : Int}  (hz : (0 ≤ s1 ∧ s1 < 90) ∧ (-2147483648 ≤ x5 ∧ x5 < 2147483648)) (kt : x5 = 0 → Gx (jx_0 L) d md_M_triesOn 160 [some (.inr (.inl 167)), o1, o2, some (.inl x3), o4, some (.inl x5), o6, some (.inl x7)] [.inl ((x7 + 1) + x3), .inr (.inl 187)] (jm_up I 187 (s1.toNat) (jb_or s2 s3)) Q) (kf : ¬ x5 = 0 → Gx (jx_0 L) d md_M_triesOn 155 [some (.inr (.inl 167)), o1, o2, some (.inl x3), o4, some (.inl x5), o6, some (.inl x7)] [.inl ((x7 + 1) + x3), .inr (.inl 187)] (jm_up I 187 (s1.toNat) (jb_or s2 s3)) Q) : Gx (jx_0 L) d md_M_triesOn 138 [some (.inr (.inl 167)), o1, o2, some (.inl x3), o4, some (.inl x5), o6, some (.inl x7)] [.inl s3, .inl s2, .inl s1, .inr (.inl 187)] I Q := by
  obtain ⟨hz1, hz2⟩ := hz
  show jm_Go d 0 0 md_M_triesOn 138 [some (.inr (.inl 167)), o1, o2, some (.inl x3), o4, some (.inl x5), o6, some (.inl x7)] [.inl s3, .inl s2, .inl s1, .inr (.inl 187)] (jx (jx_0 L) I) (jx_Q (jx_0 L) Q)
  have hd : jm_dc md_M_triesOn.2.1 138 [(.ior, 1), (.iastore, 1), (.aload_n 0, 1), (.getfield 75, 3), (.iload 7, 2), (.iconst 1, 1), (.iadd, 1), (.iload_n 3, 1), (.iadd, 1), (.iload 5, 2), (.ifCond .eq 8, 3)] = true := by decide +kernel
  refine go_ior hd (fun hd => ?_)
  refine go_iastore rfl hz1.1 hz1.2 (by decide) hd (fun hd => ?_)
  refine go_aload_n rfl hd (fun hd => ?_)
  refine go_getR co_X9 fl_9_75 (by decide) rfl rfl rfl hd (fun hd => ?_)
  refine go_iload rfl hd (fun hd => ?_)
  refine go_iconst hd (fun hd => ?_)
  refine go_iadd hd (fun hd => ?_)
  refine go_iload_n rfl hd (fun hd => ?_)
  refine go_iadd hd (fun hd => ?_)
  refine go_iload rfl hd (fun hd => ?_)
  exact go_if_eq (by decide) hz2 hd kt kf
theorem b_M_triesOn_155 {L : Nat} {d : Nat} {I : jm_I} {Q : Option jm_V → jm_I → Prop} {o0 : Option jm_V} {o1 : Option jm_V} {o2 : Option jm_V} {o3 : Option jm_V} {x4 : Int} {o5 : Option jm_V} {o6 : Option jm_V} {o7 : Option jm_V} {s1 : Int}  (k : Gx (jx_0 L) d md_M_triesOn 169 [o0, o1, o2, o3, some (.inl x4), o5, o6, o7] [.inl x4, .inl s1, .inr (.inl 187)] I Q) : Gx (jx_0 L) d md_M_triesOn 155 [o0, o1, o2, o3, some (.inl x4), o5, o6, o7] [.inl s1, .inr (.inl 187)] I Q := by
  show jm_Go d 0 0 md_M_triesOn 155 [o0, o1, o2, o3, some (.inl x4), o5, o6, o7] [.inl s1, .inr (.inl 187)] (jx (jx_0 L) I) (jx_Q (jx_0 L) Q)
  have hd : jm_dc md_M_triesOn.2.1 155 [(.iload 4, 2), (.goto 12, 3)] = true := by decide +kernel
  refine go_iload rfl hd (fun hd => ?_)
  exact go_goto (by decide) hd k
theorem b_M_triesOn_160 {L : Nat} {d : Nat} {I : jm_I} {Q : Option jm_V → jm_I → Prop} {o1 : Option jm_V} {x2 : Int} {o3 : Option jm_V} {o4 : Option jm_V} {o5 : Option jm_V} {o6 : Option jm_V} {o7 : Option jm_V} {s1 : Int}  (hz : (0 ≤ 17 + x2 ∧ 17 + x2 < 27)) (k : Gx (jx_0 L) d md_M_triesOn 169 [some (.inr (.inl 167)), o1, some (.inl x2), o3, o4, o5, o6, o7] [.inl (I 171 (17 + x2).toNat), .inl s1, .inr (.inl 187)] I Q) : Gx (jx_0 L) d md_M_triesOn 160 [some (.inr (.inl 167)), o1, some (.inl x2), o3, o4, o5, o6, o7] [.inl s1, .inr (.inl 187)] I Q := by
  have hz1 := hz
  show jm_Go d 0 0 md_M_triesOn 160 [some (.inr (.inl 167)), o1, some (.inl x2), o3, o4, o5, o6, o7] [.inl s1, .inr (.inl 187)] (jx (jx_0 L) I) (jx_Q (jx_0 L) Q)
  have hd : jm_dc md_M_triesOn.2.1 160 [(.aload_n 0, 1), (.getfield 26, 3), (.bipush 17, 2), (.iload_n 2, 1), (.iadd, 1), (.iaload, 1)] = true := by decide +kernel
  refine go_aload_n rfl hd (fun hd => ?_)
  refine go_getR co_X9 fl_9_26 (by decide) rfl rfl rfl hd (fun hd => ?_)
  refine go_bipush (by decide) hd (fun hd => ?_)
  refine go_iload_n rfl hd (fun hd => ?_)
  refine go_iadd hd (fun hd => ?_)
  refine go_iaload rfl hz1.1 hz1.2 (by decide) hd (fun hd => ?_)
  exact k
theorem b_M_triesOn_169 {L : Nat} {d : Nat} {I : jm_I} {Q : Option jm_V → jm_I → Prop} {o1 : Option jm_V} {o2 : Option jm_V} {x3 : Int} {o4 : Option jm_V} {x5 : Int} {x6 : Int} {x7 : Int} {s1 : Int} {s2 : Int}  (hz : (0 ≤ s1 ∧ s1 < 90) ∧ (0 ≤ (x7 + 3) + x3 ∧ (x7 + 3) + x3 < 90) ∧ (0 ≤ (x7 + 3) + x3 ∧ (x7 + 3) + x3 < 90) ∧ (0 ≤ x7 + 5 ∧ x7 + 5 < 90) ∧ (-2147483648 ≤ x5 ∧ x5 < 2147483648)) (kt : x5 = 0 → Gx (jx_0 L) d md_M_triesOn 207 [some (.inr (.inl 167)), o1, o2, some (.inl x3), o4, some (.inl x5), some (.inl x6), some (.inl x7)] [.inl ((jm_up (jm_up I 187 (s1.toNat) s2) 187 (((x7 + 3) + x3).toNat) (((jm_up I 187 (s1.toNat) s2) 187 ((x7 + 3) + x3).toNat) - x6)) 187 (x7 + 5).toNat), .inl (x7 + 5), .inr (.inl 187)] (jm_up (jm_up I 187 (s1.toNat) s2) 187 (((x7 + 3) + x3).toNat) (((jm_up I 187 (s1.toNat) s2) 187 ((x7 + 3) + x3).toNat) - x6)) Q) (kf : ¬ x5 = 0 → Gx (jx_0 L) d md_M_triesOn 201 [some (.inr (.inl 167)), o1, o2, some (.inl x3), o4, some (.inl x5), some (.inl x6), some (.inl x7)] [.inl ((jm_up (jm_up I 187 (s1.toNat) s2) 187 (((x7 + 3) + x3).toNat) (((jm_up I 187 (s1.toNat) s2) 187 ((x7 + 3) + x3).toNat) - x6)) 187 (x7 + 5).toNat), .inl (x7 + 5), .inr (.inl 187)] (jm_up (jm_up I 187 (s1.toNat) s2) 187 (((x7 + 3) + x3).toNat) (((jm_up I 187 (s1.toNat) s2) 187 ((x7 + 3) + x3).toNat) - x6)) Q) : Gx (jx_0 L) d md_M_triesOn 169 [some (.inr (.inl 167)), o1, o2, some (.inl x3), o4, some (.inl x5), some (.inl x6), some (.inl x7)] [.inl s2, .inl s1, .inr (.inl 187)] I Q := by
  obtain ⟨hz1, hz2, hz3, hz4, hz5⟩ := hz
  show jm_Go d 0 0 md_M_triesOn 169 [some (.inr (.inl 167)), o1, o2, some (.inl x3), o4, some (.inl x5), some (.inl x6), some (.inl x7)] [.inl s2, .inl s1, .inr (.inl 187)] (jx (jx_0 L) I) (jx_Q (jx_0 L) Q)
  have hd : jm_dc md_M_triesOn.2.1 169 [(.iastore, 1), (.aload_n 0, 1), (.getfield 75, 3), (.iload 7, 2), (.iconst 3, 1), (.iadd, 1), (.iload_n 3, 1), (.iadd, 1), (.dup2, 1), (.iaload, 1), (.iload 6, 2), (.isub, 1), (.iastore, 1), (.aload_n 0, 1), (.getfield 75, 3), (.iload 7, 2), (.iconst 5, 1), (.iadd, 1), (.dup2, 1), (.iaload, 1), (.iload 5, 2), (.ifCond .eq 9, 3)] = true := by decide +kernel
  refine go_iastore rfl hz1.1 hz1.2 (by decide) hd (fun hd => ?_)
  refine go_aload_n rfl hd (fun hd => ?_)
  refine go_getR co_X9 fl_9_75 (by decide) rfl rfl rfl hd (fun hd => ?_)
  refine go_iload rfl hd (fun hd => ?_)
  refine go_iconst hd (fun hd => ?_)
  refine go_iadd hd (fun hd => ?_)
  refine go_iload_n rfl hd (fun hd => ?_)
  refine go_iadd hd (fun hd => ?_)
  refine go_dup2 rfl rfl hd (fun hd => ?_)
  refine go_iaload rfl hz2.1 hz2.2 (by decide) hd (fun hd => ?_)
  refine go_iload rfl hd (fun hd => ?_)
  refine go_isub hd (fun hd => ?_)
  refine go_iastore rfl hz3.1 hz3.2 (by decide) hd (fun hd => ?_)
  refine go_aload_n rfl hd (fun hd => ?_)
  refine go_getR co_X9 fl_9_75 (by decide) rfl rfl rfl hd (fun hd => ?_)
  refine go_iload rfl hd (fun hd => ?_)
  refine go_iconst hd (fun hd => ?_)
  refine go_iadd hd (fun hd => ?_)
  refine go_dup2 rfl rfl hd (fun hd => ?_)
  refine go_iaload rfl hz4.1 hz4.2 (by decide) hd (fun hd => ?_)
  refine go_iload rfl hd (fun hd => ?_)
  exact go_if_eq (by decide) hz5 hd kt kf
theorem b_M_triesOn_201 {L : Nat} {d : Nat} {I : jm_I} {Q : Option jm_V → jm_I → Prop} {o0 : Option jm_V} {o1 : Option jm_V} {o2 : Option jm_V} {x3 : Int} {o4 : Option jm_V} {o5 : Option jm_V} {o6 : Option jm_V} {o7 : Option jm_V} {s1 : Int} {s2 : Int}  (k : Gx (jx_0 L) d md_M_triesOn 208 [o0, o1, o2, some (.inl x3), o4, o5, o6, o7] [.inl (jb_shl 1 x3), .inl s2, .inl s1, .inr (.inl 187)] I Q) : Gx (jx_0 L) d md_M_triesOn 201 [o0, o1, o2, some (.inl x3), o4, o5, o6, o7] [.inl s2, .inl s1, .inr (.inl 187)] I Q := by
  show jm_Go d 0 0 md_M_triesOn 201 [o0, o1, o2, some (.inl x3), o4, o5, o6, o7] [.inl s2, .inl s1, .inr (.inl 187)] (jx (jx_0 L) I) (jx_Q (jx_0 L) Q)
  have hd : jm_dc md_M_triesOn.2.1 201 [(.iconst 1, 1), (.iload_n 3, 1), (.ishl, 1), (.goto 4, 3)] = true := by decide +kernel
  refine go_iconst hd (fun hd => ?_)
  refine go_iload_n rfl hd (fun hd => ?_)
  refine go_ishl hd (fun hd => ?_)
  exact go_goto (by decide) hd k
theorem b_M_triesOn_207 {L : Nat} {d : Nat} {I : jm_I} {Q : Option jm_V → jm_I → Prop} {o0 : Option jm_V} {o1 : Option jm_V} {o2 : Option jm_V} {o3 : Option jm_V} {o4 : Option jm_V} {o5 : Option jm_V} {o6 : Option jm_V} {o7 : Option jm_V} {s1 : Int} {s2 : Int}  (k : Gx (jx_0 L) d md_M_triesOn 208 [o0, o1, o2, o3, o4, o5, o6, o7] [.inl 0, .inl s2, .inl s1, .inr (.inl 187)] I Q) : Gx (jx_0 L) d md_M_triesOn 207 [o0, o1, o2, o3, o4, o5, o6, o7] [.inl s2, .inl s1, .inr (.inl 187)] I Q := by
  show jm_Go d 0 0 md_M_triesOn 207 [o0, o1, o2, o3, o4, o5, o6, o7] [.inl s2, .inl s1, .inr (.inl 187)] (jx (jx_0 L) I) (jx_Q (jx_0 L) Q)
  have hd : jm_dc md_M_triesOn.2.1 207 [(.iconst 0, 1)] = true := by decide +kernel
  refine go_iconst hd (fun hd => ?_)
  exact k
theorem b_M_triesOn_208 {L : Nat} {d : Nat} {I : jm_I} {Q : Option jm_V → jm_I → Prop} {o1 : Option jm_V} {o2 : Option jm_V} {x3 : Int} {o4 : Option jm_V} {o5 : Option jm_V} {o6 : Option jm_V} {x7 : Int} {s1 : Int} {s2 : Int} {s3 : Int}  (hz : (0 ≤ s1 ∧ s1 < 90) ∧ (0 ≤ x7 + 5 ∧ x7 + 5 < 90)) (k : Cx (jx_0 L) d md_M_has [.inl ((jm_up I 187 (s1.toNat) (jb_or s2 s3)) 187 (x7 + 5).toNat), .inl (1 - x3)] (jm_up I 187 (s1.toNat) (jb_or s2 s3)) (fun v J => Gx (jx_0 L) (d + 1) md_M_triesOn 234 [some (.inr (.inl 167)), o1, o2, some (.inl x3), o4, o5, o6, some (.inl x7)] (v.toList ++ [.inl (x7 + 6), .inr (.inl 187)]) J Q)) : Gx (jx_0 L) (d + 1) md_M_triesOn 208 [some (.inr (.inl 167)), o1, o2, some (.inl x3), o4, o5, o6, some (.inl x7)] [.inl s3, .inl s2, .inl s1, .inr (.inl 187)] I Q := by
  obtain ⟨hz1, hz2⟩ := hz
  show jm_Go (d + 1) 0 0 md_M_triesOn 208 [some (.inr (.inl 167)), o1, o2, some (.inl x3), o4, o5, o6, some (.inl x7)] [.inl s3, .inl s2, .inl s1, .inr (.inl 187)] (jx (jx_0 L) I) (jx_Q (jx_0 L) Q)
  have hd : jm_dc md_M_triesOn.2.1 208 [(.ior, 1), (.iastore, 1), (.aload_n 0, 1), (.getfield 75, 3), (.iload 7, 2), (.bipush 6, 2), (.iadd, 1), (.aload_n 0, 1), (.getfield 75, 3), (.iload 7, 2), (.iconst 5, 1), (.iadd, 1), (.iaload, 1), (.iconst 1, 1), (.iload_n 3, 1), (.isub, 1), (.invokestatic 168, 3)] = true := by decide +kernel
  refine go_ior hd (fun hd => ?_)
  refine go_iastore rfl hz1.1 hz1.2 (by decide) hd (fun hd => ?_)
  refine go_aload_n rfl hd (fun hd => ?_)
  refine go_getR co_X9 fl_9_75 (by decide) rfl rfl rfl hd (fun hd => ?_)
  refine go_iload rfl hd (fun hd => ?_)
  refine go_bipush (by decide) hd (fun hd => ?_)
  refine go_iadd hd (fun hd => ?_)
  refine go_aload_n rfl hd (fun hd => ?_)
  refine go_getR co_X9 fl_9_75 (by decide) rfl rfl rfl hd (fun hd => ?_)
  refine go_iload rfl hd (fun hd => ?_)
  refine go_iconst hd (fun hd => ?_)
  refine go_iadd hd (fun hd => ?_)
  refine go_iaload rfl hz2.1 hz2.2 (by decide) hd (fun hd => ?_)
  refine go_iconst hd (fun hd => ?_)
  refine go_iload_n rfl hd (fun hd => ?_)
  refine go_isub hd (fun hd => ?_)
  exact gx_static [.inl ((jm_up I 187 (s1.toNat) (jb_or s2 s3)) 187 (x7 + 5).toNat), .inl (1 - x3)] [.inl (x7 + 6), .inr (.inl 187)] mk_M_has ml_9_168 st_M_has rfl (Nat.le_of_ble_eq_true rfl) rfl (Nat.le_of_ble_eq_true rfl) rfl hd k
theorem b_M_triesOn_234 {L : Nat} {d : Nat} {I : jm_I} {Q : Option jm_V → jm_I → Prop} {o0 : Option jm_V} {o1 : Option jm_V} {o2 : Option jm_V} {o3 : Option jm_V} {o4 : Option jm_V} {o5 : Option jm_V} {o6 : Option jm_V} {o7 : Option jm_V} {s1 : Int} {s2 : Int}  (hz : (-2147483648 ≤ s2 ∧ s2 < 2147483648)) (kt : s2 = 0 → Gx (jx_0 L) d md_M_triesOn 241 [o0, o1, o2, o3, o4, o5, o6, o7] [.inl s1, .inr (.inl 187)] I Q) (kf : ¬ s2 = 0 → Gx (jx_0 L) d md_M_triesOn 237 [o0, o1, o2, o3, o4, o5, o6, o7] [.inl s1, .inr (.inl 187)] I Q) : Gx (jx_0 L) d md_M_triesOn 234 [o0, o1, o2, o3, o4, o5, o6, o7] [.inl s2, .inl s1, .inr (.inl 187)] I Q := by
  have hz1 := hz
  show jm_Go d 0 0 md_M_triesOn 234 [o0, o1, o2, o3, o4, o5, o6, o7] [.inl s2, .inl s1, .inr (.inl 187)] (jx (jx_0 L) I) (jx_Q (jx_0 L) Q)
  have hd : jm_dc md_M_triesOn.2.1 234 [(.ifCond .eq 7, 3)] = true := by decide +kernel
  exact go_if_eq (by decide) hz1 hd kt kf
theorem b_M_triesOn_237 {L : Nat} {d : Nat} {I : jm_I} {Q : Option jm_V → jm_I → Prop} {o0 : Option jm_V} {o1 : Option jm_V} {o2 : Option jm_V} {x3 : Int} {o4 : Option jm_V} {o5 : Option jm_V} {o6 : Option jm_V} {o7 : Option jm_V} {s1 : Int}  (k : Gx (jx_0 L) d md_M_triesOn 244 [o0, o1, o2, some (.inl x3), o4, o5, o6, o7] [.inl x3, .inl s1, .inr (.inl 187)] I Q) : Gx (jx_0 L) d md_M_triesOn 237 [o0, o1, o2, some (.inl x3), o4, o5, o6, o7] [.inl s1, .inr (.inl 187)] I Q := by
  show jm_Go d 0 0 md_M_triesOn 237 [o0, o1, o2, some (.inl x3), o4, o5, o6, o7] [.inl s1, .inr (.inl 187)] (jx (jx_0 L) I) (jx_Q (jx_0 L) Q)
  have hd : jm_dc md_M_triesOn.2.1 237 [(.iload_n 3, 1), (.goto 6, 3)] = true := by decide +kernel
  refine go_iload_n rfl hd (fun hd => ?_)
  exact go_goto (by decide) hd k
theorem b_M_triesOn_241 {L : Nat} {d : Nat} {I : jm_I} {Q : Option jm_V → jm_I → Prop} {o0 : Option jm_V} {o1 : Option jm_V} {o2 : Option jm_V} {x3 : Int} {o4 : Option jm_V} {o5 : Option jm_V} {o6 : Option jm_V} {o7 : Option jm_V} {s1 : Int}  (k : Gx (jx_0 L) d md_M_triesOn 244 [o0, o1, o2, some (.inl x3), o4, o5, o6, o7] [.inl (1 - x3), .inl s1, .inr (.inl 187)] I Q) : Gx (jx_0 L) d md_M_triesOn 241 [o0, o1, o2, some (.inl x3), o4, o5, o6, o7] [.inl s1, .inr (.inl 187)] I Q := by
  show jm_Go d 0 0 md_M_triesOn 241 [o0, o1, o2, some (.inl x3), o4, o5, o6, o7] [.inl s1, .inr (.inl 187)] (jx (jx_0 L) I) (jx_Q (jx_0 L) Q)
  have hd : jm_dc md_M_triesOn.2.1 241 [(.iconst 1, 1), (.iload_n 3, 1), (.isub, 1)] = true := by decide +kernel
  refine go_iconst hd (fun hd => ?_)
  refine go_iload_n rfl hd (fun hd => ?_)
  refine go_isub hd (fun hd => ?_)
  exact k
theorem b_M_triesOn_244 {L : Nat} {d : Nat} {I : jm_I} {Q : Option jm_V → jm_I → Prop} {o0 : Option jm_V} {o1 : Option jm_V} {o2 : Option jm_V} {o3 : Option jm_V} {o4 : Option jm_V} {o5 : Option jm_V} {o6 : Option jm_V} {o7 : Option jm_V} {s1 : Int} {s2 : Int}  (hz : (0 ≤ s1 ∧ s1 < 90)) (k : Q (some (.inl 1)) (jm_up I 187 (s1.toNat) s2)) : Gx (jx_0 L) d md_M_triesOn 244 [o0, o1, o2, o3, o4, o5, o6, o7] [.inl s2, .inl s1, .inr (.inl 187)] I Q := by
  have hz1 := hz
  show jm_Go d 0 0 md_M_triesOn 244 [o0, o1, o2, o3, o4, o5, o6, o7] [.inl s2, .inl s1, .inr (.inl 187)] (jx (jx_0 L) I) (jx_Q (jx_0 L) Q)
  have hd : jm_dc md_M_triesOn.2.1 244 [(.iastore, 1), (.iconst 1, 1), (.ireturn, 1)] = true := by decide +kernel
  refine go_iastore rfl hz1.1 hz1.2 (by decide) hd (fun hd => ?_)
  refine go_iconst hd (fun hd => ?_)
  exact go_zreturn hd rfl (Or.inr rfl) ⟨_, rfl, k⟩
theorem b_M_copiesOn_0 {L : Nat} {d : Nat} {I : jm_I} {Q : Option jm_V → jm_I → Prop} {x1 : Int}  (k : Gx (jx_0 L) d md_M_copiesOn 2 [some (.inr (.inl 167)), some (.inl x1), some (.inl 0)] [] I Q) : Cx (jx_0 L) d md_M_copiesOn [.inr (.inl 167), .inl x1] I Q := by
  show jm_Go d 0 0 md_M_copiesOn 0 [some (.inr (.inl 167)), some (.inl x1), none] [] (jx (jx_0 L) I) (jx_Q (jx_0 L) Q)
  have hd : jm_dc md_M_copiesOn.2.1 0 [(.iconst 0, 1), (.istore_n 2, 1)] = true := by decide +kernel
  refine go_iconst hd (fun hd => ?_)
  refine go_istore_n (by decide) hd (fun hd => ?_)
  exact k
theorem b_M_copiesOn_2 {L : Nat} {d : Nat} {I : jm_I} {Q : Option jm_V → jm_I → Prop} {o0 : Option jm_V} {o1 : Option jm_V} {x2 : Int}  (hz : (-2147483648 ≤ x2 ∧ x2 < 2147483648)) (kt : 9 ≤ x2 → Gx (jx_0 L) d md_M_copiesOn 33 [o0, o1, some (.inl x2)] [] I Q) (kf : ¬ (9 ≤ x2) → Gx (jx_0 L) d md_M_copiesOn 8 [o0, o1, some (.inl x2)] [] I Q) : Gx (jx_0 L) d md_M_copiesOn 2 [o0, o1, some (.inl x2)] [] I Q := by
  have hz1 := hz
  show jm_Go d 0 0 md_M_copiesOn 2 [o0, o1, some (.inl x2)] [] (jx (jx_0 L) I) (jx_Q (jx_0 L) Q)
  have hd : jm_dc md_M_copiesOn.2.1 2 [(.iload_n 2, 1), (.bipush 9, 2), (.if_icmp .ge 28, 3)] = true := by decide +kernel
  refine go_iload_n rfl hd (fun hd => ?_)
  refine go_bipush (by decide) hd (fun hd => ?_)
  exact go_icmp_ge (by decide) hz1 ⟨by decide, by decide⟩ hd kt kf
theorem b_M_copiesOn_8 {L : Nat} {d : Nat} {I : jm_I} {Q : Option jm_V → jm_I → Prop} {x1 : Int} {x2 : Int}  (hz : (0 ≤ x1 + x2 ∧ x1 + x2 < 90) ∧ (0 ≤ (x1 + 9) + x2 ∧ (x1 + 9) + x2 < 90)) (k : Gx (jx_0 L) d md_M_copiesOn 2 [some (.inr (.inl 167)), some (.inl x1), some (.inl (x2 + 1))] [] (jm_up I 187 (((x1 + 9) + x2).toNat) (I 187 (x1 + x2).toNat)) Q) : Gx (jx_0 L) d md_M_copiesOn 8 [some (.inr (.inl 167)), some (.inl x1), some (.inl x2)] [] I Q := by
  obtain ⟨hz1, hz2⟩ := hz
  show jm_Go d 0 0 md_M_copiesOn 8 [some (.inr (.inl 167)), some (.inl x1), some (.inl x2)] [] (jx (jx_0 L) I) (jx_Q (jx_0 L) Q)
  have hd : jm_dc md_M_copiesOn.2.1 8 [(.aload_n 0, 1), (.getfield 75, 3), (.iload_n 1, 1), (.bipush 9, 2), (.iadd, 1), (.iload_n 2, 1), (.iadd, 1), (.aload_n 0, 1), (.getfield 75, 3), (.iload_n 1, 1), (.iload_n 2, 1), (.iadd, 1), (.iaload, 1), (.iastore, 1), (.iinc 2 1, 3), (.goto (-28), 3)] = true := by decide +kernel
  refine go_aload_n rfl hd (fun hd => ?_)
  refine go_getR co_X9 fl_9_75 (by decide) rfl rfl rfl hd (fun hd => ?_)
  refine go_iload_n rfl hd (fun hd => ?_)
  refine go_bipush (by decide) hd (fun hd => ?_)
  refine go_iadd hd (fun hd => ?_)
  refine go_iload_n rfl hd (fun hd => ?_)
  refine go_iadd hd (fun hd => ?_)
  refine go_aload_n rfl hd (fun hd => ?_)
  refine go_getR co_X9 fl_9_75 (by decide) rfl rfl rfl hd (fun hd => ?_)
  refine go_iload_n rfl hd (fun hd => ?_)
  refine go_iload_n rfl hd (fun hd => ?_)
  refine go_iadd hd (fun hd => ?_)
  refine go_iaload rfl hz1.1 hz1.2 (by decide) hd (fun hd => ?_)
  refine go_iastore rfl hz2.1 hz2.2 (by decide) hd (fun hd => ?_)
  refine go_iinc rfl hd (fun hd => ?_)
  exact go_goto (by decide) hd k
theorem b_M_copiesOn_33 {L : Nat} {d : Nat} {I : jm_I} {Q : Option jm_V → jm_I → Prop} {x1 : Int} {o2 : Option jm_V}  (hz : (0 ≤ (x1 + 9) + 7 ∧ (x1 + 9) + 7 < 90) ∧ (0 ≤ (x1 + 9) + 8 ∧ (x1 + 9) + 8 < 90)) (k : Q none (jm_up (jm_up I 187 (((x1 + 9) + 7).toNat) 0) 187 (((x1 + 9) + 8).toNat) (-1000000))) : Gx (jx_0 L) d md_M_copiesOn 33 [some (.inr (.inl 167)), some (.inl x1), o2] [] I Q := by
  obtain ⟨hz1, hz2⟩ := hz
  show jm_Go d 0 0 md_M_copiesOn 33 [some (.inr (.inl 167)), some (.inl x1), o2] [] (jx (jx_0 L) I) (jx_Q (jx_0 L) Q)
  have hd : jm_dc md_M_copiesOn.2.1 33 [(.aload_n 0, 1), (.getfield 75, 3), (.iload_n 1, 1), (.bipush 9, 2), (.iadd, 1), (.bipush 7, 2), (.iadd, 1), (.iconst 0, 1), (.iastore, 1), (.aload_n 0, 1), (.getfield 75, 3), (.iload_n 1, 1), (.bipush 9, 2), (.iadd, 1), (.bipush 8, 2), (.iadd, 1), (.ldc 251, 2), (.iastore, 1), (.return_, 1)] = true := by decide +kernel
  refine go_aload_n rfl hd (fun hd => ?_)
  refine go_getR co_X9 fl_9_75 (by decide) rfl rfl rfl hd (fun hd => ?_)
  refine go_iload_n rfl hd (fun hd => ?_)
  refine go_bipush (by decide) hd (fun hd => ?_)
  refine go_iadd hd (fun hd => ?_)
  refine go_bipush (by decide) hd (fun hd => ?_)
  refine go_iadd hd (fun hd => ?_)
  refine go_iconst hd (fun hd => ?_)
  refine go_iastore rfl hz1.1 hz1.2 (by decide) hd (fun hd => ?_)
  refine go_aload_n rfl hd (fun hd => ?_)
  refine go_getR co_X9 fl_9_75 (by decide) rfl rfl rfl hd (fun hd => ?_)
  refine go_iload_n rfl hd (fun hd => ?_)
  refine go_bipush (by decide) hd (fun hd => ?_)
  refine go_iadd hd (fun hd => ?_)
  refine go_bipush (by decide) hd (fun hd => ?_)
  refine go_iadd hd (fun hd => ?_)
  refine go_ldc (-1000000) (-1000000) (by decide) kc_9_251 hd (fun hd => ?_)
  refine go_iastore rfl hz2.1 hz2.2 (by decide) hd (fun hd => ?_)
  exact go_vreturn hd rfl ⟨_, rfl, k⟩
theorem b_M_odds_0 {L : Nat} {d : Nat} {I : jm_I} {Q : Option jm_V → jm_I → Prop} {x1 : Int} {x2 : Int} {x3 : Int}  (k : Cx (jx_0 L) d md_M_in [.inl x1, .inl 0, .inl 10] I (fun v J => Gx (jx_0 L) (d + 1) md_M_odds 7 [some (.inr (.inl 167)), some (.inl x1), some (.inl x2), some (.inl x3), none, none, none, none, none, none] (v.toList ++ []) J Q)) : Cx (jx_0 L) (d + 1) md_M_odds [.inr (.inl 167), .inl x1, .inl x2, .inl x3] I Q := by
  show jm_Go (d + 1) 0 0 md_M_odds 0 [some (.inr (.inl 167)), some (.inl x1), some (.inl x2), some (.inl x3), none, none, none, none, none, none] [] (jx (jx_0 L) I) (jx_Q (jx_0 L) Q)
  have hd : jm_dc md_M_odds.2.1 0 [(.iload_n 1, 1), (.iconst 0, 1), (.bipush 10, 2), (.invokestatic 78, 3)] = true := by decide +kernel
  refine go_iload_n rfl hd (fun hd => ?_)
  refine go_iconst hd (fun hd => ?_)
  refine go_bipush (by decide) hd (fun hd => ?_)
  exact gx_static [.inl x1, .inl 0, .inl 10] [] mk_M_in ml_9_78 st_M_in rfl (Nat.le_of_ble_eq_true rfl) rfl (Nat.le_of_ble_eq_true rfl) rfl hd k
theorem b_M_odds_7 {L : Nat} {d : Nat} {I : jm_I} {Q : Option jm_V → jm_I → Prop} {o0 : Option jm_V} {o1 : Option jm_V} {o2 : Option jm_V} {o3 : Option jm_V} {o4 : Option jm_V} {o5 : Option jm_V} {o6 : Option jm_V} {o7 : Option jm_V} {o8 : Option jm_V} {o9 : Option jm_V} {s0 : Int}  (hz : (-2147483648 ≤ s0 ∧ s0 < 2147483648)) (kt : s0 = 0 → Gx (jx_0 L) d md_M_odds 28 [o0, o1, o2, o3, o4, o5, o6, o7, o8, o9] [] I Q) (kf : ¬ s0 = 0 → Gx (jx_0 L) d md_M_odds 10 [o0, o1, o2, o3, o4, o5, o6, o7, o8, o9] [] I Q) : Gx (jx_0 L) d md_M_odds 7 [o0, o1, o2, o3, o4, o5, o6, o7, o8, o9] [.inl s0] I Q := by
  have hz1 := hz
  show jm_Go d 0 0 md_M_odds 7 [o0, o1, o2, o3, o4, o5, o6, o7, o8, o9] [.inl s0] (jx (jx_0 L) I) (jx_Q (jx_0 L) Q)
  have hd : jm_dc md_M_odds.2.1 7 [(.ifCond .eq 21, 3)] = true := by decide +kernel
  exact go_if_eq (by decide) hz1 hd kt kf
theorem b_M_odds_10 {L : Nat} {d : Nat} {I : jm_I} {Q : Option jm_V → jm_I → Prop} {o0 : Option jm_V} {o1 : Option jm_V} {x2 : Int} {o3 : Option jm_V} {o4 : Option jm_V} {o5 : Option jm_V} {o6 : Option jm_V} {o7 : Option jm_V} {o8 : Option jm_V} {o9 : Option jm_V}  (k : Cx (jx_0 L) d md_M_in [.inl x2, .inl 0, .inl 5] I (fun v J => Gx (jx_0 L) (d + 1) md_M_odds 16 [o0, o1, some (.inl x2), o3, o4, o5, o6, o7, o8, o9] (v.toList ++ []) J Q)) : Gx (jx_0 L) (d + 1) md_M_odds 10 [o0, o1, some (.inl x2), o3, o4, o5, o6, o7, o8, o9] [] I Q := by
  show jm_Go (d + 1) 0 0 md_M_odds 10 [o0, o1, some (.inl x2), o3, o4, o5, o6, o7, o8, o9] [] (jx (jx_0 L) I) (jx_Q (jx_0 L) Q)
  have hd : jm_dc md_M_odds.2.1 10 [(.iload_n 2, 1), (.iconst 0, 1), (.iconst 5, 1), (.invokestatic 78, 3)] = true := by decide +kernel
  refine go_iload_n rfl hd (fun hd => ?_)
  refine go_iconst hd (fun hd => ?_)
  refine go_iconst hd (fun hd => ?_)
  exact gx_static [.inl x2, .inl 0, .inl 5] [] mk_M_in ml_9_78 st_M_in rfl (Nat.le_of_ble_eq_true rfl) rfl (Nat.le_of_ble_eq_true rfl) rfl hd k
theorem b_M_odds_16 {L : Nat} {d : Nat} {I : jm_I} {Q : Option jm_V → jm_I → Prop} {o0 : Option jm_V} {o1 : Option jm_V} {o2 : Option jm_V} {o3 : Option jm_V} {o4 : Option jm_V} {o5 : Option jm_V} {o6 : Option jm_V} {o7 : Option jm_V} {o8 : Option jm_V} {o9 : Option jm_V} {s0 : Int}  (hz : (-2147483648 ≤ s0 ∧ s0 < 2147483648)) (kt : s0 = 0 → Gx (jx_0 L) d md_M_odds 28 [o0, o1, o2, o3, o4, o5, o6, o7, o8, o9] [] I Q) (kf : ¬ s0 = 0 → Gx (jx_0 L) d md_M_odds 19 [o0, o1, o2, o3, o4, o5, o6, o7, o8, o9] [] I Q) : Gx (jx_0 L) d md_M_odds 16 [o0, o1, o2, o3, o4, o5, o6, o7, o8, o9] [.inl s0] I Q := by
  have hz1 := hz
  show jm_Go d 0 0 md_M_odds 16 [o0, o1, o2, o3, o4, o5, o6, o7, o8, o9] [.inl s0] (jx (jx_0 L) I) (jx_Q (jx_0 L) Q)
  have hd : jm_dc md_M_odds.2.1 16 [(.ifCond .eq 12, 3)] = true := by decide +kernel
  exact go_if_eq (by decide) hz1 hd kt kf
theorem b_M_odds_19 {L : Nat} {d : Nat} {I : jm_I} {Q : Option jm_V → jm_I → Prop} {o0 : Option jm_V} {o1 : Option jm_V} {o2 : Option jm_V} {x3 : Int} {o4 : Option jm_V} {o5 : Option jm_V} {o6 : Option jm_V} {o7 : Option jm_V} {o8 : Option jm_V} {o9 : Option jm_V}  (k : Cx (jx_0 L) d md_M_in [.inl x3, .inl 0, .inl 1] I (fun v J => Gx (jx_0 L) (d + 1) md_M_odds 25 [o0, o1, o2, some (.inl x3), o4, o5, o6, o7, o8, o9] (v.toList ++ []) J Q)) : Gx (jx_0 L) (d + 1) md_M_odds 19 [o0, o1, o2, some (.inl x3), o4, o5, o6, o7, o8, o9] [] I Q := by
  show jm_Go (d + 1) 0 0 md_M_odds 19 [o0, o1, o2, some (.inl x3), o4, o5, o6, o7, o8, o9] [] (jx (jx_0 L) I) (jx_Q (jx_0 L) Q)
  have hd : jm_dc md_M_odds.2.1 19 [(.iload_n 3, 1), (.iconst 0, 1), (.iconst 1, 1), (.invokestatic 78, 3)] = true := by decide +kernel
  refine go_iload_n rfl hd (fun hd => ?_)
  refine go_iconst hd (fun hd => ?_)
  refine go_iconst hd (fun hd => ?_)
  exact gx_static [.inl x3, .inl 0, .inl 1] [] mk_M_in ml_9_78 st_M_in rfl (Nat.le_of_ble_eq_true rfl) rfl (Nat.le_of_ble_eq_true rfl) rfl hd k
theorem b_M_odds_25 {L : Nat} {d : Nat} {I : jm_I} {Q : Option jm_V → jm_I → Prop} {o0 : Option jm_V} {o1 : Option jm_V} {o2 : Option jm_V} {o3 : Option jm_V} {o4 : Option jm_V} {o5 : Option jm_V} {o6 : Option jm_V} {o7 : Option jm_V} {o8 : Option jm_V} {o9 : Option jm_V} {s0 : Int}  (hz : (-2147483648 ≤ s0 ∧ s0 < 2147483648)) (kt : ¬ s0 = 0 → Gx (jx_0 L) d md_M_odds 30 [o0, o1, o2, o3, o4, o5, o6, o7, o8, o9] [] I Q) (kf : s0 = 0 → Gx (jx_0 L) d md_M_odds 28 [o0, o1, o2, o3, o4, o5, o6, o7, o8, o9] [] I Q) : Gx (jx_0 L) d md_M_odds 25 [o0, o1, o2, o3, o4, o5, o6, o7, o8, o9] [.inl s0] I Q := by
  have hz1 := hz
  show jm_Go d 0 0 md_M_odds 25 [o0, o1, o2, o3, o4, o5, o6, o7, o8, o9] [.inl s0] (jx (jx_0 L) I) (jx_Q (jx_0 L) Q)
  have hd : jm_dc md_M_odds.2.1 25 [(.ifCond .ne 5, 3)] = true := by decide +kernel
  exact go_if_ne (by decide) hz1 hd kt kf
theorem b_M_odds_28 {L : Nat} {d : Nat} {I : jm_I} {Q : Option jm_V → jm_I → Prop} {o0 : Option jm_V} {o1 : Option jm_V} {o2 : Option jm_V} {o3 : Option jm_V} {o4 : Option jm_V} {o5 : Option jm_V} {o6 : Option jm_V} {o7 : Option jm_V} {o8 : Option jm_V} {o9 : Option jm_V}  (k : Q (some (.inl (-1))) I) : Gx (jx_0 L) d md_M_odds 28 [o0, o1, o2, o3, o4, o5, o6, o7, o8, o9] [] I Q := by
  show jm_Go d 0 0 md_M_odds 28 [o0, o1, o2, o3, o4, o5, o6, o7, o8, o9] [] (jx (jx_0 L) I) (jx_Q (jx_0 L) Q)
  have hd : jm_dc md_M_odds.2.1 28 [(.iconst (-1), 1), (.ireturn, 1)] = true := by decide +kernel
  refine go_iconst hd (fun hd => ?_)
  exact go_ireturn hd rfl ⟨_, rfl, k⟩
theorem b_M_odds_30 {L : Nat} {d : Nat} {I : jm_I} {Q : Option jm_V → jm_I → Prop} {o1 : Option jm_V} {o2 : Option jm_V} {o3 : Option jm_V} {o4 : Option jm_V} {o5 : Option jm_V} {o6 : Option jm_V} {o7 : Option jm_V} {o8 : Option jm_V} {o9 : Option jm_V}  (k : Cx (jx_0 L) d md_M_mayPress [.inr (.inl 167)] I (fun v J => Gx (jx_0 L) (d + 1) md_M_odds 34 [some (.inr (.inl 167)), o1, o2, o3, o4, o5, o6, o7, o8, o9] (v.toList ++ []) J Q)) : Gx (jx_0 L) (d + 1) md_M_odds 30 [some (.inr (.inl 167)), o1, o2, o3, o4, o5, o6, o7, o8, o9] [] I Q := by
  show jm_Go (d + 1) 0 0 md_M_odds 30 [some (.inr (.inl 167)), o1, o2, o3, o4, o5, o6, o7, o8, o9] [] (jx (jx_0 L) I) (jx_Q (jx_0 L) Q)
  have hd : jm_dc md_M_odds.2.1 30 [(.aload_n 0, 1), (.invokevirtual 228, 3)] = true := by decide +kernel
  refine go_aload_n rfl hd (fun hd => ?_)
  exact gx_virtual 167 9 [] [] mk_M_mayPress co_X9 rfl ml_9_228 in_M_mayPress se_M_mayPress rfl rfl (Nat.le_of_ble_eq_true rfl) rfl (Nat.le_of_ble_eq_true rfl) rfl hd k
theorem b_M_odds_34 {L : Nat} {d : Nat} {I : jm_I} {Q : Option jm_V → jm_I → Prop} {o0 : Option jm_V} {o1 : Option jm_V} {o2 : Option jm_V} {o3 : Option jm_V} {o4 : Option jm_V} {o5 : Option jm_V} {o6 : Option jm_V} {o7 : Option jm_V} {o8 : Option jm_V} {o9 : Option jm_V} {s0 : Int}  (k : Cx (jx_0 L) d md_M_bits [.inl s0] I (fun v J => Gx (jx_0 L) (d + 1) md_M_odds 37 [o0, o1, o2, o3, o4, o5, o6, o7, o8, o9] (v.toList ++ []) J Q)) : Gx (jx_0 L) (d + 1) md_M_odds 34 [o0, o1, o2, o3, o4, o5, o6, o7, o8, o9] [.inl s0] I Q := by
  show jm_Go (d + 1) 0 0 md_M_odds 34 [o0, o1, o2, o3, o4, o5, o6, o7, o8, o9] [.inl s0] (jx (jx_0 L) I) (jx_Q (jx_0 L) Q)
  have hd : jm_dc md_M_odds.2.1 34 [(.invokestatic 218, 3)] = true := by decide +kernel
  exact gx_static [.inl s0] [] mk_M_bits ml_9_218 st_M_bits rfl (Nat.le_of_ble_eq_true rfl) rfl (Nat.le_of_ble_eq_true rfl) rfl hd k
theorem b_M_odds_37 {L : Nat} {d : Nat} {I : jm_I} {Q : Option jm_V → jm_I → Prop} {o0 : Option jm_V} {o1 : Option jm_V} {o2 : Option jm_V} {o3 : Option jm_V} {o4 : Option jm_V} {o5 : Option jm_V} {o6 : Option jm_V} {o7 : Option jm_V} {o8 : Option jm_V} {o9 : Option jm_V} {s0 : Int}  (k : Gx (jx_0 L) d md_M_odds 48 [o0, o1, o2, o3, some (.inl s0), some (.inl 0), some (.inl 1), some (.inl 0), o8, o9] [] I Q) : Gx (jx_0 L) d md_M_odds 37 [o0, o1, o2, o3, o4, o5, o6, o7, o8, o9] [.inl s0] I Q := by
  show jm_Go d 0 0 md_M_odds 37 [o0, o1, o2, o3, o4, o5, o6, o7, o8, o9] [.inl s0] (jx (jx_0 L) I) (jx_Q (jx_0 L) Q)
  have hd : jm_dc md_M_odds.2.1 37 [(.istore 4, 2), (.iconst 0, 1), (.istore 5, 2), (.iconst 1, 1), (.istore 6, 2), (.iconst 0, 1), (.istore 7, 2)] = true := by decide +kernel
  refine go_istore (by decide) hd (fun hd => ?_)
  refine go_iconst hd (fun hd => ?_)
  refine go_istore (by decide) hd (fun hd => ?_)
  refine go_iconst hd (fun hd => ?_)
  refine go_istore (by decide) hd (fun hd => ?_)
  refine go_iconst hd (fun hd => ?_)
  refine go_istore (by decide) hd (fun hd => ?_)
  exact k
theorem b_M_odds_48 {L : Nat} {d : Nat} {I : jm_I} {Q : Option jm_V → jm_I → Prop} {o0 : Option jm_V} {o1 : Option jm_V} {o2 : Option jm_V} {o3 : Option jm_V} {x4 : Int} {o5 : Option jm_V} {o6 : Option jm_V} {x7 : Int} {o8 : Option jm_V} {o9 : Option jm_V}  (hz : (-2147483648 ≤ x7 ∧ x7 < 2147483648) ∧ (-2147483648 ≤ jb_shl 1 x4 ∧ jb_shl 1 x4 < 2147483648)) (kt : (jb_shl 1 x4) ≤ x7 → Gx (jx_0 L) d md_M_odds 125 [o0, o1, o2, o3, some (.inl x4), o5, o6, some (.inl x7), o8, o9] [] I Q) (kf : ¬ ((jb_shl 1 x4) ≤ x7) → Gx (jx_0 L) d md_M_odds 57 [o0, o1, o2, o3, some (.inl x4), o5, o6, some (.inl x7), o8, o9] [] I Q) : Gx (jx_0 L) d md_M_odds 48 [o0, o1, o2, o3, some (.inl x4), o5, o6, some (.inl x7), o8, o9] [] I Q := by
  obtain ⟨hz1, hz2⟩ := hz
  show jm_Go d 0 0 md_M_odds 48 [o0, o1, o2, o3, some (.inl x4), o5, o6, some (.inl x7), o8, o9] [] (jx (jx_0 L) I) (jx_Q (jx_0 L) Q)
  have hd : jm_dc md_M_odds.2.1 48 [(.iload 7, 2), (.iconst 1, 1), (.iload 4, 2), (.ishl, 1), (.if_icmp .ge 71, 3)] = true := by decide +kernel
  refine go_iload rfl hd (fun hd => ?_)
  refine go_iconst hd (fun hd => ?_)
  refine go_iload rfl hd (fun hd => ?_)
  refine go_ishl hd (fun hd => ?_)
  exact go_icmp_ge (by decide) hz1 hz2 hd kt kf
theorem b_M_odds_57 {L : Nat} {d : Nat} {I : jm_I} {Q : Option jm_V → jm_I → Prop} {o0 : Option jm_V} {o1 : Option jm_V} {o2 : Option jm_V} {o3 : Option jm_V} {o4 : Option jm_V} {o5 : Option jm_V} {o6 : Option jm_V} {x7 : Int} {o8 : Option jm_V} {o9 : Option jm_V}  (k : Cx (jx_0 L) d md_M_bits [.inl x7] I (fun v J => Gx (jx_0 L) (d + 1) md_M_odds 62 [o0, o1, o2, o3, o4, o5, o6, some (.inl x7), o8, o9] (v.toList ++ []) J Q)) : Gx (jx_0 L) (d + 1) md_M_odds 57 [o0, o1, o2, o3, o4, o5, o6, some (.inl x7), o8, o9] [] I Q := by
  show jm_Go (d + 1) 0 0 md_M_odds 57 [o0, o1, o2, o3, o4, o5, o6, some (.inl x7), o8, o9] [] (jx (jx_0 L) I) (jx_Q (jx_0 L) Q)
  have hd : jm_dc md_M_odds.2.1 57 [(.iload 7, 2), (.invokestatic 218, 3)] = true := by decide +kernel
  refine go_iload rfl hd (fun hd => ?_)
  exact gx_static [.inl x7] [] mk_M_bits ml_9_218 st_M_bits rfl (Nat.le_of_ble_eq_true rfl) rfl (Nat.le_of_ble_eq_true rfl) rfl hd k
theorem b_M_odds_62 {L : Nat} {d : Nat} {I : jm_I} {Q : Option jm_V → jm_I → Prop} {o0 : Option jm_V} {o1 : Option jm_V} {x2 : Int} {o3 : Option jm_V} {o4 : Option jm_V} {o5 : Option jm_V} {o6 : Option jm_V} {o7 : Option jm_V} {o8 : Option jm_V} {o9 : Option jm_V} {s0 : Int}  (hz : (-2147483648 ≤ s0 ∧ s0 < 2147483648) ∧ (-2147483648 ≤ x2 ∧ x2 < 2147483648)) (kt : ¬ s0 = x2 → Gx (jx_0 L) d md_M_odds 70 [o0, o1, some (.inl x2), o3, o4, o5, o6, o7, o8, o9] [] I Q) (kf : s0 = x2 → Gx (jx_0 L) d md_M_odds 66 [o0, o1, some (.inl x2), o3, o4, o5, o6, o7, o8, o9] [] I Q) : Gx (jx_0 L) d md_M_odds 62 [o0, o1, some (.inl x2), o3, o4, o5, o6, o7, o8, o9] [.inl s0] I Q := by
  obtain ⟨hz1, hz2⟩ := hz
  show jm_Go d 0 0 md_M_odds 62 [o0, o1, some (.inl x2), o3, o4, o5, o6, o7, o8, o9] [.inl s0] (jx (jx_0 L) I) (jx_Q (jx_0 L) Q)
  have hd : jm_dc md_M_odds.2.1 62 [(.iload_n 2, 1), (.if_icmp .ne 7, 3)] = true := by decide +kernel
  refine go_iload_n rfl hd (fun hd => ?_)
  exact go_icmp_ne (by decide) hz1 hz2 hd kt kf
theorem b_M_odds_66 {L : Nat} {d : Nat} {I : jm_I} {Q : Option jm_V → jm_I → Prop} {o0 : Option jm_V} {o1 : Option jm_V} {o2 : Option jm_V} {o3 : Option jm_V} {o4 : Option jm_V} {o5 : Option jm_V} {o6 : Option jm_V} {o7 : Option jm_V} {o8 : Option jm_V} {o9 : Option jm_V}  (k : Gx (jx_0 L) d md_M_odds 71 [o0, o1, o2, o3, o4, o5, o6, o7, o8, o9] [.inl 1] I Q) : Gx (jx_0 L) d md_M_odds 66 [o0, o1, o2, o3, o4, o5, o6, o7, o8, o9] [] I Q := by
  show jm_Go d 0 0 md_M_odds 66 [o0, o1, o2, o3, o4, o5, o6, o7, o8, o9] [] (jx (jx_0 L) I) (jx_Q (jx_0 L) Q)
  have hd : jm_dc md_M_odds.2.1 66 [(.iconst 1, 1), (.goto 4, 3)] = true := by decide +kernel
  refine go_iconst hd (fun hd => ?_)
  exact go_goto (by decide) hd k
theorem b_M_odds_70 {L : Nat} {d : Nat} {I : jm_I} {Q : Option jm_V → jm_I → Prop} {o0 : Option jm_V} {o1 : Option jm_V} {o2 : Option jm_V} {o3 : Option jm_V} {o4 : Option jm_V} {o5 : Option jm_V} {o6 : Option jm_V} {o7 : Option jm_V} {o8 : Option jm_V} {o9 : Option jm_V}  (k : Gx (jx_0 L) d md_M_odds 71 [o0, o1, o2, o3, o4, o5, o6, o7, o8, o9] [.inl 0] I Q) : Gx (jx_0 L) d md_M_odds 70 [o0, o1, o2, o3, o4, o5, o6, o7, o8, o9] [] I Q := by
  show jm_Go d 0 0 md_M_odds 70 [o0, o1, o2, o3, o4, o5, o6, o7, o8, o9] [] (jx (jx_0 L) I) (jx_Q (jx_0 L) Q)
  have hd : jm_dc md_M_odds.2.1 70 [(.iconst 0, 1)] = true := by decide +kernel
  refine go_iconst hd (fun hd => ?_)
  exact k
theorem b_M_odds_71 {L : Nat} {d : Nat} {I : jm_I} {Q : Option jm_V → jm_I → Prop} {o0 : Option jm_V} {o1 : Option jm_V} {o2 : Option jm_V} {o3 : Option jm_V} {o4 : Option jm_V} {o5 : Option jm_V} {o6 : Option jm_V} {o7 : Option jm_V} {o8 : Option jm_V} {o9 : Option jm_V} {s0 : Int}  (k : Gx (jx_0 L) d md_M_odds 76 [o0, o1, o2, o3, o4, o5, o6, o7, some (.inl s0), some (.inl 0)] [] I Q) : Gx (jx_0 L) d md_M_odds 71 [o0, o1, o2, o3, o4, o5, o6, o7, o8, o9] [.inl s0] I Q := by
  show jm_Go d 0 0 md_M_odds 71 [o0, o1, o2, o3, o4, o5, o6, o7, o8, o9] [.inl s0] (jx (jx_0 L) I) (jx_Q (jx_0 L) Q)
  have hd : jm_dc md_M_odds.2.1 71 [(.istore 8, 2), (.iconst 0, 1), (.istore 9, 2)] = true := by decide +kernel
  refine go_istore (by decide) hd (fun hd => ?_)
  refine go_iconst hd (fun hd => ?_)
  refine go_istore (by decide) hd (fun hd => ?_)
  exact k
theorem b_M_odds_76 {L : Nat} {d : Nat} {I : jm_I} {Q : Option jm_V → jm_I → Prop} {o0 : Option jm_V} {o1 : Option jm_V} {o2 : Option jm_V} {o3 : Option jm_V} {x4 : Int} {o5 : Option jm_V} {o6 : Option jm_V} {o7 : Option jm_V} {o8 : Option jm_V} {x9 : Int}  (hz : (-2147483648 ≤ x9 ∧ x9 < 2147483648) ∧ (-2147483648 ≤ x4 ∧ x4 < 2147483648)) (kt : x4 ≤ x9 → Gx (jx_0 L) d md_M_odds 112 [o0, o1, o2, o3, some (.inl x4), o5, o6, o7, o8, some (.inl x9)] [] I Q) (kf : ¬ (x4 ≤ x9) → Gx (jx_0 L) d md_M_odds 83 [o0, o1, o2, o3, some (.inl x4), o5, o6, o7, o8, some (.inl x9)] [] I Q) : Gx (jx_0 L) d md_M_odds 76 [o0, o1, o2, o3, some (.inl x4), o5, o6, o7, o8, some (.inl x9)] [] I Q := by
  obtain ⟨hz1, hz2⟩ := hz
  show jm_Go d 0 0 md_M_odds 76 [o0, o1, o2, o3, some (.inl x4), o5, o6, o7, o8, some (.inl x9)] [] (jx (jx_0 L) I) (jx_Q (jx_0 L) Q)
  have hd : jm_dc md_M_odds.2.1 76 [(.iload 9, 2), (.iload 4, 2), (.if_icmp .ge 32, 3)] = true := by decide +kernel
  refine go_iload rfl hd (fun hd => ?_)
  refine go_iload rfl hd (fun hd => ?_)
  exact go_icmp_ge (by decide) hz1 hz2 hd kt kf
theorem b_M_odds_83 {L : Nat} {d : Nat} {I : jm_I} {Q : Option jm_V → jm_I → Prop} {o0 : Option jm_V} {o1 : Option jm_V} {o2 : Option jm_V} {o3 : Option jm_V} {o4 : Option jm_V} {o5 : Option jm_V} {o6 : Option jm_V} {x7 : Int} {x8 : Int} {x9 : Int}  (k : Cx (jx_0 L) d md_M_has [.inl x7, .inl x9] I (fun v J => Gx (jx_0 L) (d + 1) md_M_odds 92 [o0, o1, o2, o3, o4, o5, o6, some (.inl x7), some (.inl x8), some (.inl x9)] (v.toList ++ [.inl x8]) J Q)) : Gx (jx_0 L) (d + 1) md_M_odds 83 [o0, o1, o2, o3, o4, o5, o6, some (.inl x7), some (.inl x8), some (.inl x9)] [] I Q := by
  show jm_Go (d + 1) 0 0 md_M_odds 83 [o0, o1, o2, o3, o4, o5, o6, some (.inl x7), some (.inl x8), some (.inl x9)] [] (jx (jx_0 L) I) (jx_Q (jx_0 L) Q)
  have hd : jm_dc md_M_odds.2.1 83 [(.iload 8, 2), (.iload 7, 2), (.iload 9, 2), (.invokestatic 168, 3)] = true := by decide +kernel
  refine go_iload rfl hd (fun hd => ?_)
  refine go_iload rfl hd (fun hd => ?_)
  refine go_iload rfl hd (fun hd => ?_)
  exact gx_static [.inl x7, .inl x9] [.inl x8] mk_M_has ml_9_168 st_M_has rfl (Nat.le_of_ble_eq_true rfl) rfl (Nat.le_of_ble_eq_true rfl) rfl hd k
theorem b_M_odds_92 {L : Nat} {d : Nat} {I : jm_I} {Q : Option jm_V → jm_I → Prop} {o0 : Option jm_V} {o1 : Option jm_V} {o2 : Option jm_V} {o3 : Option jm_V} {o4 : Option jm_V} {o5 : Option jm_V} {o6 : Option jm_V} {o7 : Option jm_V} {o8 : Option jm_V} {o9 : Option jm_V} {s0 : Int} {s1 : Int}  (hz : (-2147483648 ≤ s1 ∧ s1 < 2147483648)) (kt : s1 = 0 → Gx (jx_0 L) d md_M_odds 99 [o0, o1, o2, o3, o4, o5, o6, o7, o8, o9] [.inl s0] I Q) (kf : ¬ s1 = 0 → Gx (jx_0 L) d md_M_odds 95 [o0, o1, o2, o3, o4, o5, o6, o7, o8, o9] [.inl s0] I Q) : Gx (jx_0 L) d md_M_odds 92 [o0, o1, o2, o3, o4, o5, o6, o7, o8, o9] [.inl s1, .inl s0] I Q := by
  have hz1 := hz
  show jm_Go d 0 0 md_M_odds 92 [o0, o1, o2, o3, o4, o5, o6, o7, o8, o9] [.inl s1, .inl s0] (jx (jx_0 L) I) (jx_Q (jx_0 L) Q)
  have hd : jm_dc md_M_odds.2.1 92 [(.ifCond .eq 7, 3)] = true := by decide +kernel
  exact go_if_eq (by decide) hz1 hd kt kf
theorem b_M_odds_95 {L : Nat} {d : Nat} {I : jm_I} {Q : Option jm_V → jm_I → Prop} {o0 : Option jm_V} {x1 : Int} {o2 : Option jm_V} {o3 : Option jm_V} {o4 : Option jm_V} {o5 : Option jm_V} {o6 : Option jm_V} {o7 : Option jm_V} {o8 : Option jm_V} {o9 : Option jm_V} {s0 : Int}  (k : Gx (jx_0 L) d md_M_odds 103 [o0, some (.inl x1), o2, o3, o4, o5, o6, o7, o8, o9] [.inl x1, .inl s0] I Q) : Gx (jx_0 L) d md_M_odds 95 [o0, some (.inl x1), o2, o3, o4, o5, o6, o7, o8, o9] [.inl s0] I Q := by
  show jm_Go d 0 0 md_M_odds 95 [o0, some (.inl x1), o2, o3, o4, o5, o6, o7, o8, o9] [.inl s0] (jx (jx_0 L) I) (jx_Q (jx_0 L) Q)
  have hd : jm_dc md_M_odds.2.1 95 [(.iload_n 1, 1), (.goto 7, 3)] = true := by decide +kernel
  refine go_iload_n rfl hd (fun hd => ?_)
  exact go_goto (by decide) hd k
theorem b_M_odds_99 {L : Nat} {d : Nat} {I : jm_I} {Q : Option jm_V → jm_I → Prop} {o0 : Option jm_V} {x1 : Int} {o2 : Option jm_V} {o3 : Option jm_V} {o4 : Option jm_V} {o5 : Option jm_V} {o6 : Option jm_V} {o7 : Option jm_V} {o8 : Option jm_V} {o9 : Option jm_V} {s0 : Int}  (k : Gx (jx_0 L) d md_M_odds 103 [o0, some (.inl x1), o2, o3, o4, o5, o6, o7, o8, o9] [.inl (10 - x1), .inl s0] I Q) : Gx (jx_0 L) d md_M_odds 99 [o0, some (.inl x1), o2, o3, o4, o5, o6, o7, o8, o9] [.inl s0] I Q := by
  show jm_Go d 0 0 md_M_odds 99 [o0, some (.inl x1), o2, o3, o4, o5, o6, o7, o8, o9] [.inl s0] (jx (jx_0 L) I) (jx_Q (jx_0 L) Q)
  have hd : jm_dc md_M_odds.2.1 99 [(.bipush 10, 2), (.iload_n 1, 1), (.isub, 1)] = true := by decide +kernel
  refine go_bipush (by decide) hd (fun hd => ?_)
  refine go_iload_n rfl hd (fun hd => ?_)
  refine go_isub hd (fun hd => ?_)
  exact k
theorem b_M_odds_103 {L : Nat} {d : Nat} {I : jm_I} {Q : Option jm_V → jm_I → Prop} {o0 : Option jm_V} {o1 : Option jm_V} {o2 : Option jm_V} {o3 : Option jm_V} {o4 : Option jm_V} {o5 : Option jm_V} {o6 : Option jm_V} {o7 : Option jm_V} {o8 : Option jm_V} {x9 : Int} {s0 : Int} {s1 : Int}  (k : Gx (jx_0 L) d md_M_odds 76 [o0, o1, o2, o3, o4, o5, o6, o7, some (.inl (s0 * s1)), some (.inl (x9 + 1))] [] I Q) : Gx (jx_0 L) d md_M_odds 103 [o0, o1, o2, o3, o4, o5, o6, o7, o8, some (.inl x9)] [.inl s1, .inl s0] I Q := by
  show jm_Go d 0 0 md_M_odds 103 [o0, o1, o2, o3, o4, o5, o6, o7, o8, some (.inl x9)] [.inl s1, .inl s0] (jx (jx_0 L) I) (jx_Q (jx_0 L) Q)
  have hd : jm_dc md_M_odds.2.1 103 [(.imul, 1), (.istore 8, 2), (.iinc 9 1, 3), (.goto (-33), 3)] = true := by decide +kernel
  refine go_imul hd (fun hd => ?_)
  refine go_istore (by decide) hd (fun hd => ?_)
  refine go_iinc rfl hd (fun hd => ?_)
  exact go_goto (by decide) hd k
theorem b_M_odds_112 {L : Nat} {d : Nat} {I : jm_I} {Q : Option jm_V → jm_I → Prop} {o0 : Option jm_V} {o1 : Option jm_V} {o2 : Option jm_V} {o3 : Option jm_V} {o4 : Option jm_V} {x5 : Int} {o6 : Option jm_V} {x7 : Int} {x8 : Int} {o9 : Option jm_V}  (k : Gx (jx_0 L) d md_M_odds 48 [o0, o1, o2, o3, o4, some (.inl (x5 + x8)), o6, some (.inl (x7 + 1)), some (.inl x8), o9] [] I Q) : Gx (jx_0 L) d md_M_odds 112 [o0, o1, o2, o3, o4, some (.inl x5), o6, some (.inl x7), some (.inl x8), o9] [] I Q := by
  show jm_Go d 0 0 md_M_odds 112 [o0, o1, o2, o3, o4, some (.inl x5), o6, some (.inl x7), some (.inl x8), o9] [] (jx (jx_0 L) I) (jx_Q (jx_0 L) Q)
  have hd : jm_dc md_M_odds.2.1 112 [(.iload 5, 2), (.iload 8, 2), (.iadd, 1), (.istore 5, 2), (.iinc 7 1, 3), (.goto (-74), 3)] = true := by decide +kernel
  refine go_iload rfl hd (fun hd => ?_)
  refine go_iload rfl hd (fun hd => ?_)
  refine go_iadd hd (fun hd => ?_)
  refine go_istore (by decide) hd (fun hd => ?_)
  refine go_iinc rfl hd (fun hd => ?_)
  exact go_goto (by decide) hd k
theorem b_M_odds_125 {L : Nat} {d : Nat} {I : jm_I} {Q : Option jm_V → jm_I → Prop} {o0 : Option jm_V} {o1 : Option jm_V} {o2 : Option jm_V} {o3 : Option jm_V} {o4 : Option jm_V} {o5 : Option jm_V} {o6 : Option jm_V} {o7 : Option jm_V} {o8 : Option jm_V} {o9 : Option jm_V}  (k : Gx (jx_0 L) d md_M_odds 128 [o0, o1, o2, o3, o4, o5, o6, some (.inl 0), o8, o9] [] I Q) : Gx (jx_0 L) d md_M_odds 125 [o0, o1, o2, o3, o4, o5, o6, o7, o8, o9] [] I Q := by
  show jm_Go d 0 0 md_M_odds 125 [o0, o1, o2, o3, o4, o5, o6, o7, o8, o9] [] (jx (jx_0 L) I) (jx_Q (jx_0 L) Q)
  have hd : jm_dc md_M_odds.2.1 125 [(.iconst 0, 1), (.istore 7, 2)] = true := by decide +kernel
  refine go_iconst hd (fun hd => ?_)
  refine go_istore (by decide) hd (fun hd => ?_)
  exact k
theorem b_M_odds_128 {L : Nat} {d : Nat} {I : jm_I} {Q : Option jm_V → jm_I → Prop} {o0 : Option jm_V} {o1 : Option jm_V} {o2 : Option jm_V} {o3 : Option jm_V} {x4 : Int} {o5 : Option jm_V} {o6 : Option jm_V} {x7 : Int} {o8 : Option jm_V} {o9 : Option jm_V}  (hz : (-2147483648 ≤ x7 ∧ x7 < 2147483648) ∧ (-2147483648 ≤ x4 ∧ x4 < 2147483648)) (kt : x4 ≤ x7 → Gx (jx_0 L) d md_M_odds 148 [o0, o1, o2, o3, some (.inl x4), o5, o6, some (.inl x7), o8, o9] [] I Q) (kf : ¬ (x4 ≤ x7) → Gx (jx_0 L) d md_M_odds 135 [o0, o1, o2, o3, some (.inl x4), o5, o6, some (.inl x7), o8, o9] [] I Q) : Gx (jx_0 L) d md_M_odds 128 [o0, o1, o2, o3, some (.inl x4), o5, o6, some (.inl x7), o8, o9] [] I Q := by
  obtain ⟨hz1, hz2⟩ := hz
  show jm_Go d 0 0 md_M_odds 128 [o0, o1, o2, o3, some (.inl x4), o5, o6, some (.inl x7), o8, o9] [] (jx (jx_0 L) I) (jx_Q (jx_0 L) Q)
  have hd : jm_dc md_M_odds.2.1 128 [(.iload 7, 2), (.iload 4, 2), (.if_icmp .ge 16, 3)] = true := by decide +kernel
  refine go_iload rfl hd (fun hd => ?_)
  refine go_iload rfl hd (fun hd => ?_)
  exact go_icmp_ge (by decide) hz1 hz2 hd kt kf
theorem b_M_odds_135 {L : Nat} {d : Nat} {I : jm_I} {Q : Option jm_V → jm_I → Prop} {o0 : Option jm_V} {o1 : Option jm_V} {o2 : Option jm_V} {o3 : Option jm_V} {o4 : Option jm_V} {o5 : Option jm_V} {x6 : Int} {x7 : Int} {o8 : Option jm_V} {o9 : Option jm_V}  (k : Gx (jx_0 L) d md_M_odds 128 [o0, o1, o2, o3, o4, o5, some (.inl (x6 * 10)), some (.inl (x7 + 1)), o8, o9] [] I Q) : Gx (jx_0 L) d md_M_odds 135 [o0, o1, o2, o3, o4, o5, some (.inl x6), some (.inl x7), o8, o9] [] I Q := by
  show jm_Go d 0 0 md_M_odds 135 [o0, o1, o2, o3, o4, o5, some (.inl x6), some (.inl x7), o8, o9] [] (jx (jx_0 L) I) (jx_Q (jx_0 L) Q)
  have hd : jm_dc md_M_odds.2.1 135 [(.iload 6, 2), (.bipush 10, 2), (.imul, 1), (.istore 6, 2), (.iinc 7 1, 3), (.goto (-17), 3)] = true := by decide +kernel
  refine go_iload rfl hd (fun hd => ?_)
  refine go_bipush (by decide) hd (fun hd => ?_)
  refine go_imul hd (fun hd => ?_)
  refine go_istore (by decide) hd (fun hd => ?_)
  refine go_iinc rfl hd (fun hd => ?_)
  exact go_goto (by decide) hd k
theorem b_M_odds_148 {L : Nat} {d : Nat} {I : jm_I} {Q : Option jm_V → jm_I → Prop} {o0 : Option jm_V} {o1 : Option jm_V} {o2 : Option jm_V} {o3 : Option jm_V} {o4 : Option jm_V} {x5 : Int} {x6 : Int} {o7 : Option jm_V} {o8 : Option jm_V} {o9 : Option jm_V}  (k : Gx (jx_0 L) d md_M_odds 156 [o0, o1, o2, o3, o4, some (.inl x5), some (.inl x6), some (.inl x5), some (.inl x6), o9] [] I Q) : Gx (jx_0 L) d md_M_odds 148 [o0, o1, o2, o3, o4, some (.inl x5), some (.inl x6), o7, o8, o9] [] I Q := by
  show jm_Go d 0 0 md_M_odds 148 [o0, o1, o2, o3, o4, some (.inl x5), some (.inl x6), o7, o8, o9] [] (jx (jx_0 L) I) (jx_Q (jx_0 L) Q)
  have hd : jm_dc md_M_odds.2.1 148 [(.iload 5, 2), (.istore 7, 2), (.iload 6, 2), (.istore 8, 2)] = true := by decide +kernel
  refine go_iload rfl hd (fun hd => ?_)
  refine go_istore (by decide) hd (fun hd => ?_)
  refine go_iload rfl hd (fun hd => ?_)
  refine go_istore (by decide) hd (fun hd => ?_)
  exact k
theorem b_M_odds_156 {L : Nat} {d : Nat} {I : jm_I} {Q : Option jm_V → jm_I → Prop} {o0 : Option jm_V} {o1 : Option jm_V} {o2 : Option jm_V} {o3 : Option jm_V} {o4 : Option jm_V} {o5 : Option jm_V} {o6 : Option jm_V} {o7 : Option jm_V} {x8 : Int} {o9 : Option jm_V}  (hz : (-2147483648 ≤ x8 ∧ x8 < 2147483648)) (kt : x8 ≤ 0 → Gx (jx_0 L) d md_M_odds 179 [o0, o1, o2, o3, o4, o5, o6, o7, some (.inl x8), o9] [] I Q) (kf : ¬ (x8 ≤ 0) → Gx (jx_0 L) d md_M_odds 161 [o0, o1, o2, o3, o4, o5, o6, o7, some (.inl x8), o9] [] I Q) : Gx (jx_0 L) d md_M_odds 156 [o0, o1, o2, o3, o4, o5, o6, o7, some (.inl x8), o9] [] I Q := by
  have hz1 := hz
  show jm_Go d 0 0 md_M_odds 156 [o0, o1, o2, o3, o4, o5, o6, o7, some (.inl x8), o9] [] (jx (jx_0 L) I) (jx_Q (jx_0 L) Q)
  have hd : jm_dc md_M_odds.2.1 156 [(.iload 8, 2), (.ifCond .le 21, 3)] = true := by decide +kernel
  refine go_iload rfl hd (fun hd => ?_)
  exact go_if_le (by decide) hz1 hd kt kf
theorem b_M_odds_161 {L : Nat} {d : Nat} {I : jm_I} {Q : Option jm_V → jm_I → Prop} {o0 : Option jm_V} {o1 : Option jm_V} {o2 : Option jm_V} {o3 : Option jm_V} {o4 : Option jm_V} {o5 : Option jm_V} {o6 : Option jm_V} {x7 : Int} {x8 : Int} {o9 : Option jm_V}  (hz : (0 ≤ x7 ∧ x7 < 2147483648) ∧ (0 < x8 ∧ x8 < 2147483648)) (k : Gx (jx_0 L) d md_M_odds 156 [o0, o1, o2, o3, o4, o5, o6, some (.inl x8), some (.inl (x7 % x8)), some (.inl (x7 % x8))] [] I Q) : Gx (jx_0 L) d md_M_odds 161 [o0, o1, o2, o3, o4, o5, o6, some (.inl x7), some (.inl x8), o9] [] I Q := by
  obtain ⟨hz1, hz2⟩ := hz
  show jm_Go d 0 0 md_M_odds 161 [o0, o1, o2, o3, o4, o5, o6, some (.inl x7), some (.inl x8), o9] [] (jx (jx_0 L) I) (jx_Q (jx_0 L) Q)
  have hd : jm_dc md_M_odds.2.1 161 [(.iload 7, 2), (.iload 8, 2), (.irem, 1), (.istore 9, 2), (.iload 8, 2), (.istore 7, 2), (.iload 9, 2), (.istore 8, 2), (.goto (-20), 3)] = true := by decide +kernel
  refine go_iload rfl hd (fun hd => ?_)
  refine go_iload rfl hd (fun hd => ?_)
  refine go_irem hz1 hz2 hd (fun hd => ?_)
  refine go_istore (by decide) hd (fun hd => ?_)
  refine go_iload rfl hd (fun hd => ?_)
  refine go_istore (by decide) hd (fun hd => ?_)
  refine go_iload rfl hd (fun hd => ?_)
  refine go_istore (by decide) hd (fun hd => ?_)
  exact go_goto (by decide) hd k
theorem b_M_odds_179 {L : Nat} {d : Nat} {I : jm_I} {Q : Option jm_V → jm_I → Prop} {o0 : Option jm_V} {o1 : Option jm_V} {o2 : Option jm_V} {x3 : Int} {o4 : Option jm_V} {o5 : Option jm_V} {o6 : Option jm_V} {o7 : Option jm_V} {o8 : Option jm_V} {o9 : Option jm_V}  (hz : (-2147483648 ≤ x3 ∧ x3 < 2147483648)) (kt : ¬ x3 = 0 → Gx (jx_0 L) d md_M_odds 188 [o0, o1, o2, some (.inl x3), o4, o5, o6, o7, o8, o9] [] I Q) (kf : x3 = 0 → Gx (jx_0 L) d md_M_odds 183 [o0, o1, o2, some (.inl x3), o4, o5, o6, o7, o8, o9] [] I Q) : Gx (jx_0 L) d md_M_odds 179 [o0, o1, o2, some (.inl x3), o4, o5, o6, o7, o8, o9] [] I Q := by
  have hz1 := hz
  show jm_Go d 0 0 md_M_odds 179 [o0, o1, o2, some (.inl x3), o4, o5, o6, o7, o8, o9] [] (jx (jx_0 L) I) (jx_Q (jx_0 L) Q)
  have hd : jm_dc md_M_odds.2.1 179 [(.iload_n 3, 1), (.ifCond .ne 8, 3)] = true := by decide +kernel
  refine go_iload_n rfl hd (fun hd => ?_)
  exact go_if_ne (by decide) hz1 hd kt kf
theorem b_M_odds_183 {L : Nat} {d : Nat} {I : jm_I} {Q : Option jm_V → jm_I → Prop} {o0 : Option jm_V} {o1 : Option jm_V} {o2 : Option jm_V} {o3 : Option jm_V} {o4 : Option jm_V} {x5 : Int} {o6 : Option jm_V} {o7 : Option jm_V} {o8 : Option jm_V} {o9 : Option jm_V}  (k : Gx (jx_0 L) d md_M_odds 190 [o0, o1, o2, o3, o4, some (.inl x5), o6, o7, o8, o9] [.inl x5] I Q) : Gx (jx_0 L) d md_M_odds 183 [o0, o1, o2, o3, o4, some (.inl x5), o6, o7, o8, o9] [] I Q := by
  show jm_Go d 0 0 md_M_odds 183 [o0, o1, o2, o3, o4, some (.inl x5), o6, o7, o8, o9] [] (jx (jx_0 L) I) (jx_Q (jx_0 L) Q)
  have hd : jm_dc md_M_odds.2.1 183 [(.iload 5, 2), (.goto 5, 3)] = true := by decide +kernel
  refine go_iload rfl hd (fun hd => ?_)
  exact go_goto (by decide) hd k
theorem b_M_odds_188 {L : Nat} {d : Nat} {I : jm_I} {Q : Option jm_V → jm_I → Prop} {o0 : Option jm_V} {o1 : Option jm_V} {o2 : Option jm_V} {o3 : Option jm_V} {o4 : Option jm_V} {o5 : Option jm_V} {x6 : Int} {o7 : Option jm_V} {o8 : Option jm_V} {o9 : Option jm_V}  (k : Gx (jx_0 L) d md_M_odds 190 [o0, o1, o2, o3, o4, o5, some (.inl x6), o7, o8, o9] [.inl x6] I Q) : Gx (jx_0 L) d md_M_odds 188 [o0, o1, o2, o3, o4, o5, some (.inl x6), o7, o8, o9] [] I Q := by
  show jm_Go d 0 0 md_M_odds 188 [o0, o1, o2, o3, o4, o5, some (.inl x6), o7, o8, o9] [] (jx (jx_0 L) I) (jx_Q (jx_0 L) Q)
  have hd : jm_dc md_M_odds.2.1 188 [(.iload 6, 2)] = true := by decide +kernel
  refine go_iload rfl hd (fun hd => ?_)
  exact k
theorem b_M_odds_190 {L : Nat} {d : Nat} {I : jm_I} {Q : Option jm_V → jm_I → Prop} {o0 : Option jm_V} {o1 : Option jm_V} {o2 : Option jm_V} {o3 : Option jm_V} {o4 : Option jm_V} {o5 : Option jm_V} {o6 : Option jm_V} {x7 : Int} {o8 : Option jm_V} {o9 : Option jm_V} {s0 : Int}  (hz : (0 ≤ s0 ∧ s0 < 2147483648) ∧ (0 < x7 ∧ x7 < 2147483648)) (k : Q (some (.inl (s0 / x7))) I) : Gx (jx_0 L) d md_M_odds 190 [o0, o1, o2, o3, o4, o5, o6, some (.inl x7), o8, o9] [.inl s0] I Q := by
  obtain ⟨hz1, hz2⟩ := hz
  show jm_Go d 0 0 md_M_odds 190 [o0, o1, o2, o3, o4, o5, o6, some (.inl x7), o8, o9] [.inl s0] (jx (jx_0 L) I) (jx_Q (jx_0 L) Q)
  have hd : jm_dc md_M_odds.2.1 190 [(.iload 7, 2), (.idiv, 1), (.ireturn, 1)] = true := by decide +kernel
  refine go_iload rfl hd (fun hd => ?_)
  refine go_idiv hz1 hz2 hd (fun hd => ?_)
  exact go_ireturn hd rfl ⟨_, rfl, k⟩
theorem b_M_worth_0 {L : Nat} {d : Nat} {I : jm_I} {Q : Option jm_V → jm_I → Prop} {x1 : Int}  (k : Cx (jx_0 L) d md_M_isPerson [.inr (.inl 167), .inl x1] I (fun v J => Gx (jx_0 L) (d + 1) md_M_worth 5 [some (.inr (.inl 167)), some (.inl x1), none, none, none, none] (v.toList ++ []) J Q)) : Cx (jx_0 L) (d + 1) md_M_worth [.inr (.inl 167), .inl x1] I Q := by
  show jm_Go (d + 1) 0 0 md_M_worth 0 [some (.inr (.inl 167)), some (.inl x1), none, none, none, none] [] (jx (jx_0 L) I) (jx_Q (jx_0 L) Q)
  have hd : jm_dc md_M_worth.2.1 0 [(.aload_n 0, 1), (.iload_n 1, 1), (.invokevirtual 164, 3)] = true := by decide +kernel
  refine go_aload_n rfl hd (fun hd => ?_)
  refine go_iload_n rfl hd (fun hd => ?_)
  exact gx_virtual 167 9 [.inl x1] [] mk_M_isPerson co_X9 rfl ml_9_164 in_M_isPerson se_M_isPerson rfl rfl (Nat.le_of_ble_eq_true rfl) rfl (Nat.le_of_ble_eq_true rfl) rfl hd k
theorem b_M_worth_5 {L : Nat} {d : Nat} {I : jm_I} {Q : Option jm_V → jm_I → Prop} {o0 : Option jm_V} {o1 : Option jm_V} {o2 : Option jm_V} {o3 : Option jm_V} {o4 : Option jm_V} {o5 : Option jm_V} {s0 : Int}  (hz : (-2147483648 ≤ s0 ∧ s0 < 2147483648)) (kt : ¬ s0 = 0 → Gx (jx_0 L) d md_M_worth 10 [o0, o1, o2, o3, o4, o5] [] I Q) (kf : s0 = 0 → Gx (jx_0 L) d md_M_worth 8 [o0, o1, o2, o3, o4, o5] [] I Q) : Gx (jx_0 L) d md_M_worth 5 [o0, o1, o2, o3, o4, o5] [.inl s0] I Q := by
  have hz1 := hz
  show jm_Go d 0 0 md_M_worth 5 [o0, o1, o2, o3, o4, o5] [.inl s0] (jx (jx_0 L) I) (jx_Q (jx_0 L) Q)
  have hd : jm_dc md_M_worth.2.1 5 [(.ifCond .ne 5, 3)] = true := by decide +kernel
  exact go_if_ne (by decide) hz1 hd kt kf
theorem b_M_worth_8 {L : Nat} {d : Nat} {I : jm_I} {Q : Option jm_V → jm_I → Prop} {o0 : Option jm_V} {o1 : Option jm_V} {o2 : Option jm_V} {o3 : Option jm_V} {o4 : Option jm_V} {o5 : Option jm_V}  (k : Q (some (.inl (-1))) I) : Gx (jx_0 L) d md_M_worth 8 [o0, o1, o2, o3, o4, o5] [] I Q := by
  show jm_Go d 0 0 md_M_worth 8 [o0, o1, o2, o3, o4, o5] [] (jx (jx_0 L) I) (jx_Q (jx_0 L) Q)
  have hd : jm_dc md_M_worth.2.1 8 [(.iconst (-1), 1), (.ireturn, 1)] = true := by decide +kernel
  refine go_iconst hd (fun hd => ?_)
  exact go_ireturn hd rfl ⟨_, rfl, k⟩
theorem b_M_worth_10 {L : Nat} {d : Nat} {I : jm_I} {Q : Option jm_V → jm_I → Prop} {o1 : Option jm_V} {o2 : Option jm_V} {o3 : Option jm_V} {o4 : Option jm_V} {o5 : Option jm_V}  (k : Cx (jx_0 L) d md_M_findFar [.inr (.inl 167), .inl 0] I (fun v J => Gx (jx_0 L) (d + 1) md_M_worth 15 [some (.inr (.inl 167)), o1, o2, o3, o4, o5] (v.toList ++ []) J Q)) : Gx (jx_0 L) (d + 1) md_M_worth 10 [some (.inr (.inl 167)), o1, o2, o3, o4, o5] [] I Q := by
  show jm_Go (d + 1) 0 0 md_M_worth 10 [some (.inr (.inl 167)), o1, o2, o3, o4, o5] [] (jx (jx_0 L) I) (jx_Q (jx_0 L) Q)
  have hd : jm_dc md_M_worth.2.1 10 [(.aload_n 0, 1), (.iconst 0, 1), (.invokevirtual 181, 3)] = true := by decide +kernel
  refine go_aload_n rfl hd (fun hd => ?_)
  refine go_iconst hd (fun hd => ?_)
  exact gx_virtual 167 9 [.inl 0] [] mk_M_findFar co_X9 rfl ml_9_181 in_M_findFar se_M_findFar rfl rfl (Nat.le_of_ble_eq_true rfl) rfl (Nat.le_of_ble_eq_true rfl) rfl hd k
theorem b_M_worth_15 {L : Nat} {d : Nat} {I : jm_I} {Q : Option jm_V → jm_I → Prop} {o0 : Option jm_V} {o1 : Option jm_V} {o2 : Option jm_V} {o3 : Option jm_V} {o4 : Option jm_V} {o5 : Option jm_V}  (k : Gx (jx_0 L) d md_M_worth 19 [o0, o1, some (.inl 0), some (.inl 0), o4, o5] [] I Q) : Gx (jx_0 L) d md_M_worth 15 [o0, o1, o2, o3, o4, o5] [] I Q := by
  show jm_Go d 0 0 md_M_worth 15 [o0, o1, o2, o3, o4, o5] [] (jx (jx_0 L) I) (jx_Q (jx_0 L) Q)
  have hd : jm_dc md_M_worth.2.1 15 [(.iconst 0, 1), (.istore_n 2, 1), (.iconst 0, 1), (.istore_n 3, 1)] = true := by decide +kernel
  refine go_iconst hd (fun hd => ?_)
  refine go_istore_n (by decide) hd (fun hd => ?_)
  refine go_iconst hd (fun hd => ?_)
  refine go_istore_n (by decide) hd (fun hd => ?_)
  exact k
theorem b_M_worth_19 {L : Nat} {d : Nat} {I : jm_I} {Q : Option jm_V → jm_I → Prop} {o1 : Option jm_V} {o2 : Option jm_V} {x3 : Int} {o4 : Option jm_V} {o5 : Option jm_V}  (hz : (-2147483648 ≤ x3 ∧ x3 < 2147483648) ∧ (-2147483648 ≤ (I 167 5) * (I 167 0) ∧ (I 167 5) * (I 167 0) < 2147483648)) (kt : ((I 167 5) * (I 167 0)) ≤ x3 → Gx (jx_0 L) d md_M_worth 89 [some (.inr (.inl 167)), o1, o2, some (.inl x3), o4, o5] [] I Q) (kf : ¬ (((I 167 5) * (I 167 0)) ≤ x3) → Gx (jx_0 L) d md_M_worth 32 [some (.inr (.inl 167)), o1, o2, some (.inl x3), o4, o5] [] I Q) : Gx (jx_0 L) d md_M_worth 19 [some (.inr (.inl 167)), o1, o2, some (.inl x3), o4, o5] [] I Q := by
  obtain ⟨hz1, hz2⟩ := hz
  show jm_Go d 0 0 md_M_worth 19 [some (.inr (.inl 167)), o1, o2, some (.inl x3), o4, o5] [] (jx (jx_0 L) I) (jx_Q (jx_0 L) Q)
  have hd : jm_dc md_M_worth.2.1 19 [(.iload_n 3, 1), (.aload_n 0, 1), (.getfield 85, 3), (.aload_n 0, 1), (.getfield 7, 3), (.imul, 1), (.if_icmp .ge 60, 3)] = true := by decide +kernel
  refine go_iload_n rfl hd (fun hd => ?_)
  refine go_aload_n rfl hd (fun hd => ?_)
  refine go_getI co_X9 fl_9_85 (by decide) (Or.inl rfl) rfl hd (fun hd => ?_)
  refine go_aload_n rfl hd (fun hd => ?_)
  refine go_getI co_X9 fl_9_7 (by decide) (Or.inl rfl) rfl hd (fun hd => ?_)
  refine go_imul hd (fun hd => ?_)
  exact go_icmp_ge (by decide) hz1 hz2 hd kt kf
theorem b_M_worth_32 {L : Nat} {d : Nat} {I : jm_I} {Q : Option jm_V → jm_I → Prop} {o1 : Option jm_V} {x2 : Int} {x3 : Int} {o4 : Option jm_V} {o5 : Option jm_V}  (hz : (0 ≤ x3 ∧ x3 < 2147483648) ∧ (0 < I 167 0 ∧ I 167 0 < 2147483648) ∧ (0 ≤ x3 ∧ x3 < 2147483648) ∧ (0 < I 167 0 ∧ I 167 0 < 2147483648) ∧ (0 ≤ 17 + (x3 / (I 167 0)) ∧ 17 + (x3 / (I 167 0)) < 27) ∧ (-2147483648 ≤ I 171 (17 + (x3 / (I 167 0))).toNat ∧ I 171 (17 + (x3 / (I 167 0))).toNat < 2147483648) ∧ (-2147483648 ≤ x3 % (I 167 0) ∧ x3 % (I 167 0) < 2147483648)) (kt : (I 171 (17 + (x3 / (I 167 0))).toNat) = (x3 % (I 167 0)) → Gx (jx_0 L) d md_M_worth 80 [some (.inr (.inl 167)), o1, some (.inl x2), some (.inl x3), some (.inl (x3 / (I 167 0))), some (.inl (x3 % (I 167 0)))] [.inl x2] I Q) (kf : ¬ (I 171 (17 + (x3 / (I 167 0))).toNat) = (x3 % (I 167 0)) → Gx (jx_0 L) d md_M_worth 64 [some (.inr (.inl 167)), o1, some (.inl x2), some (.inl x3), some (.inl (x3 / (I 167 0))), some (.inl (x3 % (I 167 0)))] [.inl x2] I Q) : Gx (jx_0 L) d md_M_worth 32 [some (.inr (.inl 167)), o1, some (.inl x2), some (.inl x3), o4, o5] [] I Q := by
  obtain ⟨hz1, hz2, hz3, hz4, hz5, hz6, hz7⟩ := hz
  show jm_Go d 0 0 md_M_worth 32 [some (.inr (.inl 167)), o1, some (.inl x2), some (.inl x3), o4, o5] [] (jx (jx_0 L) I) (jx_Q (jx_0 L) Q)
  have hd : jm_dc md_M_worth.2.1 32 [(.iload_n 3, 1), (.aload_n 0, 1), (.getfield 7, 3), (.idiv, 1), (.istore 4, 2), (.iload_n 3, 1), (.aload_n 0, 1), (.getfield 7, 3), (.irem, 1), (.istore 5, 2), (.iload_n 2, 1), (.aload_n 0, 1), (.getfield 26, 3), (.bipush 17, 2), (.iload 4, 2), (.iadd, 1), (.iaload, 1), (.iload 5, 2), (.if_icmp .eq 19, 3)] = true := by decide +kernel
  refine go_iload_n rfl hd (fun hd => ?_)
  refine go_aload_n rfl hd (fun hd => ?_)
  refine go_getI co_X9 fl_9_7 (by decide) (Or.inl rfl) rfl hd (fun hd => ?_)
  refine go_idiv hz1 hz2 hd (fun hd => ?_)
  refine go_istore (by decide) hd (fun hd => ?_)
  refine go_iload_n rfl hd (fun hd => ?_)
  refine go_aload_n rfl hd (fun hd => ?_)
  refine go_getI co_X9 fl_9_7 (by decide) (Or.inl rfl) rfl hd (fun hd => ?_)
  refine go_irem hz3 hz4 hd (fun hd => ?_)
  refine go_istore (by decide) hd (fun hd => ?_)
  refine go_iload_n rfl hd (fun hd => ?_)
  refine go_aload_n rfl hd (fun hd => ?_)
  refine go_getR co_X9 fl_9_26 (by decide) rfl rfl rfl hd (fun hd => ?_)
  refine go_bipush (by decide) hd (fun hd => ?_)
  refine go_iload rfl hd (fun hd => ?_)
  refine go_iadd hd (fun hd => ?_)
  refine go_iaload rfl hz5.1 hz5.2 (by decide) hd (fun hd => ?_)
  refine go_iload rfl hd (fun hd => ?_)
  exact go_icmp_eq (by decide) hz6 hz7 hd kt kf
theorem b_M_worth_64 {L : Nat} {d : Nat} {I : jm_I} {Q : Option jm_V → jm_I → Prop} {x1 : Int} {o2 : Option jm_V} {o3 : Option jm_V} {x4 : Int} {x5 : Int} {s0 : Int}  (k : Cx (jx_0 L) d md_M_canCarry [.inr (.inl 167), .inl x1, .inl x4, .inl x5] I (fun v J => Gx (jx_0 L) (d + 1) md_M_worth 73 [some (.inr (.inl 167)), some (.inl x1), o2, o3, some (.inl x4), some (.inl x5)] (v.toList ++ [.inl s0]) J Q)) : Gx (jx_0 L) (d + 1) md_M_worth 64 [some (.inr (.inl 167)), some (.inl x1), o2, o3, some (.inl x4), some (.inl x5)] [.inl s0] I Q := by
  show jm_Go (d + 1) 0 0 md_M_worth 64 [some (.inr (.inl 167)), some (.inl x1), o2, o3, some (.inl x4), some (.inl x5)] [.inl s0] (jx (jx_0 L) I) (jx_Q (jx_0 L) Q)
  have hd : jm_dc md_M_worth.2.1 64 [(.aload_n 0, 1), (.iload_n 1, 1), (.iload 4, 2), (.iload 5, 2), (.invokevirtual 248, 3)] = true := by decide +kernel
  refine go_aload_n rfl hd (fun hd => ?_)
  refine go_iload_n rfl hd (fun hd => ?_)
  refine go_iload rfl hd (fun hd => ?_)
  refine go_iload rfl hd (fun hd => ?_)
  exact gx_virtual 167 9 [.inl x1, .inl x4, .inl x5] [.inl s0] mk_M_canCarry co_X9 rfl ml_9_248 in_M_canCarry se_M_canCarry rfl rfl (Nat.le_of_ble_eq_true rfl) rfl (Nat.le_of_ble_eq_true rfl) rfl hd k
theorem b_M_worth_73 {L : Nat} {d : Nat} {I : jm_I} {Q : Option jm_V → jm_I → Prop} {o0 : Option jm_V} {o1 : Option jm_V} {o2 : Option jm_V} {o3 : Option jm_V} {o4 : Option jm_V} {o5 : Option jm_V} {s0 : Int} {s1 : Int}  (hz : (-2147483648 ≤ s1 ∧ s1 < 2147483648)) (kt : s1 = 0 → Gx (jx_0 L) d md_M_worth 80 [o0, o1, o2, o3, o4, o5] [.inl s0] I Q) (kf : ¬ s1 = 0 → Gx (jx_0 L) d md_M_worth 76 [o0, o1, o2, o3, o4, o5] [.inl s0] I Q) : Gx (jx_0 L) d md_M_worth 73 [o0, o1, o2, o3, o4, o5] [.inl s1, .inl s0] I Q := by
  have hz1 := hz
  show jm_Go d 0 0 md_M_worth 73 [o0, o1, o2, o3, o4, o5] [.inl s1, .inl s0] (jx (jx_0 L) I) (jx_Q (jx_0 L) Q)
  have hd : jm_dc md_M_worth.2.1 73 [(.ifCond .eq 7, 3)] = true := by decide +kernel
  exact go_if_eq (by decide) hz1 hd kt kf
theorem b_M_worth_76 {L : Nat} {d : Nat} {I : jm_I} {Q : Option jm_V → jm_I → Prop} {o0 : Option jm_V} {o1 : Option jm_V} {o2 : Option jm_V} {o3 : Option jm_V} {o4 : Option jm_V} {o5 : Option jm_V} {s0 : Int}  (k : Gx (jx_0 L) d md_M_worth 81 [o0, o1, o2, o3, o4, o5] [.inl 1, .inl s0] I Q) : Gx (jx_0 L) d md_M_worth 76 [o0, o1, o2, o3, o4, o5] [.inl s0] I Q := by
  show jm_Go d 0 0 md_M_worth 76 [o0, o1, o2, o3, o4, o5] [.inl s0] (jx (jx_0 L) I) (jx_Q (jx_0 L) Q)
  have hd : jm_dc md_M_worth.2.1 76 [(.iconst 1, 1), (.goto 4, 3)] = true := by decide +kernel
  refine go_iconst hd (fun hd => ?_)
  exact go_goto (by decide) hd k
theorem b_M_worth_80 {L : Nat} {d : Nat} {I : jm_I} {Q : Option jm_V → jm_I → Prop} {o0 : Option jm_V} {o1 : Option jm_V} {o2 : Option jm_V} {o3 : Option jm_V} {o4 : Option jm_V} {o5 : Option jm_V} {s0 : Int}  (k : Gx (jx_0 L) d md_M_worth 81 [o0, o1, o2, o3, o4, o5] [.inl 0, .inl s0] I Q) : Gx (jx_0 L) d md_M_worth 80 [o0, o1, o2, o3, o4, o5] [.inl s0] I Q := by
  show jm_Go d 0 0 md_M_worth 80 [o0, o1, o2, o3, o4, o5] [.inl s0] (jx (jx_0 L) I) (jx_Q (jx_0 L) Q)
  have hd : jm_dc md_M_worth.2.1 80 [(.iconst 0, 1)] = true := by decide +kernel
  refine go_iconst hd (fun hd => ?_)
  exact k
theorem b_M_worth_81 {L : Nat} {d : Nat} {I : jm_I} {Q : Option jm_V → jm_I → Prop} {o0 : Option jm_V} {o1 : Option jm_V} {o2 : Option jm_V} {x3 : Int} {o4 : Option jm_V} {o5 : Option jm_V} {s0 : Int} {s1 : Int}  (k : Gx (jx_0 L) d md_M_worth 19 [o0, o1, some (.inl (s0 + s1)), some (.inl (x3 + 1)), o4, o5] [] I Q) : Gx (jx_0 L) d md_M_worth 81 [o0, o1, o2, some (.inl x3), o4, o5] [.inl s1, .inl s0] I Q := by
  show jm_Go d 0 0 md_M_worth 81 [o0, o1, o2, some (.inl x3), o4, o5] [.inl s1, .inl s0] (jx (jx_0 L) I) (jx_Q (jx_0 L) Q)
  have hd : jm_dc md_M_worth.2.1 81 [(.iadd, 1), (.istore_n 2, 1), (.iinc 3 1, 3), (.goto (-67), 3)] = true := by decide +kernel
  refine go_iadd hd (fun hd => ?_)
  refine go_istore_n (by decide) hd (fun hd => ?_)
  refine go_iinc rfl hd (fun hd => ?_)
  exact go_goto (by decide) hd k
theorem b_M_worth_89 {L : Nat} {d : Nat} {I : jm_I} {Q : Option jm_V → jm_I → Prop} {o0 : Option jm_V} {o1 : Option jm_V} {x2 : Int} {o3 : Option jm_V} {o4 : Option jm_V} {o5 : Option jm_V}  (k : Q (some (.inl x2)) I) : Gx (jx_0 L) d md_M_worth 89 [o0, o1, some (.inl x2), o3, o4, o5] [] I Q := by
  show jm_Go d 0 0 md_M_worth 89 [o0, o1, some (.inl x2), o3, o4, o5] [] (jx (jx_0 L) I) (jx_Q (jx_0 L) Q)
  have hd : jm_dc md_M_worth.2.1 89 [(.iload_n 2, 1), (.ireturn, 1)] = true := by decide +kernel
  refine go_iload_n rfl hd (fun hd => ?_)
  exact go_ireturn hd rfl ⟨_, rfl, k⟩
theorem b_M_rate_0 {L : Nat} {d : Nat} {I : jm_I} {Q : Option jm_V → jm_I → Prop} {x1 : Int} {x2 : Int}  (k : Cx (jx_0 L) d md_M_in [.inl x1, .inl 0, .inl 5] I (fun v J => Gx (jx_0 L) (d + 1) md_M_rate 6 [some (.inr (.inl 167)), some (.inl x1), some (.inl x2)] (v.toList ++ []) J Q)) : Cx (jx_0 L) (d + 1) md_M_rate [.inr (.inl 167), .inl x1, .inl x2] I Q := by
  show jm_Go (d + 1) 0 0 md_M_rate 0 [some (.inr (.inl 167)), some (.inl x1), some (.inl x2)] [] (jx (jx_0 L) I) (jx_Q (jx_0 L) Q)
  have hd : jm_dc md_M_rate.2.1 0 [(.iload_n 1, 1), (.iconst 0, 1), (.iconst 5, 1), (.invokestatic 78, 3)] = true := by decide +kernel
  refine go_iload_n rfl hd (fun hd => ?_)
  refine go_iconst hd (fun hd => ?_)
  refine go_iconst hd (fun hd => ?_)
  exact gx_static [.inl x1, .inl 0, .inl 5] [] mk_M_in ml_9_78 st_M_in rfl (Nat.le_of_ble_eq_true rfl) rfl (Nat.le_of_ble_eq_true rfl) rfl hd k
theorem b_M_rate_6 {L : Nat} {d : Nat} {I : jm_I} {Q : Option jm_V → jm_I → Prop} {o0 : Option jm_V} {o1 : Option jm_V} {o2 : Option jm_V} {s0 : Int}  (hz : (-2147483648 ≤ s0 ∧ s0 < 2147483648)) (kt : s0 = 0 → Gx (jx_0 L) d md_M_rate 17 [o0, o1, o2] [] I Q) (kf : ¬ s0 = 0 → Gx (jx_0 L) d md_M_rate 9 [o0, o1, o2] [] I Q) : Gx (jx_0 L) d md_M_rate 6 [o0, o1, o2] [.inl s0] I Q := by
  have hz1 := hz
  show jm_Go d 0 0 md_M_rate 6 [o0, o1, o2] [.inl s0] (jx (jx_0 L) I) (jx_Q (jx_0 L) Q)
  have hd : jm_dc md_M_rate.2.1 6 [(.ifCond .eq 11, 3)] = true := by decide +kernel
  exact go_if_eq (by decide) hz1 hd kt kf
theorem b_M_rate_9 {L : Nat} {d : Nat} {I : jm_I} {Q : Option jm_V → jm_I → Prop} {o1 : Option jm_V} {x2 : Int}  (k : Cx (jx_0 L) d md_M_isPerson [.inr (.inl 167), .inl x2] I (fun v J => Gx (jx_0 L) (d + 1) md_M_rate 14 [some (.inr (.inl 167)), o1, some (.inl x2)] (v.toList ++ []) J Q)) : Gx (jx_0 L) (d + 1) md_M_rate 9 [some (.inr (.inl 167)), o1, some (.inl x2)] [] I Q := by
  show jm_Go (d + 1) 0 0 md_M_rate 9 [some (.inr (.inl 167)), o1, some (.inl x2)] [] (jx (jx_0 L) I) (jx_Q (jx_0 L) Q)
  have hd : jm_dc md_M_rate.2.1 9 [(.aload_n 0, 1), (.iload_n 2, 1), (.invokevirtual 164, 3)] = true := by decide +kernel
  refine go_aload_n rfl hd (fun hd => ?_)
  refine go_iload_n rfl hd (fun hd => ?_)
  exact gx_virtual 167 9 [.inl x2] [] mk_M_isPerson co_X9 rfl ml_9_164 in_M_isPerson se_M_isPerson rfl rfl (Nat.le_of_ble_eq_true rfl) rfl (Nat.le_of_ble_eq_true rfl) rfl hd k
theorem b_M_rate_14 {L : Nat} {d : Nat} {I : jm_I} {Q : Option jm_V → jm_I → Prop} {o0 : Option jm_V} {o1 : Option jm_V} {o2 : Option jm_V} {s0 : Int}  (hz : (-2147483648 ≤ s0 ∧ s0 < 2147483648)) (kt : ¬ s0 = 0 → Gx (jx_0 L) d md_M_rate 20 [o0, o1, o2] [] I Q) (kf : s0 = 0 → Gx (jx_0 L) d md_M_rate 17 [o0, o1, o2] [] I Q) : Gx (jx_0 L) d md_M_rate 14 [o0, o1, o2] [.inl s0] I Q := by
  have hz1 := hz
  show jm_Go d 0 0 md_M_rate 14 [o0, o1, o2] [.inl s0] (jx (jx_0 L) I) (jx_Q (jx_0 L) Q)
  have hd : jm_dc md_M_rate.2.1 14 [(.ifCond .ne 6, 3)] = true := by decide +kernel
  exact go_if_ne (by decide) hz1 hd kt kf
theorem b_M_rate_17 {L : Nat} {d : Nat} {I : jm_I} {Q : Option jm_V → jm_I → Prop} {o0 : Option jm_V} {o1 : Option jm_V} {o2 : Option jm_V}  (k : Q (some (.inl (-1000000))) I) : Gx (jx_0 L) d md_M_rate 17 [o0, o1, o2] [] I Q := by
  show jm_Go d 0 0 md_M_rate 17 [o0, o1, o2] [] (jx (jx_0 L) I) (jx_Q (jx_0 L) Q)
  have hd : jm_dc md_M_rate.2.1 17 [(.ldc 251, 2), (.ireturn, 1)] = true := by decide +kernel
  refine go_ldc (-1000000) (-1000000) (by decide) kc_9_251 hd (fun hd => ?_)
  exact go_ireturn hd rfl ⟨_, rfl, k⟩
theorem b_M_rate_20 {L : Nat} {d : Nat} {I : jm_I} {Q : Option jm_V → jm_I → Prop} {o0 : Option jm_V} {x1 : Int} {o2 : Option jm_V}  (hz : (-2147483648 ≤ x1 ∧ x1 < 2147483648)) (k0 : x1 = 0 → Gx (jx_0 L) d md_M_rate 56 [o0, some (.inl x1), o2] [] I Q) (k1 : x1 = 1 → Gx (jx_0 L) d md_M_rate 62 [o0, some (.inl x1), o2] [] I Q) (k2 : x1 = 2 → Gx (jx_0 L) d md_M_rate 68 [o0, some (.inl x1), o2] [] I Q) (k3 : x1 = 3 → Gx (jx_0 L) d md_M_rate 74 [o0, some (.inl x1), o2] [] I Q) (k4 : x1 = 4 → Gx (jx_0 L) d md_M_rate 94 [o0, some (.inl x1), o2] [] I Q) (kd : (x1 < 0 ∨ 4 < x1) → Gx (jx_0 L) d md_M_rate 114 [o0, some (.inl x1), o2] [] I Q) : Gx (jx_0 L) d md_M_rate 20 [o0, some (.inl x1), o2] [] I Q := by
  have hz1 := hz
  show jm_Go d 0 0 md_M_rate 20 [o0, some (.inl x1), o2] [] (jx (jx_0 L) I) (jx_Q (jx_0 L) Q)
  have hd : jm_dc md_M_rate.2.1 20 [(.iload_n 1, 1), (.tableswitch 93 0 4 #[35, 41, 47, 53, 73], 35)] = true := by decide +kernel
  refine go_iload_n rfl hd (fun hd => ?_)
  by_cases hq : x1 < 0 ∨ 4 < x1
  · exact go_tableOut (a := x1) hz1 hq (by decide) hd (kd hq)
  · rcases (show x1 = 0 ∨ x1 = 1 ∨ x1 = 2 ∨ x1 = 3 ∨ x1 = 4 by omega) with hq0 | hq1 | hq2 | hq3 | hq4
    · exact go_tableIn (a := x1) (off := 35) (t := 56) hz1 (by omega) (by omega) (by rw [hq0]; rfl) (by decide) hd (k0 hq0)
    · exact go_tableIn (a := x1) (off := 41) (t := 62) hz1 (by omega) (by omega) (by rw [hq1]; rfl) (by decide) hd (k1 hq1)
    · exact go_tableIn (a := x1) (off := 47) (t := 68) hz1 (by omega) (by omega) (by rw [hq2]; rfl) (by decide) hd (k2 hq2)
    · exact go_tableIn (a := x1) (off := 53) (t := 74) hz1 (by omega) (by omega) (by rw [hq3]; rfl) (by decide) hd (k3 hq3)
    · exact go_tableIn (a := x1) (off := 73) (t := 94) hz1 (by omega) (by omega) (by rw [hq4]; rfl) (by decide) hd (k4 hq4)
theorem b_M_rate_56 {L : Nat} {d : Nat} {I : jm_I} {Q : Option jm_V → jm_I → Prop} {o1 : Option jm_V} {x2 : Int}  (k : Cx (jx_0 L) d md_M_personRate [.inr (.inl 167), .inl x2] I (fun v J => Gx (jx_0 L) (d + 1) md_M_rate 61 [some (.inr (.inl 167)), o1, some (.inl x2)] (v.toList ++ []) J Q)) : Gx (jx_0 L) (d + 1) md_M_rate 56 [some (.inr (.inl 167)), o1, some (.inl x2)] [] I Q := by
  show jm_Go (d + 1) 0 0 md_M_rate 56 [some (.inr (.inl 167)), o1, some (.inl x2)] [] (jx (jx_0 L) I) (jx_Q (jx_0 L) Q)
  have hd : jm_dc md_M_rate.2.1 56 [(.aload_n 0, 1), (.iload_n 2, 1), (.invokevirtual 267, 3)] = true := by decide +kernel
  refine go_aload_n rfl hd (fun hd => ?_)
  refine go_iload_n rfl hd (fun hd => ?_)
  exact gx_virtual 167 9 [.inl x2] [] mk_M_personRate co_X9 rfl ml_9_267 in_M_personRate se_M_personRate rfl rfl (Nat.le_of_ble_eq_true rfl) rfl (Nat.le_of_ble_eq_true rfl) rfl hd k
theorem b_M_rate_61 {L : Nat} {d : Nat} {I : jm_I} {Q : Option jm_V → jm_I → Prop} {o0 : Option jm_V} {o1 : Option jm_V} {o2 : Option jm_V} {s0 : Int}  (k : Q (some (.inl s0)) I) : Gx (jx_0 L) d md_M_rate 61 [o0, o1, o2] [.inl s0] I Q := by
  show jm_Go d 0 0 md_M_rate 61 [o0, o1, o2] [.inl s0] (jx (jx_0 L) I) (jx_Q (jx_0 L) Q)
  have hd : jm_dc md_M_rate.2.1 61 [(.ireturn, 1)] = true := by decide +kernel
  exact go_ireturn hd rfl ⟨_, rfl, k⟩
theorem b_M_rate_62 {L : Nat} {d : Nat} {I : jm_I} {Q : Option jm_V → jm_I → Prop} {o1 : Option jm_V} {x2 : Int}  (k : Cx (jx_0 L) d md_M_barberRate [.inr (.inl 167), .inl x2] I (fun v J => Gx (jx_0 L) (d + 1) md_M_rate 67 [some (.inr (.inl 167)), o1, some (.inl x2)] (v.toList ++ []) J Q)) : Gx (jx_0 L) (d + 1) md_M_rate 62 [some (.inr (.inl 167)), o1, some (.inl x2)] [] I Q := by
  show jm_Go (d + 1) 0 0 md_M_rate 62 [some (.inr (.inl 167)), o1, some (.inl x2)] [] (jx (jx_0 L) I) (jx_Q (jx_0 L) Q)
  have hd : jm_dc md_M_rate.2.1 62 [(.aload_n 0, 1), (.iload_n 2, 1), (.invokevirtual 272, 3)] = true := by decide +kernel
  refine go_aload_n rfl hd (fun hd => ?_)
  refine go_iload_n rfl hd (fun hd => ?_)
  exact gx_virtual 167 9 [.inl x2] [] mk_M_barberRate co_X9 rfl ml_9_272 in_M_barberRate se_M_barberRate rfl rfl (Nat.le_of_ble_eq_true rfl) rfl (Nat.le_of_ble_eq_true rfl) rfl hd k
theorem b_M_rate_67 {L : Nat} {d : Nat} {I : jm_I} {Q : Option jm_V → jm_I → Prop} {o0 : Option jm_V} {o1 : Option jm_V} {o2 : Option jm_V} {s0 : Int}  (k : Q (some (.inl s0)) I) : Gx (jx_0 L) d md_M_rate 67 [o0, o1, o2] [.inl s0] I Q := by
  show jm_Go d 0 0 md_M_rate 67 [o0, o1, o2] [.inl s0] (jx (jx_0 L) I) (jx_Q (jx_0 L) Q)
  have hd : jm_dc md_M_rate.2.1 67 [(.ireturn, 1)] = true := by decide +kernel
  exact go_ireturn hd rfl ⟨_, rfl, k⟩
theorem b_M_rate_68 {L : Nat} {d : Nat} {I : jm_I} {Q : Option jm_V → jm_I → Prop} {o1 : Option jm_V} {x2 : Int}  (k : Cx (jx_0 L) d md_M_thiefRate [.inr (.inl 167), .inl x2] I (fun v J => Gx (jx_0 L) (d + 1) md_M_rate 73 [some (.inr (.inl 167)), o1, some (.inl x2)] (v.toList ++ []) J Q)) : Gx (jx_0 L) (d + 1) md_M_rate 68 [some (.inr (.inl 167)), o1, some (.inl x2)] [] I Q := by
  show jm_Go (d + 1) 0 0 md_M_rate 68 [some (.inr (.inl 167)), o1, some (.inl x2)] [] (jx (jx_0 L) I) (jx_Q (jx_0 L) Q)
  have hd : jm_dc md_M_rate.2.1 68 [(.aload_n 0, 1), (.iload_n 2, 1), (.invokevirtual 275, 3)] = true := by decide +kernel
  refine go_aload_n rfl hd (fun hd => ?_)
  refine go_iload_n rfl hd (fun hd => ?_)
  exact gx_virtual 167 9 [.inl x2] [] mk_M_thiefRate co_X9 rfl ml_9_275 in_M_thiefRate se_M_thiefRate rfl rfl (Nat.le_of_ble_eq_true rfl) rfl (Nat.le_of_ble_eq_true rfl) rfl hd k
theorem b_M_rate_73 {L : Nat} {d : Nat} {I : jm_I} {Q : Option jm_V → jm_I → Prop} {o0 : Option jm_V} {o1 : Option jm_V} {o2 : Option jm_V} {s0 : Int}  (k : Q (some (.inl s0)) I) : Gx (jx_0 L) d md_M_rate 73 [o0, o1, o2] [.inl s0] I Q := by
  show jm_Go d 0 0 md_M_rate 73 [o0, o1, o2] [.inl s0] (jx (jx_0 L) I) (jx_Q (jx_0 L) Q)
  have hd : jm_dc md_M_rate.2.1 73 [(.ireturn, 1)] = true := by decide +kernel
  exact go_ireturn hd rfl ⟨_, rfl, k⟩
theorem b_M_rate_74 {L : Nat} {d : Nat} {I : jm_I} {Q : Option jm_V → jm_I → Prop} {o1 : Option jm_V} {x2 : Int}  (k : Cx (jx_0 L) d md_M_barberRate [.inr (.inl 167), .inl x2] (jm_up I 167 15 ((I 167 15) + (1000))) (fun v J => Gx (jx_0 L) (d + 1) md_M_rate 92 [some (.inr (.inl 167)), o1, some (.inl x2)] (v.toList ++ [.inl 2]) J Q)) : Gx (jx_0 L) (d + 1) md_M_rate 74 [some (.inr (.inl 167)), o1, some (.inl x2)] [] I Q := by
  show jm_Go (d + 1) 0 0 md_M_rate 74 [some (.inr (.inl 167)), o1, some (.inl x2)] [] (jx (jx_0 L) I) (jx_Q (jx_0 L) Q)
  have hd : jm_dc md_M_rate.2.1 74 [(.aload_n 0, 1), (.dup, 1), (.getfield 261, 3), (.ldc2_w 278, 3), (.ladd, 1), (.putfield 261, 3), (.iconst 2, 1), (.aload_n 0, 1), (.iload_n 2, 1), (.invokevirtual 272, 3)] = true := by decide +kernel
  refine go_aload_n rfl hd (fun hd => ?_)
  refine go_dup rfl hd (fun hd => ?_)
  refine go_getJ co_X9 fl_9_261 (by decide) rfl rfl hd (fun hd => ?_)
  refine go_ldc2 (1000) (1000) (by decide) kl_9_278 hd (fun hd => ?_)
  refine go_ladd hd (fun hd => ?_)
  refine go_putJ co_X9 fl_9_261 (by decide) rfl rfl hd (fun hd => ?_)
  refine go_iconst hd (fun hd => ?_)
  refine go_aload_n rfl hd (fun hd => ?_)
  refine go_iload_n rfl hd (fun hd => ?_)
  exact gx_virtual 167 9 [.inl x2] [.inl 2] mk_M_barberRate co_X9 rfl ml_9_272 in_M_barberRate se_M_barberRate rfl rfl (Nat.le_of_ble_eq_true rfl) rfl (Nat.le_of_ble_eq_true rfl) rfl hd k
theorem b_M_rate_92 {L : Nat} {d : Nat} {I : jm_I} {Q : Option jm_V → jm_I → Prop} {o0 : Option jm_V} {o1 : Option jm_V} {o2 : Option jm_V} {s0 : Int} {s1 : Int}  (k : Q (some (.inl (s0 * s1))) I) : Gx (jx_0 L) d md_M_rate 92 [o0, o1, o2] [.inl s1, .inl s0] I Q := by
  show jm_Go d 0 0 md_M_rate 92 [o0, o1, o2] [.inl s1, .inl s0] (jx (jx_0 L) I) (jx_Q (jx_0 L) Q)
  have hd : jm_dc md_M_rate.2.1 92 [(.imul, 1), (.ireturn, 1)] = true := by decide +kernel
  refine go_imul hd (fun hd => ?_)
  exact go_ireturn hd rfl ⟨_, rfl, k⟩
theorem b_M_rate_94 {L : Nat} {d : Nat} {I : jm_I} {Q : Option jm_V → jm_I → Prop} {o1 : Option jm_V} {x2 : Int}  (k : Cx (jx_0 L) d md_M_thiefRate [.inr (.inl 167), .inl x2] (jm_up I 167 15 ((I 167 15) + (10000))) (fun v J => Gx (jx_0 L) (d + 1) md_M_rate 111 [some (.inr (.inl 167)), o1, some (.inl x2)] (v.toList ++ []) J Q)) : Gx (jx_0 L) (d + 1) md_M_rate 94 [some (.inr (.inl 167)), o1, some (.inl x2)] [] I Q := by
  show jm_Go (d + 1) 0 0 md_M_rate 94 [some (.inr (.inl 167)), o1, some (.inl x2)] [] (jx (jx_0 L) I) (jx_Q (jx_0 L) Q)
  have hd : jm_dc md_M_rate.2.1 94 [(.aload_n 0, 1), (.dup, 1), (.getfield 261, 3), (.ldc2_w 280, 3), (.ladd, 1), (.putfield 261, 3), (.aload_n 0, 1), (.iload_n 2, 1), (.invokevirtual 275, 3)] = true := by decide +kernel
  refine go_aload_n rfl hd (fun hd => ?_)
  refine go_dup rfl hd (fun hd => ?_)
  refine go_getJ co_X9 fl_9_261 (by decide) rfl rfl hd (fun hd => ?_)
  refine go_ldc2 (10000) (10000) (by decide) kl_9_280 hd (fun hd => ?_)
  refine go_ladd hd (fun hd => ?_)
  refine go_putJ co_X9 fl_9_261 (by decide) rfl rfl hd (fun hd => ?_)
  refine go_aload_n rfl hd (fun hd => ?_)
  refine go_iload_n rfl hd (fun hd => ?_)
  exact gx_virtual 167 9 [.inl x2] [] mk_M_thiefRate co_X9 rfl ml_9_275 in_M_thiefRate se_M_thiefRate rfl rfl (Nat.le_of_ble_eq_true rfl) rfl (Nat.le_of_ble_eq_true rfl) rfl hd k
theorem b_M_rate_111 {L : Nat} {d : Nat} {I : jm_I} {Q : Option jm_V → jm_I → Prop} {o0 : Option jm_V} {o1 : Option jm_V} {x2 : Int} {s0 : Int}  (k : Q (some (.inl (s0 + x2))) I) : Gx (jx_0 L) d md_M_rate 111 [o0, o1, some (.inl x2)] [.inl s0] I Q := by
  show jm_Go d 0 0 md_M_rate 111 [o0, o1, some (.inl x2)] [.inl s0] (jx (jx_0 L) I) (jx_Q (jx_0 L) Q)
  have hd : jm_dc md_M_rate.2.1 111 [(.iload_n 2, 1), (.iadd, 1), (.ireturn, 1)] = true := by decide +kernel
  refine go_iload_n rfl hd (fun hd => ?_)
  refine go_iadd hd (fun hd => ?_)
  exact go_ireturn hd rfl ⟨_, rfl, k⟩
theorem b_M_rate_114 {L : Nat} {d : Nat} {I : jm_I} {Q : Option jm_V → jm_I → Prop} {o1 : Option jm_V} {x2 : Int}  (k : Cx (jx_0 L) d md_M_personRate [.inr (.inl 167), .inl x2] (jm_up I 167 15 ((I 167 15) + (100000))) (fun v J => Gx (jx_0 L) (d + 1) md_M_rate 131 [some (.inr (.inl 167)), o1, some (.inl x2)] (v.toList ++ []) J Q)) : Gx (jx_0 L) (d + 1) md_M_rate 114 [some (.inr (.inl 167)), o1, some (.inl x2)] [] I Q := by
  show jm_Go (d + 1) 0 0 md_M_rate 114 [some (.inr (.inl 167)), o1, some (.inl x2)] [] (jx (jx_0 L) I) (jx_Q (jx_0 L) Q)
  have hd : jm_dc md_M_rate.2.1 114 [(.aload_n 0, 1), (.dup, 1), (.getfield 261, 3), (.ldc2_w 282, 3), (.ladd, 1), (.putfield 261, 3), (.aload_n 0, 1), (.iload_n 2, 1), (.invokevirtual 267, 3)] = true := by decide +kernel
  refine go_aload_n rfl hd (fun hd => ?_)
  refine go_dup rfl hd (fun hd => ?_)
  refine go_getJ co_X9 fl_9_261 (by decide) rfl rfl hd (fun hd => ?_)
  refine go_ldc2 (100000) (100000) (by decide) kl_9_282 hd (fun hd => ?_)
  refine go_ladd hd (fun hd => ?_)
  refine go_putJ co_X9 fl_9_261 (by decide) rfl rfl hd (fun hd => ?_)
  refine go_aload_n rfl hd (fun hd => ?_)
  refine go_iload_n rfl hd (fun hd => ?_)
  exact gx_virtual 167 9 [.inl x2] [] mk_M_personRate co_X9 rfl ml_9_267 in_M_personRate se_M_personRate rfl rfl (Nat.le_of_ble_eq_true rfl) rfl (Nat.le_of_ble_eq_true rfl) rfl hd k
theorem b_M_rate_131 {L : Nat} {d : Nat} {I : jm_I} {Q : Option jm_V → jm_I → Prop} {o1 : Option jm_V} {x2 : Int} {s0 : Int}  (hz : (0 ≤ 11 + x2 ∧ 11 + x2 < 27) ∧ (-2147483648 ≤ I 171 (11 + x2).toNat ∧ I 171 (11 + x2).toNat < 2147483648)) (kt : ¬ (I 171 (11 + x2).toNat) = (-9) → Gx (jx_0 L) d md_M_rate 149 [some (.inr (.inl 167)), o1, some (.inl x2)] [.inl s0] I Q) (kf : (I 171 (11 + x2).toNat) = (-9) → Gx (jx_0 L) d md_M_rate 145 [some (.inr (.inl 167)), o1, some (.inl x2)] [.inl s0] I Q) : Gx (jx_0 L) d md_M_rate 131 [some (.inr (.inl 167)), o1, some (.inl x2)] [.inl s0] I Q := by
  obtain ⟨hz1, hz2⟩ := hz
  show jm_Go d 0 0 md_M_rate 131 [some (.inr (.inl 167)), o1, some (.inl x2)] [.inl s0] (jx (jx_0 L) I) (jx_Q (jx_0 L) Q)
  have hd : jm_dc md_M_rate.2.1 131 [(.aload_n 0, 1), (.getfield 26, 3), (.bipush 11, 2), (.iload_n 2, 1), (.iadd, 1), (.iaload, 1), (.bipush (-9), 2), (.if_icmp .ne 7, 3)] = true := by decide +kernel
  refine go_aload_n rfl hd (fun hd => ?_)
  refine go_getR co_X9 fl_9_26 (by decide) rfl rfl rfl hd (fun hd => ?_)
  refine go_bipush (by decide) hd (fun hd => ?_)
  refine go_iload_n rfl hd (fun hd => ?_)
  refine go_iadd hd (fun hd => ?_)
  refine go_iaload rfl hz1.1 hz1.2 (by decide) hd (fun hd => ?_)
  refine go_bipush (by decide) hd (fun hd => ?_)
  exact go_icmp_ne (by decide) hz2 ⟨by decide, by decide⟩ hd kt kf
theorem b_M_rate_145 {L : Nat} {d : Nat} {I : jm_I} {Q : Option jm_V → jm_I → Prop} {o0 : Option jm_V} {o1 : Option jm_V} {o2 : Option jm_V} {s0 : Int}  (k : Gx (jx_0 L) d md_M_rate 158 [o0, o1, o2] [.inl 0, .inl s0] I Q) : Gx (jx_0 L) d md_M_rate 145 [o0, o1, o2] [.inl s0] I Q := by
  show jm_Go d 0 0 md_M_rate 145 [o0, o1, o2] [.inl s0] (jx (jx_0 L) I) (jx_Q (jx_0 L) Q)
  have hd : jm_dc md_M_rate.2.1 145 [(.iconst 0, 1), (.goto 12, 3)] = true := by decide +kernel
  refine go_iconst hd (fun hd => ?_)
  exact go_goto (by decide) hd k
theorem b_M_rate_149 {L : Nat} {d : Nat} {I : jm_I} {Q : Option jm_V → jm_I → Prop} {o1 : Option jm_V} {x2 : Int} {s0 : Int}  (hz : (0 ≤ 11 + x2 ∧ 11 + x2 < 27)) (k : Gx (jx_0 L) d md_M_rate 158 [some (.inr (.inl 167)), o1, some (.inl x2)] [.inl (I 171 (11 + x2).toNat), .inl s0] I Q) : Gx (jx_0 L) d md_M_rate 149 [some (.inr (.inl 167)), o1, some (.inl x2)] [.inl s0] I Q := by
  have hz1 := hz
  show jm_Go d 0 0 md_M_rate 149 [some (.inr (.inl 167)), o1, some (.inl x2)] [.inl s0] (jx (jx_0 L) I) (jx_Q (jx_0 L) Q)
  have hd : jm_dc md_M_rate.2.1 149 [(.aload_n 0, 1), (.getfield 26, 3), (.bipush 11, 2), (.iload_n 2, 1), (.iadd, 1), (.iaload, 1)] = true := by decide +kernel
  refine go_aload_n rfl hd (fun hd => ?_)
  refine go_getR co_X9 fl_9_26 (by decide) rfl rfl rfl hd (fun hd => ?_)
  refine go_bipush (by decide) hd (fun hd => ?_)
  refine go_iload_n rfl hd (fun hd => ?_)
  refine go_iadd hd (fun hd => ?_)
  refine go_iaload rfl hz1.1 hz1.2 (by decide) hd (fun hd => ?_)
  exact k
theorem b_M_rate_158 {L : Nat} {d : Nat} {I : jm_I} {Q : Option jm_V → jm_I → Prop} {o0 : Option jm_V} {o1 : Option jm_V} {o2 : Option jm_V} {s0 : Int} {s1 : Int}  (k : Q (some (.inl (s0 + s1))) I) : Gx (jx_0 L) d md_M_rate 158 [o0, o1, o2] [.inl s1, .inl s0] I Q := by
  show jm_Go d 0 0 md_M_rate 158 [o0, o1, o2] [.inl s1, .inl s0] (jx (jx_0 L) I) (jx_Q (jx_0 L) Q)
  have hd : jm_dc md_M_rate.2.1 158 [(.iadd, 1), (.ireturn, 1)] = true := by decide +kernel
  refine go_iadd hd (fun hd => ?_)
  exact go_ireturn hd rfl ⟨_, rfl, k⟩
theorem b_M_personRate_0 {L : Nat} {d : Nat} {I : jm_I} {Q : Option jm_V → jm_I → Prop} {x1 : Int}  (hz : (0 ≤ 6 + x1 ∧ 6 + x1 < 27)) (k : Q (some (.inl (I 171 (6 + x1).toNat))) (jm_up I 167 15 ((I 167 15) + (1)))) : Cx (jx_0 L) d md_M_personRate [.inr (.inl 167), .inl x1] I Q := by
  have hz1 := hz
  show jm_Go d 0 0 md_M_personRate 0 [some (.inr (.inl 167)), some (.inl x1)] [] (jx (jx_0 L) I) (jx_Q (jx_0 L) Q)
  have hd : jm_dc md_M_personRate.2.1 0 [(.aload_n 0, 1), (.dup, 1), (.getfield 261, 3), (.lconst 1, 1), (.ladd, 1), (.putfield 261, 3), (.aload_n 0, 1), (.getfield 26, 3), (.bipush 6, 2), (.iload_n 1, 1), (.iadd, 1), (.iaload, 1), (.ireturn, 1)] = true := by decide +kernel
  refine go_aload_n rfl hd (fun hd => ?_)
  refine go_dup rfl hd (fun hd => ?_)
  refine go_getJ co_X9 fl_9_261 (by decide) rfl rfl hd (fun hd => ?_)
  refine go_lconst (1) (by decide) hd (fun hd => ?_)
  refine go_ladd hd (fun hd => ?_)
  refine go_putJ co_X9 fl_9_261 (by decide) rfl rfl hd (fun hd => ?_)
  refine go_aload_n rfl hd (fun hd => ?_)
  refine go_getR co_X9 fl_9_26 (by decide) rfl rfl rfl hd (fun hd => ?_)
  refine go_bipush (by decide) hd (fun hd => ?_)
  refine go_iload_n rfl hd (fun hd => ?_)
  refine go_iadd hd (fun hd => ?_)
  refine go_iaload rfl hz1.1 hz1.2 (by decide) hd (fun hd => ?_)
  exact go_ireturn hd rfl ⟨_, rfl, k⟩
theorem b_M_barberRate_0 {L : Nat} {d : Nat} {I : jm_I} {Q : Option jm_V → jm_I → Prop} {x1 : Int}  (k : Cx (jx_0 L) d md_M_personRate [.inr (.inl 167), .inl x1] (jm_up I 167 15 ((I 167 15) + (10))) (fun v J => Gx (jx_0 L) (d + 1) md_M_barberRate 17 [some (.inr (.inl 167)), some (.inl x1)] (v.toList ++ []) J Q)) : Cx (jx_0 L) (d + 1) md_M_barberRate [.inr (.inl 167), .inl x1] I Q := by
  show jm_Go (d + 1) 0 0 md_M_barberRate 0 [some (.inr (.inl 167)), some (.inl x1)] [] (jx (jx_0 L) I) (jx_Q (jx_0 L) Q)
  have hd : jm_dc md_M_barberRate.2.1 0 [(.aload_n 0, 1), (.dup, 1), (.getfield 261, 3), (.ldc2_w 265, 3), (.ladd, 1), (.putfield 261, 3), (.aload_n 0, 1), (.iload_n 1, 1), (.invokevirtual 267, 3)] = true := by decide +kernel
  refine go_aload_n rfl hd (fun hd => ?_)
  refine go_dup rfl hd (fun hd => ?_)
  refine go_getJ co_X9 fl_9_261 (by decide) rfl rfl hd (fun hd => ?_)
  refine go_ldc2 (10) (10) (by decide) kl_9_265 hd (fun hd => ?_)
  refine go_ladd hd (fun hd => ?_)
  refine go_putJ co_X9 fl_9_261 (by decide) rfl rfl hd (fun hd => ?_)
  refine go_aload_n rfl hd (fun hd => ?_)
  refine go_iload_n rfl hd (fun hd => ?_)
  exact gx_virtual 167 9 [.inl x1] [] mk_M_personRate co_X9 rfl ml_9_267 in_M_personRate se_M_personRate rfl rfl (Nat.le_of_ble_eq_true rfl) rfl (Nat.le_of_ble_eq_true rfl) rfl hd k
theorem b_M_barberRate_17 {L : Nat} {d : Nat} {I : jm_I} {Q : Option jm_V → jm_I → Prop} {x1 : Int} {s0 : Int}  (hz : (0 ≤ 1 + x1 ∧ 1 + x1 < 27)) (k : Q (some (.inl (s0 + (I 171 (1 + x1).toNat)))) I) : Gx (jx_0 L) d md_M_barberRate 17 [some (.inr (.inl 167)), some (.inl x1)] [.inl s0] I Q := by
  have hz1 := hz
  show jm_Go d 0 0 md_M_barberRate 17 [some (.inr (.inl 167)), some (.inl x1)] [.inl s0] (jx (jx_0 L) I) (jx_Q (jx_0 L) Q)
  have hd : jm_dc md_M_barberRate.2.1 17 [(.aload_n 0, 1), (.getfield 26, 3), (.iconst 1, 1), (.iload_n 1, 1), (.iadd, 1), (.iaload, 1), (.iadd, 1), (.ireturn, 1)] = true := by decide +kernel
  refine go_aload_n rfl hd (fun hd => ?_)
  refine go_getR co_X9 fl_9_26 (by decide) rfl rfl rfl hd (fun hd => ?_)
  refine go_iconst hd (fun hd => ?_)
  refine go_iload_n rfl hd (fun hd => ?_)
  refine go_iadd hd (fun hd => ?_)
  refine go_iaload rfl hz1.1 hz1.2 (by decide) hd (fun hd => ?_)
  refine go_iadd hd (fun hd => ?_)
  exact go_ireturn hd rfl ⟨_, rfl, k⟩
theorem b_M_thiefRate_0 {L : Nat} {d : Nat} {I : jm_I} {Q : Option jm_V → jm_I → Prop} {x1 : Int}  (k : Gx (jx_0 L) d md_M_thiefRate 16 [some (.inr (.inl 167)), some (.inl x1), some (.inl 0), some (.inl 0)] [] (jm_up I 167 15 ((I 167 15) + (100))) Q) : Cx (jx_0 L) d md_M_thiefRate [.inr (.inl 167), .inl x1] I Q := by
  show jm_Go d 0 0 md_M_thiefRate 0 [some (.inr (.inl 167)), some (.inl x1), none, none] [] (jx (jx_0 L) I) (jx_Q (jx_0 L) Q)
  have hd : jm_dc md_M_thiefRate.2.1 0 [(.aload_n 0, 1), (.dup, 1), (.getfield 261, 3), (.ldc2_w 270, 3), (.ladd, 1), (.putfield 261, 3), (.iconst 0, 1), (.istore_n 2, 1), (.iconst 0, 1), (.istore_n 3, 1)] = true := by decide +kernel
  refine go_aload_n rfl hd (fun hd => ?_)
  refine go_dup rfl hd (fun hd => ?_)
  refine go_getJ co_X9 fl_9_261 (by decide) rfl rfl hd (fun hd => ?_)
  refine go_ldc2 (100) (100) (by decide) kl_9_270 hd (fun hd => ?_)
  refine go_ladd hd (fun hd => ?_)
  refine go_putJ co_X9 fl_9_261 (by decide) rfl rfl hd (fun hd => ?_)
  refine go_iconst hd (fun hd => ?_)
  refine go_istore_n (by decide) hd (fun hd => ?_)
  refine go_iconst hd (fun hd => ?_)
  refine go_istore_n (by decide) hd (fun hd => ?_)
  exact k
theorem b_M_thiefRate_16 {L : Nat} {d : Nat} {I : jm_I} {Q : Option jm_V → jm_I → Prop} {o1 : Option jm_V} {o2 : Option jm_V} {x3 : Int}  (hz : (-2147483648 ≤ x3 ∧ x3 < 2147483648) ∧ (-2147483648 ≤ I 167 5 ∧ I 167 5 < 2147483648)) (kt : (I 167 5) ≤ x3 → Gx (jx_0 L) d md_M_thiefRate 58 [some (.inr (.inl 167)), o1, o2, some (.inl x3)] [] I Q) (kf : ¬ ((I 167 5) ≤ x3) → Gx (jx_0 L) d md_M_thiefRate 24 [some (.inr (.inl 167)), o1, o2, some (.inl x3)] [] I Q) : Gx (jx_0 L) d md_M_thiefRate 16 [some (.inr (.inl 167)), o1, o2, some (.inl x3)] [] I Q := by
  obtain ⟨hz1, hz2⟩ := hz
  show jm_Go d 0 0 md_M_thiefRate 16 [some (.inr (.inl 167)), o1, o2, some (.inl x3)] [] (jx (jx_0 L) I) (jx_Q (jx_0 L) Q)
  have hd : jm_dc md_M_thiefRate.2.1 16 [(.iload_n 3, 1), (.aload_n 0, 1), (.getfield 85, 3), (.if_icmp .ge 37, 3)] = true := by decide +kernel
  refine go_iload_n rfl hd (fun hd => ?_)
  refine go_aload_n rfl hd (fun hd => ?_)
  refine go_getI co_X9 fl_9_85 (by decide) (Or.inl rfl) rfl hd (fun hd => ?_)
  exact go_icmp_ge (by decide) hz1 hz2 hd kt kf
theorem b_M_thiefRate_24 {L : Nat} {d : Nat} {I : jm_I} {Q : Option jm_V → jm_I → Prop} {x1 : Int} {x2 : Int} {x3 : Int}  (hz : (0 ≤ 17 + x3 ∧ 17 + x3 < 27) ∧ (0 ≤ 1 + x1 ∧ 1 + x1 < 27) ∧ (-2147483648 ≤ I 171 (17 + x3).toNat ∧ I 171 (17 + x3).toNat < 2147483648) ∧ (-2147483648 ≤ I 171 (1 + x1).toNat ∧ I 171 (1 + x1).toNat < 2147483648)) (kt : ¬ (I 171 (17 + x3).toNat) = (I 171 (1 + x1).toNat) → Gx (jx_0 L) d md_M_thiefRate 49 [some (.inr (.inl 167)), some (.inl x1), some (.inl x2), some (.inl x3)] [.inl x2] I Q) (kf : (I 171 (17 + x3).toNat) = (I 171 (1 + x1).toNat) → Gx (jx_0 L) d md_M_thiefRate 45 [some (.inr (.inl 167)), some (.inl x1), some (.inl x2), some (.inl x3)] [.inl x2] I Q) : Gx (jx_0 L) d md_M_thiefRate 24 [some (.inr (.inl 167)), some (.inl x1), some (.inl x2), some (.inl x3)] [] I Q := by
  obtain ⟨hz1, hz2, hz3, hz4⟩ := hz
  show jm_Go d 0 0 md_M_thiefRate 24 [some (.inr (.inl 167)), some (.inl x1), some (.inl x2), some (.inl x3)] [] (jx (jx_0 L) I) (jx_Q (jx_0 L) Q)
  have hd : jm_dc md_M_thiefRate.2.1 24 [(.iload_n 2, 1), (.aload_n 0, 1), (.getfield 26, 3), (.bipush 17, 2), (.iload_n 3, 1), (.iadd, 1), (.iaload, 1), (.aload_n 0, 1), (.getfield 26, 3), (.iconst 1, 1), (.iload_n 1, 1), (.iadd, 1), (.iaload, 1), (.if_icmp .ne 7, 3)] = true := by decide +kernel
  refine go_iload_n rfl hd (fun hd => ?_)
  refine go_aload_n rfl hd (fun hd => ?_)
  refine go_getR co_X9 fl_9_26 (by decide) rfl rfl rfl hd (fun hd => ?_)
  refine go_bipush (by decide) hd (fun hd => ?_)
  refine go_iload_n rfl hd (fun hd => ?_)
  refine go_iadd hd (fun hd => ?_)
  refine go_iaload rfl hz1.1 hz1.2 (by decide) hd (fun hd => ?_)
  refine go_aload_n rfl hd (fun hd => ?_)
  refine go_getR co_X9 fl_9_26 (by decide) rfl rfl rfl hd (fun hd => ?_)
  refine go_iconst hd (fun hd => ?_)
  refine go_iload_n rfl hd (fun hd => ?_)
  refine go_iadd hd (fun hd => ?_)
  refine go_iaload rfl hz2.1 hz2.2 (by decide) hd (fun hd => ?_)
  exact go_icmp_ne (by decide) hz3 hz4 hd kt kf
theorem b_M_thiefRate_45 {L : Nat} {d : Nat} {I : jm_I} {Q : Option jm_V → jm_I → Prop} {o0 : Option jm_V} {o1 : Option jm_V} {o2 : Option jm_V} {o3 : Option jm_V} {s0 : Int}  (k : Gx (jx_0 L) d md_M_thiefRate 50 [o0, o1, o2, o3] [.inl 1, .inl s0] I Q) : Gx (jx_0 L) d md_M_thiefRate 45 [o0, o1, o2, o3] [.inl s0] I Q := by
  show jm_Go d 0 0 md_M_thiefRate 45 [o0, o1, o2, o3] [.inl s0] (jx (jx_0 L) I) (jx_Q (jx_0 L) Q)
  have hd : jm_dc md_M_thiefRate.2.1 45 [(.iconst 1, 1), (.goto 4, 3)] = true := by decide +kernel
  refine go_iconst hd (fun hd => ?_)
  exact go_goto (by decide) hd k
theorem b_M_thiefRate_49 {L : Nat} {d : Nat} {I : jm_I} {Q : Option jm_V → jm_I → Prop} {o0 : Option jm_V} {o1 : Option jm_V} {o2 : Option jm_V} {o3 : Option jm_V} {s0 : Int}  (k : Gx (jx_0 L) d md_M_thiefRate 50 [o0, o1, o2, o3] [.inl 0, .inl s0] I Q) : Gx (jx_0 L) d md_M_thiefRate 49 [o0, o1, o2, o3] [.inl s0] I Q := by
  show jm_Go d 0 0 md_M_thiefRate 49 [o0, o1, o2, o3] [.inl s0] (jx (jx_0 L) I) (jx_Q (jx_0 L) Q)
  have hd : jm_dc md_M_thiefRate.2.1 49 [(.iconst 0, 1)] = true := by decide +kernel
  refine go_iconst hd (fun hd => ?_)
  exact k
theorem b_M_thiefRate_50 {L : Nat} {d : Nat} {I : jm_I} {Q : Option jm_V → jm_I → Prop} {o0 : Option jm_V} {o1 : Option jm_V} {o2 : Option jm_V} {x3 : Int} {s0 : Int} {s1 : Int}  (k : Gx (jx_0 L) d md_M_thiefRate 16 [o0, o1, some (.inl (s0 + s1)), some (.inl (x3 + 1))] [] I Q) : Gx (jx_0 L) d md_M_thiefRate 50 [o0, o1, o2, some (.inl x3)] [.inl s1, .inl s0] I Q := by
  show jm_Go d 0 0 md_M_thiefRate 50 [o0, o1, o2, some (.inl x3)] [.inl s1, .inl s0] (jx (jx_0 L) I) (jx_Q (jx_0 L) Q)
  have hd : jm_dc md_M_thiefRate.2.1 50 [(.iadd, 1), (.istore_n 2, 1), (.iinc 3 1, 3), (.goto (-39), 3)] = true := by decide +kernel
  refine go_iadd hd (fun hd => ?_)
  refine go_istore_n (by decide) hd (fun hd => ?_)
  refine go_iinc rfl hd (fun hd => ?_)
  exact go_goto (by decide) hd k
theorem b_M_thiefRate_58 {L : Nat} {d : Nat} {I : jm_I} {Q : Option jm_V → jm_I → Prop} {x1 : Int} {o2 : Option jm_V} {o3 : Option jm_V}  (k : Cx (jx_0 L) d md_M_personRate [.inr (.inl 167), .inl x1] I (fun v J => Gx (jx_0 L) (d + 1) md_M_thiefRate 63 [some (.inr (.inl 167)), some (.inl x1), o2, o3] (v.toList ++ []) J Q)) : Gx (jx_0 L) (d + 1) md_M_thiefRate 58 [some (.inr (.inl 167)), some (.inl x1), o2, o3] [] I Q := by
  show jm_Go (d + 1) 0 0 md_M_thiefRate 58 [some (.inr (.inl 167)), some (.inl x1), o2, o3] [] (jx (jx_0 L) I) (jx_Q (jx_0 L) Q)
  have hd : jm_dc md_M_thiefRate.2.1 58 [(.aload_n 0, 1), (.iload_n 1, 1), (.invokevirtual 267, 3)] = true := by decide +kernel
  refine go_aload_n rfl hd (fun hd => ?_)
  refine go_iload_n rfl hd (fun hd => ?_)
  exact gx_virtual 167 9 [.inl x1] [] mk_M_personRate co_X9 rfl ml_9_267 in_M_personRate se_M_personRate rfl rfl (Nat.le_of_ble_eq_true rfl) rfl (Nat.le_of_ble_eq_true rfl) rfl hd k
theorem b_M_thiefRate_63 {L : Nat} {d : Nat} {I : jm_I} {Q : Option jm_V → jm_I → Prop} {o0 : Option jm_V} {o1 : Option jm_V} {x2 : Int} {o3 : Option jm_V} {s0 : Int}  (k : Q (some (.inl (s0 - x2))) I) : Gx (jx_0 L) d md_M_thiefRate 63 [o0, o1, some (.inl x2), o3] [.inl s0] I Q := by
  show jm_Go d 0 0 md_M_thiefRate 63 [o0, o1, some (.inl x2), o3] [.inl s0] (jx (jx_0 L) I) (jx_Q (jx_0 L) Q)
  have hd : jm_dc md_M_thiefRate.2.1 63 [(.iload_n 2, 1), (.isub, 1), (.ireturn, 1)] = true := by decide +kernel
  refine go_iload_n rfl hd (fun hd => ?_)
  refine go_isub hd (fun hd => ?_)
  exact go_ireturn hd rfl ⟨_, rfl, k⟩
theorem b_M_keep_0 {L : Nat} {d : Nat} {I : jm_I} {Q : Option jm_V → jm_I → Prop} {x1 : Int}  (k : Cx (jx_0 L) d md_M_in [.inl x1, .inl 0, .inl 1] I (fun v J => Gx (jx_0 L) (d + 1) md_M_keep 6 [some (.inr (.inl 167)), some (.inl x1), none] (v.toList ++ []) J Q)) : Cx (jx_0 L) (d + 1) md_M_keep [.inr (.inl 167), .inl x1] I Q := by
  show jm_Go (d + 1) 0 0 md_M_keep 0 [some (.inr (.inl 167)), some (.inl x1), none] [] (jx (jx_0 L) I) (jx_Q (jx_0 L) Q)
  have hd : jm_dc md_M_keep.2.1 0 [(.iload_n 1, 1), (.iconst 0, 1), (.iconst 1, 1), (.invokestatic 78, 3)] = true := by decide +kernel
  refine go_iload_n rfl hd (fun hd => ?_)
  refine go_iconst hd (fun hd => ?_)
  refine go_iconst hd (fun hd => ?_)
  exact gx_static [.inl x1, .inl 0, .inl 1] [] mk_M_in ml_9_78 st_M_in rfl (Nat.le_of_ble_eq_true rfl) rfl (Nat.le_of_ble_eq_true rfl) rfl hd k
theorem b_M_keep_6 {L : Nat} {d : Nat} {I : jm_I} {Q : Option jm_V → jm_I → Prop} {o0 : Option jm_V} {o1 : Option jm_V} {o2 : Option jm_V} {s0 : Int}  (hz : (-2147483648 ≤ s0 ∧ s0 < 2147483648)) (kt : ¬ s0 = 0 → Gx (jx_0 L) d md_M_keep 11 [o0, o1, o2] [] I Q) (kf : s0 = 0 → Gx (jx_0 L) d md_M_keep 9 [o0, o1, o2] [] I Q) : Gx (jx_0 L) d md_M_keep 6 [o0, o1, o2] [.inl s0] I Q := by
  have hz1 := hz
  show jm_Go d 0 0 md_M_keep 6 [o0, o1, o2] [.inl s0] (jx (jx_0 L) I) (jx_Q (jx_0 L) Q)
  have hd : jm_dc md_M_keep.2.1 6 [(.ifCond .ne 5, 3)] = true := by decide +kernel
  exact go_if_ne (by decide) hz1 hd kt kf
theorem b_M_keep_9 {L : Nat} {d : Nat} {I : jm_I} {Q : Option jm_V → jm_I → Prop} {o0 : Option jm_V} {o1 : Option jm_V} {o2 : Option jm_V}  (k : Q (some (.inl (-1))) I) : Gx (jx_0 L) d md_M_keep 9 [o0, o1, o2] [] I Q := by
  show jm_Go d 0 0 md_M_keep 9 [o0, o1, o2] [] (jx (jx_0 L) I) (jx_Q (jx_0 L) Q)
  have hd : jm_dc md_M_keep.2.1 9 [(.iconst (-1), 1), (.ireturn, 1)] = true := by decide +kernel
  refine go_iconst hd (fun hd => ?_)
  exact go_ireturn hd rfl ⟨_, rfl, k⟩
theorem b_M_keep_11 {L : Nat} {d : Nat} {I : jm_I} {Q : Option jm_V → jm_I → Prop} {o0 : Option jm_V} {o1 : Option jm_V} {o2 : Option jm_V}  (k : Gx (jx_0 L) d md_M_keep 13 [o0, o1, some (.inl 0)] [] I Q) : Gx (jx_0 L) d md_M_keep 11 [o0, o1, o2] [] I Q := by
  show jm_Go d 0 0 md_M_keep 11 [o0, o1, o2] [] (jx (jx_0 L) I) (jx_Q (jx_0 L) Q)
  have hd : jm_dc md_M_keep.2.1 11 [(.iconst 0, 1), (.istore_n 2, 1)] = true := by decide +kernel
  refine go_iconst hd (fun hd => ?_)
  refine go_istore_n (by decide) hd (fun hd => ?_)
  exact k
theorem b_M_keep_13 {L : Nat} {d : Nat} {I : jm_I} {Q : Option jm_V → jm_I → Prop} {o0 : Option jm_V} {o1 : Option jm_V} {x2 : Int}  (hz : (-2147483648 ≤ x2 ∧ x2 < 2147483648)) (kt : 27 ≤ x2 → Gx (jx_0 L) d md_M_keep 42 [o0, o1, some (.inl x2)] [] I Q) (kf : ¬ (27 ≤ x2) → Gx (jx_0 L) d md_M_keep 19 [o0, o1, some (.inl x2)] [] I Q) : Gx (jx_0 L) d md_M_keep 13 [o0, o1, some (.inl x2)] [] I Q := by
  have hz1 := hz
  show jm_Go d 0 0 md_M_keep 13 [o0, o1, some (.inl x2)] [] (jx (jx_0 L) I) (jx_Q (jx_0 L) Q)
  have hd : jm_dc md_M_keep.2.1 13 [(.iload_n 2, 1), (.bipush 27, 2), (.if_icmp .ge 26, 3)] = true := by decide +kernel
  refine go_iload_n rfl hd (fun hd => ?_)
  refine go_bipush (by decide) hd (fun hd => ?_)
  exact go_icmp_ge (by decide) hz1 ⟨by decide, by decide⟩ hd kt kf
theorem b_M_keep_19 {L : Nat} {d : Nat} {I : jm_I} {Q : Option jm_V → jm_I → Prop} {x1 : Int} {x2 : Int}  (hz : (0 ≤ x2 ∧ x2 < 27) ∧ (0 ≤ (27 * x1) + x2 ∧ (27 * x1) + x2 < 54)) (k : Gx (jx_0 L) d md_M_keep 13 [some (.inr (.inl 167)), some (.inl x1), some (.inl (x2 + 1))] [] (jm_up I 173 (((27 * x1) + x2).toNat) (I 171 x2.toNat)) Q) : Gx (jx_0 L) d md_M_keep 19 [some (.inr (.inl 167)), some (.inl x1), some (.inl x2)] [] I Q := by
  obtain ⟨hz1, hz2⟩ := hz
  show jm_Go d 0 0 md_M_keep 19 [some (.inr (.inl 167)), some (.inl x1), some (.inl x2)] [] (jx (jx_0 L) I) (jx_Q (jx_0 L) Q)
  have hd : jm_dc md_M_keep.2.1 19 [(.aload_n 0, 1), (.getfield 32, 3), (.bipush 27, 2), (.iload_n 1, 1), (.imul, 1), (.iload_n 2, 1), (.iadd, 1), (.aload_n 0, 1), (.getfield 26, 3), (.iload_n 2, 1), (.iaload, 1), (.iastore, 1), (.iinc 2 1, 3), (.goto (-26), 3)] = true := by decide +kernel
  refine go_aload_n rfl hd (fun hd => ?_)
  refine go_getR co_X9 fl_9_32 (by decide) rfl rfl rfl hd (fun hd => ?_)
  refine go_bipush (by decide) hd (fun hd => ?_)
  refine go_iload_n rfl hd (fun hd => ?_)
  refine go_imul hd (fun hd => ?_)
  refine go_iload_n rfl hd (fun hd => ?_)
  refine go_iadd hd (fun hd => ?_)
  refine go_aload_n rfl hd (fun hd => ?_)
  refine go_getR co_X9 fl_9_26 (by decide) rfl rfl rfl hd (fun hd => ?_)
  refine go_iload_n rfl hd (fun hd => ?_)
  refine go_iaload rfl hz1.1 hz1.2 (by decide) hd (fun hd => ?_)
  refine go_iastore rfl hz2.1 hz2.2 (by decide) hd (fun hd => ?_)
  refine go_iinc rfl hd (fun hd => ?_)
  exact go_goto (by decide) hd k
theorem b_M_keep_42 {L : Nat} {d : Nat} {I : jm_I} {Q : Option jm_V → jm_I → Prop} {x1 : Int} {o2 : Option jm_V}  (hz : (0 ≤ x1 ∧ x1 < 2)) (k : Q (some (.inl (I 171 0))) (jm_up I 174 (x1.toNat) 1)) : Gx (jx_0 L) d md_M_keep 42 [some (.inr (.inl 167)), some (.inl x1), o2] [] I Q := by
  have hz1 := hz
  show jm_Go d 0 0 md_M_keep 42 [some (.inr (.inl 167)), some (.inl x1), o2] [] (jx (jx_0 L) I) (jx_Q (jx_0 L) Q)
  have hd : jm_dc md_M_keep.2.1 42 [(.aload_n 0, 1), (.getfield 35, 3), (.iload_n 1, 1), (.iconst 1, 1), (.bastore, 1), (.aload_n 0, 1), (.getfield 26, 3), (.iconst 0, 1), (.iaload, 1), (.ireturn, 1)] = true := by decide +kernel
  refine go_aload_n rfl hd (fun hd => ?_)
  refine go_getR co_X9 fl_9_35 (by decide) rfl rfl rfl hd (fun hd => ?_)
  refine go_iload_n rfl hd (fun hd => ?_)
  refine go_iconst hd (fun hd => ?_)
  refine go_zastore rfl hz1.1 hz1.2 (by decide) (Or.inr rfl) hd (fun hd => ?_)
  refine go_aload_n rfl hd (fun hd => ?_)
  refine go_getR co_X9 fl_9_26 (by decide) rfl rfl rfl hd (fun hd => ?_)
  refine go_iconst hd (fun hd => ?_)
  refine go_iaload rfl (by decide) (by decide) (by decide) hd (fun hd => ?_)
  exact go_ireturn hd rfl ⟨_, rfl, k⟩
theorem b_M_back_0 {L : Nat} {d : Nat} {I : jm_I} {Q : Option jm_V → jm_I → Prop} {x1 : Int}  (k : Cx (jx_0 L) d md_M_in [.inl x1, .inl 0, .inl 1] I (fun v J => Gx (jx_0 L) (d + 1) md_M_back 6 [some (.inr (.inl 167)), some (.inl x1), none] (v.toList ++ []) J Q)) : Cx (jx_0 L) (d + 1) md_M_back [.inr (.inl 167), .inl x1] I Q := by
  show jm_Go (d + 1) 0 0 md_M_back 0 [some (.inr (.inl 167)), some (.inl x1), none] [] (jx (jx_0 L) I) (jx_Q (jx_0 L) Q)
  have hd : jm_dc md_M_back.2.1 0 [(.iload_n 1, 1), (.iconst 0, 1), (.iconst 1, 1), (.invokestatic 78, 3)] = true := by decide +kernel
  refine go_iload_n rfl hd (fun hd => ?_)
  refine go_iconst hd (fun hd => ?_)
  refine go_iconst hd (fun hd => ?_)
  exact gx_static [.inl x1, .inl 0, .inl 1] [] mk_M_in ml_9_78 st_M_in rfl (Nat.le_of_ble_eq_true rfl) rfl (Nat.le_of_ble_eq_true rfl) rfl hd k
theorem b_M_back_6 {L : Nat} {d : Nat} {I : jm_I} {Q : Option jm_V → jm_I → Prop} {o0 : Option jm_V} {o1 : Option jm_V} {o2 : Option jm_V} {s0 : Int}  (hz : (-2147483648 ≤ s0 ∧ s0 < 2147483648)) (kt : ¬ s0 = 0 → Gx (jx_0 L) d md_M_back 11 [o0, o1, o2] [] I Q) (kf : s0 = 0 → Gx (jx_0 L) d md_M_back 9 [o0, o1, o2] [] I Q) : Gx (jx_0 L) d md_M_back 6 [o0, o1, o2] [.inl s0] I Q := by
  have hz1 := hz
  show jm_Go d 0 0 md_M_back 6 [o0, o1, o2] [.inl s0] (jx (jx_0 L) I) (jx_Q (jx_0 L) Q)
  have hd : jm_dc md_M_back.2.1 6 [(.ifCond .ne 5, 3)] = true := by decide +kernel
  exact go_if_ne (by decide) hz1 hd kt kf
theorem b_M_back_9 {L : Nat} {d : Nat} {I : jm_I} {Q : Option jm_V → jm_I → Prop} {o0 : Option jm_V} {o1 : Option jm_V} {o2 : Option jm_V}  (k : Q (some (.inl (-1))) I) : Gx (jx_0 L) d md_M_back 9 [o0, o1, o2] [] I Q := by
  show jm_Go d 0 0 md_M_back 9 [o0, o1, o2] [] (jx (jx_0 L) I) (jx_Q (jx_0 L) Q)
  have hd : jm_dc md_M_back.2.1 9 [(.iconst (-1), 1), (.ireturn, 1)] = true := by decide +kernel
  refine go_iconst hd (fun hd => ?_)
  exact go_ireturn hd rfl ⟨_, rfl, k⟩
theorem b_M_back_11 {L : Nat} {d : Nat} {I : jm_I} {Q : Option jm_V → jm_I → Prop} {x1 : Int} {o2 : Option jm_V}  (hz : (0 ≤ x1 ∧ x1 < 2) ∧ (-2147483648 ≤ I 174 x1.toNat ∧ I 174 x1.toNat < 2147483648)) (kt : ¬ (I 174 x1.toNat) = 0 → Gx (jx_0 L) d md_M_back 23 [some (.inr (.inl 167)), some (.inl x1), o2] [] I Q) (kf : (I 174 x1.toNat) = 0 → Gx (jx_0 L) d md_M_back 20 [some (.inr (.inl 167)), some (.inl x1), o2] [] I Q) : Gx (jx_0 L) d md_M_back 11 [some (.inr (.inl 167)), some (.inl x1), o2] [] I Q := by
  obtain ⟨hz1, hz2⟩ := hz
  show jm_Go d 0 0 md_M_back 11 [some (.inr (.inl 167)), some (.inl x1), o2] [] (jx (jx_0 L) I) (jx_Q (jx_0 L) Q)
  have hd : jm_dc md_M_back.2.1 11 [(.aload_n 0, 1), (.getfield 35, 3), (.iload_n 1, 1), (.baload, 1), (.ifCond .ne 6, 3)] = true := by decide +kernel
  refine go_aload_n rfl hd (fun hd => ?_)
  refine go_getR co_X9 fl_9_35 (by decide) rfl rfl rfl hd (fun hd => ?_)
  refine go_iload_n rfl hd (fun hd => ?_)
  refine go_zaload rfl hz1.1 hz1.2 (by decide) hd (fun hd => ?_)
  exact go_if_ne (by decide) hz2 hd kt kf
theorem b_M_back_20 {L : Nat} {d : Nat} {I : jm_I} {Q : Option jm_V → jm_I → Prop} {o0 : Option jm_V} {o1 : Option jm_V} {o2 : Option jm_V}  (k : Q (some (.inl (-2))) I) : Gx (jx_0 L) d md_M_back 20 [o0, o1, o2] [] I Q := by
  show jm_Go d 0 0 md_M_back 20 [o0, o1, o2] [] (jx (jx_0 L) I) (jx_Q (jx_0 L) Q)
  have hd : jm_dc md_M_back.2.1 20 [(.bipush (-2), 2), (.ireturn, 1)] = true := by decide +kernel
  refine go_bipush (by decide) hd (fun hd => ?_)
  exact go_ireturn hd rfl ⟨_, rfl, k⟩
theorem b_M_back_23 {L : Nat} {d : Nat} {I : jm_I} {Q : Option jm_V → jm_I → Prop} {o0 : Option jm_V} {o1 : Option jm_V} {o2 : Option jm_V}  (k : Gx (jx_0 L) d md_M_back 25 [o0, o1, some (.inl 0)] [] I Q) : Gx (jx_0 L) d md_M_back 23 [o0, o1, o2] [] I Q := by
  show jm_Go d 0 0 md_M_back 23 [o0, o1, o2] [] (jx (jx_0 L) I) (jx_Q (jx_0 L) Q)
  have hd : jm_dc md_M_back.2.1 23 [(.iconst 0, 1), (.istore_n 2, 1)] = true := by decide +kernel
  refine go_iconst hd (fun hd => ?_)
  refine go_istore_n (by decide) hd (fun hd => ?_)
  exact k
theorem b_M_back_25 {L : Nat} {d : Nat} {I : jm_I} {Q : Option jm_V → jm_I → Prop} {o0 : Option jm_V} {o1 : Option jm_V} {x2 : Int}  (hz : (-2147483648 ≤ x2 ∧ x2 < 2147483648)) (kt : 27 ≤ x2 → Gx (jx_0 L) d md_M_back 54 [o0, o1, some (.inl x2)] [] I Q) (kf : ¬ (27 ≤ x2) → Gx (jx_0 L) d md_M_back 31 [o0, o1, some (.inl x2)] [] I Q) : Gx (jx_0 L) d md_M_back 25 [o0, o1, some (.inl x2)] [] I Q := by
  have hz1 := hz
  show jm_Go d 0 0 md_M_back 25 [o0, o1, some (.inl x2)] [] (jx (jx_0 L) I) (jx_Q (jx_0 L) Q)
  have hd : jm_dc md_M_back.2.1 25 [(.iload_n 2, 1), (.bipush 27, 2), (.if_icmp .ge 26, 3)] = true := by decide +kernel
  refine go_iload_n rfl hd (fun hd => ?_)
  refine go_bipush (by decide) hd (fun hd => ?_)
  exact go_icmp_ge (by decide) hz1 ⟨by decide, by decide⟩ hd kt kf
theorem b_M_back_31 {L : Nat} {d : Nat} {I : jm_I} {Q : Option jm_V → jm_I → Prop} {x1 : Int} {x2 : Int}  (hz : (0 ≤ (27 * x1) + x2 ∧ (27 * x1) + x2 < 54) ∧ (0 ≤ x2 ∧ x2 < 27)) (k : Gx (jx_0 L) d md_M_back 25 [some (.inr (.inl 167)), some (.inl x1), some (.inl (x2 + 1))] [] (jm_up I 171 (x2.toNat) (I 173 ((27 * x1) + x2).toNat)) Q) : Gx (jx_0 L) d md_M_back 31 [some (.inr (.inl 167)), some (.inl x1), some (.inl x2)] [] I Q := by
  obtain ⟨hz1, hz2⟩ := hz
  show jm_Go d 0 0 md_M_back 31 [some (.inr (.inl 167)), some (.inl x1), some (.inl x2)] [] (jx (jx_0 L) I) (jx_Q (jx_0 L) Q)
  have hd : jm_dc md_M_back.2.1 31 [(.aload_n 0, 1), (.getfield 26, 3), (.iload_n 2, 1), (.aload_n 0, 1), (.getfield 32, 3), (.bipush 27, 2), (.iload_n 1, 1), (.imul, 1), (.iload_n 2, 1), (.iadd, 1), (.iaload, 1), (.iastore, 1), (.iinc 2 1, 3), (.goto (-26), 3)] = true := by decide +kernel
  refine go_aload_n rfl hd (fun hd => ?_)
  refine go_getR co_X9 fl_9_26 (by decide) rfl rfl rfl hd (fun hd => ?_)
  refine go_iload_n rfl hd (fun hd => ?_)
  refine go_aload_n rfl hd (fun hd => ?_)
  refine go_getR co_X9 fl_9_32 (by decide) rfl rfl rfl hd (fun hd => ?_)
  refine go_bipush (by decide) hd (fun hd => ?_)
  refine go_iload_n rfl hd (fun hd => ?_)
  refine go_imul hd (fun hd => ?_)
  refine go_iload_n rfl hd (fun hd => ?_)
  refine go_iadd hd (fun hd => ?_)
  refine go_iaload rfl hz1.1 hz1.2 (by decide) hd (fun hd => ?_)
  refine go_iastore rfl hz2.1 hz2.2 (by decide) hd (fun hd => ?_)
  refine go_iinc rfl hd (fun hd => ?_)
  exact go_goto (by decide) hd k
theorem b_M_back_54 {L : Nat} {d : Nat} {I : jm_I} {Q : Option jm_V → jm_I → Prop} {o1 : Option jm_V} {o2 : Option jm_V}  (k : Q (some (.inl (I 171 0))) (jm_up I 167 10 0)) : Gx (jx_0 L) d md_M_back 54 [some (.inr (.inl 167)), o1, o2] [] I Q := by
  show jm_Go d 0 0 md_M_back 54 [some (.inr (.inl 167)), o1, o2] [] (jx (jx_0 L) I) (jx_Q (jx_0 L) Q)
  have hd : jm_dc md_M_back.2.1 54 [(.aload_n 0, 1), (.iconst 0, 1), (.putfield 158, 3), (.aload_n 0, 1), (.getfield 26, 3), (.iconst 0, 1), (.iaload, 1), (.ireturn, 1)] = true := by decide +kernel
  refine go_aload_n rfl hd (fun hd => ?_)
  refine go_iconst hd (fun hd => ?_)
  refine go_putI co_X9 fl_9_158 (by decide) rfl rfl hd (fun hd => ?_)
  refine go_aload_n rfl hd (fun hd => ?_)
  refine go_getR co_X9 fl_9_26 (by decide) rfl rfl rfl hd (fun hd => ?_)
  refine go_iconst hd (fun hd => ?_)
  refine go_iaload rfl (by decide) (by decide) (by decide) hd (fun hd => ?_)
  exact go_ireturn hd rfl ⟨_, rfl, k⟩
theorem b_M_count_0 {L : Nat} {d : Nat} {I : jm_I} {Q : Option jm_V → jm_I → Prop} {x1 : Int}  (hz : (-2147483648 ≤ x1 ∧ x1 < 2147483648)) (k0 : x1 = 0 → Gx (jx_0 L) d md_M_count 44 [some (.inr (.inl 167)), some (.inl x1)] [] I Q) (k1 : x1 = 1 → Gx (jx_0 L) d md_M_count 49 [some (.inr (.inl 167)), some (.inl x1)] [] I Q) (k2 : x1 = 2 → Gx (jx_0 L) d md_M_count 54 [some (.inr (.inl 167)), some (.inl x1)] [] I Q) (k3 : x1 = 3 → Gx (jx_0 L) d md_M_count 59 [some (.inr (.inl 167)), some (.inl x1)] [] I Q) (k4 : x1 = 4 → Gx (jx_0 L) d md_M_count 64 [some (.inr (.inl 167)), some (.inl x1)] [] I Q) (k5 : x1 = 5 → Gx (jx_0 L) d md_M_count 69 [some (.inr (.inl 167)), some (.inl x1)] [] I Q) (k6 : x1 = 6 → Gx (jx_0 L) d md_M_count 74 [some (.inr (.inl 167)), some (.inl x1)] [] I Q) (kd : (x1 < 0 ∨ 6 < x1) → Gx (jx_0 L) d md_M_count 79 [some (.inr (.inl 167)), some (.inl x1)] [] I Q) : Cx (jx_0 L) d md_M_count [.inr (.inl 167), .inl x1] I Q := by
  have hz1 := hz
  show jm_Go d 0 0 md_M_count 0 [some (.inr (.inl 167)), some (.inl x1)] [] (jx (jx_0 L) I) (jx_Q (jx_0 L) Q)
  have hd : jm_dc md_M_count.2.1 0 [(.iload_n 1, 1), (.tableswitch 78 0 6 #[43, 48, 53, 58, 63, 68, 73], 43)] = true := by decide +kernel
  refine go_iload_n rfl hd (fun hd => ?_)
  by_cases hq : x1 < 0 ∨ 6 < x1
  · exact go_tableOut (a := x1) hz1 hq (by decide) hd (kd hq)
  · rcases (show x1 = 0 ∨ x1 = 1 ∨ x1 = 2 ∨ x1 = 3 ∨ x1 = 4 ∨ x1 = 5 ∨ x1 = 6 by omega) with hq0 | hq1 | hq2 | hq3 | hq4 | hq5 | hq6
    · exact go_tableIn (a := x1) (off := 43) (t := 44) hz1 (by omega) (by omega) (by rw [hq0]; rfl) (by decide) hd (k0 hq0)
    · exact go_tableIn (a := x1) (off := 48) (t := 49) hz1 (by omega) (by omega) (by rw [hq1]; rfl) (by decide) hd (k1 hq1)
    · exact go_tableIn (a := x1) (off := 53) (t := 54) hz1 (by omega) (by omega) (by rw [hq2]; rfl) (by decide) hd (k2 hq2)
    · exact go_tableIn (a := x1) (off := 58) (t := 59) hz1 (by omega) (by omega) (by rw [hq3]; rfl) (by decide) hd (k3 hq3)
    · exact go_tableIn (a := x1) (off := 63) (t := 64) hz1 (by omega) (by omega) (by rw [hq4]; rfl) (by decide) hd (k4 hq4)
    · exact go_tableIn (a := x1) (off := 68) (t := 69) hz1 (by omega) (by omega) (by rw [hq5]; rfl) (by decide) hd (k5 hq5)
    · exact go_tableIn (a := x1) (off := 73) (t := 74) hz1 (by omega) (by omega) (by rw [hq6]; rfl) (by decide) hd (k6 hq6)
theorem b_M_count_44 {L : Nat} {d : Nat} {I : jm_I} {Q : Option jm_V → jm_I → Prop} {o1 : Option jm_V}  (k : Q (some (.inl (I 167 0))) I) : Gx (jx_0 L) d md_M_count 44 [some (.inr (.inl 167)), o1] [] I Q := by
  show jm_Go d 0 0 md_M_count 44 [some (.inr (.inl 167)), o1] [] (jx (jx_0 L) I) (jx_Q (jx_0 L) Q)
  have hd : jm_dc md_M_count.2.1 44 [(.aload_n 0, 1), (.getfield 7, 3), (.ireturn, 1)] = true := by decide +kernel
  refine go_aload_n rfl hd (fun hd => ?_)
  refine go_getI co_X9 fl_9_7 (by decide) (Or.inl rfl) rfl hd (fun hd => ?_)
  exact go_ireturn hd rfl ⟨_, rfl, k⟩
theorem b_M_count_49 {L : Nat} {d : Nat} {I : jm_I} {Q : Option jm_V → jm_I → Prop} {o1 : Option jm_V}  (k : Q (some (.inl (I 167 1))) I) : Gx (jx_0 L) d md_M_count 49 [some (.inr (.inl 167)), o1] [] I Q := by
  show jm_Go d 0 0 md_M_count 49 [some (.inr (.inl 167)), o1] [] (jx (jx_0 L) I) (jx_Q (jx_0 L) Q)
  have hd : jm_dc md_M_count.2.1 49 [(.aload_n 0, 1), (.getfield 155, 3), (.ireturn, 1)] = true := by decide +kernel
  refine go_aload_n rfl hd (fun hd => ?_)
  refine go_getI co_X9 fl_9_155 (by decide) (Or.inl rfl) rfl hd (fun hd => ?_)
  exact go_ireturn hd rfl ⟨_, rfl, k⟩
theorem b_M_count_54 {L : Nat} {d : Nat} {I : jm_I} {Q : Option jm_V → jm_I → Prop} {o1 : Option jm_V}  (k : Q (some (.inl (I 167 3))) I) : Gx (jx_0 L) d md_M_count 54 [some (.inr (.inl 167)), o1] [] I Q := by
  show jm_Go d 0 0 md_M_count 54 [some (.inr (.inl 167)), o1] [] (jx (jx_0 L) I) (jx_Q (jx_0 L) Q)
  have hd : jm_dc md_M_count.2.1 54 [(.aload_n 0, 1), (.getfield 17, 3), (.ireturn, 1)] = true := by decide +kernel
  refine go_aload_n rfl hd (fun hd => ?_)
  refine go_getI co_X9 fl_9_17 (by decide) (Or.inl rfl) rfl hd (fun hd => ?_)
  exact go_ireturn hd rfl ⟨_, rfl, k⟩
theorem b_M_count_59 {L : Nat} {d : Nat} {I : jm_I} {Q : Option jm_V → jm_I → Prop} {o1 : Option jm_V}  (k : Q (some (.inl (I 167 4))) I) : Gx (jx_0 L) d md_M_count 59 [some (.inr (.inl 167)), o1] [] I Q := by
  show jm_Go d 0 0 md_M_count 59 [some (.inr (.inl 167)), o1] [] (jx (jx_0 L) I) (jx_Q (jx_0 L) Q)
  have hd : jm_dc md_M_count.2.1 59 [(.aload_n 0, 1), (.getfield 82, 3), (.ireturn, 1)] = true := by decide +kernel
  refine go_aload_n rfl hd (fun hd => ?_)
  refine go_getI co_X9 fl_9_82 (by decide) (Or.inl rfl) rfl hd (fun hd => ?_)
  exact go_ireturn hd rfl ⟨_, rfl, k⟩
theorem b_M_count_64 {L : Nat} {d : Nat} {I : jm_I} {Q : Option jm_V → jm_I → Prop} {o1 : Option jm_V}  (k : Q (some (.inl (I 167 5))) I) : Gx (jx_0 L) d md_M_count 64 [some (.inr (.inl 167)), o1] [] I Q := by
  show jm_Go d 0 0 md_M_count 64 [some (.inr (.inl 167)), o1] [] (jx (jx_0 L) I) (jx_Q (jx_0 L) Q)
  have hd : jm_dc md_M_count.2.1 64 [(.aload_n 0, 1), (.getfield 85, 3), (.ireturn, 1)] = true := by decide +kernel
  refine go_aload_n rfl hd (fun hd => ?_)
  refine go_getI co_X9 fl_9_85 (by decide) (Or.inl rfl) rfl hd (fun hd => ?_)
  exact go_ireturn hd rfl ⟨_, rfl, k⟩
theorem b_M_count_69 {L : Nat} {d : Nat} {I : jm_I} {Q : Option jm_V → jm_I → Prop} {o1 : Option jm_V}  (k : Q (some (.inl (I 167 13))) I) : Gx (jx_0 L) d md_M_count 69 [some (.inr (.inl 167)), o1] [] I Q := by
  show jm_Go d 0 0 md_M_count 69 [some (.inr (.inl 167)), o1] [] (jx (jx_0 L) I) (jx_Q (jx_0 L) Q)
  have hd : jm_dc md_M_count.2.1 69 [(.aload_n 0, 1), (.getfield 161, 3), (.ireturn, 1)] = true := by decide +kernel
  refine go_aload_n rfl hd (fun hd => ?_)
  refine go_getI co_X9 fl_9_161 (by decide) (Or.inl rfl) rfl hd (fun hd => ?_)
  exact go_ireturn hd rfl ⟨_, rfl, k⟩
theorem b_M_count_74 {L : Nat} {d : Nat} {I : jm_I} {Q : Option jm_V → jm_I → Prop} {o1 : Option jm_V}  (k : Q (some (.inl (I 167 17))) I) : Gx (jx_0 L) d md_M_count 74 [some (.inr (.inl 167)), o1] [] I Q := by
  show jm_Go d 0 0 md_M_count 74 [some (.inr (.inl 167)), o1] [] (jx (jx_0 L) I) (jx_Q (jx_0 L) Q)
  have hd : jm_dc md_M_count.2.1 74 [(.aload_n 0, 1), (.getfield 88, 3), (.ireturn, 1)] = true := by decide +kernel
  refine go_aload_n rfl hd (fun hd => ?_)
  refine go_getI co_X9 fl_9_88 (by decide) (Or.inl rfl) rfl hd (fun hd => ?_)
  exact go_ireturn hd rfl ⟨_, rfl, k⟩
theorem b_M_count_79 {L : Nat} {d : Nat} {I : jm_I} {Q : Option jm_V → jm_I → Prop} {o0 : Option jm_V} {o1 : Option jm_V}  (k : Q (some (.inl (-1))) I) : Gx (jx_0 L) d md_M_count 79 [o0, o1] [] I Q := by
  show jm_Go d 0 0 md_M_count 79 [o0, o1] [] (jx (jx_0 L) I) (jx_Q (jx_0 L) Q)
  have hd : jm_dc md_M_count.2.1 79 [(.iconst (-1), 1), (.ireturn, 1)] = true := by decide +kernel
  refine go_iconst hd (fun hd => ?_)
  exact go_ireturn hd rfl ⟨_, rfl, k⟩
theorem b_M_trace_0 {L : Nat} {d : Nat} {I : jm_I} {Q : Option jm_V → jm_I → Prop}   (k : Q (some (.inr (.inr (I 167 15)))) I) : Cx (jx_0 L) d md_M_trace [.inr (.inl 167)] I Q := by
  show jm_Go d 0 0 md_M_trace 0 [some (.inr (.inl 167))] [] (jx (jx_0 L) I) (jx_Q (jx_0 L) Q)
  have hd : jm_dc md_M_trace.2.1 0 [(.aload_n 0, 1), (.getfield 261, 3), (.lreturn, 1)] = true := by decide +kernel
  refine go_aload_n rfl hd (fun hd => ?_)
  refine go_getJ co_X9 fl_9_261 (by decide) rfl rfl hd (fun hd => ?_)
  exact go_lreturn hd rfl ⟨_, rfl, k⟩
