/-! ===== a lemma a basic block (by program, wip/gen/gen9.py) ===== -/
theorem b_City_beAsAtFirst_0 {P : jm_P} {d : Nat} {I : jm_I} {Q : Option jm_V → jm_I → Prop} {a0 : Nat} (ha0 : jx_City P a0) (k : Q none (jm_up (jm_up (jm_up (jm_up (jm_up I a0 0 2) a0 1 10) a0 2 0) a0 3 0) a0 4 0)) : Cx P d md_City_beAsAtFirst [.inr (.inl a0)] I Q := by
  show jm_Go d 0 0 md_City_beAsAtFirst 0 [some (.inr (.inl a0))] [] (jx P I) (jx_Q P Q)
  have hd : jm_dc md_City_beAsAtFirst.2.1 0 [(.aload_n 0, 1), (.iconst 2, 1), (.putfield 41, 3), (.aload_n 0, 1), (.bipush 10, 2), (.putfield 45, 3), (.aload_n 0, 1), (.iconst 0, 1), (.putfield 48, 3), (.aload_n 0, 1), (.iconst 0, 1), (.putfield 51, 3), (.aload_n 0, 1), (.iconst 0, 1), (.putfield 54, 3), (.return_, 1)] = true := by decide +kernel
  refine go_aload_n rfl hd (fun hd => ?_)
  refine go_iconst hd (fun hd => ?_)
  refine go_putI co_X0 fl_0_41 (by decide) rfl (ct_K ha0) hd (fun hd => ?_)
  refine go_aload_n rfl hd (fun hd => ?_)
  refine go_bipush (by decide) hd (fun hd => ?_)
  refine go_putI co_X0 fl_0_45 (by decide) rfl (ct_K ha0) hd (fun hd => ?_)
  refine go_aload_n rfl hd (fun hd => ?_)
  refine go_iconst hd (fun hd => ?_)
  refine go_putI co_X0 fl_0_48 (by decide) rfl (ct_K ha0) hd (fun hd => ?_)
  refine go_aload_n rfl hd (fun hd => ?_)
  refine go_iconst hd (fun hd => ?_)
  refine go_putI co_X0 fl_0_51 (by decide) rfl (ct_K ha0) hd (fun hd => ?_)
  refine go_aload_n rfl hd (fun hd => ?_)
  refine go_iconst hd (fun hd => ?_)
  refine go_putI co_X0 fl_0_54 (by decide) rfl (ct_K ha0) hd (fun hd => ?_)
  exact go_vreturn hd rfl ⟨_, rfl, k⟩
theorem b_City_measure_0 {P : jm_P} {d : Nat} {I : jm_I} {Q : Option jm_V → jm_I → Prop} {a0 : Nat} (ha0 : jx_City P a0) (k : Gx P d md_City_measure 2 [some (.inr (.inl a0)), some (.inl 0)] [] I Q) : Cx P d md_City_measure [.inr (.inl a0)] I Q := by
  show jm_Go d 0 0 md_City_measure 0 [some (.inr (.inl a0)), none] [] (jx P I) (jx_Q P Q)
  have hd : jm_dc md_City_measure.2.1 0 [(.iconst 0, 1), (.istore_n 1, 1)] = true := by decide +kernel
  refine go_iconst hd (fun hd => ?_)
  refine go_istore_n (by decide) hd (fun hd => ?_)
  exact k
theorem b_City_measure_2 {P : jm_P} {d : Nat} {I : jm_I} {Q : Option jm_V → jm_I → Prop} {a0 : Nat} {x1 : Int} (ha0 : jx_City P a0) (hz : (-2147483648 ≤ x1 ∧ x1 < 2147483648) ∧ (-2147483648 ≤ I a0 0 ∧ I a0 0 < 2147483648)) (kt : (I a0 0) ≤ x1 → Gx P d md_City_measure 28 [some (.inr (.inl a0)), some (.inl x1)] [] I Q) (kf : ¬ ((I a0 0) ≤ x1) → Gx P d md_City_measure 10 [some (.inr (.inl a0)), some (.inl x1)] [] I Q) : Gx P d md_City_measure 2 [some (.inr (.inl a0)), some (.inl x1)] [] I Q := by
  obtain ⟨hz1, hz2⟩ := hz
  show jm_Go d 0 0 md_City_measure 2 [some (.inr (.inl a0)), some (.inl x1)] [] (jx P I) (jx_Q P Q)
  have hd : jm_dc md_City_measure.2.1 2 [(.iload_n 1, 1), (.aload_n 0, 1), (.getfield 41, 3), (.if_icmp .ge 21, 3)] = true := by decide +kernel
  refine go_iload_n rfl hd (fun hd => ?_)
  refine go_aload_n rfl hd (fun hd => ?_)
  refine go_getI co_X0 fl_0_41 (by decide) (Or.inl rfl) (ct_K ha0) hd (fun hd => ?_)
  exact go_icmp_ge (by decide) hz1 hz2 hd kt kf
theorem b_City_measure_10 {P : jm_P} {d : Nat} {I : jm_I} {Q : Option jm_V → jm_I → Prop} {a0 : Nat} {x1 : Int} (ha0 : jx_City P a0) (hz : (0 ≤ x1 ∧ x1 < 6)) (k : Cx P d md_City_measureFrom [.inr (.inl a0), .inl x1, .inl 0, .inr (.inl (a0 + 14 + x1.toNat))] I (fun v J => Gx P (d + 1) md_City_measure 22 [some (.inr (.inl a0)), some (.inl x1)] (v.toList ++ []) J Q)) : Gx P (d + 1) md_City_measure 10 [some (.inr (.inl a0)), some (.inl x1)] [] I Q := by
  have hz1 := hz
  show jm_Go (d + 1) 0 0 md_City_measure 10 [some (.inr (.inl a0)), some (.inl x1)] [] (jx P I) (jx_Q P Q)
  have hd : jm_dc md_City_measure.2.1 10 [(.aload_n 0, 1), (.iload_n 1, 1), (.iconst 0, 1), (.aload_n 0, 1), (.getfield 35, 3), (.iload_n 1, 1), (.aaload, 1), (.invokevirtual 57, 3)] = true := by decide +kernel
  refine go_aload_n rfl hd (fun hd => ?_)
  refine go_iload_n rfl hd (fun hd => ?_)
  refine go_iconst hd (fun hd => ?_)
  refine go_aload_n rfl hd (fun hd => ?_)
  refine go_getR co_X0 fl_0_35 (by decide) rfl (ct_K ha0) (ct_R12 ha0) hd (fun hd => ?_)
  refine go_iload_n rfl hd (fun hd => ?_)
  refine go_aaload (Or.inr (ct_S13 ha0)) hz1.1 hz1.2 (by decide) (ct_distI ha0 hz1.1 hz1.2) hd (fun hd => ?_)
  exact gx_virtual a0 0 [.inl x1, .inl 0, .inr (.inl (a0 + 14 + x1.toNat))] [] mk_City_measureFrom co_X0 rfl ml_0_57 in_City_measureFrom se_City_measureFrom (ct_K ha0) rfl (Nat.le_of_ble_eq_true rfl) rfl (Nat.le_of_ble_eq_true rfl) rfl hd k
theorem b_City_measure_22 {P : jm_P} {d : Nat} {I : jm_I} {Q : Option jm_V → jm_I → Prop} {o0 : Option jm_V} {x1 : Int}  (k : Gx P d md_City_measure 2 [o0, some (.inl (x1 + 1))] [] I Q) : Gx P d md_City_measure 22 [o0, some (.inl x1)] [] I Q := by
  show jm_Go d 0 0 md_City_measure 22 [o0, some (.inl x1)] [] (jx P I) (jx_Q P Q)
  have hd : jm_dc md_City_measure.2.1 22 [(.iinc 1 1, 3), (.goto (-23), 3)] = true := by decide +kernel
  refine go_iinc rfl hd (fun hd => ?_)
  exact go_goto (by decide) hd k
theorem b_City_measure_28 {P : jm_P} {d : Nat} {I : jm_I} {Q : Option jm_V → jm_I → Prop} {o0 : Option jm_V} {o1 : Option jm_V}  (k : Q none I) : Gx P d md_City_measure 28 [o0, o1] [] I Q := by
  show jm_Go d 0 0 md_City_measure 28 [o0, o1] [] (jx P I) (jx_Q P Q)
  have hd : jm_dc md_City_measure.2.1 28 [(.return_, 1)] = true := by decide +kernel
  exact go_vreturn hd rfl ⟨_, rfl, k⟩
theorem b_City_measureFrom_0 {P : jm_P} {d : Nat} {I : jm_I} {Q : Option jm_V → jm_I → Prop} {a0 : Nat} {x1 : Int} {x2 : Int} {a3 na3 : Nat} (ha0 : jx_City P a0) (ha3 : P.2.1 a3 = (20, na3)) (k : Cx P d md_Arrays_fill [.inr (.inl a3), .inl 1000] I (fun v J => Gx P (d + 1) md_City_measureFrom 7 [some (.inr (.inl a0)), some (.inl x1), some (.inl x2), some (.inr (.inl a3)), none, none, none] (v.toList ++ []) J Q)) : Cx P (d + 1) md_City_measureFrom [.inr (.inl a0), .inl x1, .inl x2, .inr (.inl a3)] I Q := by
  show jm_Go (d + 1) 0 0 md_City_measureFrom 0 [some (.inr (.inl a0)), some (.inl x1), some (.inl x2), some (.inr (.inl a3)), none, none, none] [] (jx P I) (jx_Q P Q)
  have hd : jm_dc md_City_measureFrom.2.1 0 [(.aload_n 3, 1), (.sipush 1000, 3), (.invokestatic 61, 3)] = true := by decide +kernel
  refine go_aload_n rfl hd (fun hd => ?_)
  refine go_sipush (by decide) hd (fun hd => ?_)
  exact gx_static [.inr (.inl a3), .inl 1000] [] mk_Arrays_fill ml_0_61 st_Arrays_fill rfl (Nat.le_of_ble_eq_true rfl) rfl (Nat.le_of_ble_eq_true rfl) rfl hd k
theorem b_City_measureFrom_7 {P : jm_P} {d : Nat} {I : jm_I} {Q : Option jm_V → jm_I → Prop} {o0 : Option jm_V} {x1 : Int} {o2 : Option jm_V} {a3 na3 : Nat} {o4 : Option jm_V} {o5 : Option jm_V} {o6 : Option jm_V} (ha3 : P.2.1 a3 = (20, na3)) (hz : (0 ≤ x1 ∧ x1 < na3) ∧ (na3 < 2147483648)) (k : Gx P d md_City_measureFrom 17 [o0, some (.inl x1), o2, some (.inr (.inl a3)), some (.inl 1), some (.inl 0), o6] [] (jm_up I a3 (x1.toNat) 0) Q) : Gx P d md_City_measureFrom 7 [o0, some (.inl x1), o2, some (.inr (.inl a3)), o4, o5, o6] [] I Q := by
  obtain ⟨hz1, hz2⟩ := hz
  show jm_Go d 0 0 md_City_measureFrom 7 [o0, some (.inl x1), o2, some (.inr (.inl a3)), o4, o5, o6] [] (jx P I) (jx_Q P Q)
  have hd : jm_dc md_City_measureFrom.2.1 7 [(.aload_n 3, 1), (.iload_n 1, 1), (.iconst 0, 1), (.iastore, 1), (.iconst 1, 1), (.istore 4, 2), (.iconst 0, 1), (.istore 5, 2)] = true := by decide +kernel
  refine go_aload_n rfl hd (fun hd => ?_)
  refine go_iload_n rfl hd (fun hd => ?_)
  refine go_iconst hd (fun hd => ?_)
  refine go_iastore ha3 hz1.1 hz1.2 hz2 hd (fun hd => ?_)
  refine go_iconst hd (fun hd => ?_)
  refine go_istore (by decide) hd (fun hd => ?_)
  refine go_iconst hd (fun hd => ?_)
  refine go_istore (by decide) hd (fun hd => ?_)
  exact k
theorem b_City_measureFrom_17 {P : jm_P} {d : Nat} {I : jm_I} {Q : Option jm_V → jm_I → Prop} {o0 : Option jm_V} {o1 : Option jm_V} {o2 : Option jm_V} {o3 : Option jm_V} {o4 : Option jm_V} {x5 : Int} {o6 : Option jm_V}  (hz : (-2147483648 ≤ x5 ∧ x5 < 2147483648)) (kt : 6 ≤ x5 → Gx P d md_City_measureFrom 88 [o0, o1, o2, o3, o4, some (.inl x5), o6] [] I Q) (kf : ¬ (6 ≤ x5) → Gx P d md_City_measureFrom 24 [o0, o1, o2, o3, o4, some (.inl x5), o6] [] I Q) : Gx P d md_City_measureFrom 17 [o0, o1, o2, o3, o4, some (.inl x5), o6] [] I Q := by
  have hz1 := hz
  show jm_Go d 0 0 md_City_measureFrom 17 [o0, o1, o2, o3, o4, some (.inl x5), o6] [] (jx P I) (jx_Q P Q)
  have hd : jm_dc md_City_measureFrom.2.1 17 [(.iload 5, 2), (.bipush 6, 2), (.if_icmp .ge 67, 3)] = true := by decide +kernel
  refine go_iload rfl hd (fun hd => ?_)
  refine go_bipush (by decide) hd (fun hd => ?_)
  exact go_icmp_ge (by decide) hz1 ⟨by decide, by decide⟩ hd kt kf
theorem b_City_measureFrom_24 {P : jm_P} {d : Nat} {I : jm_I} {Q : Option jm_V → jm_I → Prop} {o0 : Option jm_V} {o1 : Option jm_V} {o2 : Option jm_V} {o3 : Option jm_V} {x4 : Int} {o5 : Option jm_V} {o6 : Option jm_V}  (hz : (-2147483648 ≤ x4 ∧ x4 < 2147483648)) (kt : x4 = 0 → Gx P d md_City_measureFrom 88 [o0, o1, o2, o3, some (.inl x4), o5, o6] [] I Q) (kf : ¬ x4 = 0 → Gx P d md_City_measureFrom 29 [o0, o1, o2, o3, some (.inl x4), o5, o6] [] I Q) : Gx P d md_City_measureFrom 24 [o0, o1, o2, o3, some (.inl x4), o5, o6] [] I Q := by
  have hz1 := hz
  show jm_Go d 0 0 md_City_measureFrom 24 [o0, o1, o2, o3, some (.inl x4), o5, o6] [] (jx P I) (jx_Q P Q)
  have hd : jm_dc md_City_measureFrom.2.1 24 [(.iload 4, 2), (.ifCond .eq 62, 3)] = true := by decide +kernel
  refine go_iload rfl hd (fun hd => ?_)
  exact go_if_eq (by decide) hz1 hd kt kf
theorem b_City_measureFrom_29 {P : jm_P} {d : Nat} {I : jm_I} {Q : Option jm_V → jm_I → Prop} {o0 : Option jm_V} {o1 : Option jm_V} {o2 : Option jm_V} {o3 : Option jm_V} {o4 : Option jm_V} {o5 : Option jm_V} {o6 : Option jm_V}  (k : Gx P d md_City_measureFrom 35 [o0, o1, o2, o3, some (.inl 0), o5, some (.inl 0)] [] I Q) : Gx P d md_City_measureFrom 29 [o0, o1, o2, o3, o4, o5, o6] [] I Q := by
  show jm_Go d 0 0 md_City_measureFrom 29 [o0, o1, o2, o3, o4, o5, o6] [] (jx P I) (jx_Q P Q)
  have hd : jm_dc md_City_measureFrom.2.1 29 [(.iconst 0, 1), (.istore 4, 2), (.iconst 0, 1), (.istore 6, 2)] = true := by decide +kernel
  refine go_iconst hd (fun hd => ?_)
  refine go_istore (by decide) hd (fun hd => ?_)
  refine go_iconst hd (fun hd => ?_)
  refine go_istore (by decide) hd (fun hd => ?_)
  exact k
theorem b_City_measureFrom_35 {P : jm_P} {d : Nat} {I : jm_I} {Q : Option jm_V → jm_I → Prop} {a0 : Nat} {o1 : Option jm_V} {o2 : Option jm_V} {o3 : Option jm_V} {o4 : Option jm_V} {o5 : Option jm_V} {x6 : Int} (ha0 : jx_City P a0) (hz : (-2147483648 ≤ x6 ∧ x6 < 2147483648) ∧ (-2147483648 ≤ I a0 2 ∧ I a0 2 < 2147483648)) (kt : (I a0 2) ≤ x6 → Gx P d md_City_measureFrom 82 [some (.inr (.inl a0)), o1, o2, o3, o4, o5, some (.inl x6)] [] I Q) (kf : ¬ ((I a0 2) ≤ x6) → Gx P d md_City_measureFrom 44 [some (.inr (.inl a0)), o1, o2, o3, o4, o5, some (.inl x6)] [] I Q) : Gx P d md_City_measureFrom 35 [some (.inr (.inl a0)), o1, o2, o3, o4, o5, some (.inl x6)] [] I Q := by
  obtain ⟨hz1, hz2⟩ := hz
  show jm_Go d 0 0 md_City_measureFrom 35 [some (.inr (.inl a0)), o1, o2, o3, o4, o5, some (.inl x6)] [] (jx P I) (jx_Q P Q)
  have hd : jm_dc md_City_measureFrom.2.1 35 [(.iload 6, 2), (.aload_n 0, 1), (.getfield 48, 3), (.if_icmp .ge 41, 3)] = true := by decide +kernel
  refine go_iload rfl hd (fun hd => ?_)
  refine go_aload_n rfl hd (fun hd => ?_)
  refine go_getI co_X0 fl_0_48 (by decide) (Or.inl rfl) (ct_K ha0) hd (fun hd => ?_)
  exact go_icmp_ge (by decide) hz1 hz2 hd kt kf
theorem b_City_measureFrom_44 {P : jm_P} {d : Nat} {I : jm_I} {Q : Option jm_V → jm_I → Prop} {a0 : Nat} {o1 : Option jm_V} {o2 : Option jm_V} {o3 : Option jm_V} {o4 : Option jm_V} {o5 : Option jm_V} {x6 : Int} (ha0 : jx_City P a0) (hz : (0 ≤ x6 ∧ x6 < 8) ∧ (-2147483648 ≤ I (a0 + 3) x6.toNat ∧ I (a0 + 3) x6.toNat < 2147483648)) (kt : ¬ (I (a0 + 3) x6.toNat) = 0 → Gx P d md_City_measureFrom 76 [some (.inr (.inl a0)), o1, o2, o3, o4, o5, some (.inl x6)] [] I Q) (kf : (I (a0 + 3) x6.toNat) = 0 → Gx P d md_City_measureFrom 54 [some (.inr (.inl a0)), o1, o2, o3, o4, o5, some (.inl x6)] [] I Q) : Gx P d md_City_measureFrom 44 [some (.inr (.inl a0)), o1, o2, o3, o4, o5, some (.inl x6)] [] I Q := by
  obtain ⟨hz1, hz2⟩ := hz
  show jm_Go d 0 0 md_City_measureFrom 44 [some (.inr (.inl a0)), o1, o2, o3, o4, o5, some (.inl x6)] [] (jx P I) (jx_Q P Q)
  have hd : jm_dc md_City_measureFrom.2.1 44 [(.aload_n 0, 1), (.getfield 18, 3), (.iload 6, 2), (.iaload, 1), (.ifCond .ne 25, 3)] = true := by decide +kernel
  refine go_aload_n rfl hd (fun hd => ?_)
  refine go_getR co_X0 fl_0_18 (by decide) rfl (ct_K ha0) (ct_R7 ha0) hd (fun hd => ?_)
  refine go_iload rfl hd (fun hd => ?_)
  refine go_iaload (ct_S3 ha0) hz1.1 hz1.2 (by decide) hd (fun hd => ?_)
  exact go_if_ne (by decide) hz2 hd kt kf
theorem b_City_measureFrom_54 {P : jm_P} {d : Nat} {I : jm_I} {Q : Option jm_V → jm_I → Prop} {o0 : Option jm_V} {o1 : Option jm_V} {x2 : Int} {o3 : Option jm_V} {o4 : Option jm_V} {o5 : Option jm_V} {x6 : Int}  (hz : (-2147483648 ≤ jb_and (jb_shr x2 x6) 1 ∧ jb_and (jb_shr x2 x6) 1 < 2147483648)) (kt : ¬ (jb_and (jb_shr x2 x6) 1) = 0 → Gx P d md_City_measureFrom 76 [o0, o1, some (.inl x2), o3, o4, o5, some (.inl x6)] [] I Q) (kf : (jb_and (jb_shr x2 x6) 1) = 0 → Gx P d md_City_measureFrom 63 [o0, o1, some (.inl x2), o3, o4, o5, some (.inl x6)] [] I Q) : Gx P d md_City_measureFrom 54 [o0, o1, some (.inl x2), o3, o4, o5, some (.inl x6)] [] I Q := by
  have hz1 := hz
  show jm_Go d 0 0 md_City_measureFrom 54 [o0, o1, some (.inl x2), o3, o4, o5, some (.inl x6)] [] (jx P I) (jx_Q P Q)
  have hd : jm_dc md_City_measureFrom.2.1 54 [(.iload_n 2, 1), (.iload 6, 2), (.ishr, 1), (.iconst 1, 1), (.iand, 1), (.ifCond .ne 16, 3)] = true := by decide +kernel
  refine go_iload_n rfl hd (fun hd => ?_)
  refine go_iload rfl hd (fun hd => ?_)
  refine go_ishr hd (fun hd => ?_)
  refine go_iconst hd (fun hd => ?_)
  refine go_iand hd (fun hd => ?_)
  exact go_if_ne (by decide) hz1 hd kt kf
theorem b_City_measureFrom_63 {P : jm_P} {d : Nat} {I : jm_I} {Q : Option jm_V → jm_I → Prop} {a0 : Nat} {o1 : Option jm_V} {o2 : Option jm_V} {a3 na3 : Nat} {o4 : Option jm_V} {o5 : Option jm_V} {x6 : Int} (ha0 : jx_City P a0) (ha3 : P.2.1 a3 = (20, na3)) (k : Cx P d md_City_bringsNearer [.inr (.inl a0), .inl x6, .inr (.inl a3)] I (fun v J => Gx P (d + 1) md_City_measureFrom 70 [some (.inr (.inl a0)), o1, o2, some (.inr (.inl a3)), o4, o5, some (.inl x6)] (v.toList ++ []) J Q)) : Gx P (d + 1) md_City_measureFrom 63 [some (.inr (.inl a0)), o1, o2, some (.inr (.inl a3)), o4, o5, some (.inl x6)] [] I Q := by
  show jm_Go (d + 1) 0 0 md_City_measureFrom 63 [some (.inr (.inl a0)), o1, o2, some (.inr (.inl a3)), o4, o5, some (.inl x6)] [] (jx P I) (jx_Q P Q)
  have hd : jm_dc md_City_measureFrom.2.1 63 [(.aload_n 0, 1), (.iload 6, 2), (.aload_n 3, 1), (.invokevirtual 67, 3)] = true := by decide +kernel
  refine go_aload_n rfl hd (fun hd => ?_)
  refine go_iload rfl hd (fun hd => ?_)
  refine go_aload_n rfl hd (fun hd => ?_)
  exact gx_virtual a0 0 [.inl x6, .inr (.inl a3)] [] mk_City_bringsNearer co_X0 rfl ml_0_67 in_City_bringsNearer se_City_bringsNearer (ct_K ha0) rfl (Nat.le_of_ble_eq_true rfl) rfl (Nat.le_of_ble_eq_true rfl) rfl hd k
theorem b_City_measureFrom_70 {P : jm_P} {d : Nat} {I : jm_I} {Q : Option jm_V → jm_I → Prop} {o0 : Option jm_V} {o1 : Option jm_V} {o2 : Option jm_V} {o3 : Option jm_V} {o4 : Option jm_V} {o5 : Option jm_V} {o6 : Option jm_V} {s0 : Int}  (hz : (-2147483648 ≤ s0 ∧ s0 < 2147483648)) (kt : s0 = 0 → Gx P d md_City_measureFrom 76 [o0, o1, o2, o3, o4, o5, o6] [] I Q) (kf : ¬ s0 = 0 → Gx P d md_City_measureFrom 73 [o0, o1, o2, o3, o4, o5, o6] [] I Q) : Gx P d md_City_measureFrom 70 [o0, o1, o2, o3, o4, o5, o6] [.inl s0] I Q := by
  have hz1 := hz
  show jm_Go d 0 0 md_City_measureFrom 70 [o0, o1, o2, o3, o4, o5, o6] [.inl s0] (jx P I) (jx_Q P Q)
  have hd : jm_dc md_City_measureFrom.2.1 70 [(.ifCond .eq 6, 3)] = true := by decide +kernel
  exact go_if_eq (by decide) hz1 hd kt kf
theorem b_City_measureFrom_73 {P : jm_P} {d : Nat} {I : jm_I} {Q : Option jm_V → jm_I → Prop} {o0 : Option jm_V} {o1 : Option jm_V} {o2 : Option jm_V} {o3 : Option jm_V} {o4 : Option jm_V} {o5 : Option jm_V} {o6 : Option jm_V}  (k : Gx P d md_City_measureFrom 76 [o0, o1, o2, o3, some (.inl 1), o5, o6] [] I Q) : Gx P d md_City_measureFrom 73 [o0, o1, o2, o3, o4, o5, o6] [] I Q := by
  show jm_Go d 0 0 md_City_measureFrom 73 [o0, o1, o2, o3, o4, o5, o6] [] (jx P I) (jx_Q P Q)
  have hd : jm_dc md_City_measureFrom.2.1 73 [(.iconst 1, 1), (.istore 4, 2)] = true := by decide +kernel
  refine go_iconst hd (fun hd => ?_)
  refine go_istore (by decide) hd (fun hd => ?_)
  exact k
theorem b_City_measureFrom_76 {P : jm_P} {d : Nat} {I : jm_I} {Q : Option jm_V → jm_I → Prop} {o0 : Option jm_V} {o1 : Option jm_V} {o2 : Option jm_V} {o3 : Option jm_V} {o4 : Option jm_V} {o5 : Option jm_V} {x6 : Int}  (k : Gx P d md_City_measureFrom 35 [o0, o1, o2, o3, o4, o5, some (.inl (x6 + 1))] [] I Q) : Gx P d md_City_measureFrom 76 [o0, o1, o2, o3, o4, o5, some (.inl x6)] [] I Q := by
  show jm_Go d 0 0 md_City_measureFrom 76 [o0, o1, o2, o3, o4, o5, some (.inl x6)] [] (jx P I) (jx_Q P Q)
  have hd : jm_dc md_City_measureFrom.2.1 76 [(.iinc 6 1, 3), (.goto (-44), 3)] = true := by decide +kernel
  refine go_iinc rfl hd (fun hd => ?_)
  exact go_goto (by decide) hd k
theorem b_City_measureFrom_82 {P : jm_P} {d : Nat} {I : jm_I} {Q : Option jm_V → jm_I → Prop} {o0 : Option jm_V} {o1 : Option jm_V} {o2 : Option jm_V} {o3 : Option jm_V} {o4 : Option jm_V} {x5 : Int} {o6 : Option jm_V}  (k : Gx P d md_City_measureFrom 17 [o0, o1, o2, o3, o4, some (.inl (x5 + 1)), o6] [] I Q) : Gx P d md_City_measureFrom 82 [o0, o1, o2, o3, o4, some (.inl x5), o6] [] I Q := by
  show jm_Go d 0 0 md_City_measureFrom 82 [o0, o1, o2, o3, o4, some (.inl x5), o6] [] (jx P I) (jx_Q P Q)
  have hd : jm_dc md_City_measureFrom.2.1 82 [(.iinc 5 1, 3), (.goto (-68), 3)] = true := by decide +kernel
  refine go_iinc rfl hd (fun hd => ?_)
  exact go_goto (by decide) hd k
theorem b_City_measureFrom_88 {P : jm_P} {d : Nat} {I : jm_I} {Q : Option jm_V → jm_I → Prop} {o0 : Option jm_V} {o1 : Option jm_V} {o2 : Option jm_V} {o3 : Option jm_V} {o4 : Option jm_V} {o5 : Option jm_V} {o6 : Option jm_V}  (k : Q none I) : Gx P d md_City_measureFrom 88 [o0, o1, o2, o3, o4, o5, o6] [] I Q := by
  show jm_Go d 0 0 md_City_measureFrom 88 [o0, o1, o2, o3, o4, o5, o6] [] (jx P I) (jx_Q P Q)
  have hd : jm_dc md_City_measureFrom.2.1 88 [(.return_, 1)] = true := by decide +kernel
  exact go_vreturn hd rfl ⟨_, rfl, k⟩
theorem b_Arrays_fill_0 {P : jm_P} {d : Nat} {I : jm_I} {Q : Option jm_V → jm_I → Prop} {a0 na0 : Nat} {x1 : Int} (ha0 : P.2.1 a0 = (20, na0)) (k : Gx P d md_Arrays_fill 5 [some (.inr (.inl a0)), some (.inl x1), some (.inl 0), some (.inl ((na0 : Int)))] [] I Q) : Cx P d md_Arrays_fill [.inr (.inl a0), .inl x1] I Q := by
  show jm_Go d 0 0 md_Arrays_fill 0 [some (.inr (.inl a0)), some (.inl x1), none, none] [] (jx P I) (jx_Q P Q)
  have hd : jm_dc md_Arrays_fill.2.1 0 [(.iconst 0, 1), (.istore_n 2, 1), (.aload_n 0, 1), (.arraylength, 1), (.istore_n 3, 1)] = true := by decide +kernel
  refine go_iconst hd (fun hd => ?_)
  refine go_istore_n (by decide) hd (fun hd => ?_)
  refine go_aload_n rfl hd (fun hd => ?_)
  refine go_alen ha0 hd (fun hd => ?_)
  refine go_istore_n (by decide) hd (fun hd => ?_)
  exact k
theorem b_Arrays_fill_5 {P : jm_P} {d : Nat} {I : jm_I} {Q : Option jm_V → jm_I → Prop} {o0 : Option jm_V} {o1 : Option jm_V} {x2 : Int} {x3 : Int}  (hz : (-2147483648 ≤ x2 ∧ x2 < 2147483648) ∧ (-2147483648 ≤ x3 ∧ x3 < 2147483648)) (kt : x3 ≤ x2 → Gx P d md_Arrays_fill 20 [o0, o1, some (.inl x2), some (.inl x3)] [] I Q) (kf : ¬ (x3 ≤ x2) → Gx P d md_Arrays_fill 10 [o0, o1, some (.inl x2), some (.inl x3)] [] I Q) : Gx P d md_Arrays_fill 5 [o0, o1, some (.inl x2), some (.inl x3)] [] I Q := by
  obtain ⟨hz1, hz2⟩ := hz
  show jm_Go d 0 0 md_Arrays_fill 5 [o0, o1, some (.inl x2), some (.inl x3)] [] (jx P I) (jx_Q P Q)
  have hd : jm_dc md_Arrays_fill.2.1 5 [(.iload_n 2, 1), (.iload_n 3, 1), (.if_icmp .ge 13, 3)] = true := by decide +kernel
  refine go_iload_n rfl hd (fun hd => ?_)
  refine go_iload_n rfl hd (fun hd => ?_)
  exact go_icmp_ge (by decide) hz1 hz2 hd kt kf
theorem b_Arrays_fill_10 {P : jm_P} {d : Nat} {I : jm_I} {Q : Option jm_V → jm_I → Prop} {a0 na0 : Nat} {x1 : Int} {x2 : Int} {o3 : Option jm_V} (ha0 : P.2.1 a0 = (20, na0)) (hz : (0 ≤ x2 ∧ x2 < na0) ∧ (na0 < 2147483648)) (k : Gx P d md_Arrays_fill 5 [some (.inr (.inl a0)), some (.inl x1), some (.inl (x2 + 1)), o3] [] (jm_up I a0 (x2.toNat) x1) Q) : Gx P d md_Arrays_fill 10 [some (.inr (.inl a0)), some (.inl x1), some (.inl x2), o3] [] I Q := by
  obtain ⟨hz1, hz2⟩ := hz
  show jm_Go d 0 0 md_Arrays_fill 10 [some (.inr (.inl a0)), some (.inl x1), some (.inl x2), o3] [] (jx P I) (jx_Q P Q)
  have hd : jm_dc md_Arrays_fill.2.1 10 [(.aload_n 0, 1), (.iload_n 2, 1), (.iload_n 1, 1), (.iastore, 1), (.iinc 2 1, 3), (.goto (-12), 3)] = true := by decide +kernel
  refine go_aload_n rfl hd (fun hd => ?_)
  refine go_iload_n rfl hd (fun hd => ?_)
  refine go_iload_n rfl hd (fun hd => ?_)
  refine go_iastore ha0 hz1.1 hz1.2 hz2 hd (fun hd => ?_)
  refine go_iinc rfl hd (fun hd => ?_)
  exact go_goto (by decide) hd k
theorem b_Arrays_fill_20 {P : jm_P} {d : Nat} {I : jm_I} {Q : Option jm_V → jm_I → Prop} {o0 : Option jm_V} {o1 : Option jm_V} {o2 : Option jm_V} {o3 : Option jm_V}  (k : Q none I) : Gx P d md_Arrays_fill 20 [o0, o1, o2, o3] [] I Q := by
  show jm_Go d 0 0 md_Arrays_fill 20 [o0, o1, o2, o3] [] (jx P I) (jx_Q P Q)
  have hd : jm_dc md_Arrays_fill.2.1 20 [(.return_, 1)] = true := by decide +kernel
  exact go_vreturn hd rfl ⟨_, rfl, k⟩
theorem b_City_bringsNearer_0 {P : jm_P} {d : Nat} {I : jm_I} {Q : Option jm_V → jm_I → Prop} {a0 : Nat} {x1 : Int} {a2 na2 : Nat} (ha0 : jx_City P a0) (ha2 : P.2.1 a2 = (20, na2)) (hz : (0 ≤ x1 ∧ x1 < 8) ∧ (0 ≤ x1 ∧ x1 < 8) ∧ (0 ≤ I (a0 + 1) x1.toNat ∧ I (a0 + 1) x1.toNat < na2) ∧ (na2 < 2147483648) ∧ (0 ≤ I (a0 + 2) x1.toNat ∧ I (a0 + 2) x1.toNat < na2) ∧ (na2 < 2147483648) ∧ (-2147483648 ≤ (I a2 (I (a0 + 1) x1.toNat).toNat) + 1 ∧ (I a2 (I (a0 + 1) x1.toNat).toNat) + 1 < 2147483648) ∧ (-2147483648 ≤ I a2 (I (a0 + 2) x1.toNat).toNat ∧ I a2 (I (a0 + 2) x1.toNat).toNat < 2147483648)) (kt : (I a2 (I (a0 + 2) x1.toNat).toNat) ≤ ((I a2 (I (a0 + 1) x1.toNat).toNat) + 1) → Gx P d md_City_bringsNearer 38 [some (.inr (.inl a0)), some (.inl x1), some (.inr (.inl a2)), some (.inl (I (a0 + 1) x1.toNat)), some (.inl (I (a0 + 2) x1.toNat))] [] I Q) (kf : ¬ ((I a2 (I (a0 + 2) x1.toNat).toNat) ≤ ((I a2 (I (a0 + 1) x1.toNat).toNat) + 1)) → Gx P d md_City_bringsNearer 27 [some (.inr (.inl a0)), some (.inl x1), some (.inr (.inl a2)), some (.inl (I (a0 + 1) x1.toNat)), some (.inl (I (a0 + 2) x1.toNat))] [] I Q) : Cx P d md_City_bringsNearer [.inr (.inl a0), .inl x1, .inr (.inl a2)] I Q := by
  obtain ⟨hz1, hz2, hz3, hz4, hz5, hz6, hz7, hz8⟩ := hz
  show jm_Go d 0 0 md_City_bringsNearer 0 [some (.inr (.inl a0)), some (.inl x1), some (.inr (.inl a2)), none, none] [] (jx P I) (jx_Q P Q)
  have hd : jm_dc md_City_bringsNearer.2.1 0 [(.aload_n 0, 1), (.getfield 9, 3), (.iload_n 1, 1), (.iaload, 1), (.istore_n 3, 1), (.aload_n 0, 1), (.getfield 15, 3), (.iload_n 1, 1), (.iaload, 1), (.istore 4, 2), (.aload_n 2, 1), (.iload_n 3, 1), (.iaload, 1), (.iconst 1, 1), (.iadd, 1), (.aload_n 2, 1), (.iload 4, 2), (.iaload, 1), (.if_icmp .ge 14, 3)] = true := by decide +kernel
  refine go_aload_n rfl hd (fun hd => ?_)
  refine go_getR co_X0 fl_0_9 (by decide) rfl (ct_K ha0) (ct_R5 ha0) hd (fun hd => ?_)
  refine go_iload_n rfl hd (fun hd => ?_)
  refine go_iaload (ct_S1 ha0) hz1.1 hz1.2 (by decide) hd (fun hd => ?_)
  refine go_istore_n (by decide) hd (fun hd => ?_)
  refine go_aload_n rfl hd (fun hd => ?_)
  refine go_getR co_X0 fl_0_15 (by decide) rfl (ct_K ha0) (ct_R6 ha0) hd (fun hd => ?_)
  refine go_iload_n rfl hd (fun hd => ?_)
  refine go_iaload (ct_S2 ha0) hz2.1 hz2.2 (by decide) hd (fun hd => ?_)
  refine go_istore (by decide) hd (fun hd => ?_)
  refine go_aload_n rfl hd (fun hd => ?_)
  refine go_iload_n rfl hd (fun hd => ?_)
  refine go_iaload ha2 hz3.1 hz3.2 hz4 hd (fun hd => ?_)
  refine go_iconst hd (fun hd => ?_)
  refine go_iadd hd (fun hd => ?_)
  refine go_aload_n rfl hd (fun hd => ?_)
  refine go_iload rfl hd (fun hd => ?_)
  refine go_iaload ha2 hz5.1 hz5.2 hz6 hd (fun hd => ?_)
  exact go_icmp_ge (by decide) hz7 hz8 hd kt kf
theorem b_City_bringsNearer_27 {P : jm_P} {d : Nat} {I : jm_I} {Q : Option jm_V → jm_I → Prop} {o0 : Option jm_V} {o1 : Option jm_V} {a2 na2 : Nat} {x3 : Int} {x4 : Int} (ha2 : P.2.1 a2 = (20, na2)) (hz : (0 ≤ x3 ∧ x3 < na2) ∧ (na2 < 2147483648) ∧ (0 ≤ x4 ∧ x4 < na2) ∧ (na2 < 2147483648)) (k : Q (some (.inl 1)) (jm_up I a2 (x4.toNat) ((I a2 x3.toNat) + 1))) : Gx P d md_City_bringsNearer 27 [o0, o1, some (.inr (.inl a2)), some (.inl x3), some (.inl x4)] [] I Q := by
  obtain ⟨hz1, hz2, hz3, hz4⟩ := hz
  show jm_Go d 0 0 md_City_bringsNearer 27 [o0, o1, some (.inr (.inl a2)), some (.inl x3), some (.inl x4)] [] (jx P I) (jx_Q P Q)
  have hd : jm_dc md_City_bringsNearer.2.1 27 [(.aload_n 2, 1), (.iload 4, 2), (.aload_n 2, 1), (.iload_n 3, 1), (.iaload, 1), (.iconst 1, 1), (.iadd, 1), (.iastore, 1), (.iconst 1, 1), (.ireturn, 1)] = true := by decide +kernel
  refine go_aload_n rfl hd (fun hd => ?_)
  refine go_iload rfl hd (fun hd => ?_)
  refine go_aload_n rfl hd (fun hd => ?_)
  refine go_iload_n rfl hd (fun hd => ?_)
  refine go_iaload ha2 hz1.1 hz1.2 hz2 hd (fun hd => ?_)
  refine go_iconst hd (fun hd => ?_)
  refine go_iadd hd (fun hd => ?_)
  refine go_iastore ha2 hz3.1 hz3.2 hz4 hd (fun hd => ?_)
  refine go_iconst hd (fun hd => ?_)
  exact go_zreturn hd rfl (Or.inr rfl) ⟨_, rfl, k⟩
theorem b_City_bringsNearer_38 {P : jm_P} {d : Nat} {I : jm_I} {Q : Option jm_V → jm_I → Prop} {o0 : Option jm_V} {o1 : Option jm_V} {a2 na2 : Nat} {x3 : Int} {x4 : Int} (ha2 : P.2.1 a2 = (20, na2)) (hz : (0 ≤ x4 ∧ x4 < na2) ∧ (na2 < 2147483648) ∧ (0 ≤ x3 ∧ x3 < na2) ∧ (na2 < 2147483648) ∧ (-2147483648 ≤ (I a2 x4.toNat) + 1 ∧ (I a2 x4.toNat) + 1 < 2147483648) ∧ (-2147483648 ≤ I a2 x3.toNat ∧ I a2 x3.toNat < 2147483648)) (kt : (I a2 x3.toNat) ≤ ((I a2 x4.toNat) + 1) → Gx P d md_City_bringsNearer 61 [o0, o1, some (.inr (.inl a2)), some (.inl x3), some (.inl x4)] [] I Q) (kf : ¬ ((I a2 x3.toNat) ≤ ((I a2 x4.toNat) + 1)) → Gx P d md_City_bringsNearer 50 [o0, o1, some (.inr (.inl a2)), some (.inl x3), some (.inl x4)] [] I Q) : Gx P d md_City_bringsNearer 38 [o0, o1, some (.inr (.inl a2)), some (.inl x3), some (.inl x4)] [] I Q := by
  obtain ⟨hz1, hz2, hz3, hz4, hz5, hz6⟩ := hz
  show jm_Go d 0 0 md_City_bringsNearer 38 [o0, o1, some (.inr (.inl a2)), some (.inl x3), some (.inl x4)] [] (jx P I) (jx_Q P Q)
  have hd : jm_dc md_City_bringsNearer.2.1 38 [(.aload_n 2, 1), (.iload 4, 2), (.iaload, 1), (.iconst 1, 1), (.iadd, 1), (.aload_n 2, 1), (.iload_n 3, 1), (.iaload, 1), (.if_icmp .ge 14, 3)] = true := by decide +kernel
  refine go_aload_n rfl hd (fun hd => ?_)
  refine go_iload rfl hd (fun hd => ?_)
  refine go_iaload ha2 hz1.1 hz1.2 hz2 hd (fun hd => ?_)
  refine go_iconst hd (fun hd => ?_)
  refine go_iadd hd (fun hd => ?_)
  refine go_aload_n rfl hd (fun hd => ?_)
  refine go_iload_n rfl hd (fun hd => ?_)
  refine go_iaload ha2 hz3.1 hz3.2 hz4 hd (fun hd => ?_)
  exact go_icmp_ge (by decide) hz5 hz6 hd kt kf
theorem b_City_bringsNearer_50 {P : jm_P} {d : Nat} {I : jm_I} {Q : Option jm_V → jm_I → Prop} {o0 : Option jm_V} {o1 : Option jm_V} {a2 na2 : Nat} {x3 : Int} {x4 : Int} (ha2 : P.2.1 a2 = (20, na2)) (hz : (0 ≤ x4 ∧ x4 < na2) ∧ (na2 < 2147483648) ∧ (0 ≤ x3 ∧ x3 < na2) ∧ (na2 < 2147483648)) (k : Q (some (.inl 1)) (jm_up I a2 (x3.toNat) ((I a2 x4.toNat) + 1))) : Gx P d md_City_bringsNearer 50 [o0, o1, some (.inr (.inl a2)), some (.inl x3), some (.inl x4)] [] I Q := by
  obtain ⟨hz1, hz2, hz3, hz4⟩ := hz
  show jm_Go d 0 0 md_City_bringsNearer 50 [o0, o1, some (.inr (.inl a2)), some (.inl x3), some (.inl x4)] [] (jx P I) (jx_Q P Q)
  have hd : jm_dc md_City_bringsNearer.2.1 50 [(.aload_n 2, 1), (.iload_n 3, 1), (.aload_n 2, 1), (.iload 4, 2), (.iaload, 1), (.iconst 1, 1), (.iadd, 1), (.iastore, 1), (.iconst 1, 1), (.ireturn, 1)] = true := by decide +kernel
  refine go_aload_n rfl hd (fun hd => ?_)
  refine go_iload_n rfl hd (fun hd => ?_)
  refine go_aload_n rfl hd (fun hd => ?_)
  refine go_iload rfl hd (fun hd => ?_)
  refine go_iaload ha2 hz1.1 hz1.2 hz2 hd (fun hd => ?_)
  refine go_iconst hd (fun hd => ?_)
  refine go_iadd hd (fun hd => ?_)
  refine go_iastore ha2 hz3.1 hz3.2 hz4 hd (fun hd => ?_)
  refine go_iconst hd (fun hd => ?_)
  exact go_zreturn hd rfl (Or.inr rfl) ⟨_, rfl, k⟩
theorem b_City_bringsNearer_61 {P : jm_P} {d : Nat} {I : jm_I} {Q : Option jm_V → jm_I → Prop} {o0 : Option jm_V} {o1 : Option jm_V} {o2 : Option jm_V} {o3 : Option jm_V} {o4 : Option jm_V}  (k : Q (some (.inl 0)) I) : Gx P d md_City_bringsNearer 61 [o0, o1, o2, o3, o4] [] I Q := by
  show jm_Go d 0 0 md_City_bringsNearer 61 [o0, o1, o2, o3, o4] [] (jx P I) (jx_Q P Q)
  have hd : jm_dc md_City_bringsNearer.2.1 61 [(.iconst 0, 1), (.ireturn, 1)] = true := by decide +kernel
  refine go_iconst hd (fun hd => ?_)
  exact go_zreturn hd rfl (Or.inl rfl) ⟨_, rfl, k⟩
theorem b_Moment_begin_0 {P : jm_P} {d : Nat} {I : jm_I} {Q : Option jm_V → jm_I → Prop} {a0 : Nat} {a1 : Nat} (ha0 : jx_Mom P a0) (ha1 : jx_City P a1) (k : Cx P d md_Arrays_fill [.inr (.inl (a0 + 3)), .inl (-9)] (jm_cpy (jm_cpy (jm_up (jm_up I a0 0 0) a0 1 0) (a1 + 4) (a0 + 1) 0 0 5) (a1 + 5) (a0 + 2) 0 0 5) (fun v J => Gx P (d + 1) md_Moment_begin 47 [some (.inr (.inl a0)), some (.inr (.inl a1))] (v.toList ++ []) J Q)) : Cx P (d + 1) md_Moment_begin [.inr (.inl a0), .inr (.inl a1)] I Q := by
  show jm_Go (d + 1) 0 0 md_Moment_begin 0 [some (.inr (.inl a0)), some (.inr (.inl a1))] [] (jx P I) (jx_Q P Q)
  have hd : jm_dc md_Moment_begin.2.1 0 [(.aload_n 0, 1), (.iconst 0, 1), (.putfield 24, 3), (.aload_n 0, 1), (.iconst 0, 1), (.putfield 28, 3), (.aload_n 1, 1), (.getfield 31, 3), (.iconst 0, 1), (.aload_n 0, 1), (.getfield 9, 3), (.iconst 0, 1), (.iconst 5, 1), (.invokestatic 36, 3), (.aload_n 1, 1), (.getfield 42, 3), (.iconst 0, 1), (.aload_n 0, 1), (.getfield 15, 3), (.iconst 0, 1), (.iconst 5, 1), (.invokestatic 36, 3), (.aload_n 0, 1), (.getfield 18, 3), (.bipush (-9), 2), (.invokestatic 45, 3)] = true := by decide +kernel
  refine go_aload_n rfl hd (fun hd => ?_)
  refine go_iconst hd (fun hd => ?_)
  refine go_putI co_X5 fl_5_24 (by decide) rfl (mo_K ha0) hd (fun hd => ?_)
  refine go_aload_n rfl hd (fun hd => ?_)
  refine go_iconst hd (fun hd => ?_)
  refine go_putI co_X5 fl_5_28 (by decide) rfl (mo_K ha0) hd (fun hd => ?_)
  refine go_aload_n rfl hd (fun hd => ?_)
  refine go_getR co_X0 fl_5_31 (by decide) rfl (ct_K ha1) (ct_R8 ha1) hd (fun hd => ?_)
  refine go_iconst hd (fun hd => ?_)
  refine go_aload_n rfl hd (fun hd => ?_)
  refine go_getR co_X5 fl_5_9 (by decide) rfl (mo_K ha0) (mo_R2 ha0) hd (fun hd => ?_)
  refine go_iconst hd (fun hd => ?_)
  refine go_iconst hd (fun hd => ?_)
  refine go_copy ml_5_36 w_ac1 w_ac2 w_ac3 (ct_S4 ha1) (mo_S1 ha0) (by decide) (by decide) (by decide) (by decide) (by decide) (by decide) (by decide) (Nat.le_of_ble_eq_true rfl) hd (fun hd => ?_)
  refine go_aload_n rfl hd (fun hd => ?_)
  refine go_getR co_X0 fl_5_42 (by decide) rfl (ct_K ha1) (ct_R9 ha1) hd (fun hd => ?_)
  refine go_iconst hd (fun hd => ?_)
  refine go_aload_n rfl hd (fun hd => ?_)
  refine go_getR co_X5 fl_5_15 (by decide) rfl (mo_K ha0) (mo_R3 ha0) hd (fun hd => ?_)
  refine go_iconst hd (fun hd => ?_)
  refine go_iconst hd (fun hd => ?_)
  refine go_copy ml_5_36 w_ac1 w_ac2 w_ac3 (ct_S5 ha1) (mo_S2 ha0) (by decide) (by decide) (by decide) (by decide) (by decide) (by decide) (by decide) (Nat.le_of_ble_eq_true rfl) hd (fun hd => ?_)
  refine go_aload_n rfl hd (fun hd => ?_)
  refine go_getR co_X5 fl_5_18 (by decide) rfl (mo_K ha0) (mo_R4 ha0) hd (fun hd => ?_)
  refine go_bipush (by decide) hd (fun hd => ?_)
  exact gx_static [.inr (.inl (a0 + 3)), .inl (-9)] [] mk_Arrays_fill ml_5_45 st_Arrays_fill rfl (Nat.le_of_ble_eq_true rfl) rfl (Nat.le_of_ble_eq_true rfl) rfl hd k
theorem b_Moment_begin_47 {P : jm_P} {d : Nat} {I : jm_I} {Q : Option jm_V → jm_I → Prop} {a0 : Nat} {o1 : Option jm_V} (ha0 : jx_Mom P a0) (k : Cx P d md_Arrays_fill [.inr (.inl (a0 + 4)), .inl 0] I (fun v J => Gx P (d + 1) md_Moment_begin 55 [some (.inr (.inl a0)), o1] (v.toList ++ []) J Q)) : Gx P (d + 1) md_Moment_begin 47 [some (.inr (.inl a0)), o1] [] I Q := by
  show jm_Go (d + 1) 0 0 md_Moment_begin 47 [some (.inr (.inl a0)), o1] [] (jx P I) (jx_Q P Q)
  have hd : jm_dc md_Moment_begin.2.1 47 [(.aload_n 0, 1), (.getfield 21, 3), (.iconst 0, 1), (.invokestatic 45, 3)] = true := by decide +kernel
  refine go_aload_n rfl hd (fun hd => ?_)
  refine go_getR co_X5 fl_5_21 (by decide) rfl (mo_K ha0) (mo_R5 ha0) hd (fun hd => ?_)
  refine go_iconst hd (fun hd => ?_)
  exact gx_static [.inr (.inl (a0 + 4)), .inl 0] [] mk_Arrays_fill ml_5_45 st_Arrays_fill rfl (Nat.le_of_ble_eq_true rfl) rfl (Nat.le_of_ble_eq_true rfl) rfl hd k
theorem b_Moment_begin_55 {P : jm_P} {d : Nat} {I : jm_I} {Q : Option jm_V → jm_I → Prop} {o0 : Option jm_V} {o1 : Option jm_V}  (k : Q none I) : Gx P d md_Moment_begin 55 [o0, o1] [] I Q := by
  show jm_Go d 0 0 md_Moment_begin 55 [o0, o1] [] (jx P I) (jx_Q P Q)
  have hd : jm_dc md_Moment_begin.2.1 55 [(.return_, 1)] = true := by decide +kernel
  exact go_vreturn hd rfl ⟨_, rfl, k⟩
theorem b_City_roomOfSpot_0 {P : jm_P} {d : Nat} {I : jm_I} {Q : Option jm_V → jm_I → Prop} {a0 : Nat} {x1 : Int} {x2 : Int} (ha0 : jx_City P a0) (hz : (-2147483648 ≤ x2 ∧ x2 < 2147483648)) (kt : 4 ≤ x2 → Gx P d md_City_roomOfSpot 16 [some (.inr (.inl a0)), some (.inl x1), some (.inl x2)] [] I Q) (kf : ¬ (4 ≤ x2) → Gx P d md_City_roomOfSpot 5 [some (.inr (.inl a0)), some (.inl x1), some (.inl x2)] [] I Q) : Cx P d md_City_roomOfSpot [.inr (.inl a0), .inl x1, .inl x2] I Q := by
  have hz1 := hz
  show jm_Go d 0 0 md_City_roomOfSpot 0 [some (.inr (.inl a0)), some (.inl x1), some (.inl x2)] [] (jx P I) (jx_Q P Q)
  have hd : jm_dc md_City_roomOfSpot.2.1 0 [(.iload_n 2, 1), (.iconst 4, 1), (.if_icmp .ge 14, 3)] = true := by decide +kernel
  refine go_iload_n rfl hd (fun hd => ?_)
  refine go_iconst hd (fun hd => ?_)
  exact go_icmp_ge (by decide) hz1 ⟨by decide, by decide⟩ hd kt kf
theorem b_City_roomOfSpot_5 {P : jm_P} {d : Nat} {I : jm_I} {Q : Option jm_V → jm_I → Prop} {a0 : Nat} {x1 : Int} {x2 : Int} (ha0 : jx_City P a0) (hz : (0 ≤ x1 ∧ x1 < 5) ∧ (0 ≤ x2 ∧ x2 < 4)) (k : Gx P d md_City_roomOfSpot 19 [some (.inr (.inl a0)), some (.inl x1), some (.inl x2)] [.inl (I (a0 + 8 + x1.toNat) x2.toNat)] I Q) : Gx P d md_City_roomOfSpot 5 [some (.inr (.inl a0)), some (.inl x1), some (.inl x2)] [] I Q := by
  obtain ⟨hz1, hz2⟩ := hz
  show jm_Go d 0 0 md_City_roomOfSpot 5 [some (.inr (.inl a0)), some (.inl x1), some (.inl x2)] [] (jx P I) (jx_Q P Q)
  have hd : jm_dc md_City_roomOfSpot.2.1 5 [(.aload_n 0, 1), (.getfield 32, 3), (.iload_n 1, 1), (.aaload, 1), (.iload_n 2, 1), (.iaload, 1), (.goto 6, 3)] = true := by decide +kernel
  refine go_aload_n rfl hd (fun hd => ?_)
  refine go_getR co_X0 fl_0_32 (by decide) rfl (ct_K ha0) (ct_R11 ha0) hd (fun hd => ?_)
  refine go_iload_n rfl hd (fun hd => ?_)
  refine go_aaload (Or.inr (ct_S7 ha0)) hz1.1 hz1.2 (by decide) (ct_roundI ha0 hz1.1 hz1.2) hd (fun hd => ?_)
  refine go_iload_n rfl hd (fun hd => ?_)
  refine go_iaload (ct_roundS ha0 hz1.1 hz1.2) hz2.1 hz2.2 (by decide) hd (fun hd => ?_)
  exact go_goto (by decide) hd k
theorem b_City_roomOfSpot_16 {P : jm_P} {d : Nat} {I : jm_I} {Q : Option jm_V → jm_I → Prop} {o0 : Option jm_V} {o1 : Option jm_V} {x2 : Int}  (k : Gx P d md_City_roomOfSpot 19 [o0, o1, some (.inl x2)] [.inl (x2 - 4)] I Q) : Gx P d md_City_roomOfSpot 16 [o0, o1, some (.inl x2)] [] I Q := by
  show jm_Go d 0 0 md_City_roomOfSpot 16 [o0, o1, some (.inl x2)] [] (jx P I) (jx_Q P Q)
  have hd : jm_dc md_City_roomOfSpot.2.1 16 [(.iload_n 2, 1), (.iconst 4, 1), (.isub, 1)] = true := by decide +kernel
  refine go_iload_n rfl hd (fun hd => ?_)
  refine go_iconst hd (fun hd => ?_)
  refine go_isub hd (fun hd => ?_)
  exact k
theorem b_City_roomOfSpot_19 {P : jm_P} {d : Nat} {I : jm_I} {Q : Option jm_V → jm_I → Prop} {o0 : Option jm_V} {o1 : Option jm_V} {o2 : Option jm_V} {s0 : Int}  (k : Q (some (.inl s0)) I) : Gx P d md_City_roomOfSpot 19 [o0, o1, o2] [.inl s0] I Q := by
  show jm_Go d 0 0 md_City_roomOfSpot 19 [o0, o1, o2] [.inl s0] (jx P I) (jx_Q P Q)
  have hd : jm_dc md_City_roomOfSpot.2.1 19 [(.ireturn, 1)] = true := by decide +kernel
  exact go_ireturn hd rfl ⟨_, rfl, k⟩
theorem b_Moment_copyFrom_0 {P : jm_P} {d : Nat} {I : jm_I} {Q : Option jm_V → jm_I → Prop} {a0 : Nat} {a1 : Nat} (ha0 : jx_Mom P a0) (ha1 : jx_Mom P a1) (k : Q none (jm_cpy (jm_cpy (jm_cpy (jm_cpy (jm_up (jm_up I a0 0 (I a1 0)) a0 1 ((jm_up I a0 0 (I a1 0)) a1 1)) (a1 + 1) (a0 + 1) 0 0 5) (a1 + 2) (a0 + 2) 0 0 5) (a1 + 3) (a0 + 3) 0 0 5) (a1 + 4) (a0 + 4) 0 0 5)) : Cx P d md_Moment_copyFrom [.inr (.inl a0), .inr (.inl a1)] I Q := by
  show jm_Go d 0 0 md_Moment_copyFrom 0 [some (.inr (.inl a0)), some (.inr (.inl a1))] [] (jx P I) (jx_Q P Q)
  have hd : jm_dc md_Moment_copyFrom.2.1 0 [(.aload_n 0, 1), (.aload_n 1, 1), (.getfield 24, 3), (.putfield 24, 3), (.aload_n 0, 1), (.aload_n 1, 1), (.getfield 28, 3), (.putfield 28, 3), (.aload_n 1, 1), (.getfield 9, 3), (.iconst 0, 1), (.aload_n 0, 1), (.getfield 9, 3), (.iconst 0, 1), (.iconst 5, 1), (.invokestatic 36, 3), (.aload_n 1, 1), (.getfield 15, 3), (.iconst 0, 1), (.aload_n 0, 1), (.getfield 15, 3), (.iconst 0, 1), (.iconst 5, 1), (.invokestatic 36, 3), (.aload_n 1, 1), (.getfield 18, 3), (.iconst 0, 1), (.aload_n 0, 1), (.getfield 18, 3), (.iconst 0, 1), (.iconst 5, 1), (.invokestatic 36, 3), (.aload_n 1, 1), (.getfield 21, 3), (.iconst 0, 1), (.aload_n 0, 1), (.getfield 21, 3), (.iconst 0, 1), (.iconst 5, 1), (.invokestatic 36, 3), (.return_, 1)] = true := by decide +kernel
  refine go_aload_n rfl hd (fun hd => ?_)
  refine go_aload_n rfl hd (fun hd => ?_)
  refine go_getI co_X5 fl_5_24 (by decide) (Or.inl rfl) (mo_K ha1) hd (fun hd => ?_)
  refine go_putI co_X5 fl_5_24 (by decide) rfl (mo_K ha0) hd (fun hd => ?_)
  refine go_aload_n rfl hd (fun hd => ?_)
  refine go_aload_n rfl hd (fun hd => ?_)
  refine go_getI co_X5 fl_5_28 (by decide) (Or.inl rfl) (mo_K ha1) hd (fun hd => ?_)
  refine go_putI co_X5 fl_5_28 (by decide) rfl (mo_K ha0) hd (fun hd => ?_)
  refine go_aload_n rfl hd (fun hd => ?_)
  refine go_getR co_X5 fl_5_9 (by decide) rfl (mo_K ha1) (mo_R2 ha1) hd (fun hd => ?_)
  refine go_iconst hd (fun hd => ?_)
  refine go_aload_n rfl hd (fun hd => ?_)
  refine go_getR co_X5 fl_5_9 (by decide) rfl (mo_K ha0) (mo_R2 ha0) hd (fun hd => ?_)
  refine go_iconst hd (fun hd => ?_)
  refine go_iconst hd (fun hd => ?_)
  refine go_copy ml_5_36 w_ac1 w_ac2 w_ac3 (mo_S1 ha1) (mo_S1 ha0) (by decide) (by decide) (by decide) (by decide) (by decide) (by decide) (by decide) (Nat.le_of_ble_eq_true rfl) hd (fun hd => ?_)
  refine go_aload_n rfl hd (fun hd => ?_)
  refine go_getR co_X5 fl_5_15 (by decide) rfl (mo_K ha1) (mo_R3 ha1) hd (fun hd => ?_)
  refine go_iconst hd (fun hd => ?_)
  refine go_aload_n rfl hd (fun hd => ?_)
  refine go_getR co_X5 fl_5_15 (by decide) rfl (mo_K ha0) (mo_R3 ha0) hd (fun hd => ?_)
  refine go_iconst hd (fun hd => ?_)
  refine go_iconst hd (fun hd => ?_)
  refine go_copy ml_5_36 w_ac1 w_ac2 w_ac3 (mo_S2 ha1) (mo_S2 ha0) (by decide) (by decide) (by decide) (by decide) (by decide) (by decide) (by decide) (Nat.le_of_ble_eq_true rfl) hd (fun hd => ?_)
  refine go_aload_n rfl hd (fun hd => ?_)
  refine go_getR co_X5 fl_5_18 (by decide) rfl (mo_K ha1) (mo_R4 ha1) hd (fun hd => ?_)
  refine go_iconst hd (fun hd => ?_)
  refine go_aload_n rfl hd (fun hd => ?_)
  refine go_getR co_X5 fl_5_18 (by decide) rfl (mo_K ha0) (mo_R4 ha0) hd (fun hd => ?_)
  refine go_iconst hd (fun hd => ?_)
  refine go_iconst hd (fun hd => ?_)
  refine go_copy ml_5_36 w_ac1 w_ac2 w_ac3 (mo_S3 ha1) (mo_S3 ha0) (by decide) (by decide) (by decide) (by decide) (by decide) (by decide) (by decide) (Nat.le_of_ble_eq_true rfl) hd (fun hd => ?_)
  refine go_aload_n rfl hd (fun hd => ?_)
  refine go_getR co_X5 fl_5_21 (by decide) rfl (mo_K ha1) (mo_R5 ha1) hd (fun hd => ?_)
  refine go_iconst hd (fun hd => ?_)
  refine go_aload_n rfl hd (fun hd => ?_)
  refine go_getR co_X5 fl_5_21 (by decide) rfl (mo_K ha0) (mo_R5 ha0) hd (fun hd => ?_)
  refine go_iconst hd (fun hd => ?_)
  refine go_iconst hd (fun hd => ?_)
  refine go_copy ml_5_36 w_ac1 w_ac2 w_ac3 (mo_S4 ha1) (mo_S4 ha0) (by decide) (by decide) (by decide) (by decide) (by decide) (by decide) (by decide) (Nat.le_of_ble_eq_true rfl) hd (fun hd => ?_)
  exact go_vreturn hd rfl ⟨_, rfl, k⟩
theorem b_Moment_goBy_0 {P : jm_P} {d : Nat} {I : jm_I} {Q : Option jm_V → jm_I → Prop} {a0 : Nat} {a1 : Nat} (ha0 : jx_Mom P a0) (ha1 : jx_City P a1) (hz : (0 ≤ (jm_up I a0 0 ((I a0 0) + 1)) a0 0 ∧ (jm_up I a0 0 ((I a0 0) + 1)) a0 0 < 2147483648) ∧ (-2147483648 ≤ ((jm_up I a0 0 ((I a0 0) + 1)) a0 0) % 20 ∧ ((jm_up I a0 0 ((I a0 0) + 1)) a0 0) % 20 < 2147483648)) (kt : ¬ (((jm_up I a0 0 ((I a0 0) + 1)) a0 0) % 20) = 0 → Gx P d md_Moment_goBy 25 [some (.inr (.inl a0)), some (.inr (.inl a1)), none] [] (jm_up I a0 0 ((I a0 0) + 1)) Q) (kf : (((jm_up I a0 0 ((I a0 0) + 1)) a0 0) % 20) = 0 → Gx P d md_Moment_goBy 20 [some (.inr (.inl a0)), some (.inr (.inl a1)), none] [] (jm_up I a0 0 ((I a0 0) + 1)) Q) : Cx P d md_Moment_goBy [.inr (.inl a0), .inr (.inl a1)] I Q := by
  obtain ⟨hz1, hz2⟩ := hz
  show jm_Go d 0 0 md_Moment_goBy 0 [some (.inr (.inl a0)), some (.inr (.inl a1)), none] [] (jx P I) (jx_Q P Q)
  have hd : jm_dc md_Moment_goBy.2.1 0 [(.aload_n 0, 1), (.dup, 1), (.getfield 24, 3), (.iconst 1, 1), (.iadd, 1), (.putfield 24, 3), (.aload_n 0, 1), (.getfield 24, 3), (.bipush 20, 2), (.irem, 1), (.ifCond .ne 8, 3)] = true := by decide +kernel
  refine go_aload_n rfl hd (fun hd => ?_)
  refine go_dup rfl hd (fun hd => ?_)
  refine go_getI co_X5 fl_5_24 (by decide) (Or.inl rfl) (mo_K ha0) hd (fun hd => ?_)
  refine go_iconst hd (fun hd => ?_)
  refine go_iadd hd (fun hd => ?_)
  refine go_putI co_X5 fl_5_24 (by decide) rfl (mo_K ha0) hd (fun hd => ?_)
  refine go_aload_n rfl hd (fun hd => ?_)
  refine go_getI co_X5 fl_5_24 (by decide) (Or.inl rfl) (mo_K ha0) hd (fun hd => ?_)
  refine go_bipush (by decide) hd (fun hd => ?_)
  refine go_irem hz1 (by decide) hd (fun hd => ?_)
  exact go_if_ne (by decide) hz2 hd kt kf
theorem b_Moment_goBy_20 {P : jm_P} {d : Nat} {I : jm_I} {Q : Option jm_V → jm_I → Prop} {a0 : Nat} {o1 : Option jm_V} {o2 : Option jm_V} (ha0 : jx_Mom P a0) (k : Gx P d md_Moment_goBy 25 [some (.inr (.inl a0)), o1, o2] [] (jm_up I a0 1 0) Q) : Gx P d md_Moment_goBy 20 [some (.inr (.inl a0)), o1, o2] [] I Q := by
  show jm_Go d 0 0 md_Moment_goBy 20 [some (.inr (.inl a0)), o1, o2] [] (jx P I) (jx_Q P Q)
  have hd : jm_dc md_Moment_goBy.2.1 20 [(.aload_n 0, 1), (.iconst 0, 1), (.putfield 28, 3)] = true := by decide +kernel
  refine go_aload_n rfl hd (fun hd => ?_)
  refine go_iconst hd (fun hd => ?_)
  refine go_putI co_X5 fl_5_28 (by decide) rfl (mo_K ha0) hd (fun hd => ?_)
  exact k
theorem b_Moment_goBy_25 {P : jm_P} {d : Nat} {I : jm_I} {Q : Option jm_V → jm_I → Prop} {a0 : Nat} {o1 : Option jm_V} {o2 : Option jm_V} (ha0 : jx_Mom P a0) (k : Cx P d md_Arrays_fill [.inr (.inl (a0 + 3)), .inl (-9)] I (fun v J => Gx P (d + 1) md_Moment_goBy 34 [some (.inr (.inl a0)), o1, o2] (v.toList ++ []) J Q)) : Gx P (d + 1) md_Moment_goBy 25 [some (.inr (.inl a0)), o1, o2] [] I Q := by
  show jm_Go (d + 1) 0 0 md_Moment_goBy 25 [some (.inr (.inl a0)), o1, o2] [] (jx P I) (jx_Q P Q)
  have hd : jm_dc md_Moment_goBy.2.1 25 [(.aload_n 0, 1), (.getfield 18, 3), (.bipush (-9), 2), (.invokestatic 45, 3)] = true := by decide +kernel
  refine go_aload_n rfl hd (fun hd => ?_)
  refine go_getR co_X5 fl_5_18 (by decide) rfl (mo_K ha0) (mo_R4 ha0) hd (fun hd => ?_)
  refine go_bipush (by decide) hd (fun hd => ?_)
  exact gx_static [.inr (.inl (a0 + 3)), .inl (-9)] [] mk_Arrays_fill ml_5_45 st_Arrays_fill rfl (Nat.le_of_ble_eq_true rfl) rfl (Nat.le_of_ble_eq_true rfl) rfl hd k
theorem b_Moment_goBy_34 {P : jm_P} {d : Nat} {I : jm_I} {Q : Option jm_V → jm_I → Prop} {o0 : Option jm_V} {o1 : Option jm_V} {o2 : Option jm_V}  (k : Gx P d md_Moment_goBy 36 [o0, o1, some (.inl 0)] [] I Q) : Gx P d md_Moment_goBy 34 [o0, o1, o2] [] I Q := by
  show jm_Go d 0 0 md_Moment_goBy 34 [o0, o1, o2] [] (jx P I) (jx_Q P Q)
  have hd : jm_dc md_Moment_goBy.2.1 34 [(.iconst 0, 1), (.istore_n 2, 1)] = true := by decide +kernel
  refine go_iconst hd (fun hd => ?_)
  refine go_istore_n (by decide) hd (fun hd => ?_)
  exact k
theorem b_Moment_goBy_36 {P : jm_P} {d : Nat} {I : jm_I} {Q : Option jm_V → jm_I → Prop} {o0 : Option jm_V} {a1 : Nat} {x2 : Int} (ha1 : jx_City P a1) (hz : (-2147483648 ≤ x2 ∧ x2 < 2147483648) ∧ (-2147483648 ≤ I a1 4 ∧ I a1 4 < 2147483648)) (kt : (I a1 4) ≤ x2 → Gx P d md_Moment_goBy 68 [o0, some (.inr (.inl a1)), some (.inl x2)] [] I Q) (kf : ¬ ((I a1 4) ≤ x2) → Gx P d md_Moment_goBy 44 [o0, some (.inr (.inl a1)), some (.inl x2)] [] I Q) : Gx P d md_Moment_goBy 36 [o0, some (.inr (.inl a1)), some (.inl x2)] [] I Q := by
  obtain ⟨hz1, hz2⟩ := hz
  show jm_Go d 0 0 md_Moment_goBy 36 [o0, some (.inr (.inl a1)), some (.inl x2)] [] (jx P I) (jx_Q P Q)
  have hd : jm_dc md_Moment_goBy.2.1 36 [(.iload_n 2, 1), (.aload_n 1, 1), (.getfield 51, 3), (.if_icmp .ge 27, 3)] = true := by decide +kernel
  refine go_iload_n rfl hd (fun hd => ?_)
  refine go_aload_n rfl hd (fun hd => ?_)
  refine go_getI co_X0 fl_5_51 (by decide) (Or.inl rfl) (ct_K ha1) hd (fun hd => ?_)
  exact go_icmp_ge (by decide) hz1 hz2 hd kt kf
theorem b_Moment_goBy_44 {P : jm_P} {d : Nat} {I : jm_I} {Q : Option jm_V → jm_I → Prop} {a0 : Nat} {a1 : Nat} {x2 : Int} (ha0 : jx_Mom P a0) (ha1 : jx_City P a1) (hz : (0 ≤ x2 ∧ x2 < 5)) (k : Cx P d md_City_spotIn [.inr (.inl a1), .inl x2, .inl (I (a0 + 4) x2.toNat), .inl 1] I (fun v J => Gx P (d + 1) md_Moment_goBy 61 [some (.inr (.inl a0)), some (.inr (.inl a1)), some (.inl x2)] (v.toList ++ [.inl x2, .inr (.inl (a0 + 4))]) J Q)) : Gx P (d + 1) md_Moment_goBy 44 [some (.inr (.inl a0)), some (.inr (.inl a1)), some (.inl x2)] [] I Q := by
  have hz1 := hz
  show jm_Go (d + 1) 0 0 md_Moment_goBy 44 [some (.inr (.inl a0)), some (.inr (.inl a1)), some (.inl x2)] [] (jx P I) (jx_Q P Q)
  have hd : jm_dc md_Moment_goBy.2.1 44 [(.aload_n 0, 1), (.getfield 21, 3), (.iload_n 2, 1), (.aload_n 1, 1), (.iload_n 2, 1), (.aload_n 0, 1), (.getfield 21, 3), (.iload_n 2, 1), (.iaload, 1), (.iconst 1, 1), (.invokevirtual 54, 3)] = true := by decide +kernel
  refine go_aload_n rfl hd (fun hd => ?_)
  refine go_getR co_X5 fl_5_21 (by decide) rfl (mo_K ha0) (mo_R5 ha0) hd (fun hd => ?_)
  refine go_iload_n rfl hd (fun hd => ?_)
  refine go_aload_n rfl hd (fun hd => ?_)
  refine go_iload_n rfl hd (fun hd => ?_)
  refine go_aload_n rfl hd (fun hd => ?_)
  refine go_getR co_X5 fl_5_21 (by decide) rfl (mo_K ha0) (mo_R5 ha0) hd (fun hd => ?_)
  refine go_iload_n rfl hd (fun hd => ?_)
  refine go_iaload (mo_S4 ha0) hz1.1 hz1.2 (by decide) hd (fun hd => ?_)
  refine go_iconst hd (fun hd => ?_)
  exact gx_virtual a1 0 [.inl x2, .inl (I (a0 + 4) x2.toNat), .inl 1] [.inl x2, .inr (.inl (a0 + 4))] mk_City_spotIn co_X0 rfl ml_5_54 in_City_spotIn se_City_spotIn (ct_K ha1) rfl (Nat.le_of_ble_eq_true rfl) rfl (Nat.le_of_ble_eq_true rfl) rfl hd k
theorem b_Moment_goBy_61 {P : jm_P} {d : Nat} {I : jm_I} {Q : Option jm_V → jm_I → Prop} {o0 : Option jm_V} {o1 : Option jm_V} {x2 : Int} {b0 nb0 : Nat} {s1 : Int} {s2 : Int} (hb0 : P.2.1 b0 = (20, nb0)) (hz : (0 ≤ s1 ∧ s1 < nb0) ∧ (nb0 < 2147483648)) (k : Gx P d md_Moment_goBy 36 [o0, o1, some (.inl (x2 + 1))] [] (jm_up I b0 (s1.toNat) s2) Q) : Gx P d md_Moment_goBy 61 [o0, o1, some (.inl x2)] [.inl s2, .inl s1, .inr (.inl b0)] I Q := by
  obtain ⟨hz1, hz2⟩ := hz
  show jm_Go d 0 0 md_Moment_goBy 61 [o0, o1, some (.inl x2)] [.inl s2, .inl s1, .inr (.inl b0)] (jx P I) (jx_Q P Q)
  have hd : jm_dc md_Moment_goBy.2.1 61 [(.iastore, 1), (.iinc 2 1, 3), (.goto (-29), 3)] = true := by decide +kernel
  refine go_iastore hb0 hz1.1 hz1.2 hz2 hd (fun hd => ?_)
  refine go_iinc rfl hd (fun hd => ?_)
  exact go_goto (by decide) hd k
theorem b_Moment_goBy_68 {P : jm_P} {d : Nat} {I : jm_I} {Q : Option jm_V → jm_I → Prop} {o0 : Option jm_V} {o1 : Option jm_V} {o2 : Option jm_V}  (k : Q none I) : Gx P d md_Moment_goBy 68 [o0, o1, o2] [] I Q := by
  show jm_Go d 0 0 md_Moment_goBy 68 [o0, o1, o2] [] (jx P I) (jx_Q P Q)
  have hd : jm_dc md_Moment_goBy.2.1 68 [(.return_, 1)] = true := by decide +kernel
  exact go_vreturn hd rfl ⟨_, rfl, k⟩
theorem b_City_spotIn_0 {P : jm_P} {d : Nat} {I : jm_I} {Q : Option jm_V → jm_I → Prop} {a0 : Nat} {x1 : Int} {x2 : Int} {x3 : Int} (ha0 : jx_City P a0) (hz : (-2147483648 ≤ x2 ∧ x2 < 2147483648)) (kt : 4 ≤ x2 → Gx P d md_City_spotIn 14 [some (.inr (.inl a0)), some (.inl x1), some (.inl x2), some (.inl x3)] [] I Q) (kf : ¬ (4 ≤ x2) → Gx P d md_City_spotIn 5 [some (.inr (.inl a0)), some (.inl x1), some (.inl x2), some (.inl x3)] [] I Q) : Cx P d md_City_spotIn [.inr (.inl a0), .inl x1, .inl x2, .inl x3] I Q := by
  have hz1 := hz
  show jm_Go d 0 0 md_City_spotIn 0 [some (.inr (.inl a0)), some (.inl x1), some (.inl x2), some (.inl x3)] [] (jx P I) (jx_Q P Q)
  have hd : jm_dc md_City_spotIn.2.1 0 [(.iload_n 2, 1), (.iconst 4, 1), (.if_icmp .ge 12, 3)] = true := by decide +kernel
  refine go_iload_n rfl hd (fun hd => ?_)
  refine go_iconst hd (fun hd => ?_)
  exact go_icmp_ge (by decide) hz1 ⟨by decide, by decide⟩ hd kt kf
theorem b_City_spotIn_5 {P : jm_P} {d : Nat} {I : jm_I} {Q : Option jm_V → jm_I → Prop} {a0 : Nat} {x1 : Int} {o2 : Option jm_V} {o3 : Option jm_V} (ha0 : jx_City P a0) (hz : (0 ≤ x1 ∧ x1 < 5) ∧ (-2147483648 ≤ I (a0 + 6) x1.toNat ∧ I (a0 + 6) x1.toNat < 2147483648)) (kt : ¬ (I (a0 + 6) x1.toNat) = 0 → Gx P d md_City_spotIn 16 [some (.inr (.inl a0)), some (.inl x1), o2, o3] [] I Q) (kf : (I (a0 + 6) x1.toNat) = 0 → Gx P d md_City_spotIn 14 [some (.inr (.inl a0)), some (.inl x1), o2, o3] [] I Q) : Gx P d md_City_spotIn 5 [some (.inr (.inl a0)), some (.inl x1), o2, o3] [] I Q := by
  obtain ⟨hz1, hz2⟩ := hz
  show jm_Go d 0 0 md_City_spotIn 5 [some (.inr (.inl a0)), some (.inl x1), o2, o3] [] (jx P I) (jx_Q P Q)
  have hd : jm_dc md_City_spotIn.2.1 5 [(.aload_n 0, 1), (.getfield 27, 3), (.iload_n 1, 1), (.iaload, 1), (.ifCond .ne 5, 3)] = true := by decide +kernel
  refine go_aload_n rfl hd (fun hd => ?_)
  refine go_getR co_X0 fl_0_27 (by decide) rfl (ct_K ha0) (ct_R10 ha0) hd (fun hd => ?_)
  refine go_iload_n rfl hd (fun hd => ?_)
  refine go_iaload (ct_S6 ha0) hz1.1 hz1.2 (by decide) hd (fun hd => ?_)
  exact go_if_ne (by decide) hz2 hd kt kf
theorem b_City_spotIn_14 {P : jm_P} {d : Nat} {I : jm_I} {Q : Option jm_V → jm_I → Prop} {o0 : Option jm_V} {o1 : Option jm_V} {x2 : Int} {o3 : Option jm_V}  (k : Q (some (.inl x2)) I) : Gx P d md_City_spotIn 14 [o0, o1, some (.inl x2), o3] [] I Q := by
  show jm_Go d 0 0 md_City_spotIn 14 [o0, o1, some (.inl x2), o3] [] (jx P I) (jx_Q P Q)
  have hd : jm_dc md_City_spotIn.2.1 14 [(.iload_n 2, 1), (.ireturn, 1)] = true := by decide +kernel
  refine go_iload_n rfl hd (fun hd => ?_)
  exact go_ireturn hd rfl ⟨_, rfl, k⟩
theorem b_City_spotIn_16 {P : jm_P} {d : Nat} {I : jm_I} {Q : Option jm_V → jm_I → Prop} {a0 : Nat} {x1 : Int} {x2 : Int} {x3 : Int} (ha0 : jx_City P a0) (hz : (0 ≤ x1 ∧ x1 < 5) ∧ (0 ≤ x2 + x3 ∧ x2 + x3 < 2147483648) ∧ (0 < I (a0 + 6) x1.toNat ∧ I (a0 + 6) x1.toNat < 2147483648)) (k : Q (some (.inl ((x2 + x3) % (I (a0 + 6) x1.toNat)))) I) : Gx P d md_City_spotIn 16 [some (.inr (.inl a0)), some (.inl x1), some (.inl x2), some (.inl x3)] [] I Q := by
  obtain ⟨hz1, hz2, hz3⟩ := hz
  show jm_Go d 0 0 md_City_spotIn 16 [some (.inr (.inl a0)), some (.inl x1), some (.inl x2), some (.inl x3)] [] (jx P I) (jx_Q P Q)
  have hd : jm_dc md_City_spotIn.2.1 16 [(.iload_n 2, 1), (.iload_n 3, 1), (.iadd, 1), (.aload_n 0, 1), (.getfield 27, 3), (.iload_n 1, 1), (.iaload, 1), (.irem, 1), (.ireturn, 1)] = true := by decide +kernel
  refine go_iload_n rfl hd (fun hd => ?_)
  refine go_iload_n rfl hd (fun hd => ?_)
  refine go_iadd hd (fun hd => ?_)
  refine go_aload_n rfl hd (fun hd => ?_)
  refine go_getR co_X0 fl_0_27 (by decide) rfl (ct_K ha0) (ct_R10 ha0) hd (fun hd => ?_)
  refine go_iload_n rfl hd (fun hd => ?_)
  refine go_iaload (ct_S6 ha0) hz1.1 hz1.2 (by decide) hd (fun hd => ?_)
  refine go_irem hz2 hz3 hd (fun hd => ?_)
  exact go_ireturn hd rfl ⟨_, rfl, k⟩
theorem b_City_stepsToCarry_0 {P : jm_P} {d : Nat} {I : jm_I} {Q : Option jm_V → jm_I → Prop} {a0 : Nat} {x1 : Int} {x2 : Int} {x3 : Int} (ha0 : jx_City P a0) (hz : (0 ≤ x1 ∧ x1 < 6) ∧ (0 ≤ x2 ∧ x2 < 6) ∧ (0 ≤ x2 ∧ x2 < 6) ∧ (0 ≤ x3 ∧ x3 < 6)) (k : Q (some (.inl ((I (a0 + 14 + x1.toNat) x2.toNat) + (I (a0 + 14 + x2.toNat) x3.toNat)))) I) : Cx P d md_City_stepsToCarry [.inr (.inl a0), .inl x1, .inl x2, .inl x3] I Q := by
  obtain ⟨hz1, hz2, hz3, hz4⟩ := hz
  show jm_Go d 0 0 md_City_stepsToCarry 0 [some (.inr (.inl a0)), some (.inl x1), some (.inl x2), some (.inl x3)] [] (jx P I) (jx_Q P Q)
  have hd : jm_dc md_City_stepsToCarry.2.1 0 [(.aload_n 0, 1), (.getfield 35, 3), (.iload_n 1, 1), (.aaload, 1), (.iload_n 2, 1), (.iaload, 1), (.aload_n 0, 1), (.getfield 35, 3), (.iload_n 2, 1), (.aaload, 1), (.iload_n 3, 1), (.iaload, 1), (.iadd, 1), (.ireturn, 1)] = true := by decide +kernel
  refine go_aload_n rfl hd (fun hd => ?_)
  refine go_getR co_X0 fl_0_35 (by decide) rfl (ct_K ha0) (ct_R12 ha0) hd (fun hd => ?_)
  refine go_iload_n rfl hd (fun hd => ?_)
  refine go_aaload (Or.inr (ct_S13 ha0)) hz1.1 hz1.2 (by decide) (ct_distI ha0 hz1.1 hz1.2) hd (fun hd => ?_)
  refine go_iload_n rfl hd (fun hd => ?_)
  refine go_iaload (ct_distS ha0 hz1.1 hz1.2) hz2.1 hz2.2 (by decide) hd (fun hd => ?_)
  refine go_aload_n rfl hd (fun hd => ?_)
  refine go_getR co_X0 fl_0_35 (by decide) rfl (ct_K ha0) (ct_R12 ha0) hd (fun hd => ?_)
  refine go_iload_n rfl hd (fun hd => ?_)
  refine go_aaload (Or.inr (ct_S13 ha0)) hz3.1 hz3.2 (by decide) (ct_distI ha0 hz3.1 hz3.2) hd (fun hd => ?_)
  refine go_iload_n rfl hd (fun hd => ?_)
  refine go_iaload (ct_distS ha0 hz3.1 hz3.2) hz4.1 hz4.2 (by decide) hd (fun hd => ?_)
  refine go_iadd hd (fun hd => ?_)
  exact go_ireturn hd rfl ⟨_, rfl, k⟩
theorem b_City_spotOfRoom_0 {P : jm_P} {d : Nat} {I : jm_I} {Q : Option jm_V → jm_I → Prop} {a0 : Nat} {x1 : Int} {x2 : Int} (ha0 : jx_City P a0) (k : Gx P d md_City_spotOfRoom 2 [some (.inr (.inl a0)), some (.inl x1), some (.inl x2), some (.inl 0)] [] I Q) : Cx P d md_City_spotOfRoom [.inr (.inl a0), .inl x1, .inl x2] I Q := by
  show jm_Go d 0 0 md_City_spotOfRoom 0 [some (.inr (.inl a0)), some (.inl x1), some (.inl x2), none] [] (jx P I) (jx_Q P Q)
  have hd : jm_dc md_City_spotOfRoom.2.1 0 [(.iconst 0, 1), (.istore_n 3, 1)] = true := by decide +kernel
  refine go_iconst hd (fun hd => ?_)
  refine go_istore_n (by decide) hd (fun hd => ?_)
  exact k
theorem b_City_spotOfRoom_2 {P : jm_P} {d : Nat} {I : jm_I} {Q : Option jm_V → jm_I → Prop} {a0 : Nat} {x1 : Int} {o2 : Option jm_V} {x3 : Int} (ha0 : jx_City P a0) (hz : (0 ≤ x1 ∧ x1 < 5) ∧ (-2147483648 ≤ x3 ∧ x3 < 2147483648) ∧ (-2147483648 ≤ I (a0 + 6) x1.toNat ∧ I (a0 + 6) x1.toNat < 2147483648)) (kt : (I (a0 + 6) x1.toNat) ≤ x3 → Gx P d md_City_spotOfRoom 32 [some (.inr (.inl a0)), some (.inl x1), o2, some (.inl x3)] [] I Q) (kf : ¬ ((I (a0 + 6) x1.toNat) ≤ x3) → Gx P d md_City_spotOfRoom 12 [some (.inr (.inl a0)), some (.inl x1), o2, some (.inl x3)] [] I Q) : Gx P d md_City_spotOfRoom 2 [some (.inr (.inl a0)), some (.inl x1), o2, some (.inl x3)] [] I Q := by
  obtain ⟨hz1, hz2, hz3⟩ := hz
  show jm_Go d 0 0 md_City_spotOfRoom 2 [some (.inr (.inl a0)), some (.inl x1), o2, some (.inl x3)] [] (jx P I) (jx_Q P Q)
  have hd : jm_dc md_City_spotOfRoom.2.1 2 [(.iload_n 3, 1), (.aload_n 0, 1), (.getfield 27, 3), (.iload_n 1, 1), (.iaload, 1), (.if_icmp .ge 23, 3)] = true := by decide +kernel
  refine go_iload_n rfl hd (fun hd => ?_)
  refine go_aload_n rfl hd (fun hd => ?_)
  refine go_getR co_X0 fl_0_27 (by decide) rfl (ct_K ha0) (ct_R10 ha0) hd (fun hd => ?_)
  refine go_iload_n rfl hd (fun hd => ?_)
  refine go_iaload (ct_S6 ha0) hz1.1 hz1.2 (by decide) hd (fun hd => ?_)
  exact go_icmp_ge (by decide) hz2 hz3 hd kt kf
theorem b_City_spotOfRoom_12 {P : jm_P} {d : Nat} {I : jm_I} {Q : Option jm_V → jm_I → Prop} {a0 : Nat} {x1 : Int} {x2 : Int} {x3 : Int} (ha0 : jx_City P a0) (hz : (0 ≤ x1 ∧ x1 < 5) ∧ (0 ≤ x3 ∧ x3 < 4) ∧ (-2147483648 ≤ I (a0 + 8 + x1.toNat) x3.toNat ∧ I (a0 + 8 + x1.toNat) x3.toNat < 2147483648) ∧ (-2147483648 ≤ x2 ∧ x2 < 2147483648)) (kt : ¬ (I (a0 + 8 + x1.toNat) x3.toNat) = x2 → Gx P d md_City_spotOfRoom 26 [some (.inr (.inl a0)), some (.inl x1), some (.inl x2), some (.inl x3)] [] I Q) (kf : (I (a0 + 8 + x1.toNat) x3.toNat) = x2 → Gx P d md_City_spotOfRoom 24 [some (.inr (.inl a0)), some (.inl x1), some (.inl x2), some (.inl x3)] [] I Q) : Gx P d md_City_spotOfRoom 12 [some (.inr (.inl a0)), some (.inl x1), some (.inl x2), some (.inl x3)] [] I Q := by
  obtain ⟨hz1, hz2, hz3, hz4⟩ := hz
  show jm_Go d 0 0 md_City_spotOfRoom 12 [some (.inr (.inl a0)), some (.inl x1), some (.inl x2), some (.inl x3)] [] (jx P I) (jx_Q P Q)
  have hd : jm_dc md_City_spotOfRoom.2.1 12 [(.aload_n 0, 1), (.getfield 32, 3), (.iload_n 1, 1), (.aaload, 1), (.iload_n 3, 1), (.iaload, 1), (.iload_n 2, 1), (.if_icmp .ne 5, 3)] = true := by decide +kernel
  refine go_aload_n rfl hd (fun hd => ?_)
  refine go_getR co_X0 fl_0_32 (by decide) rfl (ct_K ha0) (ct_R11 ha0) hd (fun hd => ?_)
  refine go_iload_n rfl hd (fun hd => ?_)
  refine go_aaload (Or.inr (ct_S7 ha0)) hz1.1 hz1.2 (by decide) (ct_roundI ha0 hz1.1 hz1.2) hd (fun hd => ?_)
  refine go_iload_n rfl hd (fun hd => ?_)
  refine go_iaload (ct_roundS ha0 hz1.1 hz1.2) hz2.1 hz2.2 (by decide) hd (fun hd => ?_)
  refine go_iload_n rfl hd (fun hd => ?_)
  exact go_icmp_ne (by decide) hz3 hz4 hd kt kf
theorem b_City_spotOfRoom_24 {P : jm_P} {d : Nat} {I : jm_I} {Q : Option jm_V → jm_I → Prop} {o0 : Option jm_V} {o1 : Option jm_V} {o2 : Option jm_V} {x3 : Int}  (k : Q (some (.inl x3)) I) : Gx P d md_City_spotOfRoom 24 [o0, o1, o2, some (.inl x3)] [] I Q := by
  show jm_Go d 0 0 md_City_spotOfRoom 24 [o0, o1, o2, some (.inl x3)] [] (jx P I) (jx_Q P Q)
  have hd : jm_dc md_City_spotOfRoom.2.1 24 [(.iload_n 3, 1), (.ireturn, 1)] = true := by decide +kernel
  refine go_iload_n rfl hd (fun hd => ?_)
  exact go_ireturn hd rfl ⟨_, rfl, k⟩
theorem b_City_spotOfRoom_26 {P : jm_P} {d : Nat} {I : jm_I} {Q : Option jm_V → jm_I → Prop} {o0 : Option jm_V} {o1 : Option jm_V} {o2 : Option jm_V} {x3 : Int}  (k : Gx P d md_City_spotOfRoom 2 [o0, o1, o2, some (.inl (x3 + 1))] [] I Q) : Gx P d md_City_spotOfRoom 26 [o0, o1, o2, some (.inl x3)] [] I Q := by
  show jm_Go d 0 0 md_City_spotOfRoom 26 [o0, o1, o2, some (.inl x3)] [] (jx P I) (jx_Q P Q)
  have hd : jm_dc md_City_spotOfRoom.2.1 26 [(.iinc 3 1, 3), (.goto (-27), 3)] = true := by decide +kernel
  refine go_iinc rfl hd (fun hd => ?_)
  exact go_goto (by decide) hd k
theorem b_City_spotOfRoom_32 {P : jm_P} {d : Nat} {I : jm_I} {Q : Option jm_V → jm_I → Prop} {o0 : Option jm_V} {o1 : Option jm_V} {x2 : Int} {o3 : Option jm_V}  (k : Q (some (.inl (4 + x2))) I) : Gx P d md_City_spotOfRoom 32 [o0, o1, some (.inl x2), o3] [] I Q := by
  show jm_Go d 0 0 md_City_spotOfRoom 32 [o0, o1, some (.inl x2), o3] [] (jx P I) (jx_Q P Q)
  have hd : jm_dc md_City_spotOfRoom.2.1 32 [(.iconst 4, 1), (.iload_n 2, 1), (.iadd, 1), (.ireturn, 1)] = true := by decide +kernel
  refine go_iconst hd (fun hd => ?_)
  refine go_iload_n rfl hd (fun hd => ?_)
  refine go_iadd hd (fun hd => ?_)
  exact go_ireturn hd rfl ⟨_, rfl, k⟩
theorem b_City_roomIn_0 {P : jm_P} {d : Nat} {I : jm_I} {Q : Option jm_V → jm_I → Prop} {a0 : Nat} {x1 : Int} {x2 : Int} {x3 : Int} (ha0 : jx_City P a0) (k : Cx P d md_City_spotIn [.inr (.inl a0), .inl x1, .inl x2, .inl x3] I (fun v J => Gx P (d + 1) md_City_roomIn 9 [some (.inr (.inl a0)), some (.inl x1), some (.inl x2), some (.inl x3)] (v.toList ++ [.inl x1, .inr (.inl a0)]) J Q)) : Cx P (d + 1) md_City_roomIn [.inr (.inl a0), .inl x1, .inl x2, .inl x3] I Q := by
  show jm_Go (d + 1) 0 0 md_City_roomIn 0 [some (.inr (.inl a0)), some (.inl x1), some (.inl x2), some (.inl x3)] [] (jx P I) (jx_Q P Q)
  have hd : jm_dc md_City_roomIn.2.1 0 [(.aload_n 0, 1), (.iload_n 1, 1), (.aload_n 0, 1), (.iload_n 1, 1), (.iload_n 2, 1), (.iload_n 3, 1), (.invokevirtual 71, 3)] = true := by decide +kernel
  refine go_aload_n rfl hd (fun hd => ?_)
  refine go_iload_n rfl hd (fun hd => ?_)
  refine go_aload_n rfl hd (fun hd => ?_)
  refine go_iload_n rfl hd (fun hd => ?_)
  refine go_iload_n rfl hd (fun hd => ?_)
  refine go_iload_n rfl hd (fun hd => ?_)
  exact gx_virtual a0 0 [.inl x1, .inl x2, .inl x3] [.inl x1, .inr (.inl a0)] mk_City_spotIn co_X0 rfl ml_0_71 in_City_spotIn se_City_spotIn (ct_K ha0) rfl (Nat.le_of_ble_eq_true rfl) rfl (Nat.le_of_ble_eq_true rfl) rfl hd k
theorem b_City_roomIn_9 {P : jm_P} {d : Nat} {I : jm_I} {Q : Option jm_V → jm_I → Prop} {o0 : Option jm_V} {o1 : Option jm_V} {o2 : Option jm_V} {o3 : Option jm_V} {b0 : Nat} {s1 : Int} {s2 : Int} (hb0 : jx_City P b0) (k : Cx P d md_City_roomOfSpot [.inr (.inl b0), .inl s1, .inl s2] I (fun v J => Gx P (d + 1) md_City_roomIn 12 [o0, o1, o2, o3] (v.toList ++ []) J Q)) : Gx P (d + 1) md_City_roomIn 9 [o0, o1, o2, o3] [.inl s2, .inl s1, .inr (.inl b0)] I Q := by
  show jm_Go (d + 1) 0 0 md_City_roomIn 9 [o0, o1, o2, o3] [.inl s2, .inl s1, .inr (.inl b0)] (jx P I) (jx_Q P Q)
  have hd : jm_dc md_City_roomIn.2.1 9 [(.invokevirtual 75, 3)] = true := by decide +kernel
  exact gx_virtual b0 0 [.inl s1, .inl s2] [] mk_City_roomOfSpot co_X0 rfl ml_0_75 in_City_roomOfSpot se_City_roomOfSpot (ct_K hb0) rfl (Nat.le_of_ble_eq_true rfl) rfl (Nat.le_of_ble_eq_true rfl) rfl hd k
theorem b_City_roomIn_12 {P : jm_P} {d : Nat} {I : jm_I} {Q : Option jm_V → jm_I → Prop} {o0 : Option jm_V} {o1 : Option jm_V} {o2 : Option jm_V} {o3 : Option jm_V} {s0 : Int}  (k : Q (some (.inl s0)) I) : Gx P d md_City_roomIn 12 [o0, o1, o2, o3] [.inl s0] I Q := by
  show jm_Go d 0 0 md_City_roomIn 12 [o0, o1, o2, o3] [.inl s0] (jx P I) (jx_Q P Q)
  have hd : jm_dc md_City_roomIn.2.1 12 [(.ireturn, 1)] = true := by decide +kernel
  exact go_ireturn hd rfl ⟨_, rfl, k⟩
theorem b_Moment_rested_0 {P : jm_P} {d : Nat} {I : jm_I} {Q : Option jm_V → jm_I → Prop} {a0 : Nat} {a1 : Nat} (ha0 : jx_Mom P a0) (ha1 : jx_City P a1) (k : Q (some (.inl (jb_and ((jb_shl 1 (I a1 3)) - 1) (jb_xor (I a0 1) (-1))))) I) : Cx P d md_Moment_rested [.inr (.inl a0), .inr (.inl a1)] I Q := by
  show jm_Go d 0 0 md_Moment_rested 0 [some (.inr (.inl a0)), some (.inr (.inl a1))] [] (jx P I) (jx_Q P Q)
  have hd : jm_dc md_Moment_rested.2.1 0 [(.iconst 1, 1), (.aload_n 1, 1), (.getfield 58, 3), (.ishl, 1), (.iconst 1, 1), (.isub, 1), (.aload_n 0, 1), (.getfield 28, 3), (.iconst (-1), 1), (.ixor, 1), (.iand, 1), (.ireturn, 1)] = true := by decide +kernel
  refine go_iconst hd (fun hd => ?_)
  refine go_aload_n rfl hd (fun hd => ?_)
  refine go_getI co_X0 fl_5_58 (by decide) (Or.inl rfl) (ct_K ha1) hd (fun hd => ?_)
  refine go_ishl hd (fun hd => ?_)
  refine go_iconst hd (fun hd => ?_)
  refine go_isub hd (fun hd => ?_)
  refine go_aload_n rfl hd (fun hd => ?_)
  refine go_getI co_X5 fl_5_28 (by decide) (Or.inl rfl) (mo_K ha0) hd (fun hd => ?_)
  refine go_iconst hd (fun hd => ?_)
  refine go_ixor hd (fun hd => ?_)
  refine go_iand hd (fun hd => ?_)
  exact go_ireturn hd rfl ⟨_, rfl, k⟩
theorem b_Integer_bitCount_0 {P : jm_P} {d : Nat} {I : jm_I} {Q : Option jm_V → jm_I → Prop} {x0 : Int}  (k : Q (some (.inl (jb_and (((jb_and (((jb_and (x0 - (jb_and (jb_ushr x0 1) 1431655765)) 858993459) + (jb_and (jb_ushr (x0 - (jb_and (jb_ushr x0 1) 1431655765)) 2) 858993459)) + (jb_ushr ((jb_and (x0 - (jb_and (jb_ushr x0 1) 1431655765)) 858993459) + (jb_and (jb_ushr (x0 - (jb_and (jb_ushr x0 1) 1431655765)) 2) 858993459)) 4)) 252645135) + (jb_ushr (jb_and (((jb_and (x0 - (jb_and (jb_ushr x0 1) 1431655765)) 858993459) + (jb_and (jb_ushr (x0 - (jb_and (jb_ushr x0 1) 1431655765)) 2) 858993459)) + (jb_ushr ((jb_and (x0 - (jb_and (jb_ushr x0 1) 1431655765)) 858993459) + (jb_and (jb_ushr (x0 - (jb_and (jb_ushr x0 1) 1431655765)) 2) 858993459)) 4)) 252645135) 8)) + (jb_ushr ((jb_and (((jb_and (x0 - (jb_and (jb_ushr x0 1) 1431655765)) 858993459) + (jb_and (jb_ushr (x0 - (jb_and (jb_ushr x0 1) 1431655765)) 2) 858993459)) + (jb_ushr ((jb_and (x0 - (jb_and (jb_ushr x0 1) 1431655765)) 858993459) + (jb_and (jb_ushr (x0 - (jb_and (jb_ushr x0 1) 1431655765)) 2) 858993459)) 4)) 252645135) + (jb_ushr (jb_and (((jb_and (x0 - (jb_and (jb_ushr x0 1) 1431655765)) 858993459) + (jb_and (jb_ushr (x0 - (jb_and (jb_ushr x0 1) 1431655765)) 2) 858993459)) + (jb_ushr ((jb_and (x0 - (jb_and (jb_ushr x0 1) 1431655765)) 858993459) + (jb_and (jb_ushr (x0 - (jb_and (jb_ushr x0 1) 1431655765)) 2) 858993459)) 4)) 252645135) 8)) 16)) 63))) I) : Cx P d md_Integer_bitCount [.inl x0] I Q := by
  show jm_Go d 0 0 md_Integer_bitCount 0 [some (.inl x0)] [] (jx P I) (jx_Q P Q)
  have hd : jm_dc md_Integer_bitCount.2.1 0 [(.iload_n 0, 1), (.iload_n 0, 1), (.iconst 1, 1), (.iushr, 1), (.ldc_w 265, 3), (.iand, 1), (.isub, 1), (.istore_n 0, 1), (.iload_n 0, 1), (.ldc_w 266, 3), (.iand, 1), (.iload_n 0, 1), (.iconst 2, 1), (.iushr, 1), (.ldc_w 266, 3), (.iand, 1), (.iadd, 1), (.istore_n 0, 1), (.iload_n 0, 1), (.iload_n 0, 1), (.iconst 4, 1), (.iushr, 1), (.iadd, 1), (.ldc_w 267, 3), (.iand, 1), (.istore_n 0, 1), (.iload_n 0, 1), (.iload_n 0, 1), (.bipush 8, 2), (.iushr, 1), (.iadd, 1), (.istore_n 0, 1), (.iload_n 0, 1), (.iload_n 0, 1), (.bipush 16, 2), (.iushr, 1), (.iadd, 1), (.istore_n 0, 1), (.iload_n 0, 1), (.bipush 63, 2), (.iand, 1), (.ireturn, 1)] = true := by decide +kernel
  refine go_iload_n rfl hd (fun hd => ?_)
  refine go_iload_n rfl hd (fun hd => ?_)
  refine go_iconst hd (fun hd => ?_)
  refine go_iushr hd (fun hd => ?_)
  refine go_ldcw (1431655765) (1431655765) (by decide) kc_ig_265 hd (fun hd => ?_)
  refine go_iand hd (fun hd => ?_)
  refine go_isub hd (fun hd => ?_)
  refine go_istore_n (by decide) hd (fun hd => ?_)
  refine go_iload_n rfl hd (fun hd => ?_)
  refine go_ldcw (858993459) (858993459) (by decide) kc_ig_266 hd (fun hd => ?_)
  refine go_iand hd (fun hd => ?_)
  refine go_iload_n rfl hd (fun hd => ?_)
  refine go_iconst hd (fun hd => ?_)
  refine go_iushr hd (fun hd => ?_)
  refine go_ldcw (858993459) (858993459) (by decide) kc_ig_266 hd (fun hd => ?_)
  refine go_iand hd (fun hd => ?_)
  refine go_iadd hd (fun hd => ?_)
  refine go_istore_n (by decide) hd (fun hd => ?_)
  refine go_iload_n rfl hd (fun hd => ?_)
  refine go_iload_n rfl hd (fun hd => ?_)
  refine go_iconst hd (fun hd => ?_)
  refine go_iushr hd (fun hd => ?_)
  refine go_iadd hd (fun hd => ?_)
  refine go_ldcw (252645135) (252645135) (by decide) kc_ig_267 hd (fun hd => ?_)
  refine go_iand hd (fun hd => ?_)
  refine go_istore_n (by decide) hd (fun hd => ?_)
  refine go_iload_n rfl hd (fun hd => ?_)
  refine go_iload_n rfl hd (fun hd => ?_)
  refine go_bipush (by decide) hd (fun hd => ?_)
  refine go_iushr hd (fun hd => ?_)
  refine go_iadd hd (fun hd => ?_)
  refine go_istore_n (by decide) hd (fun hd => ?_)
  refine go_iload_n rfl hd (fun hd => ?_)
  refine go_iload_n rfl hd (fun hd => ?_)
  refine go_bipush (by decide) hd (fun hd => ?_)
  refine go_iushr hd (fun hd => ?_)
  refine go_iadd hd (fun hd => ?_)
  refine go_istore_n (by decide) hd (fun hd => ?_)
  refine go_iload_n rfl hd (fun hd => ?_)
  refine go_bipush (by decide) hd (fun hd => ?_)
  refine go_iand hd (fun hd => ?_)
  exact go_ireturn hd rfl ⟨_, rfl, k⟩
theorem b_City_openDoors_0 {P : jm_P} {d : Nat} {I : jm_I} {Q : Option jm_V → jm_I → Prop} {a0 : Nat} (ha0 : jx_City P a0) (k : Gx P d md_City_openDoors 4 [some (.inr (.inl a0)), some (.inl 0), some (.inl 0)] [] I Q) : Cx P d md_City_openDoors [.inr (.inl a0)] I Q := by
  show jm_Go d 0 0 md_City_openDoors 0 [some (.inr (.inl a0)), none, none] [] (jx P I) (jx_Q P Q)
  have hd : jm_dc md_City_openDoors.2.1 0 [(.iconst 0, 1), (.istore_n 1, 1), (.iconst 0, 1), (.istore_n 2, 1)] = true := by decide +kernel
  refine go_iconst hd (fun hd => ?_)
  refine go_istore_n (by decide) hd (fun hd => ?_)
  refine go_iconst hd (fun hd => ?_)
  refine go_istore_n (by decide) hd (fun hd => ?_)
  exact k
theorem b_City_openDoors_4 {P : jm_P} {d : Nat} {I : jm_I} {Q : Option jm_V → jm_I → Prop} {a0 : Nat} {o1 : Option jm_V} {x2 : Int} (ha0 : jx_City P a0) (hz : (-2147483648 ≤ x2 ∧ x2 < 2147483648) ∧ (-2147483648 ≤ I a0 2 ∧ I a0 2 < 2147483648)) (kt : (I a0 2) ≤ x2 → Gx P d md_City_openDoors 33 [some (.inr (.inl a0)), o1, some (.inl x2)] [] I Q) (kf : ¬ ((I a0 2) ≤ x2) → Gx P d md_City_openDoors 12 [some (.inr (.inl a0)), o1, some (.inl x2)] [] I Q) : Gx P d md_City_openDoors 4 [some (.inr (.inl a0)), o1, some (.inl x2)] [] I Q := by
  obtain ⟨hz1, hz2⟩ := hz
  show jm_Go d 0 0 md_City_openDoors 4 [some (.inr (.inl a0)), o1, some (.inl x2)] [] (jx P I) (jx_Q P Q)
  have hd : jm_dc md_City_openDoors.2.1 4 [(.iload_n 2, 1), (.aload_n 0, 1), (.getfield 48, 3), (.if_icmp .ge 24, 3)] = true := by decide +kernel
  refine go_iload_n rfl hd (fun hd => ?_)
  refine go_aload_n rfl hd (fun hd => ?_)
  refine go_getI co_X0 fl_0_48 (by decide) (Or.inl rfl) (ct_K ha0) hd (fun hd => ?_)
  exact go_icmp_ge (by decide) hz1 hz2 hd kt kf
theorem b_City_openDoors_12 {P : jm_P} {d : Nat} {I : jm_I} {Q : Option jm_V → jm_I → Prop} {a0 : Nat} {o1 : Option jm_V} {x2 : Int} (ha0 : jx_City P a0) (hz : (0 ≤ x2 ∧ x2 < 8) ∧ (-2147483648 ≤ I (a0 + 3) x2.toNat ∧ I (a0 + 3) x2.toNat < 2147483648)) (kt : ¬ (I (a0 + 3) x2.toNat) = 0 → Gx P d md_City_openDoors 27 [some (.inr (.inl a0)), o1, some (.inl x2)] [] I Q) (kf : (I (a0 + 3) x2.toNat) = 0 → Gx P d md_City_openDoors 21 [some (.inr (.inl a0)), o1, some (.inl x2)] [] I Q) : Gx P d md_City_openDoors 12 [some (.inr (.inl a0)), o1, some (.inl x2)] [] I Q := by
  obtain ⟨hz1, hz2⟩ := hz
  show jm_Go d 0 0 md_City_openDoors 12 [some (.inr (.inl a0)), o1, some (.inl x2)] [] (jx P I) (jx_Q P Q)
  have hd : jm_dc md_City_openDoors.2.1 12 [(.aload_n 0, 1), (.getfield 18, 3), (.iload_n 2, 1), (.iaload, 1), (.ifCond .ne 9, 3)] = true := by decide +kernel
  refine go_aload_n rfl hd (fun hd => ?_)
  refine go_getR co_X0 fl_0_18 (by decide) rfl (ct_K ha0) (ct_R7 ha0) hd (fun hd => ?_)
  refine go_iload_n rfl hd (fun hd => ?_)
  refine go_iaload (ct_S3 ha0) hz1.1 hz1.2 (by decide) hd (fun hd => ?_)
  exact go_if_ne (by decide) hz2 hd kt kf
theorem b_City_openDoors_21 {P : jm_P} {d : Nat} {I : jm_I} {Q : Option jm_V → jm_I → Prop} {o0 : Option jm_V} {x1 : Int} {x2 : Int}  (k : Gx P d md_City_openDoors 27 [o0, some (.inl (jb_or x1 (jb_shl 1 x2))), some (.inl x2)] [] I Q) : Gx P d md_City_openDoors 21 [o0, some (.inl x1), some (.inl x2)] [] I Q := by
  show jm_Go d 0 0 md_City_openDoors 21 [o0, some (.inl x1), some (.inl x2)] [] (jx P I) (jx_Q P Q)
  have hd : jm_dc md_City_openDoors.2.1 21 [(.iload_n 1, 1), (.iconst 1, 1), (.iload_n 2, 1), (.ishl, 1), (.ior, 1), (.istore_n 1, 1)] = true := by decide +kernel
  refine go_iload_n rfl hd (fun hd => ?_)
  refine go_iconst hd (fun hd => ?_)
  refine go_iload_n rfl hd (fun hd => ?_)
  refine go_ishl hd (fun hd => ?_)
  refine go_ior hd (fun hd => ?_)
  refine go_istore_n (by decide) hd (fun hd => ?_)
  exact k
theorem b_City_openDoors_27 {P : jm_P} {d : Nat} {I : jm_I} {Q : Option jm_V → jm_I → Prop} {o0 : Option jm_V} {o1 : Option jm_V} {x2 : Int}  (k : Gx P d md_City_openDoors 4 [o0, o1, some (.inl (x2 + 1))] [] I Q) : Gx P d md_City_openDoors 27 [o0, o1, some (.inl x2)] [] I Q := by
  show jm_Go d 0 0 md_City_openDoors 27 [o0, o1, some (.inl x2)] [] (jx P I) (jx_Q P Q)
  have hd : jm_dc md_City_openDoors.2.1 27 [(.iinc 2 1, 3), (.goto (-26), 3)] = true := by decide +kernel
  refine go_iinc rfl hd (fun hd => ?_)
  exact go_goto (by decide) hd k
theorem b_City_openDoors_33 {P : jm_P} {d : Nat} {I : jm_I} {Q : Option jm_V → jm_I → Prop} {o0 : Option jm_V} {x1 : Int} {o2 : Option jm_V}  (k : Q (some (.inl x1)) I) : Gx P d md_City_openDoors 33 [o0, some (.inl x1), o2] [] I Q := by
  show jm_Go d 0 0 md_City_openDoors 33 [o0, some (.inl x1), o2] [] (jx P I) (jx_Q P Q)
  have hd : jm_dc md_City_openDoors.2.1 33 [(.iload_n 1, 1), (.ireturn, 1)] = true := by decide +kernel
  refine go_iload_n rfl hd (fun hd => ?_)
  exact go_ireturn hd rfl ⟨_, rfl, k⟩
