/-! ===== a lemma a basic block (by program, wip/gen/gen9.py) ===== -/
theorem b_X_type_0 {L : Nat} {d : Nat} {I : jm_I} {Q : Option jm_V → jm_I → Prop} {x1 : Int}  (k : Cx (jx_0 L) d md_X_within [.inl x1, .inl 0, .inl 255] I (fun v J => Gx (jx_0 L) (d + 1) md_X_type 8 [some (.inr (.inl 1)), some (.inl x1)] (v.toList ++ []) J Q)) : Cx (jx_0 L) (d + 1) md_X_type [.inr (.inl 1), .inl x1] I Q := by
  show jm_Go (d + 1) 0 0 md_X_type 0 [some (.inr (.inl 1)), some (.inl x1)] [] (jx (jx_0 L) I) (jx_Q (jx_0 L) Q)
  have hd : jm_dc md_X_type.2.1 0 [(.iload_n 1, 1), (.iconst 0, 1), (.sipush 255, 3), (.invokestatic 86, 3)] = true := by decide +kernel
  refine go_iload_n rfl hd (fun hd => ?_)
  refine go_iconst hd (fun hd => ?_)
  refine go_sipush (by decide) hd (fun hd => ?_)
  exact gx_static [.inl x1, .inl 0, .inl 255] [] mk_X_within ml_8_86 st_X_within rfl (Nat.le_of_ble_eq_true rfl) rfl (Nat.le_of_ble_eq_true rfl) rfl hd k
theorem b_X_type_8 {L : Nat} {d : Nat} {I : jm_I} {Q : Option jm_V → jm_I → Prop} {o0 : Option jm_V} {o1 : Option jm_V} {s0 : Int}  (hz : (-2147483648 ≤ s0 ∧ s0 < 2147483648)) (kt : ¬ s0 = 0 → Gx (jx_0 L) d md_X_type 13 [o0, o1] [] I Q) (kf : s0 = 0 → Gx (jx_0 L) d md_X_type 11 [o0, o1] [] I Q) : Gx (jx_0 L) d md_X_type 8 [o0, o1] [.inl s0] I Q := by
  have hz1 := hz
  show jm_Go d 0 0 md_X_type 8 [o0, o1] [.inl s0] (jx (jx_0 L) I) (jx_Q (jx_0 L) Q)
  have hd : jm_dc md_X_type.2.1 8 [(.ifCond .ne 5, 3)] = true := by decide +kernel
  exact go_if_ne (by decide) hz1 hd kt kf
theorem b_X_type_11 {L : Nat} {d : Nat} {I : jm_I} {Q : Option jm_V → jm_I → Prop} {o0 : Option jm_V} {o1 : Option jm_V}  (k : Q (some (.inl (-1))) I) : Gx (jx_0 L) d md_X_type 11 [o0, o1] [] I Q := by
  show jm_Go d 0 0 md_X_type 11 [o0, o1] [] (jx (jx_0 L) I) (jx_Q (jx_0 L) Q)
  have hd : jm_dc md_X_type.2.1 11 [(.iconst (-1), 1), (.ireturn, 1)] = true := by decide +kernel
  refine go_iconst hd (fun hd => ?_)
  exact go_ireturn hd rfl ⟨_, rfl, k⟩
theorem b_X_type_13 {L : Nat} {d : Nat} {I : jm_I} {Q : Option jm_V → jm_I → Prop} {o1 : Option jm_V}  (hz : (-2147483648 ≤ I 1 4 ∧ I 1 4 < 2147483648)) (kt : (I 1 4) < 200 → Gx (jx_0 L) d md_X_type 26 [some (.inr (.inl 1)), o1] [] I Q) (kf : ¬ ((I 1 4) < 200) → Gx (jx_0 L) d md_X_type 23 [some (.inr (.inl 1)), o1] [] I Q) : Gx (jx_0 L) d md_X_type 13 [some (.inr (.inl 1)), o1] [] I Q := by
  have hz1 := hz
  show jm_Go d 0 0 md_X_type 13 [some (.inr (.inl 1)), o1] [] (jx (jx_0 L) I) (jx_Q (jx_0 L) Q)
  have hd : jm_dc md_X_type.2.1 13 [(.aload_n 0, 1), (.getfield 90, 3), (.sipush 200, 3), (.if_icmp .lt 6, 3)] = true := by decide +kernel
  refine go_aload_n rfl hd (fun hd => ?_)
  refine go_getI co_X8 fl_8_90 (by decide) (Or.inl rfl) rfl hd (fun hd => ?_)
  refine go_sipush (by decide) hd (fun hd => ?_)
  exact go_icmp_lt (by decide) hz1 ⟨by decide, by decide⟩ hd kt kf
theorem b_X_type_23 {L : Nat} {d : Nat} {I : jm_I} {Q : Option jm_V → jm_I → Prop} {o0 : Option jm_V} {o1 : Option jm_V}  (k : Q (some (.inl (-3))) I) : Gx (jx_0 L) d md_X_type 23 [o0, o1] [] I Q := by
  show jm_Go d 0 0 md_X_type 23 [o0, o1] [] (jx (jx_0 L) I) (jx_Q (jx_0 L) Q)
  have hd : jm_dc md_X_type.2.1 23 [(.bipush (-3), 2), (.ireturn, 1)] = true := by decide +kernel
  refine go_bipush (by decide) hd (fun hd => ?_)
  exact go_ireturn hd rfl ⟨_, rfl, k⟩
theorem b_X_type_26 {L : Nat} {d : Nat} {I : jm_I} {Q : Option jm_V → jm_I → Prop} {x1 : Int}  (hz : (0 ≤ I 1 4 ∧ I 1 4 < 200)) (k : Q (some (.inl (((I 1 4) + 1)))) (jm_up (jm_up I 43 ((I 1 4).toNat) x1) 1 4 ((I 1 4) + 1))) : Gx (jx_0 L) d md_X_type 26 [some (.inr (.inl 1)), some (.inl x1)] [] I Q := by
  have hz1 := hz
  show jm_Go d 0 0 md_X_type 26 [some (.inr (.inl 1)), some (.inl x1)] [] (jx (jx_0 L) I) (jx_Q (jx_0 L) Q)
  have hd : jm_dc md_X_type.2.1 26 [(.aload_n 0, 1), (.getfield 26, 3), (.aload_n 0, 1), (.getfield 90, 3), (.iload_n 1, 1), (.iastore, 1), (.aload_n 0, 1), (.dup, 1), (.getfield 90, 3), (.iconst 1, 1), (.iadd, 1), (.putfield 90, 3), (.aload_n 0, 1), (.getfield 90, 3), (.ireturn, 1)] = true := by decide +kernel
  refine go_aload_n rfl hd (fun hd => ?_)
  refine go_getR co_X8 fl_8_26 (by decide) rfl rfl rfl hd (fun hd => ?_)
  refine go_aload_n rfl hd (fun hd => ?_)
  refine go_getI co_X8 fl_8_90 (by decide) (Or.inl rfl) rfl hd (fun hd => ?_)
  refine go_iload_n rfl hd (fun hd => ?_)
  refine go_iastore rfl hz1.1 hz1.2 (by decide) hd (fun hd => ?_)
  refine go_aload_n rfl hd (fun hd => ?_)
  refine go_dup rfl hd (fun hd => ?_)
  refine go_getI co_X8 fl_8_90 (by decide) (Or.inl rfl) rfl hd (fun hd => ?_)
  refine go_iconst hd (fun hd => ?_)
  refine go_iadd hd (fun hd => ?_)
  refine go_putI co_X8 fl_8_90 (by decide) rfl rfl hd (fun hd => ?_)
  refine go_aload_n rfl hd (fun hd => ?_)
  refine go_getI co_X8 fl_8_90 (by decide) (Or.inl rfl) rfl hd (fun hd => ?_)
  exact go_ireturn hd rfl ⟨_, rfl, k⟩
theorem b_X_within_0 {L : Nat} {d : Nat} {I : jm_I} {Q : Option jm_V → jm_I → Prop} {x0 : Int} {x1 : Int} {x2 : Int}  (hz : (-2147483648 ≤ x0 ∧ x0 < 2147483648) ∧ (-2147483648 ≤ x1 ∧ x1 < 2147483648)) (kt : x0 < x1 → Gx (jx_0 L) d md_X_within 14 [some (.inl x0), some (.inl x1), some (.inl x2)] [] I Q) (kf : ¬ (x0 < x1) → Gx (jx_0 L) d md_X_within 5 [some (.inl x0), some (.inl x1), some (.inl x2)] [] I Q) : Cx (jx_0 L) d md_X_within [.inl x0, .inl x1, .inl x2] I Q := by
  obtain ⟨hz1, hz2⟩ := hz
  show jm_Go d 0 0 md_X_within 0 [some (.inl x0), some (.inl x1), some (.inl x2)] [] (jx (jx_0 L) I) (jx_Q (jx_0 L) Q)
  have hd : jm_dc md_X_within.2.1 0 [(.iload_n 0, 1), (.iload_n 1, 1), (.if_icmp .lt 12, 3)] = true := by decide +kernel
  refine go_iload_n rfl hd (fun hd => ?_)
  refine go_iload_n rfl hd (fun hd => ?_)
  exact go_icmp_lt (by decide) hz1 hz2 hd kt kf
theorem b_X_within_5 {L : Nat} {d : Nat} {I : jm_I} {Q : Option jm_V → jm_I → Prop} {x0 : Int} {o1 : Option jm_V} {x2 : Int}  (hz : (-2147483648 ≤ x0 ∧ x0 < 2147483648) ∧ (-2147483648 ≤ x2 ∧ x2 < 2147483648)) (kt : x2 < x0 → Gx (jx_0 L) d md_X_within 14 [some (.inl x0), o1, some (.inl x2)] [] I Q) (kf : ¬ (x2 < x0) → Gx (jx_0 L) d md_X_within 10 [some (.inl x0), o1, some (.inl x2)] [] I Q) : Gx (jx_0 L) d md_X_within 5 [some (.inl x0), o1, some (.inl x2)] [] I Q := by
  obtain ⟨hz1, hz2⟩ := hz
  show jm_Go d 0 0 md_X_within 5 [some (.inl x0), o1, some (.inl x2)] [] (jx (jx_0 L) I) (jx_Q (jx_0 L) Q)
  have hd : jm_dc md_X_within.2.1 5 [(.iload_n 0, 1), (.iload_n 2, 1), (.if_icmp .gt 7, 3)] = true := by decide +kernel
  refine go_iload_n rfl hd (fun hd => ?_)
  refine go_iload_n rfl hd (fun hd => ?_)
  exact go_icmp_gt (by decide) hz1 hz2 hd kt kf
theorem b_X_within_10 {L : Nat} {d : Nat} {I : jm_I} {Q : Option jm_V → jm_I → Prop} {o0 : Option jm_V} {o1 : Option jm_V} {o2 : Option jm_V}  (k : Gx (jx_0 L) d md_X_within 15 [o0, o1, o2] [.inl 1] I Q) : Gx (jx_0 L) d md_X_within 10 [o0, o1, o2] [] I Q := by
  show jm_Go d 0 0 md_X_within 10 [o0, o1, o2] [] (jx (jx_0 L) I) (jx_Q (jx_0 L) Q)
  have hd : jm_dc md_X_within.2.1 10 [(.iconst 1, 1), (.goto 4, 3)] = true := by decide +kernel
  refine go_iconst hd (fun hd => ?_)
  exact go_goto (by decide) hd k
theorem b_X_within_14 {L : Nat} {d : Nat} {I : jm_I} {Q : Option jm_V → jm_I → Prop} {o0 : Option jm_V} {o1 : Option jm_V} {o2 : Option jm_V}  (k : Gx (jx_0 L) d md_X_within 15 [o0, o1, o2] [.inl 0] I Q) : Gx (jx_0 L) d md_X_within 14 [o0, o1, o2] [] I Q := by
  show jm_Go d 0 0 md_X_within 14 [o0, o1, o2] [] (jx (jx_0 L) I) (jx_Q (jx_0 L) Q)
  have hd : jm_dc md_X_within.2.1 14 [(.iconst 0, 1)] = true := by decide +kernel
  refine go_iconst hd (fun hd => ?_)
  exact k
theorem b_X_within_15 {L : Nat} {d : Nat} {I : jm_I} {Q : Option jm_V → jm_I → Prop} {o0 : Option jm_V} {o1 : Option jm_V} {o2 : Option jm_V} {s0 : Int}  (hz : (s0 = 0 ∨ s0 = 1)) (k : Q (some (.inl s0)) I) : Gx (jx_0 L) d md_X_within 15 [o0, o1, o2] [.inl s0] I Q := by
  have hz1 := hz
  show jm_Go d 0 0 md_X_within 15 [o0, o1, o2] [.inl s0] (jx (jx_0 L) I) (jx_Q (jx_0 L) Q)
  have hd : jm_dc md_X_within.2.1 15 [(.ireturn, 1)] = true := by decide +kernel
  exact go_zreturn hd rfl hz1 ⟨_, rfl, k⟩
theorem b_X_clear_0 {L : Nat} {d : Nat} {I : jm_I} {Q : Option jm_V → jm_I → Prop}   (k : Q (some (.inl (I 1 4))) (jm_up I 1 4 0)) : Cx (jx_0 L) d md_X_clear [.inr (.inl 1)] I Q := by
  show jm_Go d 0 0 md_X_clear 0 [some (.inr (.inl 1)), none] [] (jx (jx_0 L) I) (jx_Q (jx_0 L) Q)
  have hd : jm_dc md_X_clear.2.1 0 [(.aload_n 0, 1), (.getfield 90, 3), (.istore_n 1, 1), (.aload_n 0, 1), (.iconst 0, 1), (.putfield 90, 3), (.iload_n 1, 1), (.ireturn, 1)] = true := by decide +kernel
  refine go_aload_n rfl hd (fun hd => ?_)
  refine go_getI co_X8 fl_8_90 (by decide) (Or.inl rfl) rfl hd (fun hd => ?_)
  refine go_istore_n (by decide) hd (fun hd => ?_)
  refine go_aload_n rfl hd (fun hd => ?_)
  refine go_iconst hd (fun hd => ?_)
  refine go_putI co_X8 fl_8_90 (by decide) rfl rfl hd (fun hd => ?_)
  refine go_iload_n rfl hd (fun hd => ?_)
  exact go_ireturn hd rfl ⟨_, rfl, k⟩
theorem b_X_city_0 {L : Nat} {d : Nat} {I : jm_I} {Q : Option jm_V → jm_I → Prop} {c1 : Nat} (hD1 : I 1 1 = (c1 : Int)) (hc1 : jx_City (jx_0 L) c1) (k : Cx (jx_0 L) d md_CityReader_read [.inr (.inl 42), .inr (.inl 43), .inl (I 1 4), .inr (.inl c1)] I (fun v J => Gx (jx_0 L) (d + 1) md_X_city 19 [some (.inr (.inl 1)), none, none, none] (v.toList ++ []) J Q)) : Cx (jx_0 L) (d + 1) md_X_city [.inr (.inl 1)] I Q := by
  show jm_Go (d + 1) 0 0 md_X_city 0 [some (.inr (.inl 1)), none, none, none] [] (jx (jx_0 L) I) (jx_Q (jx_0 L) Q)
  have hd : jm_dc md_X_city.2.1 0 [(.aload_n 0, 1), (.getfield 22, 3), (.aload_n 0, 1), (.getfield 26, 3), (.aload_n 0, 1), (.getfield 90, 3), (.aload_n 0, 1), (.getfield 16, 3), (.invokevirtual 94, 3)] = true := by decide +kernel
  refine go_aload_n rfl hd (fun hd => ?_)
  refine go_getR co_X8 fl_8_22 (by decide) rfl rfl rfl hd (fun hd => ?_)
  refine go_aload_n rfl hd (fun hd => ?_)
  refine go_getR co_X8 fl_8_26 (by decide) rfl rfl rfl hd (fun hd => ?_)
  refine go_aload_n rfl hd (fun hd => ?_)
  refine go_getI co_X8 fl_8_90 (by decide) (Or.inl rfl) rfl hd (fun hd => ?_)
  refine go_aload_n rfl hd (fun hd => ?_)
  refine go_getD co_X8 fl_8_16 (by decide) rfl rfl hD1 (ct_pos hc1) hd (fun hd => ?_)
  exact gx_virtual 42 1 [.inr (.inl 43), .inl (I 1 4), .inr (.inl c1)] [] mk_CityReader_read co_X1 rfl ml_8_94 in_CityReader_read se_CityReader_read rfl rfl (Nat.le_of_ble_eq_true rfl) rfl (Nat.le_of_ble_eq_true rfl) rfl hd k
theorem b_X_city_19 {L : Nat} {d : Nat} {I : jm_I} {Q : Option jm_V → jm_I → Prop} {o0 : Option jm_V} {o1 : Option jm_V} {o2 : Option jm_V} {o3 : Option jm_V} {s0 : Int}  (hz : (-2147483648 ≤ s0 ∧ s0 < 2147483648)) (kt : 0 ≤ s0 → Gx (jx_0 L) d md_X_city 26 [o0, some (.inl s0), o2, o3] [] I Q) (kf : ¬ (0 ≤ s0) → Gx (jx_0 L) d md_X_city 24 [o0, some (.inl s0), o2, o3] [] I Q) : Gx (jx_0 L) d md_X_city 19 [o0, o1, o2, o3] [.inl s0] I Q := by
  have hz1 := hz
  show jm_Go d 0 0 md_X_city 19 [o0, o1, o2, o3] [.inl s0] (jx (jx_0 L) I) (jx_Q (jx_0 L) Q)
  have hd : jm_dc md_X_city.2.1 19 [(.istore_n 1, 1), (.iload_n 1, 1), (.ifCond .ge 5, 3)] = true := by decide +kernel
  refine go_istore_n (by decide) hd (fun hd => ?_)
  refine go_iload_n rfl hd (fun hd => ?_)
  exact go_if_ge (by decide) hz1 hd kt kf
theorem b_X_city_24 {L : Nat} {d : Nat} {I : jm_I} {Q : Option jm_V → jm_I → Prop} {o0 : Option jm_V} {x1 : Int} {o2 : Option jm_V} {o3 : Option jm_V}  (k : Q (some (.inl x1)) I) : Gx (jx_0 L) d md_X_city 24 [o0, some (.inl x1), o2, o3] [] I Q := by
  show jm_Go d 0 0 md_X_city 24 [o0, some (.inl x1), o2, o3] [] (jx (jx_0 L) I) (jx_Q (jx_0 L) Q)
  have hd : jm_dc md_X_city.2.1 24 [(.iload_n 1, 1), (.ireturn, 1)] = true := by decide +kernel
  refine go_iload_n rfl hd (fun hd => ?_)
  exact go_ireturn hd rfl ⟨_, rfl, k⟩
theorem b_X_city_26 {L : Nat} {d : Nat} {I : jm_I} {Q : Option jm_V → jm_I → Prop} {o1 : Option jm_V} {o2 : Option jm_V} {o3 : Option jm_V} {c1 : Nat} {c2 : Nat} (hD1 : I 1 1 = (c1 : Int)) (hc1 : jx_City (jx_0 L) c1) (hD2 : I 1 0 = (c2 : Int)) (hc2 : jx_City (jx_0 L) c2) (k : Cx (jx_0 L) d md_X_settleIn [.inr (.inl 1)] (jm_up (jm_up I 1 1 ((c2 : Nat) : Int)) 1 0 ((c1 : Nat) : Int)) (fun v J => Gx (jx_0 L) (d + 1) md_X_city 48 [some (.inr (.inl 1)), o1, some (.inr (.inl c1)), o3] (v.toList ++ []) J Q)) : Gx (jx_0 L) (d + 1) md_X_city 26 [some (.inr (.inl 1)), o1, o2, o3] [] I Q := by
  show jm_Go (d + 1) 0 0 md_X_city 26 [some (.inr (.inl 1)), o1, o2, o3] [] (jx (jx_0 L) I) (jx_Q (jx_0 L) Q)
  have hd : jm_dc md_X_city.2.1 26 [(.aload_n 0, 1), (.getfield 16, 3), (.astore_n 2, 1), (.aload_n 0, 1), (.aload_n 0, 1), (.getfield 12, 3), (.putfield 16, 3), (.aload_n 0, 1), (.aload_n 2, 1), (.putfield 12, 3), (.aload_n 0, 1), (.invokevirtual 83, 3)] = true := by decide +kernel
  refine go_aload_n rfl hd (fun hd => ?_)
  refine go_getD co_X8 fl_8_16 (by decide) rfl rfl hD1 (ct_pos hc1) hd (fun hd => ?_)
  refine go_astore_n (by decide) hd (fun hd => ?_)
  refine go_aload_n rfl hd (fun hd => ?_)
  refine go_aload_n rfl hd (fun hd => ?_)
  refine go_getD co_X8 fl_8_12 (by decide) rfl rfl hD2 (ct_pos hc2) hd (fun hd => ?_)
  refine go_putD co_X8 fl_8_16 (by decide) rfl rfl (ct_pos hc2) hd (fun hd => ?_)
  refine go_aload_n rfl hd (fun hd => ?_)
  refine go_aload_n rfl hd (fun hd => ?_)
  refine go_putD co_X8 fl_8_12 (by decide) rfl rfl (ct_pos hc1) hd (fun hd => ?_)
  refine go_aload_n rfl hd (fun hd => ?_)
  exact gx_virtual 1 8 [] [] mk_X_settleIn co_X8 rfl ml_8_83 in_X_settleIn se_X_settleIn rfl rfl (Nat.le_of_ble_eq_true rfl) rfl (Nat.le_of_ble_eq_true rfl) rfl hd k
theorem b_X_city_48 {L : Nat} {d : Nat} {I : jm_I} {Q : Option jm_V → jm_I → Prop} {o1 : Option jm_V} {o2 : Option jm_V} {o3 : Option jm_V}  (k : Gx (jx_0 L) d md_X_city 71 [some (.inr (.inl 1)), o1, o2, some (.inl 0)] [] (jm_up (jm_up (jm_up I 1 4 0) 103 0 0) 49 2 0) Q) : Gx (jx_0 L) d md_X_city 48 [some (.inr (.inl 1)), o1, o2, o3] [] I Q := by
  show jm_Go d 0 0 md_X_city 48 [some (.inr (.inl 1)), o1, o2, o3] [] (jx (jx_0 L) I) (jx_Q (jx_0 L) Q)
  have hd : jm_dc md_X_city.2.1 48 [(.aload_n 0, 1), (.iconst 0, 1), (.putfield 90, 3), (.aload_n 0, 1), (.getfield 55, 3), (.iconst 0, 1), (.putfield 98, 3), (.aload_n 0, 1), (.getfield 40, 3), (.iconst 0, 1), (.putfield 101, 3), (.iconst 0, 1), (.istore_n 3, 1)] = true := by decide +kernel
  refine go_aload_n rfl hd (fun hd => ?_)
  refine go_iconst hd (fun hd => ?_)
  refine go_putI co_X8 fl_8_90 (by decide) rfl rfl hd (fun hd => ?_)
  refine go_aload_n rfl hd (fun hd => ?_)
  refine go_getR co_X8 fl_8_55 (by decide) rfl rfl rfl hd (fun hd => ?_)
  refine go_iconst hd (fun hd => ?_)
  refine go_putI co_X3 fl_8_98 (by decide) rfl rfl hd (fun hd => ?_)
  refine go_aload_n rfl hd (fun hd => ?_)
  refine go_getR co_X8 fl_8_40 (by decide) rfl rfl rfl hd (fun hd => ?_)
  refine go_iconst hd (fun hd => ?_)
  refine go_putI co_X4 fl_8_101 (by decide) rfl rfl hd (fun hd => ?_)
  refine go_iconst hd (fun hd => ?_)
  refine go_istore_n (by decide) hd (fun hd => ?_)
  exact k
theorem b_X_city_71 {L : Nat} {d : Nat} {I : jm_I} {Q : Option jm_V → jm_I → Prop} {o0 : Option jm_V} {o1 : Option jm_V} {o2 : Option jm_V} {x3 : Int}  (hz : (-2147483648 ≤ x3 ∧ x3 < 2147483648)) (kt : 2 ≤ x3 → Gx (jx_0 L) d md_X_city 89 [o0, o1, o2, some (.inl x3)] [] I Q) (kf : ¬ (2 ≤ x3) → Gx (jx_0 L) d md_X_city 76 [o0, o1, o2, some (.inl x3)] [] I Q) : Gx (jx_0 L) d md_X_city 71 [o0, o1, o2, some (.inl x3)] [] I Q := by
  have hz1 := hz
  show jm_Go d 0 0 md_X_city 71 [o0, o1, o2, some (.inl x3)] [] (jx (jx_0 L) I) (jx_Q (jx_0 L) Q)
  have hd : jm_dc md_X_city.2.1 71 [(.iload_n 3, 1), (.iconst 2, 1), (.if_icmp .ge 16, 3)] = true := by decide +kernel
  refine go_iload_n rfl hd (fun hd => ?_)
  refine go_iconst hd (fun hd => ?_)
  exact go_icmp_ge (by decide) hz1 ⟨by decide, by decide⟩ hd kt kf
theorem b_X_city_76 {L : Nat} {d : Nat} {I : jm_I} {Q : Option jm_V → jm_I → Prop} {o1 : Option jm_V} {o2 : Option jm_V} {x3 : Int}  (hz : (0 ≤ x3 ∧ x3 < 2)) (k : Gx (jx_0 L) d md_X_city 71 [some (.inr (.inl 1)), o1, o2, some (.inl (x3 + 1))] [] (jm_up I 102 (x3.toNat) 0) Q) : Gx (jx_0 L) d md_X_city 76 [some (.inr (.inl 1)), o1, o2, some (.inl x3)] [] I Q := by
  have hz1 := hz
  show jm_Go d 0 0 md_X_city 76 [some (.inr (.inl 1)), o1, o2, some (.inl x3)] [] (jx (jx_0 L) I) (jx_Q (jx_0 L) Q)
  have hd : jm_dc md_X_city.2.1 76 [(.aload_n 0, 1), (.getfield 48, 3), (.iload_n 3, 1), (.iconst 0, 1), (.bastore, 1), (.iinc 3 1, 3), (.goto (-15), 3)] = true := by decide +kernel
  refine go_aload_n rfl hd (fun hd => ?_)
  refine go_getR co_X8 fl_8_48 (by decide) rfl rfl rfl hd (fun hd => ?_)
  refine go_iload_n rfl hd (fun hd => ?_)
  refine go_iconst hd (fun hd => ?_)
  refine go_zastore rfl hz1.1 hz1.2 (by decide) (Or.inl rfl) hd (fun hd => ?_)
  refine go_iinc rfl hd (fun hd => ?_)
  exact go_goto (by decide) hd k
theorem b_X_city_89 {L : Nat} {d : Nat} {I : jm_I} {Q : Option jm_V → jm_I → Prop} {o0 : Option jm_V} {x1 : Int} {o2 : Option jm_V} {o3 : Option jm_V}  (k : Q (some (.inl x1)) I) : Gx (jx_0 L) d md_X_city 89 [o0, some (.inl x1), o2, o3] [] I Q := by
  show jm_Go d 0 0 md_X_city 89 [o0, some (.inl x1), o2, o3] [] (jx (jx_0 L) I) (jx_Q (jx_0 L) Q)
  have hd : jm_dc md_X_city.2.1 89 [(.iload_n 1, 1), (.ireturn, 1)] = true := by decide +kernel
  refine go_iload_n rfl hd (fun hd => ?_)
  exact go_ireturn hd rfl ⟨_, rfl, k⟩
theorem b_X_door_0 {L : Nat} {d : Nat} {I : jm_I} {Q : Option jm_V → jm_I → Prop} {x1 : Int} {x2 : Int} {c1 : Nat} (hD1 : I 1 0 = (c1 : Int)) (hc1 : jx_City (jx_0 L) c1) (k : Cx (jx_0 L) d md_X_within [.inl x1, .inl 0, .inl ((I c1 2) - 1)] I (fun v J => Gx (jx_0 L) (d + 1) md_X_door 14 [some (.inr (.inl 1)), some (.inl x1), some (.inl x2)] (v.toList ++ []) J Q)) : Cx (jx_0 L) (d + 1) md_X_door [.inr (.inl 1), .inl x1, .inl x2] I Q := by
  show jm_Go (d + 1) 0 0 md_X_door 0 [some (.inr (.inl 1)), some (.inl x1), some (.inl x2)] [] (jx (jx_0 L) I) (jx_Q (jx_0 L) Q)
  have hd : jm_dc md_X_door.2.1 0 [(.iload_n 1, 1), (.iconst 0, 1), (.aload_n 0, 1), (.getfield 12, 3), (.getfield 104, 3), (.iconst 1, 1), (.isub, 1), (.invokestatic 86, 3)] = true := by decide +kernel
  refine go_iload_n rfl hd (fun hd => ?_)
  refine go_iconst hd (fun hd => ?_)
  refine go_aload_n rfl hd (fun hd => ?_)
  refine go_getD co_X8 fl_8_12 (by decide) rfl rfl hD1 (ct_pos hc1) hd (fun hd => ?_)
  refine go_getI co_X0 fl_8_104 (by decide) (Or.inl rfl) (ct_K hc1) hd (fun hd => ?_)
  refine go_iconst hd (fun hd => ?_)
  refine go_isub hd (fun hd => ?_)
  exact gx_static [.inl x1, .inl 0, .inl ((I c1 2) - 1)] [] mk_X_within ml_8_86 st_X_within rfl (Nat.le_of_ble_eq_true rfl) rfl (Nat.le_of_ble_eq_true rfl) rfl hd k
theorem b_X_door_14 {L : Nat} {d : Nat} {I : jm_I} {Q : Option jm_V → jm_I → Prop} {o0 : Option jm_V} {o1 : Option jm_V} {o2 : Option jm_V} {s0 : Int}  (hz : (-2147483648 ≤ s0 ∧ s0 < 2147483648)) (kt : ¬ s0 = 0 → Gx (jx_0 L) d md_X_door 19 [o0, o1, o2] [] I Q) (kf : s0 = 0 → Gx (jx_0 L) d md_X_door 17 [o0, o1, o2] [] I Q) : Gx (jx_0 L) d md_X_door 14 [o0, o1, o2] [.inl s0] I Q := by
  have hz1 := hz
  show jm_Go d 0 0 md_X_door 14 [o0, o1, o2] [.inl s0] (jx (jx_0 L) I) (jx_Q (jx_0 L) Q)
  have hd : jm_dc md_X_door.2.1 14 [(.ifCond .ne 5, 3)] = true := by decide +kernel
  exact go_if_ne (by decide) hz1 hd kt kf
theorem b_X_door_17 {L : Nat} {d : Nat} {I : jm_I} {Q : Option jm_V → jm_I → Prop} {o0 : Option jm_V} {o1 : Option jm_V} {o2 : Option jm_V}  (k : Q (some (.inl (-1))) I) : Gx (jx_0 L) d md_X_door 17 [o0, o1, o2] [] I Q := by
  show jm_Go d 0 0 md_X_door 17 [o0, o1, o2] [] (jx (jx_0 L) I) (jx_Q (jx_0 L) Q)
  have hd : jm_dc md_X_door.2.1 17 [(.iconst (-1), 1), (.ireturn, 1)] = true := by decide +kernel
  refine go_iconst hd (fun hd => ?_)
  exact go_ireturn hd rfl ⟨_, rfl, k⟩
theorem b_X_door_19 {L : Nat} {d : Nat} {I : jm_I} {Q : Option jm_V → jm_I → Prop} {o0 : Option jm_V} {o1 : Option jm_V} {x2 : Int}  (hz : (-2147483648 ≤ x2 ∧ x2 < 2147483648)) (k0 : x2 = 0 → Gx (jx_0 L) d md_X_door 48 [o0, o1, some (.inl x2)] [] I Q) (k1 : x2 = 1 → Gx (jx_0 L) d md_X_door 58 [o0, o1, some (.inl x2)] [] I Q) (k2 : x2 = 2 → Gx (jx_0 L) d md_X_door 68 [o0, o1, some (.inl x2)] [] I Q) (kd : (x2 < 0 ∨ 2 < x2) → Gx (jx_0 L) d md_X_door 78 [o0, o1, some (.inl x2)] [] I Q) : Gx (jx_0 L) d md_X_door 19 [o0, o1, some (.inl x2)] [] I Q := by
  have hz1 := hz
  show jm_Go d 0 0 md_X_door 19 [o0, o1, some (.inl x2)] [] (jx (jx_0 L) I) (jx_Q (jx_0 L) Q)
  have hd : jm_dc md_X_door.2.1 19 [(.iload_n 2, 1), (.tableswitch 58 0 2 #[28, 38, 48], 28)] = true := by decide +kernel
  refine go_iload_n rfl hd (fun hd => ?_)
  by_cases hq : x2 < 0 ∨ 2 < x2
  · exact go_tableOut (a := x2) hz1 hq (by decide) hd (kd hq)
  · rcases (show x2 = 0 ∨ x2 = 1 ∨ x2 = 2 by omega) with hq0 | hq1 | hq2
    · exact go_tableIn (a := x2) (off := 28) (t := 48) hz1 (by omega) (by omega) (by rw [hq0]; rfl) (by decide) hd (k0 hq0)
    · exact go_tableIn (a := x2) (off := 38) (t := 58) hz1 (by omega) (by omega) (by rw [hq1]; rfl) (by decide) hd (k1 hq1)
    · exact go_tableIn (a := x2) (off := 48) (t := 68) hz1 (by omega) (by omega) (by rw [hq2]; rfl) (by decide) hd (k2 hq2)
theorem b_X_door_48 {L : Nat} {d : Nat} {I : jm_I} {Q : Option jm_V → jm_I → Prop} {x1 : Int} {o2 : Option jm_V} {c1 : Nat} (hD1 : I 1 0 = (c1 : Int)) (hc1 : jx_City (jx_0 L) c1) (hz : (0 ≤ x1 ∧ x1 < 8)) (k : Q (some (.inl (I (c1 + 1) x1.toNat))) I) : Gx (jx_0 L) d md_X_door 48 [some (.inr (.inl 1)), some (.inl x1), o2] [] I Q := by
  have hz1 := hz
  show jm_Go d 0 0 md_X_door 48 [some (.inr (.inl 1)), some (.inl x1), o2] [] (jx (jx_0 L) I) (jx_Q (jx_0 L) Q)
  have hd : jm_dc md_X_door.2.1 48 [(.aload_n 0, 1), (.getfield 12, 3), (.getfield 107, 3), (.iload_n 1, 1), (.iaload, 1), (.ireturn, 1)] = true := by decide +kernel
  refine go_aload_n rfl hd (fun hd => ?_)
  refine go_getD co_X8 fl_8_12 (by decide) rfl rfl hD1 (ct_pos hc1) hd (fun hd => ?_)
  refine go_getR co_X0 fl_8_107 (by decide) rfl (ct_K hc1) (ct_R5 hc1) hd (fun hd => ?_)
  refine go_iload_n rfl hd (fun hd => ?_)
  refine go_iaload (ct_S1 hc1) hz1.1 hz1.2 (by decide) hd (fun hd => ?_)
  exact go_ireturn hd rfl ⟨_, rfl, k⟩
theorem b_X_door_58 {L : Nat} {d : Nat} {I : jm_I} {Q : Option jm_V → jm_I → Prop} {x1 : Int} {o2 : Option jm_V} {c1 : Nat} (hD1 : I 1 0 = (c1 : Int)) (hc1 : jx_City (jx_0 L) c1) (hz : (0 ≤ x1 ∧ x1 < 8)) (k : Q (some (.inl (I (c1 + 2) x1.toNat))) I) : Gx (jx_0 L) d md_X_door 58 [some (.inr (.inl 1)), some (.inl x1), o2] [] I Q := by
  have hz1 := hz
  show jm_Go d 0 0 md_X_door 58 [some (.inr (.inl 1)), some (.inl x1), o2] [] (jx (jx_0 L) I) (jx_Q (jx_0 L) Q)
  have hd : jm_dc md_X_door.2.1 58 [(.aload_n 0, 1), (.getfield 12, 3), (.getfield 110, 3), (.iload_n 1, 1), (.iaload, 1), (.ireturn, 1)] = true := by decide +kernel
  refine go_aload_n rfl hd (fun hd => ?_)
  refine go_getD co_X8 fl_8_12 (by decide) rfl rfl hD1 (ct_pos hc1) hd (fun hd => ?_)
  refine go_getR co_X0 fl_8_110 (by decide) rfl (ct_K hc1) (ct_R6 hc1) hd (fun hd => ?_)
  refine go_iload_n rfl hd (fun hd => ?_)
  refine go_iaload (ct_S2 hc1) hz1.1 hz1.2 (by decide) hd (fun hd => ?_)
  exact go_ireturn hd rfl ⟨_, rfl, k⟩
theorem b_X_door_68 {L : Nat} {d : Nat} {I : jm_I} {Q : Option jm_V → jm_I → Prop} {x1 : Int} {o2 : Option jm_V} {c1 : Nat} (hD1 : I 1 0 = (c1 : Int)) (hc1 : jx_City (jx_0 L) c1) (hz : (0 ≤ x1 ∧ x1 < 8)) (k : Q (some (.inl (I (c1 + 3) x1.toNat))) I) : Gx (jx_0 L) d md_X_door 68 [some (.inr (.inl 1)), some (.inl x1), o2] [] I Q := by
  have hz1 := hz
  show jm_Go d 0 0 md_X_door 68 [some (.inr (.inl 1)), some (.inl x1), o2] [] (jx (jx_0 L) I) (jx_Q (jx_0 L) Q)
  have hd : jm_dc md_X_door.2.1 68 [(.aload_n 0, 1), (.getfield 12, 3), (.getfield 113, 3), (.iload_n 1, 1), (.iaload, 1), (.ireturn, 1)] = true := by decide +kernel
  refine go_aload_n rfl hd (fun hd => ?_)
  refine go_getD co_X8 fl_8_12 (by decide) rfl rfl hD1 (ct_pos hc1) hd (fun hd => ?_)
  refine go_getR co_X0 fl_8_113 (by decide) rfl (ct_K hc1) (ct_R7 hc1) hd (fun hd => ?_)
  refine go_iload_n rfl hd (fun hd => ?_)
  refine go_iaload (ct_S3 hc1) hz1.1 hz1.2 (by decide) hd (fun hd => ?_)
  exact go_ireturn hd rfl ⟨_, rfl, k⟩
theorem b_X_door_78 {L : Nat} {d : Nat} {I : jm_I} {Q : Option jm_V → jm_I → Prop} {o0 : Option jm_V} {o1 : Option jm_V} {o2 : Option jm_V}  (k : Q (some (.inl (-1))) I) : Gx (jx_0 L) d md_X_door 78 [o0, o1, o2] [] I Q := by
  show jm_Go d 0 0 md_X_door 78 [o0, o1, o2] [] (jx (jx_0 L) I) (jx_Q (jx_0 L) Q)
  have hd : jm_dc md_X_door.2.1 78 [(.iconst (-1), 1), (.ireturn, 1)] = true := by decide +kernel
  refine go_iconst hd (fun hd => ?_)
  exact go_ireturn hd rfl ⟨_, rfl, k⟩
theorem b_X_person_0 {L : Nat} {d : Nat} {I : jm_I} {Q : Option jm_V → jm_I → Prop} {x1 : Int} {x2 : Int}  (k : Cx (jx_0 L) d md_X_isPerson [.inr (.inl 1), .inl x1] I (fun v J => Gx (jx_0 L) (d + 1) md_X_person 5 [some (.inr (.inl 1)), some (.inl x1), some (.inl x2)] (v.toList ++ []) J Q)) : Cx (jx_0 L) (d + 1) md_X_person [.inr (.inl 1), .inl x1, .inl x2] I Q := by
  show jm_Go (d + 1) 0 0 md_X_person 0 [some (.inr (.inl 1)), some (.inl x1), some (.inl x2)] [] (jx (jx_0 L) I) (jx_Q (jx_0 L) Q)
  have hd : jm_dc md_X_person.2.1 0 [(.aload_n 0, 1), (.iload_n 1, 1), (.invokevirtual 116, 3)] = true := by decide +kernel
  refine go_aload_n rfl hd (fun hd => ?_)
  refine go_iload_n rfl hd (fun hd => ?_)
  exact gx_virtual 1 8 [.inl x1] [] mk_X_isPerson co_X8 rfl ml_8_116 in_X_isPerson se_X_isPerson rfl rfl (Nat.le_of_ble_eq_true rfl) rfl (Nat.le_of_ble_eq_true rfl) rfl hd k
theorem b_X_person_5 {L : Nat} {d : Nat} {I : jm_I} {Q : Option jm_V → jm_I → Prop} {o0 : Option jm_V} {o1 : Option jm_V} {o2 : Option jm_V} {s0 : Int}  (hz : (-2147483648 ≤ s0 ∧ s0 < 2147483648)) (kt : ¬ s0 = 0 → Gx (jx_0 L) d md_X_person 10 [o0, o1, o2] [] I Q) (kf : s0 = 0 → Gx (jx_0 L) d md_X_person 8 [o0, o1, o2] [] I Q) : Gx (jx_0 L) d md_X_person 5 [o0, o1, o2] [.inl s0] I Q := by
  have hz1 := hz
  show jm_Go d 0 0 md_X_person 5 [o0, o1, o2] [.inl s0] (jx (jx_0 L) I) (jx_Q (jx_0 L) Q)
  have hd : jm_dc md_X_person.2.1 5 [(.ifCond .ne 5, 3)] = true := by decide +kernel
  exact go_if_ne (by decide) hz1 hd kt kf
theorem b_X_person_8 {L : Nat} {d : Nat} {I : jm_I} {Q : Option jm_V → jm_I → Prop} {o0 : Option jm_V} {o1 : Option jm_V} {o2 : Option jm_V}  (k : Q (some (.inl (-1))) I) : Gx (jx_0 L) d md_X_person 8 [o0, o1, o2] [] I Q := by
  show jm_Go d 0 0 md_X_person 8 [o0, o1, o2] [] (jx (jx_0 L) I) (jx_Q (jx_0 L) Q)
  have hd : jm_dc md_X_person.2.1 8 [(.iconst (-1), 1), (.ireturn, 1)] = true := by decide +kernel
  refine go_iconst hd (fun hd => ?_)
  exact go_ireturn hd rfl ⟨_, rfl, k⟩
theorem b_X_person_10 {L : Nat} {d : Nat} {I : jm_I} {Q : Option jm_V → jm_I → Prop} {o0 : Option jm_V} {o1 : Option jm_V} {x2 : Int}  (hz : (-2147483648 ≤ x2 ∧ x2 < 2147483648)) (k0 : x2 = 0 → Gx (jx_0 L) d md_X_person 40 [o0, o1, some (.inl x2)] [] I Q) (k1 : x2 = 1 → Gx (jx_0 L) d md_X_person 50 [o0, o1, some (.inl x2)] [] I Q) (k2 : x2 = 2 → Gx (jx_0 L) d md_X_person 60 [o0, o1, some (.inl x2)] [] I Q) (k3 : x2 = 3 → Gx (jx_0 L) d md_X_person 72 [o0, o1, some (.inl x2)] [] I Q) (kd : (x2 < 0 ∨ 3 < x2) → Gx (jx_0 L) d md_X_person 82 [o0, o1, some (.inl x2)] [] I Q) : Gx (jx_0 L) d md_X_person 10 [o0, o1, some (.inl x2)] [] I Q := by
  have hz1 := hz
  show jm_Go d 0 0 md_X_person 10 [o0, o1, some (.inl x2)] [] (jx (jx_0 L) I) (jx_Q (jx_0 L) Q)
  have hd : jm_dc md_X_person.2.1 10 [(.iload_n 2, 1), (.tableswitch 71 0 3 #[29, 39, 49, 61], 29)] = true := by decide +kernel
  refine go_iload_n rfl hd (fun hd => ?_)
  by_cases hq : x2 < 0 ∨ 3 < x2
  · exact go_tableOut (a := x2) hz1 hq (by decide) hd (kd hq)
  · rcases (show x2 = 0 ∨ x2 = 1 ∨ x2 = 2 ∨ x2 = 3 by omega) with hq0 | hq1 | hq2 | hq3
    · exact go_tableIn (a := x2) (off := 29) (t := 40) hz1 (by omega) (by omega) (by rw [hq0]; rfl) (by decide) hd (k0 hq0)
    · exact go_tableIn (a := x2) (off := 39) (t := 50) hz1 (by omega) (by omega) (by rw [hq1]; rfl) (by decide) hd (k1 hq1)
    · exact go_tableIn (a := x2) (off := 49) (t := 60) hz1 (by omega) (by omega) (by rw [hq2]; rfl) (by decide) hd (k2 hq2)
    · exact go_tableIn (a := x2) (off := 61) (t := 72) hz1 (by omega) (by omega) (by rw [hq3]; rfl) (by decide) hd (k3 hq3)
theorem b_X_person_40 {L : Nat} {d : Nat} {I : jm_I} {Q : Option jm_V → jm_I → Prop} {x1 : Int} {o2 : Option jm_V}  (hz : (0 ≤ x1 ∧ x1 < 5)) (k : Q (some (.inl (I 45 x1.toNat))) I) : Gx (jx_0 L) d md_X_person 40 [some (.inr (.inl 1)), some (.inl x1), o2] [] I Q := by
  have hz1 := hz
  show jm_Go d 0 0 md_X_person 40 [some (.inr (.inl 1)), some (.inl x1), o2] [] (jx (jx_0 L) I) (jx_Q (jx_0 L) Q)
  have hd : jm_dc md_X_person.2.1 40 [(.aload_n 0, 1), (.getfield 33, 3), (.getfield 120, 3), (.iload_n 1, 1), (.iaload, 1), (.ireturn, 1)] = true := by decide +kernel
  refine go_aload_n rfl hd (fun hd => ?_)
  refine go_getR co_X8 fl_8_33 (by decide) rfl rfl rfl hd (fun hd => ?_)
  refine go_getR co_X5 fl_8_120 (by decide) rfl rfl rfl hd (fun hd => ?_)
  refine go_iload_n rfl hd (fun hd => ?_)
  refine go_iaload rfl hz1.1 hz1.2 (by decide) hd (fun hd => ?_)
  exact go_ireturn hd rfl ⟨_, rfl, k⟩
theorem b_X_person_50 {L : Nat} {d : Nat} {I : jm_I} {Q : Option jm_V → jm_I → Prop} {x1 : Int} {o2 : Option jm_V}  (hz : (0 ≤ x1 ∧ x1 < 5)) (k : Q (some (.inl (I 46 x1.toNat))) I) : Gx (jx_0 L) d md_X_person 50 [some (.inr (.inl 1)), some (.inl x1), o2] [] I Q := by
  have hz1 := hz
  show jm_Go d 0 0 md_X_person 50 [some (.inr (.inl 1)), some (.inl x1), o2] [] (jx (jx_0 L) I) (jx_Q (jx_0 L) Q)
  have hd : jm_dc md_X_person.2.1 50 [(.aload_n 0, 1), (.getfield 33, 3), (.getfield 123, 3), (.iload_n 1, 1), (.iaload, 1), (.ireturn, 1)] = true := by decide +kernel
  refine go_aload_n rfl hd (fun hd => ?_)
  refine go_getR co_X8 fl_8_33 (by decide) rfl rfl rfl hd (fun hd => ?_)
  refine go_getR co_X5 fl_8_123 (by decide) rfl rfl rfl hd (fun hd => ?_)
  refine go_iload_n rfl hd (fun hd => ?_)
  refine go_iaload rfl hz1.1 hz1.2 (by decide) hd (fun hd => ?_)
  exact go_ireturn hd rfl ⟨_, rfl, k⟩
theorem b_X_person_60 {L : Nat} {d : Nat} {I : jm_I} {Q : Option jm_V → jm_I → Prop} {x1 : Int} {o2 : Option jm_V}  (k : Q (some (.inl (jb_and (jb_shr (I 44 1) x1) 1))) I) : Gx (jx_0 L) d md_X_person 60 [some (.inr (.inl 1)), some (.inl x1), o2] [] I Q := by
  show jm_Go d 0 0 md_X_person 60 [some (.inr (.inl 1)), some (.inl x1), o2] [] (jx (jx_0 L) I) (jx_Q (jx_0 L) Q)
  have hd : jm_dc md_X_person.2.1 60 [(.aload_n 0, 1), (.getfield 33, 3), (.getfield 126, 3), (.iload_n 1, 1), (.ishr, 1), (.iconst 1, 1), (.iand, 1), (.ireturn, 1)] = true := by decide +kernel
  refine go_aload_n rfl hd (fun hd => ?_)
  refine go_getR co_X8 fl_8_33 (by decide) rfl rfl rfl hd (fun hd => ?_)
  refine go_getI co_X5 fl_8_126 (by decide) (Or.inl rfl) rfl hd (fun hd => ?_)
  refine go_iload_n rfl hd (fun hd => ?_)
  refine go_ishr hd (fun hd => ?_)
  refine go_iconst hd (fun hd => ?_)
  refine go_iand hd (fun hd => ?_)
  exact go_ireturn hd rfl ⟨_, rfl, k⟩
theorem b_X_person_72 {L : Nat} {d : Nat} {I : jm_I} {Q : Option jm_V → jm_I → Prop} {x1 : Int} {o2 : Option jm_V}  (hz : (0 ≤ x1 ∧ x1 < 5)) (k : Q (some (.inl (I 47 x1.toNat))) I) : Gx (jx_0 L) d md_X_person 72 [some (.inr (.inl 1)), some (.inl x1), o2] [] I Q := by
  have hz1 := hz
  show jm_Go d 0 0 md_X_person 72 [some (.inr (.inl 1)), some (.inl x1), o2] [] (jx (jx_0 L) I) (jx_Q (jx_0 L) Q)
  have hd : jm_dc md_X_person.2.1 72 [(.aload_n 0, 1), (.getfield 33, 3), (.getfield 129, 3), (.iload_n 1, 1), (.iaload, 1), (.ireturn, 1)] = true := by decide +kernel
  refine go_aload_n rfl hd (fun hd => ?_)
  refine go_getR co_X8 fl_8_33 (by decide) rfl rfl rfl hd (fun hd => ?_)
  refine go_getR co_X5 fl_8_129 (by decide) rfl rfl rfl hd (fun hd => ?_)
  refine go_iload_n rfl hd (fun hd => ?_)
  refine go_iaload rfl hz1.1 hz1.2 (by decide) hd (fun hd => ?_)
  exact go_ireturn hd rfl ⟨_, rfl, k⟩
theorem b_X_person_82 {L : Nat} {d : Nat} {I : jm_I} {Q : Option jm_V → jm_I → Prop} {o0 : Option jm_V} {o1 : Option jm_V} {o2 : Option jm_V}  (k : Q (some (.inl (-1))) I) : Gx (jx_0 L) d md_X_person 82 [o0, o1, o2] [] I Q := by
  show jm_Go d 0 0 md_X_person 82 [o0, o1, o2] [] (jx (jx_0 L) I) (jx_Q (jx_0 L) Q)
  have hd : jm_dc md_X_person.2.1 82 [(.iconst (-1), 1), (.ireturn, 1)] = true := by decide +kernel
  refine go_iconst hd (fun hd => ?_)
  exact go_ireturn hd rfl ⟨_, rfl, k⟩
theorem b_X_isPerson_0 {L : Nat} {d : Nat} {I : jm_I} {Q : Option jm_V → jm_I → Prop} {x1 : Int} {c1 : Nat} (hD1 : I 1 0 = (c1 : Int)) (hc1 : jx_City (jx_0 L) c1) (k : Cx (jx_0 L) d md_X_within [.inl x1, .inl 0, .inl ((I c1 3) - 1)] I (fun v J => Gx (jx_0 L) (d + 1) md_X_isPerson 14 [some (.inr (.inl 1)), some (.inl x1)] (v.toList ++ []) J Q)) : Cx (jx_0 L) (d + 1) md_X_isPerson [.inr (.inl 1), .inl x1] I Q := by
  show jm_Go (d + 1) 0 0 md_X_isPerson 0 [some (.inr (.inl 1)), some (.inl x1)] [] (jx (jx_0 L) I) (jx_Q (jx_0 L) Q)
  have hd : jm_dc md_X_isPerson.2.1 0 [(.iload_n 1, 1), (.iconst 0, 1), (.aload_n 0, 1), (.getfield 12, 3), (.getfield 211, 3), (.iconst 1, 1), (.isub, 1), (.invokestatic 86, 3)] = true := by decide +kernel
  refine go_iload_n rfl hd (fun hd => ?_)
  refine go_iconst hd (fun hd => ?_)
  refine go_aload_n rfl hd (fun hd => ?_)
  refine go_getD co_X8 fl_8_12 (by decide) rfl rfl hD1 (ct_pos hc1) hd (fun hd => ?_)
  refine go_getI co_X0 fl_8_211 (by decide) (Or.inl rfl) (ct_K hc1) hd (fun hd => ?_)
  refine go_iconst hd (fun hd => ?_)
  refine go_isub hd (fun hd => ?_)
  exact gx_static [.inl x1, .inl 0, .inl ((I c1 3) - 1)] [] mk_X_within ml_8_86 st_X_within rfl (Nat.le_of_ble_eq_true rfl) rfl (Nat.le_of_ble_eq_true rfl) rfl hd k
theorem b_X_isPerson_14 {L : Nat} {d : Nat} {I : jm_I} {Q : Option jm_V → jm_I → Prop} {o0 : Option jm_V} {o1 : Option jm_V} {s0 : Int}  (hz : (s0 = 0 ∨ s0 = 1)) (k : Q (some (.inl s0)) I) : Gx (jx_0 L) d md_X_isPerson 14 [o0, o1] [.inl s0] I Q := by
  have hz1 := hz
  show jm_Go d 0 0 md_X_isPerson 14 [o0, o1] [.inl s0] (jx (jx_0 L) I) (jx_Q (jx_0 L) Q)
  have hd : jm_dc md_X_isPerson.2.1 14 [(.ireturn, 1)] = true := by decide +kernel
  exact go_zreturn hd rfl hz1 ⟨_, rfl, k⟩
theorem b_X_thing_0 {L : Nat} {d : Nat} {I : jm_I} {Q : Option jm_V → jm_I → Prop} {x1 : Int} {x2 : Int}  (k : Cx (jx_0 L) d md_X_isThing [.inr (.inl 1), .inl x1] I (fun v J => Gx (jx_0 L) (d + 1) md_X_thing 5 [some (.inr (.inl 1)), some (.inl x1), some (.inl x2)] (v.toList ++ []) J Q)) : Cx (jx_0 L) (d + 1) md_X_thing [.inr (.inl 1), .inl x1, .inl x2] I Q := by
  show jm_Go (d + 1) 0 0 md_X_thing 0 [some (.inr (.inl 1)), some (.inl x1), some (.inl x2)] [] (jx (jx_0 L) I) (jx_Q (jx_0 L) Q)
  have hd : jm_dc md_X_thing.2.1 0 [(.aload_n 0, 1), (.iload_n 1, 1), (.invokevirtual 132, 3)] = true := by decide +kernel
  refine go_aload_n rfl hd (fun hd => ?_)
  refine go_iload_n rfl hd (fun hd => ?_)
  exact gx_virtual 1 8 [.inl x1] [] mk_X_isThing co_X8 rfl ml_8_132 in_X_isThing se_X_isThing rfl rfl (Nat.le_of_ble_eq_true rfl) rfl (Nat.le_of_ble_eq_true rfl) rfl hd k
theorem b_X_thing_5 {L : Nat} {d : Nat} {I : jm_I} {Q : Option jm_V → jm_I → Prop} {o0 : Option jm_V} {o1 : Option jm_V} {o2 : Option jm_V} {s0 : Int}  (hz : (-2147483648 ≤ s0 ∧ s0 < 2147483648)) (kt : ¬ s0 = 0 → Gx (jx_0 L) d md_X_thing 10 [o0, o1, o2] [] I Q) (kf : s0 = 0 → Gx (jx_0 L) d md_X_thing 8 [o0, o1, o2] [] I Q) : Gx (jx_0 L) d md_X_thing 5 [o0, o1, o2] [.inl s0] I Q := by
  have hz1 := hz
  show jm_Go d 0 0 md_X_thing 5 [o0, o1, o2] [.inl s0] (jx (jx_0 L) I) (jx_Q (jx_0 L) Q)
  have hd : jm_dc md_X_thing.2.1 5 [(.ifCond .ne 5, 3)] = true := by decide +kernel
  exact go_if_ne (by decide) hz1 hd kt kf
theorem b_X_thing_8 {L : Nat} {d : Nat} {I : jm_I} {Q : Option jm_V → jm_I → Prop} {o0 : Option jm_V} {o1 : Option jm_V} {o2 : Option jm_V}  (k : Q (some (.inl (-1))) I) : Gx (jx_0 L) d md_X_thing 8 [o0, o1, o2] [] I Q := by
  show jm_Go d 0 0 md_X_thing 8 [o0, o1, o2] [] (jx (jx_0 L) I) (jx_Q (jx_0 L) Q)
  have hd : jm_dc md_X_thing.2.1 8 [(.iconst (-1), 1), (.ireturn, 1)] = true := by decide +kernel
  refine go_iconst hd (fun hd => ?_)
  exact go_ireturn hd rfl ⟨_, rfl, k⟩
theorem b_X_thing_10 {L : Nat} {d : Nat} {I : jm_I} {Q : Option jm_V → jm_I → Prop} {o0 : Option jm_V} {o1 : Option jm_V} {x2 : Int}  (hz : (-2147483648 ≤ x2 ∧ x2 < 2147483648)) (k0 : x2 = 0 → Gx (jx_0 L) d md_X_thing 36 [o0, o1, some (.inl x2)] [] I Q) (k1 : x2 = 1 → Gx (jx_0 L) d md_X_thing 42 [o0, o1, some (.inl x2)] [] I Q) (k2 : x2 = 2 → Gx (jx_0 L) d md_X_thing 70 [o0, o1, some (.inl x2)] [] I Q) (kd : (x2 < 0 ∨ 2 < x2) → Gx (jx_0 L) d md_X_thing 80 [o0, o1, some (.inl x2)] [] I Q) : Gx (jx_0 L) d md_X_thing 10 [o0, o1, some (.inl x2)] [] I Q := by
  have hz1 := hz
  show jm_Go d 0 0 md_X_thing 10 [o0, o1, some (.inl x2)] [] (jx (jx_0 L) I) (jx_Q (jx_0 L) Q)
  have hd : jm_dc md_X_thing.2.1 10 [(.iload_n 2, 1), (.tableswitch 69 0 2 #[25, 31, 59], 25)] = true := by decide +kernel
  refine go_iload_n rfl hd (fun hd => ?_)
  by_cases hq : x2 < 0 ∨ 2 < x2
  · exact go_tableOut (a := x2) hz1 hq (by decide) hd (kd hq)
  · rcases (show x2 = 0 ∨ x2 = 1 ∨ x2 = 2 by omega) with hq0 | hq1 | hq2
    · exact go_tableIn (a := x2) (off := 25) (t := 36) hz1 (by omega) (by omega) (by rw [hq0]; rfl) (by decide) hd (k0 hq0)
    · exact go_tableIn (a := x2) (off := 31) (t := 42) hz1 (by omega) (by omega) (by rw [hq1]; rfl) (by decide) hd (k1 hq1)
    · exact go_tableIn (a := x2) (off := 59) (t := 70) hz1 (by omega) (by omega) (by rw [hq2]; rfl) (by decide) hd (k2 hq2)
theorem b_X_thing_36 {L : Nat} {d : Nat} {I : jm_I} {Q : Option jm_V → jm_I → Prop} {x1 : Int} {o2 : Option jm_V}  (k : Cx (jx_0 L) d md_X_roomOfThing [.inr (.inl 1), .inl x1] I (fun v J => Gx (jx_0 L) (d + 1) md_X_thing 41 [some (.inr (.inl 1)), some (.inl x1), o2] (v.toList ++ []) J Q)) : Gx (jx_0 L) (d + 1) md_X_thing 36 [some (.inr (.inl 1)), some (.inl x1), o2] [] I Q := by
  show jm_Go (d + 1) 0 0 md_X_thing 36 [some (.inr (.inl 1)), some (.inl x1), o2] [] (jx (jx_0 L) I) (jx_Q (jx_0 L) Q)
  have hd : jm_dc md_X_thing.2.1 36 [(.aload_n 0, 1), (.iload_n 1, 1), (.invokevirtual 135, 3)] = true := by decide +kernel
  refine go_aload_n rfl hd (fun hd => ?_)
  refine go_iload_n rfl hd (fun hd => ?_)
  exact gx_virtual 1 8 [.inl x1] [] mk_X_roomOfThing co_X8 rfl ml_8_135 in_X_roomOfThing se_X_roomOfThing rfl rfl (Nat.le_of_ble_eq_true rfl) rfl (Nat.le_of_ble_eq_true rfl) rfl hd k
theorem b_X_thing_41 {L : Nat} {d : Nat} {I : jm_I} {Q : Option jm_V → jm_I → Prop} {o0 : Option jm_V} {o1 : Option jm_V} {o2 : Option jm_V} {s0 : Int}  (k : Q (some (.inl s0)) I) : Gx (jx_0 L) d md_X_thing 41 [o0, o1, o2] [.inl s0] I Q := by
  show jm_Go d 0 0 md_X_thing 41 [o0, o1, o2] [.inl s0] (jx (jx_0 L) I) (jx_Q (jx_0 L) Q)
  have hd : jm_dc md_X_thing.2.1 41 [(.ireturn, 1)] = true := by decide +kernel
  exact go_ireturn hd rfl ⟨_, rfl, k⟩
theorem b_X_thing_42 {L : Nat} {d : Nat} {I : jm_I} {Q : Option jm_V → jm_I → Prop} {x1 : Int} {o2 : Option jm_V}  (hz : (0 ≤ x1 ∧ x1 < 5) ∧ (-2147483648 ≤ I 48 x1.toNat ∧ I 48 x1.toNat < 2147483648)) (kt : 4 ≤ (I 48 x1.toNat) → Gx (jx_0 L) d md_X_thing 67 [some (.inr (.inl 1)), some (.inl x1), o2] [] I Q) (kf : ¬ (4 ≤ (I 48 x1.toNat)) → Gx (jx_0 L) d md_X_thing 55 [some (.inr (.inl 1)), some (.inl x1), o2] [] I Q) : Gx (jx_0 L) d md_X_thing 42 [some (.inr (.inl 1)), some (.inl x1), o2] [] I Q := by
  obtain ⟨hz1, hz2⟩ := hz
  show jm_Go d 0 0 md_X_thing 42 [some (.inr (.inl 1)), some (.inl x1), o2] [] (jx (jx_0 L) I) (jx_Q (jx_0 L) Q)
  have hd : jm_dc md_X_thing.2.1 42 [(.aload_n 0, 1), (.getfield 33, 3), (.getfield 139, 3), (.iload_n 1, 1), (.iaload, 1), (.iconst 4, 1), (.if_icmp .ge 15, 3)] = true := by decide +kernel
  refine go_aload_n rfl hd (fun hd => ?_)
  refine go_getR co_X8 fl_8_33 (by decide) rfl rfl rfl hd (fun hd => ?_)
  refine go_getR co_X5 fl_8_139 (by decide) rfl rfl rfl hd (fun hd => ?_)
  refine go_iload_n rfl hd (fun hd => ?_)
  refine go_iaload rfl hz1.1 hz1.2 (by decide) hd (fun hd => ?_)
  refine go_iconst hd (fun hd => ?_)
  exact go_icmp_ge (by decide) hz2 ⟨by decide, by decide⟩ hd kt kf
theorem b_X_thing_55 {L : Nat} {d : Nat} {I : jm_I} {Q : Option jm_V → jm_I → Prop} {x1 : Int} {o2 : Option jm_V}  (hz : (0 ≤ x1 ∧ x1 < 5)) (k : Gx (jx_0 L) d md_X_thing 69 [some (.inr (.inl 1)), some (.inl x1), o2] [.inl (I 48 x1.toNat)] I Q) : Gx (jx_0 L) d md_X_thing 55 [some (.inr (.inl 1)), some (.inl x1), o2] [] I Q := by
  have hz1 := hz
  show jm_Go d 0 0 md_X_thing 55 [some (.inr (.inl 1)), some (.inl x1), o2] [] (jx (jx_0 L) I) (jx_Q (jx_0 L) Q)
  have hd : jm_dc md_X_thing.2.1 55 [(.aload_n 0, 1), (.getfield 33, 3), (.getfield 139, 3), (.iload_n 1, 1), (.iaload, 1), (.goto 5, 3)] = true := by decide +kernel
  refine go_aload_n rfl hd (fun hd => ?_)
  refine go_getR co_X8 fl_8_33 (by decide) rfl rfl rfl hd (fun hd => ?_)
  refine go_getR co_X5 fl_8_139 (by decide) rfl rfl rfl hd (fun hd => ?_)
  refine go_iload_n rfl hd (fun hd => ?_)
  refine go_iaload rfl hz1.1 hz1.2 (by decide) hd (fun hd => ?_)
  exact go_goto (by decide) hd k
theorem b_X_thing_67 {L : Nat} {d : Nat} {I : jm_I} {Q : Option jm_V → jm_I → Prop} {o0 : Option jm_V} {o1 : Option jm_V} {o2 : Option jm_V}  (k : Gx (jx_0 L) d md_X_thing 69 [o0, o1, o2] [.inl (-9)] I Q) : Gx (jx_0 L) d md_X_thing 67 [o0, o1, o2] [] I Q := by
  show jm_Go d 0 0 md_X_thing 67 [o0, o1, o2] [] (jx (jx_0 L) I) (jx_Q (jx_0 L) Q)
  have hd : jm_dc md_X_thing.2.1 67 [(.bipush (-9), 2)] = true := by decide +kernel
  refine go_bipush (by decide) hd (fun hd => ?_)
  exact k
theorem b_X_thing_69 {L : Nat} {d : Nat} {I : jm_I} {Q : Option jm_V → jm_I → Prop} {o0 : Option jm_V} {o1 : Option jm_V} {o2 : Option jm_V} {s0 : Int}  (k : Q (some (.inl s0)) I) : Gx (jx_0 L) d md_X_thing 69 [o0, o1, o2] [.inl s0] I Q := by
  show jm_Go d 0 0 md_X_thing 69 [o0, o1, o2] [.inl s0] (jx (jx_0 L) I) (jx_Q (jx_0 L) Q)
  have hd : jm_dc md_X_thing.2.1 69 [(.ireturn, 1)] = true := by decide +kernel
  exact go_ireturn hd rfl ⟨_, rfl, k⟩
theorem b_X_thing_70 {L : Nat} {d : Nat} {I : jm_I} {Q : Option jm_V → jm_I → Prop} {x1 : Int} {o2 : Option jm_V} {c1 : Nat} (hD1 : I 1 0 = (c1 : Int)) (hc1 : jx_City (jx_0 L) c1) (hz : (0 ≤ x1 ∧ x1 < 5)) (k : Q (some (.inl (I (c1 + 6) x1.toNat))) I) : Gx (jx_0 L) d md_X_thing 70 [some (.inr (.inl 1)), some (.inl x1), o2] [] I Q := by
  have hz1 := hz
  show jm_Go d 0 0 md_X_thing 70 [some (.inr (.inl 1)), some (.inl x1), o2] [] (jx (jx_0 L) I) (jx_Q (jx_0 L) Q)
  have hd : jm_dc md_X_thing.2.1 70 [(.aload_n 0, 1), (.getfield 12, 3), (.getfield 142, 3), (.iload_n 1, 1), (.iaload, 1), (.ireturn, 1)] = true := by decide +kernel
  refine go_aload_n rfl hd (fun hd => ?_)
  refine go_getD co_X8 fl_8_12 (by decide) rfl rfl hD1 (ct_pos hc1) hd (fun hd => ?_)
  refine go_getR co_X0 fl_8_142 (by decide) rfl (ct_K hc1) (ct_R10 hc1) hd (fun hd => ?_)
  refine go_iload_n rfl hd (fun hd => ?_)
  refine go_iaload (ct_S6 hc1) hz1.1 hz1.2 (by decide) hd (fun hd => ?_)
  exact go_ireturn hd rfl ⟨_, rfl, k⟩
theorem b_X_thing_80 {L : Nat} {d : Nat} {I : jm_I} {Q : Option jm_V → jm_I → Prop} {o0 : Option jm_V} {o1 : Option jm_V} {o2 : Option jm_V}  (k : Q (some (.inl (-1))) I) : Gx (jx_0 L) d md_X_thing 80 [o0, o1, o2] [] I Q := by
  show jm_Go d 0 0 md_X_thing 80 [o0, o1, o2] [] (jx (jx_0 L) I) (jx_Q (jx_0 L) Q)
  have hd : jm_dc md_X_thing.2.1 80 [(.iconst (-1), 1), (.ireturn, 1)] = true := by decide +kernel
  refine go_iconst hd (fun hd => ?_)
  exact go_ireturn hd rfl ⟨_, rfl, k⟩
theorem b_X_isThing_0 {L : Nat} {d : Nat} {I : jm_I} {Q : Option jm_V → jm_I → Prop} {x1 : Int} {c1 : Nat} (hD1 : I 1 0 = (c1 : Int)) (hc1 : jx_City (jx_0 L) c1) (k : Cx (jx_0 L) d md_X_within [.inl x1, .inl 0, .inl ((I c1 4) - 1)] I (fun v J => Gx (jx_0 L) (d + 1) md_X_isThing 14 [some (.inr (.inl 1)), some (.inl x1)] (v.toList ++ []) J Q)) : Cx (jx_0 L) (d + 1) md_X_isThing [.inr (.inl 1), .inl x1] I Q := by
  show jm_Go (d + 1) 0 0 md_X_isThing 0 [some (.inr (.inl 1)), some (.inl x1)] [] (jx (jx_0 L) I) (jx_Q (jx_0 L) Q)
  have hd : jm_dc md_X_isThing.2.1 0 [(.iload_n 1, 1), (.iconst 0, 1), (.aload_n 0, 1), (.getfield 12, 3), (.getfield 243, 3), (.iconst 1, 1), (.isub, 1), (.invokestatic 86, 3)] = true := by decide +kernel
  refine go_iload_n rfl hd (fun hd => ?_)
  refine go_iconst hd (fun hd => ?_)
  refine go_aload_n rfl hd (fun hd => ?_)
  refine go_getD co_X8 fl_8_12 (by decide) rfl rfl hD1 (ct_pos hc1) hd (fun hd => ?_)
  refine go_getI co_X0 fl_8_243 (by decide) (Or.inl rfl) (ct_K hc1) hd (fun hd => ?_)
  refine go_iconst hd (fun hd => ?_)
  refine go_isub hd (fun hd => ?_)
  exact gx_static [.inl x1, .inl 0, .inl ((I c1 4) - 1)] [] mk_X_within ml_8_86 st_X_within rfl (Nat.le_of_ble_eq_true rfl) rfl (Nat.le_of_ble_eq_true rfl) rfl hd k
theorem b_X_isThing_14 {L : Nat} {d : Nat} {I : jm_I} {Q : Option jm_V → jm_I → Prop} {o0 : Option jm_V} {o1 : Option jm_V} {s0 : Int}  (hz : (s0 = 0 ∨ s0 = 1)) (k : Q (some (.inl s0)) I) : Gx (jx_0 L) d md_X_isThing 14 [o0, o1] [.inl s0] I Q := by
  have hz1 := hz
  show jm_Go d 0 0 md_X_isThing 14 [o0, o1] [.inl s0] (jx (jx_0 L) I) (jx_Q (jx_0 L) Q)
  have hd : jm_dc md_X_isThing.2.1 14 [(.ireturn, 1)] = true := by decide +kernel
  exact go_zreturn hd rfl hz1 ⟨_, rfl, k⟩
theorem b_X_roomOfThing_0 {L : Nat} {d : Nat} {I : jm_I} {Q : Option jm_V → jm_I → Prop} {x1 : Int} {c1 : Nat} (hD1 : I 1 0 = (c1 : Int)) (hc1 : jx_City (jx_0 L) c1) (hz : (0 ≤ x1 ∧ x1 < 5)) (k : Cx (jx_0 L) d md_City_roomOfSpot [.inr (.inl c1), .inl x1, .inl (I 48 x1.toNat)] I (fun v J => Gx (jx_0 L) (d + 1) md_X_roomOfThing 17 [some (.inr (.inl 1)), some (.inl x1)] (v.toList ++ []) J Q)) : Cx (jx_0 L) (d + 1) md_X_roomOfThing [.inr (.inl 1), .inl x1] I Q := by
  have hz1 := hz
  show jm_Go (d + 1) 0 0 md_X_roomOfThing 0 [some (.inr (.inl 1)), some (.inl x1)] [] (jx (jx_0 L) I) (jx_Q (jx_0 L) Q)
  have hd : jm_dc md_X_roomOfThing.2.1 0 [(.aload_n 0, 1), (.getfield 12, 3), (.iload_n 1, 1), (.aload_n 0, 1), (.getfield 33, 3), (.getfield 139, 3), (.iload_n 1, 1), (.iaload, 1), (.invokevirtual 277, 3)] = true := by decide +kernel
  refine go_aload_n rfl hd (fun hd => ?_)
  refine go_getD co_X8 fl_8_12 (by decide) rfl rfl hD1 (ct_pos hc1) hd (fun hd => ?_)
  refine go_iload_n rfl hd (fun hd => ?_)
  refine go_aload_n rfl hd (fun hd => ?_)
  refine go_getR co_X8 fl_8_33 (by decide) rfl rfl rfl hd (fun hd => ?_)
  refine go_getR co_X5 fl_8_139 (by decide) rfl rfl rfl hd (fun hd => ?_)
  refine go_iload_n rfl hd (fun hd => ?_)
  refine go_iaload rfl hz1.1 hz1.2 (by decide) hd (fun hd => ?_)
  exact gx_virtual c1 0 [.inl x1, .inl (I 48 x1.toNat)] [] mk_City_roomOfSpot co_X0 rfl ml_8_277 in_City_roomOfSpot se_City_roomOfSpot (ct_K hc1) rfl (Nat.le_of_ble_eq_true rfl) rfl (Nat.le_of_ble_eq_true rfl) rfl hd k
theorem b_X_roomOfThing_17 {L : Nat} {d : Nat} {I : jm_I} {Q : Option jm_V → jm_I → Prop} {o0 : Option jm_V} {o1 : Option jm_V} {s0 : Int}  (k : Q (some (.inl s0)) I) : Gx (jx_0 L) d md_X_roomOfThing 17 [o0, o1] [.inl s0] I Q := by
  show jm_Go d 0 0 md_X_roomOfThing 17 [o0, o1] [.inl s0] (jx (jx_0 L) I) (jx_Q (jx_0 L) Q)
  have hd : jm_dc md_X_roomOfThing.2.1 17 [(.ireturn, 1)] = true := by decide +kernel
  exact go_ireturn hd rfl ⟨_, rfl, k⟩
theorem b_X_now_0 {L : Nat} {d : Nat} {I : jm_I} {Q : Option jm_V → jm_I → Prop} {x1 : Int}  (hz : (-2147483648 ≤ x1 ∧ x1 < 2147483648)) (k0 : x1 = 0 → Gx (jx_0 L) d md_X_now 36 [some (.inr (.inl 1)), some (.inl x1)] [] I Q) (k1 : x1 = 1 → Gx (jx_0 L) d md_X_now 44 [some (.inr (.inl 1)), some (.inl x1)] [] I Q) (k2 : x1 = 2 → Gx (jx_0 L) d md_X_now 55 [some (.inr (.inl 1)), some (.inl x1)] [] I Q) (k3 : x1 = 3 → Gx (jx_0 L) d md_X_now 60 [some (.inr (.inl 1)), some (.inl x1)] [] I Q) (k4 : x1 = 4 → Gx (jx_0 L) d md_X_now 68 [some (.inr (.inl 1)), some (.inl x1)] [] I Q) (kd : (x1 < 0 ∨ 4 < x1) → Gx (jx_0 L) d md_X_now 76 [some (.inr (.inl 1)), some (.inl x1)] [] I Q) : Cx (jx_0 L) d md_X_now [.inr (.inl 1), .inl x1] I Q := by
  have hz1 := hz
  show jm_Go d 0 0 md_X_now 0 [some (.inr (.inl 1)), some (.inl x1)] [] (jx (jx_0 L) I) (jx_Q (jx_0 L) Q)
  have hd : jm_dc md_X_now.2.1 0 [(.iload_n 1, 1), (.tableswitch 75 0 4 #[35, 43, 54, 59, 67], 35)] = true := by decide +kernel
  refine go_iload_n rfl hd (fun hd => ?_)
  by_cases hq : x1 < 0 ∨ 4 < x1
  · exact go_tableOut (a := x1) hz1 hq (by decide) hd (kd hq)
  · rcases (show x1 = 0 ∨ x1 = 1 ∨ x1 = 2 ∨ x1 = 3 ∨ x1 = 4 by omega) with hq0 | hq1 | hq2 | hq3 | hq4
    · exact go_tableIn (a := x1) (off := 35) (t := 36) hz1 (by omega) (by omega) (by rw [hq0]; rfl) (by decide) hd (k0 hq0)
    · exact go_tableIn (a := x1) (off := 43) (t := 44) hz1 (by omega) (by omega) (by rw [hq1]; rfl) (by decide) hd (k1 hq1)
    · exact go_tableIn (a := x1) (off := 54) (t := 55) hz1 (by omega) (by omega) (by rw [hq2]; rfl) (by decide) hd (k2 hq2)
    · exact go_tableIn (a := x1) (off := 59) (t := 60) hz1 (by omega) (by omega) (by rw [hq3]; rfl) (by decide) hd (k3 hq3)
    · exact go_tableIn (a := x1) (off := 67) (t := 68) hz1 (by omega) (by omega) (by rw [hq4]; rfl) (by decide) hd (k4 hq4)
theorem b_X_now_36 {L : Nat} {d : Nat} {I : jm_I} {Q : Option jm_V → jm_I → Prop} {o1 : Option jm_V}  (k : Q (some (.inl (I 44 0))) I) : Gx (jx_0 L) d md_X_now 36 [some (.inr (.inl 1)), o1] [] I Q := by
  show jm_Go d 0 0 md_X_now 36 [some (.inr (.inl 1)), o1] [] (jx (jx_0 L) I) (jx_Q (jx_0 L) Q)
  have hd : jm_dc md_X_now.2.1 36 [(.aload_n 0, 1), (.getfield 33, 3), (.getfield 145, 3), (.ireturn, 1)] = true := by decide +kernel
  refine go_aload_n rfl hd (fun hd => ?_)
  refine go_getR co_X8 fl_8_33 (by decide) rfl rfl rfl hd (fun hd => ?_)
  refine go_getI co_X5 fl_8_145 (by decide) (Or.inl rfl) rfl hd (fun hd => ?_)
  exact go_ireturn hd rfl ⟨_, rfl, k⟩
theorem b_X_now_44 {L : Nat} {d : Nat} {I : jm_I} {Q : Option jm_V → jm_I → Prop} {o1 : Option jm_V}  (hz : (0 ≤ I 44 0 ∧ I 44 0 < 2147483648)) (k : Q (some (.inl ((I 44 0) / 20))) I) : Gx (jx_0 L) d md_X_now 44 [some (.inr (.inl 1)), o1] [] I Q := by
  have hz1 := hz
  show jm_Go d 0 0 md_X_now 44 [some (.inr (.inl 1)), o1] [] (jx (jx_0 L) I) (jx_Q (jx_0 L) Q)
  have hd : jm_dc md_X_now.2.1 44 [(.aload_n 0, 1), (.getfield 33, 3), (.getfield 145, 3), (.bipush 20, 2), (.idiv, 1), (.ireturn, 1)] = true := by decide +kernel
  refine go_aload_n rfl hd (fun hd => ?_)
  refine go_getR co_X8 fl_8_33 (by decide) rfl rfl rfl hd (fun hd => ?_)
  refine go_getI co_X5 fl_8_145 (by decide) (Or.inl rfl) rfl hd (fun hd => ?_)
  refine go_bipush (by decide) hd (fun hd => ?_)
  refine go_idiv hz1 (by decide) hd (fun hd => ?_)
  exact go_ireturn hd rfl ⟨_, rfl, k⟩
theorem b_X_now_55 {L : Nat} {d : Nat} {I : jm_I} {Q : Option jm_V → jm_I → Prop} {o1 : Option jm_V}  (k : Cx (jx_0 L) d md_X_upPeople [.inr (.inl 1)] I (fun v J => Gx (jx_0 L) (d + 1) md_X_now 59 [some (.inr (.inl 1)), o1] (v.toList ++ []) J Q)) : Gx (jx_0 L) (d + 1) md_X_now 55 [some (.inr (.inl 1)), o1] [] I Q := by
  show jm_Go (d + 1) 0 0 md_X_now 55 [some (.inr (.inl 1)), o1] [] (jx (jx_0 L) I) (jx_Q (jx_0 L) Q)
  have hd : jm_dc md_X_now.2.1 55 [(.aload_n 0, 1), (.invokevirtual 148, 3)] = true := by decide +kernel
  refine go_aload_n rfl hd (fun hd => ?_)
  exact gx_virtual 1 8 [] [] mk_X_upPeople co_X8 rfl ml_8_148 in_X_upPeople se_X_upPeople rfl rfl (Nat.le_of_ble_eq_true rfl) rfl (Nat.le_of_ble_eq_true rfl) rfl hd k
theorem b_X_now_59 {L : Nat} {d : Nat} {I : jm_I} {Q : Option jm_V → jm_I → Prop} {o0 : Option jm_V} {o1 : Option jm_V} {s0 : Int}  (k : Q (some (.inl s0)) I) : Gx (jx_0 L) d md_X_now 59 [o0, o1] [.inl s0] I Q := by
  show jm_Go d 0 0 md_X_now 59 [o0, o1] [.inl s0] (jx (jx_0 L) I) (jx_Q (jx_0 L) Q)
  have hd : jm_dc md_X_now.2.1 59 [(.ireturn, 1)] = true := by decide +kernel
  exact go_ireturn hd rfl ⟨_, rfl, k⟩
theorem b_X_now_60 {L : Nat} {d : Nat} {I : jm_I} {Q : Option jm_V → jm_I → Prop} {o1 : Option jm_V}  (k : Q (some (.inl (I 44 1))) I) : Gx (jx_0 L) d md_X_now 60 [some (.inr (.inl 1)), o1] [] I Q := by
  show jm_Go d 0 0 md_X_now 60 [some (.inr (.inl 1)), o1] [] (jx (jx_0 L) I) (jx_Q (jx_0 L) Q)
  have hd : jm_dc md_X_now.2.1 60 [(.aload_n 0, 1), (.getfield 33, 3), (.getfield 126, 3), (.ireturn, 1)] = true := by decide +kernel
  refine go_aload_n rfl hd (fun hd => ?_)
  refine go_getR co_X8 fl_8_33 (by decide) rfl rfl rfl hd (fun hd => ?_)
  refine go_getI co_X5 fl_8_126 (by decide) (Or.inl rfl) rfl hd (fun hd => ?_)
  exact go_ireturn hd rfl ⟨_, rfl, k⟩
theorem b_X_now_68 {L : Nat} {d : Nat} {I : jm_I} {Q : Option jm_V → jm_I → Prop} {o1 : Option jm_V}  (k : Q (some (.inl (I 49 2))) I) : Gx (jx_0 L) d md_X_now 68 [some (.inr (.inl 1)), o1] [] I Q := by
  show jm_Go d 0 0 md_X_now 68 [some (.inr (.inl 1)), o1] [] (jx (jx_0 L) I) (jx_Q (jx_0 L) Q)
  have hd : jm_dc md_X_now.2.1 68 [(.aload_n 0, 1), (.getfield 40, 3), (.getfield 101, 3), (.ireturn, 1)] = true := by decide +kernel
  refine go_aload_n rfl hd (fun hd => ?_)
  refine go_getR co_X8 fl_8_40 (by decide) rfl rfl rfl hd (fun hd => ?_)
  refine go_getI co_X4 fl_8_101 (by decide) (Or.inl rfl) rfl hd (fun hd => ?_)
  exact go_ireturn hd rfl ⟨_, rfl, k⟩
theorem b_X_now_76 {L : Nat} {d : Nat} {I : jm_I} {Q : Option jm_V → jm_I → Prop} {o0 : Option jm_V} {o1 : Option jm_V}  (k : Q (some (.inl (-1))) I) : Gx (jx_0 L) d md_X_now 76 [o0, o1] [] I Q := by
  show jm_Go d 0 0 md_X_now 76 [o0, o1] [] (jx (jx_0 L) I) (jx_Q (jx_0 L) Q)
  have hd : jm_dc md_X_now.2.1 76 [(.iconst (-1), 1), (.ireturn, 1)] = true := by decide +kernel
  refine go_iconst hd (fun hd => ?_)
  exact go_ireturn hd rfl ⟨_, rfl, k⟩
theorem b_X_upPeople_0 {L : Nat} {d : Nat} {I : jm_I} {Q : Option jm_V → jm_I → Prop}   (k : Gx (jx_0 L) d md_X_upPeople 4 [some (.inr (.inl 1)), some (.inl 0), some (.inl 0)] [] I Q) : Cx (jx_0 L) d md_X_upPeople [.inr (.inl 1)] I Q := by
  show jm_Go d 0 0 md_X_upPeople 0 [some (.inr (.inl 1)), none, none] [] (jx (jx_0 L) I) (jx_Q (jx_0 L) Q)
  have hd : jm_dc md_X_upPeople.2.1 0 [(.iconst 0, 1), (.istore_n 1, 1), (.iconst 0, 1), (.istore_n 2, 1)] = true := by decide +kernel
  refine go_iconst hd (fun hd => ?_)
  refine go_istore_n (by decide) hd (fun hd => ?_)
  refine go_iconst hd (fun hd => ?_)
  refine go_istore_n (by decide) hd (fun hd => ?_)
  exact k
theorem b_X_upPeople_4 {L : Nat} {d : Nat} {I : jm_I} {Q : Option jm_V → jm_I → Prop} {o1 : Option jm_V} {x2 : Int} {c1 : Nat} (hD1 : I 1 0 = (c1 : Int)) (hc1 : jx_City (jx_0 L) c1) (hz : (-2147483648 ≤ x2 ∧ x2 < 2147483648) ∧ (-2147483648 ≤ I c1 3 ∧ I c1 3 < 2147483648)) (kt : (I c1 3) ≤ x2 → Gx (jx_0 L) d md_X_upPeople 35 [some (.inr (.inl 1)), o1, some (.inl x2)] [] I Q) (kf : ¬ ((I c1 3) ≤ x2) → Gx (jx_0 L) d md_X_upPeople 15 [some (.inr (.inl 1)), o1, some (.inl x2)] [] I Q) : Gx (jx_0 L) d md_X_upPeople 4 [some (.inr (.inl 1)), o1, some (.inl x2)] [] I Q := by
  obtain ⟨hz1, hz2⟩ := hz
  show jm_Go d 0 0 md_X_upPeople 4 [some (.inr (.inl 1)), o1, some (.inl x2)] [] (jx (jx_0 L) I) (jx_Q (jx_0 L) Q)
  have hd : jm_dc md_X_upPeople.2.1 4 [(.iload_n 2, 1), (.aload_n 0, 1), (.getfield 12, 3), (.getfield 211, 3), (.if_icmp .ge 23, 3)] = true := by decide +kernel
  refine go_iload_n rfl hd (fun hd => ?_)
  refine go_aload_n rfl hd (fun hd => ?_)
  refine go_getD co_X8 fl_8_12 (by decide) rfl rfl hD1 (ct_pos hc1) hd (fun hd => ?_)
  refine go_getI co_X0 fl_8_211 (by decide) (Or.inl rfl) (ct_K hc1) hd (fun hd => ?_)
  exact go_icmp_ge (by decide) hz1 hz2 hd kt kf
theorem b_X_upPeople_15 {L : Nat} {d : Nat} {I : jm_I} {Q : Option jm_V → jm_I → Prop} {o1 : Option jm_V} {x2 : Int}  (k : Cx (jx_0 L) d md_X_isUp [.inr (.inl 1), .inl x2] I (fun v J => Gx (jx_0 L) (d + 1) md_X_upPeople 20 [some (.inr (.inl 1)), o1, some (.inl x2)] (v.toList ++ []) J Q)) : Gx (jx_0 L) (d + 1) md_X_upPeople 15 [some (.inr (.inl 1)), o1, some (.inl x2)] [] I Q := by
  show jm_Go (d + 1) 0 0 md_X_upPeople 15 [some (.inr (.inl 1)), o1, some (.inl x2)] [] (jx (jx_0 L) I) (jx_Q (jx_0 L) Q)
  have hd : jm_dc md_X_upPeople.2.1 15 [(.aload_n 0, 1), (.iload_n 2, 1), (.invokevirtual 170, 3)] = true := by decide +kernel
  refine go_aload_n rfl hd (fun hd => ?_)
  refine go_iload_n rfl hd (fun hd => ?_)
  exact gx_virtual 1 8 [.inl x2] [] mk_X_isUp co_X8 rfl ml_8_170 in_X_isUp se_X_isUp rfl rfl (Nat.le_of_ble_eq_true rfl) rfl (Nat.le_of_ble_eq_true rfl) rfl hd k
theorem b_X_upPeople_20 {L : Nat} {d : Nat} {I : jm_I} {Q : Option jm_V → jm_I → Prop} {o0 : Option jm_V} {o1 : Option jm_V} {o2 : Option jm_V} {s0 : Int}  (hz : (-2147483648 ≤ s0 ∧ s0 < 2147483648)) (kt : s0 = 0 → Gx (jx_0 L) d md_X_upPeople 29 [o0, o1, o2] [] I Q) (kf : ¬ s0 = 0 → Gx (jx_0 L) d md_X_upPeople 23 [o0, o1, o2] [] I Q) : Gx (jx_0 L) d md_X_upPeople 20 [o0, o1, o2] [.inl s0] I Q := by
  have hz1 := hz
  show jm_Go d 0 0 md_X_upPeople 20 [o0, o1, o2] [.inl s0] (jx (jx_0 L) I) (jx_Q (jx_0 L) Q)
  have hd : jm_dc md_X_upPeople.2.1 20 [(.ifCond .eq 9, 3)] = true := by decide +kernel
  exact go_if_eq (by decide) hz1 hd kt kf
theorem b_X_upPeople_23 {L : Nat} {d : Nat} {I : jm_I} {Q : Option jm_V → jm_I → Prop} {o0 : Option jm_V} {x1 : Int} {x2 : Int}  (k : Gx (jx_0 L) d md_X_upPeople 29 [o0, some (.inl (jb_or x1 (jb_shl 1 x2))), some (.inl x2)] [] I Q) : Gx (jx_0 L) d md_X_upPeople 23 [o0, some (.inl x1), some (.inl x2)] [] I Q := by
  show jm_Go d 0 0 md_X_upPeople 23 [o0, some (.inl x1), some (.inl x2)] [] (jx (jx_0 L) I) (jx_Q (jx_0 L) Q)
  have hd : jm_dc md_X_upPeople.2.1 23 [(.iload_n 1, 1), (.iconst 1, 1), (.iload_n 2, 1), (.ishl, 1), (.ior, 1), (.istore_n 1, 1)] = true := by decide +kernel
  refine go_iload_n rfl hd (fun hd => ?_)
  refine go_iconst hd (fun hd => ?_)
  refine go_iload_n rfl hd (fun hd => ?_)
  refine go_ishl hd (fun hd => ?_)
  refine go_ior hd (fun hd => ?_)
  refine go_istore_n (by decide) hd (fun hd => ?_)
  exact k
theorem b_X_upPeople_29 {L : Nat} {d : Nat} {I : jm_I} {Q : Option jm_V → jm_I → Prop} {o0 : Option jm_V} {o1 : Option jm_V} {x2 : Int}  (k : Gx (jx_0 L) d md_X_upPeople 4 [o0, o1, some (.inl (x2 + 1))] [] I Q) : Gx (jx_0 L) d md_X_upPeople 29 [o0, o1, some (.inl x2)] [] I Q := by
  show jm_Go d 0 0 md_X_upPeople 29 [o0, o1, some (.inl x2)] [] (jx (jx_0 L) I) (jx_Q (jx_0 L) Q)
  have hd : jm_dc md_X_upPeople.2.1 29 [(.iinc 2 1, 3), (.goto (-28), 3)] = true := by decide +kernel
  refine go_iinc rfl hd (fun hd => ?_)
  exact go_goto (by decide) hd k
theorem b_X_upPeople_35 {L : Nat} {d : Nat} {I : jm_I} {Q : Option jm_V → jm_I → Prop} {o0 : Option jm_V} {x1 : Int} {o2 : Option jm_V}  (k : Q (some (.inl x1)) I) : Gx (jx_0 L) d md_X_upPeople 35 [o0, some (.inl x1), o2] [] I Q := by
  show jm_Go d 0 0 md_X_upPeople 35 [o0, some (.inl x1), o2] [] (jx (jx_0 L) I) (jx_Q (jx_0 L) Q)
  have hd : jm_dc md_X_upPeople.2.1 35 [(.iload_n 1, 1), (.ireturn, 1)] = true := by decide +kernel
  refine go_iload_n rfl hd (fun hd => ?_)
  exact go_ireturn hd rfl ⟨_, rfl, k⟩
theorem b_X_isUp_0 {L : Nat} {d : Nat} {I : jm_I} {Q : Option jm_V → jm_I → Prop} {x1 : Int}  (hz : (0 ≤ x1 ∧ x1 < 5) ∧ (-2147483648 ≤ I 47 x1.toNat ∧ I 47 x1.toNat < 2147483648)) (kt : (I 47 x1.toNat) = (-9) → Gx (jx_0 L) d md_X_isUp 18 [some (.inr (.inl 1)), some (.inl x1)] [] I Q) (kf : ¬ (I 47 x1.toNat) = (-9) → Gx (jx_0 L) d md_X_isUp 14 [some (.inr (.inl 1)), some (.inl x1)] [] I Q) : Cx (jx_0 L) d md_X_isUp [.inr (.inl 1), .inl x1] I Q := by
  obtain ⟨hz1, hz2⟩ := hz
  show jm_Go d 0 0 md_X_isUp 0 [some (.inr (.inl 1)), some (.inl x1)] [] (jx (jx_0 L) I) (jx_Q (jx_0 L) Q)
  have hd : jm_dc md_X_isUp.2.1 0 [(.aload_n 0, 1), (.getfield 33, 3), (.getfield 129, 3), (.iload_n 1, 1), (.iaload, 1), (.bipush (-9), 2), (.if_icmp .eq 7, 3)] = true := by decide +kernel
  refine go_aload_n rfl hd (fun hd => ?_)
  refine go_getR co_X8 fl_8_33 (by decide) rfl rfl rfl hd (fun hd => ?_)
  refine go_getR co_X5 fl_8_129 (by decide) rfl rfl rfl hd (fun hd => ?_)
  refine go_iload_n rfl hd (fun hd => ?_)
  refine go_iaload rfl hz1.1 hz1.2 (by decide) hd (fun hd => ?_)
  refine go_bipush (by decide) hd (fun hd => ?_)
  exact go_icmp_eq (by decide) hz2 ⟨by decide, by decide⟩ hd kt kf
theorem b_X_isUp_14 {L : Nat} {d : Nat} {I : jm_I} {Q : Option jm_V → jm_I → Prop} {o0 : Option jm_V} {o1 : Option jm_V}  (k : Gx (jx_0 L) d md_X_isUp 19 [o0, o1] [.inl 1] I Q) : Gx (jx_0 L) d md_X_isUp 14 [o0, o1] [] I Q := by
  show jm_Go d 0 0 md_X_isUp 14 [o0, o1] [] (jx (jx_0 L) I) (jx_Q (jx_0 L) Q)
  have hd : jm_dc md_X_isUp.2.1 14 [(.iconst 1, 1), (.goto 4, 3)] = true := by decide +kernel
  refine go_iconst hd (fun hd => ?_)
  exact go_goto (by decide) hd k
theorem b_X_isUp_18 {L : Nat} {d : Nat} {I : jm_I} {Q : Option jm_V → jm_I → Prop} {o0 : Option jm_V} {o1 : Option jm_V}  (k : Gx (jx_0 L) d md_X_isUp 19 [o0, o1] [.inl 0] I Q) : Gx (jx_0 L) d md_X_isUp 18 [o0, o1] [] I Q := by
  show jm_Go d 0 0 md_X_isUp 18 [o0, o1] [] (jx (jx_0 L) I) (jx_Q (jx_0 L) Q)
  have hd : jm_dc md_X_isUp.2.1 18 [(.iconst 0, 1)] = true := by decide +kernel
  refine go_iconst hd (fun hd => ?_)
  exact k
theorem b_X_isUp_19 {L : Nat} {d : Nat} {I : jm_I} {Q : Option jm_V → jm_I → Prop} {o0 : Option jm_V} {o1 : Option jm_V} {s0 : Int}  (hz : (s0 = 0 ∨ s0 = 1)) (k : Q (some (.inl s0)) I) : Gx (jx_0 L) d md_X_isUp 19 [o0, o1] [.inl s0] I Q := by
  have hz1 := hz
  show jm_Go d 0 0 md_X_isUp 19 [o0, o1] [.inl s0] (jx (jx_0 L) I) (jx_Q (jx_0 L) Q)
  have hd : jm_dc md_X_isUp.2.1 19 [(.ireturn, 1)] = true := by decide +kernel
  exact go_zreturn hd rfl hz1 ⟨_, rfl, k⟩
theorem b_X_second_0 {L : Nat} {d : Nat} {I : jm_I} {Q : Option jm_V → jm_I → Prop}   (hz : (-2147483648 ≤ I 44 0 ∧ I 44 0 < 2147483648)) (kt : (I 44 0) < 9999 → Gx (jx_0 L) d md_X_second 16 [some (.inr (.inl 1))] [] I Q) (kf : ¬ ((I 44 0) < 9999) → Gx (jx_0 L) d md_X_second 13 [some (.inr (.inl 1))] [] I Q) : Cx (jx_0 L) d md_X_second [.inr (.inl 1)] I Q := by
  have hz1 := hz
  show jm_Go d 0 0 md_X_second 0 [some (.inr (.inl 1))] [] (jx (jx_0 L) I) (jx_Q (jx_0 L) Q)
  have hd : jm_dc md_X_second.2.1 0 [(.aload_n 0, 1), (.getfield 33, 3), (.getfield 145, 3), (.sipush 9999, 3), (.if_icmp .lt 6, 3)] = true := by decide +kernel
  refine go_aload_n rfl hd (fun hd => ?_)
  refine go_getR co_X8 fl_8_33 (by decide) rfl rfl rfl hd (fun hd => ?_)
  refine go_getI co_X5 fl_8_145 (by decide) (Or.inl rfl) rfl hd (fun hd => ?_)
  refine go_sipush (by decide) hd (fun hd => ?_)
  exact go_icmp_lt (by decide) hz1 ⟨by decide, by decide⟩ hd kt kf
theorem b_X_second_13 {L : Nat} {d : Nat} {I : jm_I} {Q : Option jm_V → jm_I → Prop} {o0 : Option jm_V}  (k : Q (some (.inl (-2))) I) : Gx (jx_0 L) d md_X_second 13 [o0] [] I Q := by
  show jm_Go d 0 0 md_X_second 13 [o0] [] (jx (jx_0 L) I) (jx_Q (jx_0 L) Q)
  have hd : jm_dc md_X_second.2.1 13 [(.bipush (-2), 2), (.ireturn, 1)] = true := by decide +kernel
  refine go_bipush (by decide) hd (fun hd => ?_)
  exact go_ireturn hd rfl ⟨_, rfl, k⟩
theorem b_X_second_16 {L : Nat} {d : Nat} {I : jm_I} {Q : Option jm_V → jm_I → Prop}   (k : Cx (jx_0 L) d md_History_remember [.inr (.inl 49), .inr (.inl 44)] I (fun v J => Gx (jx_0 L) (d + 1) md_X_second 27 [some (.inr (.inl 1))] (v.toList ++ []) J Q)) : Gx (jx_0 L) (d + 1) md_X_second 16 [some (.inr (.inl 1))] [] I Q := by
  show jm_Go (d + 1) 0 0 md_X_second 16 [some (.inr (.inl 1))] [] (jx (jx_0 L) I) (jx_Q (jx_0 L) Q)
  have hd : jm_dc md_X_second.2.1 16 [(.aload_n 0, 1), (.getfield 40, 3), (.aload_n 0, 1), (.getfield 33, 3), (.invokevirtual 152, 3)] = true := by decide +kernel
  refine go_aload_n rfl hd (fun hd => ?_)
  refine go_getR co_X8 fl_8_40 (by decide) rfl rfl rfl hd (fun hd => ?_)
  refine go_aload_n rfl hd (fun hd => ?_)
  refine go_getR co_X8 fl_8_33 (by decide) rfl rfl rfl hd (fun hd => ?_)
  exact gx_virtual 49 4 [.inr (.inl 44)] [] mk_History_remember co_X4 rfl ml_8_152 in_History_remember se_History_remember rfl rfl (Nat.le_of_ble_eq_true rfl) rfl (Nat.le_of_ble_eq_true rfl) rfl hd k
theorem b_X_second_27 {L : Nat} {d : Nat} {I : jm_I} {Q : Option jm_V → jm_I → Prop} {c1 : Nat} (hD1 : I 1 0 = (c1 : Int)) (hc1 : jx_City (jx_0 L) c1) (k : Cx (jx_0 L) d md_Moment_goBy [.inr (.inl 44), .inr (.inl c1)] I (fun v J => Gx (jx_0 L) (d + 1) md_X_second 38 [some (.inr (.inl 1))] (v.toList ++ []) J Q)) : Gx (jx_0 L) (d + 1) md_X_second 27 [some (.inr (.inl 1))] [] I Q := by
  show jm_Go (d + 1) 0 0 md_X_second 27 [some (.inr (.inl 1))] [] (jx (jx_0 L) I) (jx_Q (jx_0 L) Q)
  have hd : jm_dc md_X_second.2.1 27 [(.aload_n 0, 1), (.getfield 33, 3), (.aload_n 0, 1), (.getfield 12, 3), (.invokevirtual 156, 3)] = true := by decide +kernel
  refine go_aload_n rfl hd (fun hd => ?_)
  refine go_getR co_X8 fl_8_33 (by decide) rfl rfl rfl hd (fun hd => ?_)
  refine go_aload_n rfl hd (fun hd => ?_)
  refine go_getD co_X8 fl_8_12 (by decide) rfl rfl hD1 (ct_pos hc1) hd (fun hd => ?_)
  exact gx_virtual 44 5 [.inr (.inl c1)] [] mk_Moment_goBy co_X5 rfl ml_8_156 in_Moment_goBy se_Moment_goBy rfl rfl (Nat.le_of_ble_eq_true rfl) rfl (Nat.le_of_ble_eq_true rfl) rfl hd k
theorem b_X_second_38 {L : Nat} {d : Nat} {I : jm_I} {Q : Option jm_V → jm_I → Prop}   (k : Q (some (.inl (I 44 0))) I) : Gx (jx_0 L) d md_X_second 38 [some (.inr (.inl 1))] [] I Q := by
  show jm_Go d 0 0 md_X_second 38 [some (.inr (.inl 1))] [] (jx (jx_0 L) I) (jx_Q (jx_0 L) Q)
  have hd : jm_dc md_X_second.2.1 38 [(.aload_n 0, 1), (.getfield 33, 3), (.getfield 145, 3), (.ireturn, 1)] = true := by decide +kernel
  refine go_aload_n rfl hd (fun hd => ?_)
  refine go_getR co_X8 fl_8_33 (by decide) rfl rfl rfl hd (fun hd => ?_)
  refine go_getI co_X5 fl_8_145 (by decide) (Or.inl rfl) rfl hd (fun hd => ?_)
  exact go_ireturn hd rfl ⟨_, rfl, k⟩
theorem b_X_press_0 {L : Nat} {d : Nat} {I : jm_I} {Q : Option jm_V → jm_I → Prop} {x1 : Int}  (k : Cx (jx_0 L) d md_X_isPerson [.inr (.inl 1), .inl x1] I (fun v J => Gx (jx_0 L) (d + 1) md_X_press 5 [some (.inr (.inl 1)), some (.inl x1)] (v.toList ++ []) J Q)) : Cx (jx_0 L) (d + 1) md_X_press [.inr (.inl 1), .inl x1] I Q := by
  show jm_Go (d + 1) 0 0 md_X_press 0 [some (.inr (.inl 1)), some (.inl x1)] [] (jx (jx_0 L) I) (jx_Q (jx_0 L) Q)
  have hd : jm_dc md_X_press.2.1 0 [(.aload_n 0, 1), (.iload_n 1, 1), (.invokevirtual 116, 3)] = true := by decide +kernel
  refine go_aload_n rfl hd (fun hd => ?_)
  refine go_iload_n rfl hd (fun hd => ?_)
  exact gx_virtual 1 8 [.inl x1] [] mk_X_isPerson co_X8 rfl ml_8_116 in_X_isPerson se_X_isPerson rfl rfl (Nat.le_of_ble_eq_true rfl) rfl (Nat.le_of_ble_eq_true rfl) rfl hd k
theorem b_X_press_5 {L : Nat} {d : Nat} {I : jm_I} {Q : Option jm_V → jm_I → Prop} {o0 : Option jm_V} {o1 : Option jm_V} {s0 : Int}  (hz : (-2147483648 ≤ s0 ∧ s0 < 2147483648)) (kt : ¬ s0 = 0 → Gx (jx_0 L) d md_X_press 10 [o0, o1] [] I Q) (kf : s0 = 0 → Gx (jx_0 L) d md_X_press 8 [o0, o1] [] I Q) : Gx (jx_0 L) d md_X_press 5 [o0, o1] [.inl s0] I Q := by
  have hz1 := hz
  show jm_Go d 0 0 md_X_press 5 [o0, o1] [.inl s0] (jx (jx_0 L) I) (jx_Q (jx_0 L) Q)
  have hd : jm_dc md_X_press.2.1 5 [(.ifCond .ne 5, 3)] = true := by decide +kernel
  exact go_if_ne (by decide) hz1 hd kt kf
theorem b_X_press_8 {L : Nat} {d : Nat} {I : jm_I} {Q : Option jm_V → jm_I → Prop} {o0 : Option jm_V} {o1 : Option jm_V}  (k : Q (some (.inl (-1))) I) : Gx (jx_0 L) d md_X_press 8 [o0, o1] [] I Q := by
  show jm_Go d 0 0 md_X_press 8 [o0, o1] [] (jx (jx_0 L) I) (jx_Q (jx_0 L) Q)
  have hd : jm_dc md_X_press.2.1 8 [(.iconst (-1), 1), (.ireturn, 1)] = true := by decide +kernel
  refine go_iconst hd (fun hd => ?_)
  exact go_ireturn hd rfl ⟨_, rfl, k⟩
theorem b_X_press_10 {L : Nat} {d : Nat} {I : jm_I} {Q : Option jm_V → jm_I → Prop} {x1 : Int}  (hz : (-2147483648 ≤ jb_and (jb_shr (I 44 1) x1) 1 ∧ jb_and (jb_shr (I 44 1) x1) 1 < 2147483648)) (kt : (jb_and (jb_shr (I 44 1) x1) 1) = 0 → Gx (jx_0 L) d md_X_press 27 [some (.inr (.inl 1)), some (.inl x1)] [] I Q) (kf : ¬ (jb_and (jb_shr (I 44 1) x1) 1) = 0 → Gx (jx_0 L) d md_X_press 24 [some (.inr (.inl 1)), some (.inl x1)] [] I Q) : Gx (jx_0 L) d md_X_press 10 [some (.inr (.inl 1)), some (.inl x1)] [] I Q := by
  have hz1 := hz
  show jm_Go d 0 0 md_X_press 10 [some (.inr (.inl 1)), some (.inl x1)] [] (jx (jx_0 L) I) (jx_Q (jx_0 L) Q)
  have hd : jm_dc md_X_press.2.1 10 [(.aload_n 0, 1), (.getfield 33, 3), (.getfield 126, 3), (.iload_n 1, 1), (.ishr, 1), (.iconst 1, 1), (.iand, 1), (.ifCond .eq 6, 3)] = true := by decide +kernel
  refine go_aload_n rfl hd (fun hd => ?_)
  refine go_getR co_X8 fl_8_33 (by decide) rfl rfl rfl hd (fun hd => ?_)
  refine go_getI co_X5 fl_8_126 (by decide) (Or.inl rfl) rfl hd (fun hd => ?_)
  refine go_iload_n rfl hd (fun hd => ?_)
  refine go_ishr hd (fun hd => ?_)
  refine go_iconst hd (fun hd => ?_)
  refine go_iand hd (fun hd => ?_)
  exact go_if_eq (by decide) hz1 hd kt kf
theorem b_X_press_24 {L : Nat} {d : Nat} {I : jm_I} {Q : Option jm_V → jm_I → Prop} {o0 : Option jm_V} {o1 : Option jm_V}  (k : Q (some (.inl (-2))) I) : Gx (jx_0 L) d md_X_press 24 [o0, o1] [] I Q := by
  show jm_Go d 0 0 md_X_press 24 [o0, o1] [] (jx (jx_0 L) I) (jx_Q (jx_0 L) Q)
  have hd : jm_dc md_X_press.2.1 24 [(.bipush (-2), 2), (.ireturn, 1)] = true := by decide +kernel
  refine go_bipush (by decide) hd (fun hd => ?_)
  exact go_ireturn hd rfl ⟨_, rfl, k⟩
theorem b_X_press_27 {L : Nat} {d : Nat} {I : jm_I} {Q : Option jm_V → jm_I → Prop} {o1 : Option jm_V}  (k : Cx (jx_0 L) d md_History_remember [.inr (.inl 49), .inr (.inl 44)] I (fun v J => Gx (jx_0 L) (d + 1) md_X_press 38 [some (.inr (.inl 1)), o1] (v.toList ++ []) J Q)) : Gx (jx_0 L) (d + 1) md_X_press 27 [some (.inr (.inl 1)), o1] [] I Q := by
  show jm_Go (d + 1) 0 0 md_X_press 27 [some (.inr (.inl 1)), o1] [] (jx (jx_0 L) I) (jx_Q (jx_0 L) Q)
  have hd : jm_dc md_X_press.2.1 27 [(.aload_n 0, 1), (.getfield 40, 3), (.aload_n 0, 1), (.getfield 33, 3), (.invokevirtual 152, 3)] = true := by decide +kernel
  refine go_aload_n rfl hd (fun hd => ?_)
  refine go_getR co_X8 fl_8_40 (by decide) rfl rfl rfl hd (fun hd => ?_)
  refine go_aload_n rfl hd (fun hd => ?_)
  refine go_getR co_X8 fl_8_33 (by decide) rfl rfl rfl hd (fun hd => ?_)
  exact gx_virtual 49 4 [.inr (.inl 44)] [] mk_History_remember co_X4 rfl ml_8_152 in_History_remember se_History_remember rfl rfl (Nat.le_of_ble_eq_true rfl) rfl (Nat.le_of_ble_eq_true rfl) rfl hd k
theorem b_X_press_38 {L : Nat} {d : Nat} {I : jm_I} {Q : Option jm_V → jm_I → Prop} {x1 : Int} {c1 : Nat} (hD1 : I 1 0 = (c1 : Int)) (hc1 : jx_City (jx_0 L) c1) (hz : (0 ≤ x1 ∧ x1 < 5) ∧ (0 ≤ x1 ∧ x1 < 5) ∧ (0 ≤ x1 ∧ x1 < 5) ∧ (0 ≤ x1 ∧ x1 < 5)) (k : Q (some (.inl ((jm_up (jm_up I 44 1 (jb_or (I 44 1) (jb_shl 1 x1))) 46 (x1.toNat) ((I 46 x1.toNat) + 1)) 46 x1.toNat))) (jm_up (jm_up (jm_up I 44 1 (jb_or (I 44 1) (jb_shl 1 x1))) 46 (x1.toNat) ((I 46 x1.toNat) + 1)) 47 (x1.toNat) ((jm_up (jm_up I 44 1 (jb_or (I 44 1) (jb_shl 1 x1))) 46 (x1.toNat) ((I 46 x1.toNat) + 1)) c1 1))) : Gx (jx_0 L) d md_X_press 38 [some (.inr (.inl 1)), some (.inl x1)] [] I Q := by
  obtain ⟨hz1, hz2, hz3, hz4⟩ := hz
  show jm_Go d 0 0 md_X_press 38 [some (.inr (.inl 1)), some (.inl x1)] [] (jx (jx_0 L) I) (jx_Q (jx_0 L) Q)
  have hd : jm_dc md_X_press.2.1 38 [(.aload_n 0, 1), (.getfield 33, 3), (.dup, 1), (.getfield 126, 3), (.iconst 1, 1), (.iload_n 1, 1), (.ishl, 1), (.ior, 1), (.putfield 126, 3), (.aload_n 0, 1), (.getfield 33, 3), (.getfield 123, 3), (.iload_n 1, 1), (.dup2, 1), (.iaload, 1), (.iconst 1, 1), (.iadd, 1), (.iastore, 1), (.aload_n 0, 1), (.getfield 33, 3), (.getfield 129, 3), (.iload_n 1, 1), (.aload_n 0, 1), (.getfield 12, 3), (.getfield 160, 3), (.iastore, 1), (.aload_n 0, 1), (.getfield 33, 3), (.getfield 123, 3), (.iload_n 1, 1), (.iaload, 1), (.ireturn, 1)] = true := by decide +kernel
  refine go_aload_n rfl hd (fun hd => ?_)
  refine go_getR co_X8 fl_8_33 (by decide) rfl rfl rfl hd (fun hd => ?_)
  refine go_dup rfl hd (fun hd => ?_)
  refine go_getI co_X5 fl_8_126 (by decide) (Or.inl rfl) rfl hd (fun hd => ?_)
  refine go_iconst hd (fun hd => ?_)
  refine go_iload_n rfl hd (fun hd => ?_)
  refine go_ishl hd (fun hd => ?_)
  refine go_ior hd (fun hd => ?_)
  refine go_putI co_X5 fl_8_126 (by decide) rfl rfl hd (fun hd => ?_)
  refine go_aload_n rfl hd (fun hd => ?_)
  refine go_getR co_X8 fl_8_33 (by decide) rfl rfl rfl hd (fun hd => ?_)
  refine go_getR co_X5 fl_8_123 (by decide) rfl rfl rfl hd (fun hd => ?_)
  refine go_iload_n rfl hd (fun hd => ?_)
  refine go_dup2 rfl rfl hd (fun hd => ?_)
  refine go_iaload rfl hz1.1 hz1.2 (by decide) hd (fun hd => ?_)
  refine go_iconst hd (fun hd => ?_)
  refine go_iadd hd (fun hd => ?_)
  refine go_iastore rfl hz2.1 hz2.2 (by decide) hd (fun hd => ?_)
  refine go_aload_n rfl hd (fun hd => ?_)
  refine go_getR co_X8 fl_8_33 (by decide) rfl rfl rfl hd (fun hd => ?_)
  refine go_getR co_X5 fl_8_129 (by decide) rfl rfl rfl hd (fun hd => ?_)
  refine go_iload_n rfl hd (fun hd => ?_)
  refine go_aload_n rfl hd (fun hd => ?_)
  refine go_getD co_X8 fl_8_12 (by decide) rfl rfl hD1 (ct_pos hc1) hd (fun hd => ?_)
  refine go_getI co_X0 fl_8_160 (by decide) (Or.inl rfl) (ct_K hc1) hd (fun hd => ?_)
  refine go_iastore rfl hz3.1 hz3.2 (by decide) hd (fun hd => ?_)
  refine go_aload_n rfl hd (fun hd => ?_)
  refine go_getR co_X8 fl_8_33 (by decide) rfl rfl rfl hd (fun hd => ?_)
  refine go_getR co_X5 fl_8_123 (by decide) rfl rfl rfl hd (fun hd => ?_)
  refine go_iload_n rfl hd (fun hd => ?_)
  refine go_iaload rfl hz4.1 hz4.2 (by decide) hd (fun hd => ?_)
  exact go_ireturn hd rfl ⟨_, rfl, k⟩
theorem b_X_carry_0 {L : Nat} {d : Nat} {I : jm_I} {Q : Option jm_V → jm_I → Prop} {x1 : Int} {x2 : Int} {x3 : Int}  (k : Cx (jx_0 L) d md_X_isPerson [.inr (.inl 1), .inl x1] I (fun v J => Gx (jx_0 L) (d + 1) md_X_carry 5 [some (.inr (.inl 1)), some (.inl x1), some (.inl x2), some (.inl x3), none] (v.toList ++ []) J Q)) : Cx (jx_0 L) (d + 1) md_X_carry [.inr (.inl 1), .inl x1, .inl x2, .inl x3] I Q := by
  show jm_Go (d + 1) 0 0 md_X_carry 0 [some (.inr (.inl 1)), some (.inl x1), some (.inl x2), some (.inl x3), none] [] (jx (jx_0 L) I) (jx_Q (jx_0 L) Q)
  have hd : jm_dc md_X_carry.2.1 0 [(.aload_n 0, 1), (.iload_n 1, 1), (.invokevirtual 116, 3)] = true := by decide +kernel
  refine go_aload_n rfl hd (fun hd => ?_)
  refine go_iload_n rfl hd (fun hd => ?_)
  exact gx_virtual 1 8 [.inl x1] [] mk_X_isPerson co_X8 rfl ml_8_116 in_X_isPerson se_X_isPerson rfl rfl (Nat.le_of_ble_eq_true rfl) rfl (Nat.le_of_ble_eq_true rfl) rfl hd k
theorem b_X_carry_5 {L : Nat} {d : Nat} {I : jm_I} {Q : Option jm_V → jm_I → Prop} {o0 : Option jm_V} {o1 : Option jm_V} {o2 : Option jm_V} {o3 : Option jm_V} {o4 : Option jm_V} {s0 : Int}  (hz : (-2147483648 ≤ s0 ∧ s0 < 2147483648)) (kt : s0 = 0 → Gx (jx_0 L) d md_X_carry 24 [o0, o1, o2, o3, o4] [] I Q) (kf : ¬ s0 = 0 → Gx (jx_0 L) d md_X_carry 8 [o0, o1, o2, o3, o4] [] I Q) : Gx (jx_0 L) d md_X_carry 5 [o0, o1, o2, o3, o4] [.inl s0] I Q := by
  have hz1 := hz
  show jm_Go d 0 0 md_X_carry 5 [o0, o1, o2, o3, o4] [.inl s0] (jx (jx_0 L) I) (jx_Q (jx_0 L) Q)
  have hd : jm_dc md_X_carry.2.1 5 [(.ifCond .eq 19, 3)] = true := by decide +kernel
  exact go_if_eq (by decide) hz1 hd kt kf
theorem b_X_carry_8 {L : Nat} {d : Nat} {I : jm_I} {Q : Option jm_V → jm_I → Prop} {o1 : Option jm_V} {x2 : Int} {o3 : Option jm_V} {o4 : Option jm_V}  (k : Cx (jx_0 L) d md_X_isThing [.inr (.inl 1), .inl x2] I (fun v J => Gx (jx_0 L) (d + 1) md_X_carry 13 [some (.inr (.inl 1)), o1, some (.inl x2), o3, o4] (v.toList ++ []) J Q)) : Gx (jx_0 L) (d + 1) md_X_carry 8 [some (.inr (.inl 1)), o1, some (.inl x2), o3, o4] [] I Q := by
  show jm_Go (d + 1) 0 0 md_X_carry 8 [some (.inr (.inl 1)), o1, some (.inl x2), o3, o4] [] (jx (jx_0 L) I) (jx_Q (jx_0 L) Q)
  have hd : jm_dc md_X_carry.2.1 8 [(.aload_n 0, 1), (.iload_n 2, 1), (.invokevirtual 132, 3)] = true := by decide +kernel
  refine go_aload_n rfl hd (fun hd => ?_)
  refine go_iload_n rfl hd (fun hd => ?_)
  exact gx_virtual 1 8 [.inl x2] [] mk_X_isThing co_X8 rfl ml_8_132 in_X_isThing se_X_isThing rfl rfl (Nat.le_of_ble_eq_true rfl) rfl (Nat.le_of_ble_eq_true rfl) rfl hd k
theorem b_X_carry_13 {L : Nat} {d : Nat} {I : jm_I} {Q : Option jm_V → jm_I → Prop} {o0 : Option jm_V} {o1 : Option jm_V} {o2 : Option jm_V} {o3 : Option jm_V} {o4 : Option jm_V} {s0 : Int}  (hz : (-2147483648 ≤ s0 ∧ s0 < 2147483648)) (kt : s0 = 0 → Gx (jx_0 L) d md_X_carry 24 [o0, o1, o2, o3, o4] [] I Q) (kf : ¬ s0 = 0 → Gx (jx_0 L) d md_X_carry 16 [o0, o1, o2, o3, o4] [] I Q) : Gx (jx_0 L) d md_X_carry 13 [o0, o1, o2, o3, o4] [.inl s0] I Q := by
  have hz1 := hz
  show jm_Go d 0 0 md_X_carry 13 [o0, o1, o2, o3, o4] [.inl s0] (jx (jx_0 L) I) (jx_Q (jx_0 L) Q)
  have hd : jm_dc md_X_carry.2.1 13 [(.ifCond .eq 11, 3)] = true := by decide +kernel
  exact go_if_eq (by decide) hz1 hd kt kf
theorem b_X_carry_16 {L : Nat} {d : Nat} {I : jm_I} {Q : Option jm_V → jm_I → Prop} {o1 : Option jm_V} {o2 : Option jm_V} {x3 : Int} {o4 : Option jm_V}  (k : Cx (jx_0 L) d md_X_isRoom [.inr (.inl 1), .inl x3] I (fun v J => Gx (jx_0 L) (d + 1) md_X_carry 21 [some (.inr (.inl 1)), o1, o2, some (.inl x3), o4] (v.toList ++ []) J Q)) : Gx (jx_0 L) (d + 1) md_X_carry 16 [some (.inr (.inl 1)), o1, o2, some (.inl x3), o4] [] I Q := by
  show jm_Go (d + 1) 0 0 md_X_carry 16 [some (.inr (.inl 1)), o1, o2, some (.inl x3), o4] [] (jx (jx_0 L) I) (jx_Q (jx_0 L) Q)
  have hd : jm_dc md_X_carry.2.1 16 [(.aload_n 0, 1), (.iload_n 3, 1), (.invokevirtual 163, 3)] = true := by decide +kernel
  refine go_aload_n rfl hd (fun hd => ?_)
  refine go_iload_n rfl hd (fun hd => ?_)
  exact gx_virtual 1 8 [.inl x3] [] mk_X_isRoom co_X8 rfl ml_8_163 in_X_isRoom se_X_isRoom rfl rfl (Nat.le_of_ble_eq_true rfl) rfl (Nat.le_of_ble_eq_true rfl) rfl hd k
theorem b_X_carry_21 {L : Nat} {d : Nat} {I : jm_I} {Q : Option jm_V → jm_I → Prop} {o0 : Option jm_V} {o1 : Option jm_V} {o2 : Option jm_V} {o3 : Option jm_V} {o4 : Option jm_V} {s0 : Int}  (hz : (-2147483648 ≤ s0 ∧ s0 < 2147483648)) (kt : ¬ s0 = 0 → Gx (jx_0 L) d md_X_carry 26 [o0, o1, o2, o3, o4] [] I Q) (kf : s0 = 0 → Gx (jx_0 L) d md_X_carry 24 [o0, o1, o2, o3, o4] [] I Q) : Gx (jx_0 L) d md_X_carry 21 [o0, o1, o2, o3, o4] [.inl s0] I Q := by
  have hz1 := hz
  show jm_Go d 0 0 md_X_carry 21 [o0, o1, o2, o3, o4] [.inl s0] (jx (jx_0 L) I) (jx_Q (jx_0 L) Q)
  have hd : jm_dc md_X_carry.2.1 21 [(.ifCond .ne 5, 3)] = true := by decide +kernel
  exact go_if_ne (by decide) hz1 hd kt kf
theorem b_X_carry_24 {L : Nat} {d : Nat} {I : jm_I} {Q : Option jm_V → jm_I → Prop} {o0 : Option jm_V} {o1 : Option jm_V} {o2 : Option jm_V} {o3 : Option jm_V} {o4 : Option jm_V}  (k : Q (some (.inl (-1))) I) : Gx (jx_0 L) d md_X_carry 24 [o0, o1, o2, o3, o4] [] I Q := by
  show jm_Go d 0 0 md_X_carry 24 [o0, o1, o2, o3, o4] [] (jx (jx_0 L) I) (jx_Q (jx_0 L) Q)
  have hd : jm_dc md_X_carry.2.1 24 [(.iconst (-1), 1), (.ireturn, 1)] = true := by decide +kernel
  refine go_iconst hd (fun hd => ?_)
  exact go_ireturn hd rfl ⟨_, rfl, k⟩
theorem b_X_carry_26 {L : Nat} {d : Nat} {I : jm_I} {Q : Option jm_V → jm_I → Prop} {x1 : Int} {x2 : Int} {o3 : Option jm_V} {o4 : Option jm_V} {c1 : Nat} (hD1 : I 1 0 = (c1 : Int)) (hc1 : jx_City (jx_0 L) c1) (hz : (0 ≤ x1 ∧ x1 < 5)) (k : Cx (jx_0 L) d md_X_roomOfThing [.inr (.inl 1), .inl x2] I (fun v J => Gx (jx_0 L) (d + 1) md_X_carry 44 [some (.inr (.inl 1)), some (.inl x1), some (.inl x2), o3, o4] (v.toList ++ [.inl (I 45 x1.toNat), .inr (.inl c1)]) J Q)) : Gx (jx_0 L) (d + 1) md_X_carry 26 [some (.inr (.inl 1)), some (.inl x1), some (.inl x2), o3, o4] [] I Q := by
  have hz1 := hz
  show jm_Go (d + 1) 0 0 md_X_carry 26 [some (.inr (.inl 1)), some (.inl x1), some (.inl x2), o3, o4] [] (jx (jx_0 L) I) (jx_Q (jx_0 L) Q)
  have hd : jm_dc md_X_carry.2.1 26 [(.aload_n 0, 1), (.getfield 12, 3), (.aload_n 0, 1), (.getfield 33, 3), (.getfield 120, 3), (.iload_n 1, 1), (.iaload, 1), (.aload_n 0, 1), (.iload_n 2, 1), (.invokevirtual 135, 3)] = true := by decide +kernel
  refine go_aload_n rfl hd (fun hd => ?_)
  refine go_getD co_X8 fl_8_12 (by decide) rfl rfl hD1 (ct_pos hc1) hd (fun hd => ?_)
  refine go_aload_n rfl hd (fun hd => ?_)
  refine go_getR co_X8 fl_8_33 (by decide) rfl rfl rfl hd (fun hd => ?_)
  refine go_getR co_X5 fl_8_120 (by decide) rfl rfl rfl hd (fun hd => ?_)
  refine go_iload_n rfl hd (fun hd => ?_)
  refine go_iaload rfl hz1.1 hz1.2 (by decide) hd (fun hd => ?_)
  refine go_aload_n rfl hd (fun hd => ?_)
  refine go_iload_n rfl hd (fun hd => ?_)
  exact gx_virtual 1 8 [.inl x2] [.inl (I 45 x1.toNat), .inr (.inl c1)] mk_X_roomOfThing co_X8 rfl ml_8_135 in_X_roomOfThing se_X_roomOfThing rfl rfl (Nat.le_of_ble_eq_true rfl) rfl (Nat.le_of_ble_eq_true rfl) rfl hd k
theorem b_X_carry_44 {L : Nat} {d : Nat} {I : jm_I} {Q : Option jm_V → jm_I → Prop} {o0 : Option jm_V} {o1 : Option jm_V} {o2 : Option jm_V} {x3 : Int} {o4 : Option jm_V} {b0 : Nat} {s1 : Int} {s2 : Int} (hb0 : jx_City (jx_0 L) b0) (k : Cx (jx_0 L) d md_City_stepsToCarry [.inr (.inl b0), .inl s1, .inl s2, .inl x3] I (fun v J => Gx (jx_0 L) (d + 1) md_X_carry 48 [o0, o1, o2, some (.inl x3), o4] (v.toList ++ []) J Q)) : Gx (jx_0 L) (d + 1) md_X_carry 44 [o0, o1, o2, some (.inl x3), o4] [.inl s2, .inl s1, .inr (.inl b0)] I Q := by
  show jm_Go (d + 1) 0 0 md_X_carry 44 [o0, o1, o2, some (.inl x3), o4] [.inl s2, .inl s1, .inr (.inl b0)] (jx (jx_0 L) I) (jx_Q (jx_0 L) Q)
  have hd : jm_dc md_X_carry.2.1 44 [(.iload_n 3, 1), (.invokevirtual 166, 3)] = true := by decide +kernel
  refine go_iload_n rfl hd (fun hd => ?_)
  exact gx_virtual b0 0 [.inl s1, .inl s2, .inl x3] [] mk_City_stepsToCarry co_X0 rfl ml_8_166 in_City_stepsToCarry se_City_stepsToCarry (ct_K hb0) rfl (Nat.le_of_ble_eq_true rfl) rfl (Nat.le_of_ble_eq_true rfl) rfl hd k
theorem b_X_carry_48 {L : Nat} {d : Nat} {I : jm_I} {Q : Option jm_V → jm_I → Prop} {x1 : Int} {o2 : Option jm_V} {o3 : Option jm_V} {o4 : Option jm_V} {s0 : Int}  (k : Cx (jx_0 L) d md_X_isUp [.inr (.inl 1), .inl x1] I (fun v J => Gx (jx_0 L) (d + 1) md_X_carry 55 [some (.inr (.inl 1)), some (.inl x1), o2, o3, some (.inl s0)] (v.toList ++ []) J Q)) : Gx (jx_0 L) (d + 1) md_X_carry 48 [some (.inr (.inl 1)), some (.inl x1), o2, o3, o4] [.inl s0] I Q := by
  show jm_Go (d + 1) 0 0 md_X_carry 48 [some (.inr (.inl 1)), some (.inl x1), o2, o3, o4] [.inl s0] (jx (jx_0 L) I) (jx_Q (jx_0 L) Q)
  have hd : jm_dc md_X_carry.2.1 48 [(.istore 4, 2), (.aload_n 0, 1), (.iload_n 1, 1), (.invokevirtual 170, 3)] = true := by decide +kernel
  refine go_istore (by decide) hd (fun hd => ?_)
  refine go_aload_n rfl hd (fun hd => ?_)
  refine go_iload_n rfl hd (fun hd => ?_)
  exact gx_virtual 1 8 [.inl x1] [] mk_X_isUp co_X8 rfl ml_8_170 in_X_isUp se_X_isUp rfl rfl (Nat.le_of_ble_eq_true rfl) rfl (Nat.le_of_ble_eq_true rfl) rfl hd k
theorem b_X_carry_55 {L : Nat} {d : Nat} {I : jm_I} {Q : Option jm_V → jm_I → Prop} {o0 : Option jm_V} {o1 : Option jm_V} {o2 : Option jm_V} {o3 : Option jm_V} {o4 : Option jm_V} {s0 : Int}  (hz : (-2147483648 ≤ s0 ∧ s0 < 2147483648)) (kt : s0 = 0 → Gx (jx_0 L) d md_X_carry 72 [o0, o1, o2, o3, o4] [] I Q) (kf : ¬ s0 = 0 → Gx (jx_0 L) d md_X_carry 58 [o0, o1, o2, o3, o4] [] I Q) : Gx (jx_0 L) d md_X_carry 55 [o0, o1, o2, o3, o4] [.inl s0] I Q := by
  have hz1 := hz
  show jm_Go d 0 0 md_X_carry 55 [o0, o1, o2, o3, o4] [.inl s0] (jx (jx_0 L) I) (jx_Q (jx_0 L) Q)
  have hd : jm_dc md_X_carry.2.1 55 [(.ifCond .eq 17, 3)] = true := by decide +kernel
  exact go_if_eq (by decide) hz1 hd kt kf
theorem b_X_carry_58 {L : Nat} {d : Nat} {I : jm_I} {Q : Option jm_V → jm_I → Prop} {x1 : Int} {o2 : Option jm_V} {o3 : Option jm_V} {x4 : Int}  (hz : (0 ≤ x1 ∧ x1 < 5) ∧ (-2147483648 ≤ x4 ∧ x4 < 2147483648) ∧ (-2147483648 ≤ I 47 x1.toNat ∧ I 47 x1.toNat < 2147483648)) (kt : x4 ≤ (I 47 x1.toNat) → Gx (jx_0 L) d md_X_carry 75 [some (.inr (.inl 1)), some (.inl x1), o2, o3, some (.inl x4)] [] I Q) (kf : ¬ (x4 ≤ (I 47 x1.toNat)) → Gx (jx_0 L) d md_X_carry 72 [some (.inr (.inl 1)), some (.inl x1), o2, o3, some (.inl x4)] [] I Q) : Gx (jx_0 L) d md_X_carry 58 [some (.inr (.inl 1)), some (.inl x1), o2, o3, some (.inl x4)] [] I Q := by
  obtain ⟨hz1, hz2, hz3⟩ := hz
  show jm_Go d 0 0 md_X_carry 58 [some (.inr (.inl 1)), some (.inl x1), o2, o3, some (.inl x4)] [] (jx (jx_0 L) I) (jx_Q (jx_0 L) Q)
  have hd : jm_dc md_X_carry.2.1 58 [(.iload 4, 2), (.aload_n 0, 1), (.getfield 33, 3), (.getfield 129, 3), (.iload_n 1, 1), (.iaload, 1), (.if_icmp .le 6, 3)] = true := by decide +kernel
  refine go_iload rfl hd (fun hd => ?_)
  refine go_aload_n rfl hd (fun hd => ?_)
  refine go_getR co_X8 fl_8_33 (by decide) rfl rfl rfl hd (fun hd => ?_)
  refine go_getR co_X5 fl_8_129 (by decide) rfl rfl rfl hd (fun hd => ?_)
  refine go_iload_n rfl hd (fun hd => ?_)
  refine go_iaload rfl hz1.1 hz1.2 (by decide) hd (fun hd => ?_)
  exact go_icmp_le (by decide) hz2 hz3 hd kt kf
theorem b_X_carry_72 {L : Nat} {d : Nat} {I : jm_I} {Q : Option jm_V → jm_I → Prop} {o0 : Option jm_V} {o1 : Option jm_V} {o2 : Option jm_V} {o3 : Option jm_V} {o4 : Option jm_V}  (k : Q (some (.inl (-2))) I) : Gx (jx_0 L) d md_X_carry 72 [o0, o1, o2, o3, o4] [] I Q := by
  show jm_Go d 0 0 md_X_carry 72 [o0, o1, o2, o3, o4] [] (jx (jx_0 L) I) (jx_Q (jx_0 L) Q)
  have hd : jm_dc md_X_carry.2.1 72 [(.bipush (-2), 2), (.ireturn, 1)] = true := by decide +kernel
  refine go_bipush (by decide) hd (fun hd => ?_)
  exact go_ireturn hd rfl ⟨_, rfl, k⟩
theorem b_X_carry_75 {L : Nat} {d : Nat} {I : jm_I} {Q : Option jm_V → jm_I → Prop} {o1 : Option jm_V} {o2 : Option jm_V} {o3 : Option jm_V} {o4 : Option jm_V}  (k : Cx (jx_0 L) d md_History_remember [.inr (.inl 49), .inr (.inl 44)] I (fun v J => Gx (jx_0 L) (d + 1) md_X_carry 86 [some (.inr (.inl 1)), o1, o2, o3, o4] (v.toList ++ []) J Q)) : Gx (jx_0 L) (d + 1) md_X_carry 75 [some (.inr (.inl 1)), o1, o2, o3, o4] [] I Q := by
  show jm_Go (d + 1) 0 0 md_X_carry 75 [some (.inr (.inl 1)), o1, o2, o3, o4] [] (jx (jx_0 L) I) (jx_Q (jx_0 L) Q)
  have hd : jm_dc md_X_carry.2.1 75 [(.aload_n 0, 1), (.getfield 40, 3), (.aload_n 0, 1), (.getfield 33, 3), (.invokevirtual 152, 3)] = true := by decide +kernel
  refine go_aload_n rfl hd (fun hd => ?_)
  refine go_getR co_X8 fl_8_40 (by decide) rfl rfl rfl hd (fun hd => ?_)
  refine go_aload_n rfl hd (fun hd => ?_)
  refine go_getR co_X8 fl_8_33 (by decide) rfl rfl rfl hd (fun hd => ?_)
  exact gx_virtual 49 4 [.inr (.inl 44)] [] mk_History_remember co_X4 rfl ml_8_152 in_History_remember se_History_remember rfl rfl (Nat.le_of_ble_eq_true rfl) rfl (Nat.le_of_ble_eq_true rfl) rfl hd k
theorem b_X_carry_86 {L : Nat} {d : Nat} {I : jm_I} {Q : Option jm_V → jm_I → Prop} {o1 : Option jm_V} {x2 : Int} {x3 : Int} {o4 : Option jm_V} {c1 : Nat} (hD1 : I 1 0 = (c1 : Int)) (hc1 : jx_City (jx_0 L) c1) (k : Cx (jx_0 L) d md_City_spotOfRoom [.inr (.inl c1), .inl x2, .inl x3] I (fun v J => Gx (jx_0 L) (d + 1) md_X_carry 103 [some (.inr (.inl 1)), o1, some (.inl x2), some (.inl x3), o4] (v.toList ++ [.inl x2, .inr (.inl 48)]) J Q)) : Gx (jx_0 L) (d + 1) md_X_carry 86 [some (.inr (.inl 1)), o1, some (.inl x2), some (.inl x3), o4] [] I Q := by
  show jm_Go (d + 1) 0 0 md_X_carry 86 [some (.inr (.inl 1)), o1, some (.inl x2), some (.inl x3), o4] [] (jx (jx_0 L) I) (jx_Q (jx_0 L) Q)
  have hd : jm_dc md_X_carry.2.1 86 [(.aload_n 0, 1), (.getfield 33, 3), (.getfield 139, 3), (.iload_n 2, 1), (.aload_n 0, 1), (.getfield 12, 3), (.iload_n 2, 1), (.iload_n 3, 1), (.invokevirtual 173, 3)] = true := by decide +kernel
  refine go_aload_n rfl hd (fun hd => ?_)
  refine go_getR co_X8 fl_8_33 (by decide) rfl rfl rfl hd (fun hd => ?_)
  refine go_getR co_X5 fl_8_139 (by decide) rfl rfl rfl hd (fun hd => ?_)
  refine go_iload_n rfl hd (fun hd => ?_)
  refine go_aload_n rfl hd (fun hd => ?_)
  refine go_getD co_X8 fl_8_12 (by decide) rfl rfl hD1 (ct_pos hc1) hd (fun hd => ?_)
  refine go_iload_n rfl hd (fun hd => ?_)
  refine go_iload_n rfl hd (fun hd => ?_)
  exact gx_virtual c1 0 [.inl x2, .inl x3] [.inl x2, .inr (.inl 48)] mk_City_spotOfRoom co_X0 rfl ml_8_173 in_City_spotOfRoom se_City_spotOfRoom (ct_K hc1) rfl (Nat.le_of_ble_eq_true rfl) rfl (Nat.le_of_ble_eq_true rfl) rfl hd k
theorem b_X_carry_103 {L : Nat} {d : Nat} {I : jm_I} {Q : Option jm_V → jm_I → Prop} {x1 : Int} {o2 : Option jm_V} {x3 : Int} {x4 : Int} {s1 : Int} {s2 : Int}  (hz : (0 ≤ s1 ∧ s1 < 5)) (k : Cx (jx_0 L) d md_X_moveTo [.inr (.inl 1), .inl x1, .inl x3, .inl x4] (jm_up I 48 (s1.toNat) s2) (fun v J => Gx (jx_0 L) (d + 1) md_X_carry 112 [some (.inr (.inl 1)), some (.inl x1), o2, some (.inl x3), some (.inl x4)] (v.toList ++ []) J Q)) : Gx (jx_0 L) (d + 1) md_X_carry 103 [some (.inr (.inl 1)), some (.inl x1), o2, some (.inl x3), some (.inl x4)] [.inl s2, .inl s1, .inr (.inl 48)] I Q := by
  have hz1 := hz
  show jm_Go (d + 1) 0 0 md_X_carry 103 [some (.inr (.inl 1)), some (.inl x1), o2, some (.inl x3), some (.inl x4)] [.inl s2, .inl s1, .inr (.inl 48)] (jx (jx_0 L) I) (jx_Q (jx_0 L) Q)
  have hd : jm_dc md_X_carry.2.1 103 [(.iastore, 1), (.aload_n 0, 1), (.iload_n 1, 1), (.iload_n 3, 1), (.iload 4, 2), (.invokevirtual 177, 3)] = true := by decide +kernel
  refine go_iastore rfl hz1.1 hz1.2 (by decide) hd (fun hd => ?_)
  refine go_aload_n rfl hd (fun hd => ?_)
  refine go_iload_n rfl hd (fun hd => ?_)
  refine go_iload_n rfl hd (fun hd => ?_)
  refine go_iload rfl hd (fun hd => ?_)
  exact gx_virtual 1 8 [.inl x1, .inl x3, .inl x4] [] mk_X_moveTo co_X8 rfl ml_8_177 in_X_moveTo se_X_moveTo rfl rfl (Nat.le_of_ble_eq_true rfl) rfl (Nat.le_of_ble_eq_true rfl) rfl hd k
theorem b_X_carry_112 {L : Nat} {d : Nat} {I : jm_I} {Q : Option jm_V → jm_I → Prop} {o0 : Option jm_V} {o1 : Option jm_V} {o2 : Option jm_V} {o3 : Option jm_V} {o4 : Option jm_V} {s0 : Int}  (k : Q (some (.inl s0)) I) : Gx (jx_0 L) d md_X_carry 112 [o0, o1, o2, o3, o4] [.inl s0] I Q := by
  show jm_Go d 0 0 md_X_carry 112 [o0, o1, o2, o3, o4] [.inl s0] (jx (jx_0 L) I) (jx_Q (jx_0 L) Q)
  have hd : jm_dc md_X_carry.2.1 112 [(.ireturn, 1)] = true := by decide +kernel
  exact go_ireturn hd rfl ⟨_, rfl, k⟩
theorem b_X_isRoom_0 {L : Nat} {d : Nat} {I : jm_I} {Q : Option jm_V → jm_I → Prop} {x1 : Int} {c1 : Nat} (hD1 : I 1 0 = (c1 : Int)) (hc1 : jx_City (jx_0 L) c1) (k : Cx (jx_0 L) d md_X_within [.inl x1, .inl 0, .inl ((I c1 0) - 1)] I (fun v J => Gx (jx_0 L) (d + 1) md_X_isRoom 14 [some (.inr (.inl 1)), some (.inl x1)] (v.toList ++ []) J Q)) : Cx (jx_0 L) (d + 1) md_X_isRoom [.inr (.inl 1), .inl x1] I Q := by
  show jm_Go (d + 1) 0 0 md_X_isRoom 0 [some (.inr (.inl 1)), some (.inl x1)] [] (jx (jx_0 L) I) (jx_Q (jx_0 L) Q)
  have hd : jm_dc md_X_isRoom.2.1 0 [(.iload_n 1, 1), (.iconst 0, 1), (.aload_n 0, 1), (.getfield 12, 3), (.getfield 190, 3), (.iconst 1, 1), (.isub, 1), (.invokestatic 86, 3)] = true := by decide +kernel
  refine go_iload_n rfl hd (fun hd => ?_)
  refine go_iconst hd (fun hd => ?_)
  refine go_aload_n rfl hd (fun hd => ?_)
  refine go_getD co_X8 fl_8_12 (by decide) rfl rfl hD1 (ct_pos hc1) hd (fun hd => ?_)
  refine go_getI co_X0 fl_8_190 (by decide) (Or.inl rfl) (ct_K hc1) hd (fun hd => ?_)
  refine go_iconst hd (fun hd => ?_)
  refine go_isub hd (fun hd => ?_)
  exact gx_static [.inl x1, .inl 0, .inl ((I c1 0) - 1)] [] mk_X_within ml_8_86 st_X_within rfl (Nat.le_of_ble_eq_true rfl) rfl (Nat.le_of_ble_eq_true rfl) rfl hd k
theorem b_X_isRoom_14 {L : Nat} {d : Nat} {I : jm_I} {Q : Option jm_V → jm_I → Prop} {o0 : Option jm_V} {o1 : Option jm_V} {s0 : Int}  (hz : (s0 = 0 ∨ s0 = 1)) (k : Q (some (.inl s0)) I) : Gx (jx_0 L) d md_X_isRoom 14 [o0, o1] [.inl s0] I Q := by
  have hz1 := hz
  show jm_Go d 0 0 md_X_isRoom 14 [o0, o1] [.inl s0] (jx (jx_0 L) I) (jx_Q (jx_0 L) Q)
  have hd : jm_dc md_X_isRoom.2.1 14 [(.ireturn, 1)] = true := by decide +kernel
  exact go_zreturn hd rfl hz1 ⟨_, rfl, k⟩
theorem b_X_moveTo_0 {L : Nat} {d : Nat} {I : jm_I} {Q : Option jm_V → jm_I → Prop} {x1 : Int} {x2 : Int} {x3 : Int}  (hz : (0 ≤ x1 ∧ x1 < 5) ∧ (0 ≤ x1 ∧ x1 < 5) ∧ (0 ≤ x1 ∧ x1 < 5) ∧ (0 ≤ x1 ∧ x1 < 5)) (k : Q (some (.inl ((jm_up (jm_up I 45 (x1.toNat) x2) 47 (x1.toNat) ((I 47 x1.toNat) - x3)) 47 x1.toNat))) (jm_up (jm_up I 45 (x1.toNat) x2) 47 (x1.toNat) ((I 47 x1.toNat) - x3))) : Cx (jx_0 L) d md_X_moveTo [.inr (.inl 1), .inl x1, .inl x2, .inl x3] I Q := by
  obtain ⟨hz1, hz2, hz3, hz4⟩ := hz
  show jm_Go d 0 0 md_X_moveTo 0 [some (.inr (.inl 1)), some (.inl x1), some (.inl x2), some (.inl x3)] [] (jx (jx_0 L) I) (jx_Q (jx_0 L) Q)
  have hd : jm_dc md_X_moveTo.2.1 0 [(.aload_n 0, 1), (.getfield 33, 3), (.getfield 120, 3), (.iload_n 1, 1), (.iload_n 2, 1), (.iastore, 1), (.aload_n 0, 1), (.getfield 33, 3), (.getfield 129, 3), (.iload_n 1, 1), (.dup2, 1), (.iaload, 1), (.iload_n 3, 1), (.isub, 1), (.iastore, 1), (.aload_n 0, 1), (.getfield 33, 3), (.getfield 129, 3), (.iload_n 1, 1), (.iaload, 1), (.ireturn, 1)] = true := by decide +kernel
  refine go_aload_n rfl hd (fun hd => ?_)
  refine go_getR co_X8 fl_8_33 (by decide) rfl rfl rfl hd (fun hd => ?_)
  refine go_getR co_X5 fl_8_120 (by decide) rfl rfl rfl hd (fun hd => ?_)
  refine go_iload_n rfl hd (fun hd => ?_)
  refine go_iload_n rfl hd (fun hd => ?_)
  refine go_iastore rfl hz1.1 hz1.2 (by decide) hd (fun hd => ?_)
  refine go_aload_n rfl hd (fun hd => ?_)
  refine go_getR co_X8 fl_8_33 (by decide) rfl rfl rfl hd (fun hd => ?_)
  refine go_getR co_X5 fl_8_129 (by decide) rfl rfl rfl hd (fun hd => ?_)
  refine go_iload_n rfl hd (fun hd => ?_)
  refine go_dup2 rfl rfl hd (fun hd => ?_)
  refine go_iaload rfl hz2.1 hz2.2 (by decide) hd (fun hd => ?_)
  refine go_iload_n rfl hd (fun hd => ?_)
  refine go_isub hd (fun hd => ?_)
  refine go_iastore rfl hz3.1 hz3.2 (by decide) hd (fun hd => ?_)
  refine go_aload_n rfl hd (fun hd => ?_)
  refine go_getR co_X8 fl_8_33 (by decide) rfl rfl rfl hd (fun hd => ?_)
  refine go_getR co_X5 fl_8_129 (by decide) rfl rfl rfl hd (fun hd => ?_)
  refine go_iload_n rfl hd (fun hd => ?_)
  refine go_iaload rfl hz4.1 hz4.2 (by decide) hd (fun hd => ?_)
  exact go_ireturn hd rfl ⟨_, rfl, k⟩
theorem b_X_walk_0 {L : Nat} {d : Nat} {I : jm_I} {Q : Option jm_V → jm_I → Prop} {x1 : Int} {x2 : Int}  (k : Cx (jx_0 L) d md_X_isPerson [.inr (.inl 1), .inl x1] I (fun v J => Gx (jx_0 L) (d + 1) md_X_walk 5 [some (.inr (.inl 1)), some (.inl x1), some (.inl x2), none] (v.toList ++ []) J Q)) : Cx (jx_0 L) (d + 1) md_X_walk [.inr (.inl 1), .inl x1, .inl x2] I Q := by
  show jm_Go (d + 1) 0 0 md_X_walk 0 [some (.inr (.inl 1)), some (.inl x1), some (.inl x2), none] [] (jx (jx_0 L) I) (jx_Q (jx_0 L) Q)
  have hd : jm_dc md_X_walk.2.1 0 [(.aload_n 0, 1), (.iload_n 1, 1), (.invokevirtual 116, 3)] = true := by decide +kernel
  refine go_aload_n rfl hd (fun hd => ?_)
  refine go_iload_n rfl hd (fun hd => ?_)
  exact gx_virtual 1 8 [.inl x1] [] mk_X_isPerson co_X8 rfl ml_8_116 in_X_isPerson se_X_isPerson rfl rfl (Nat.le_of_ble_eq_true rfl) rfl (Nat.le_of_ble_eq_true rfl) rfl hd k
theorem b_X_walk_5 {L : Nat} {d : Nat} {I : jm_I} {Q : Option jm_V → jm_I → Prop} {o0 : Option jm_V} {o1 : Option jm_V} {o2 : Option jm_V} {o3 : Option jm_V} {s0 : Int}  (hz : (-2147483648 ≤ s0 ∧ s0 < 2147483648)) (kt : s0 = 0 → Gx (jx_0 L) d md_X_walk 16 [o0, o1, o2, o3] [] I Q) (kf : ¬ s0 = 0 → Gx (jx_0 L) d md_X_walk 8 [o0, o1, o2, o3] [] I Q) : Gx (jx_0 L) d md_X_walk 5 [o0, o1, o2, o3] [.inl s0] I Q := by
  have hz1 := hz
  show jm_Go d 0 0 md_X_walk 5 [o0, o1, o2, o3] [.inl s0] (jx (jx_0 L) I) (jx_Q (jx_0 L) Q)
  have hd : jm_dc md_X_walk.2.1 5 [(.ifCond .eq 11, 3)] = true := by decide +kernel
  exact go_if_eq (by decide) hz1 hd kt kf
theorem b_X_walk_8 {L : Nat} {d : Nat} {I : jm_I} {Q : Option jm_V → jm_I → Prop} {o1 : Option jm_V} {x2 : Int} {o3 : Option jm_V}  (k : Cx (jx_0 L) d md_X_isRoom [.inr (.inl 1), .inl x2] I (fun v J => Gx (jx_0 L) (d + 1) md_X_walk 13 [some (.inr (.inl 1)), o1, some (.inl x2), o3] (v.toList ++ []) J Q)) : Gx (jx_0 L) (d + 1) md_X_walk 8 [some (.inr (.inl 1)), o1, some (.inl x2), o3] [] I Q := by
  show jm_Go (d + 1) 0 0 md_X_walk 8 [some (.inr (.inl 1)), o1, some (.inl x2), o3] [] (jx (jx_0 L) I) (jx_Q (jx_0 L) Q)
  have hd : jm_dc md_X_walk.2.1 8 [(.aload_n 0, 1), (.iload_n 2, 1), (.invokevirtual 163, 3)] = true := by decide +kernel
  refine go_aload_n rfl hd (fun hd => ?_)
  refine go_iload_n rfl hd (fun hd => ?_)
  exact gx_virtual 1 8 [.inl x2] [] mk_X_isRoom co_X8 rfl ml_8_163 in_X_isRoom se_X_isRoom rfl rfl (Nat.le_of_ble_eq_true rfl) rfl (Nat.le_of_ble_eq_true rfl) rfl hd k
theorem b_X_walk_13 {L : Nat} {d : Nat} {I : jm_I} {Q : Option jm_V → jm_I → Prop} {o0 : Option jm_V} {o1 : Option jm_V} {o2 : Option jm_V} {o3 : Option jm_V} {s0 : Int}  (hz : (-2147483648 ≤ s0 ∧ s0 < 2147483648)) (kt : ¬ s0 = 0 → Gx (jx_0 L) d md_X_walk 18 [o0, o1, o2, o3] [] I Q) (kf : s0 = 0 → Gx (jx_0 L) d md_X_walk 16 [o0, o1, o2, o3] [] I Q) : Gx (jx_0 L) d md_X_walk 13 [o0, o1, o2, o3] [.inl s0] I Q := by
  have hz1 := hz
  show jm_Go d 0 0 md_X_walk 13 [o0, o1, o2, o3] [.inl s0] (jx (jx_0 L) I) (jx_Q (jx_0 L) Q)
  have hd : jm_dc md_X_walk.2.1 13 [(.ifCond .ne 5, 3)] = true := by decide +kernel
  exact go_if_ne (by decide) hz1 hd kt kf
theorem b_X_walk_16 {L : Nat} {d : Nat} {I : jm_I} {Q : Option jm_V → jm_I → Prop} {o0 : Option jm_V} {o1 : Option jm_V} {o2 : Option jm_V} {o3 : Option jm_V}  (k : Q (some (.inl (-1))) I) : Gx (jx_0 L) d md_X_walk 16 [o0, o1, o2, o3] [] I Q := by
  show jm_Go d 0 0 md_X_walk 16 [o0, o1, o2, o3] [] (jx (jx_0 L) I) (jx_Q (jx_0 L) Q)
  have hd : jm_dc md_X_walk.2.1 16 [(.iconst (-1), 1), (.ireturn, 1)] = true := by decide +kernel
  refine go_iconst hd (fun hd => ?_)
  exact go_ireturn hd rfl ⟨_, rfl, k⟩
theorem b_X_walk_18 {L : Nat} {d : Nat} {I : jm_I} {Q : Option jm_V → jm_I → Prop} {x1 : Int} {x2 : Int} {o3 : Option jm_V} {c1 : Nat} (hD1 : I 1 0 = (c1 : Int)) (hc1 : jx_City (jx_0 L) c1) (hz : (0 ≤ x1 ∧ x1 < 5) ∧ (0 ≤ I 45 x1.toNat ∧ I 45 x1.toNat < 6) ∧ (0 ≤ x2 ∧ x2 < 6)) (k : Cx (jx_0 L) d md_X_isUp [.inr (.inl 1), .inl x1] I (fun v J => Gx (jx_0 L) (d + 1) md_X_walk 43 [some (.inr (.inl 1)), some (.inl x1), some (.inl x2), some (.inl (I (c1 + 14 + (I 45 x1.toNat).toNat) x2.toNat))] (v.toList ++ []) J Q)) : Gx (jx_0 L) (d + 1) md_X_walk 18 [some (.inr (.inl 1)), some (.inl x1), some (.inl x2), o3] [] I Q := by
  obtain ⟨hz1, hz2, hz3⟩ := hz
  show jm_Go (d + 1) 0 0 md_X_walk 18 [some (.inr (.inl 1)), some (.inl x1), some (.inl x2), o3] [] (jx (jx_0 L) I) (jx_Q (jx_0 L) Q)
  have hd : jm_dc md_X_walk.2.1 18 [(.aload_n 0, 1), (.getfield 12, 3), (.getfield 180, 3), (.aload_n 0, 1), (.getfield 33, 3), (.getfield 120, 3), (.iload_n 1, 1), (.iaload, 1), (.aaload, 1), (.iload_n 2, 1), (.iaload, 1), (.istore_n 3, 1), (.aload_n 0, 1), (.iload_n 1, 1), (.invokevirtual 170, 3)] = true := by decide +kernel
  refine go_aload_n rfl hd (fun hd => ?_)
  refine go_getD co_X8 fl_8_12 (by decide) rfl rfl hD1 (ct_pos hc1) hd (fun hd => ?_)
  refine go_getR co_X0 fl_8_180 (by decide) rfl (ct_K hc1) (ct_R12 hc1) hd (fun hd => ?_)
  refine go_aload_n rfl hd (fun hd => ?_)
  refine go_getR co_X8 fl_8_33 (by decide) rfl rfl rfl hd (fun hd => ?_)
  refine go_getR co_X5 fl_8_120 (by decide) rfl rfl rfl hd (fun hd => ?_)
  refine go_iload_n rfl hd (fun hd => ?_)
  refine go_iaload rfl hz1.1 hz1.2 (by decide) hd (fun hd => ?_)
  refine go_aaload (Or.inr (ct_S13 hc1)) hz2.1 hz2.2 (by decide) (ct_distI hc1 hz2.1 hz2.2) hd (fun hd => ?_)
  refine go_iload_n rfl hd (fun hd => ?_)
  refine go_iaload (ct_distS hc1 hz2.1 hz2.2) hz3.1 hz3.2 (by decide) hd (fun hd => ?_)
  refine go_istore_n (by decide) hd (fun hd => ?_)
  refine go_aload_n rfl hd (fun hd => ?_)
  refine go_iload_n rfl hd (fun hd => ?_)
  exact gx_virtual 1 8 [.inl x1] [] mk_X_isUp co_X8 rfl ml_8_170 in_X_isUp se_X_isUp rfl rfl (Nat.le_of_ble_eq_true rfl) rfl (Nat.le_of_ble_eq_true rfl) rfl hd k
theorem b_X_walk_43 {L : Nat} {d : Nat} {I : jm_I} {Q : Option jm_V → jm_I → Prop} {o0 : Option jm_V} {o1 : Option jm_V} {o2 : Option jm_V} {o3 : Option jm_V} {s0 : Int}  (hz : (-2147483648 ≤ s0 ∧ s0 < 2147483648)) (kt : s0 = 0 → Gx (jx_0 L) d md_X_walk 59 [o0, o1, o2, o3] [] I Q) (kf : ¬ s0 = 0 → Gx (jx_0 L) d md_X_walk 46 [o0, o1, o2, o3] [] I Q) : Gx (jx_0 L) d md_X_walk 43 [o0, o1, o2, o3] [.inl s0] I Q := by
  have hz1 := hz
  show jm_Go d 0 0 md_X_walk 43 [o0, o1, o2, o3] [.inl s0] (jx (jx_0 L) I) (jx_Q (jx_0 L) Q)
  have hd : jm_dc md_X_walk.2.1 43 [(.ifCond .eq 16, 3)] = true := by decide +kernel
  exact go_if_eq (by decide) hz1 hd kt kf
theorem b_X_walk_46 {L : Nat} {d : Nat} {I : jm_I} {Q : Option jm_V → jm_I → Prop} {x1 : Int} {o2 : Option jm_V} {x3 : Int}  (hz : (0 ≤ x1 ∧ x1 < 5) ∧ (-2147483648 ≤ x3 ∧ x3 < 2147483648) ∧ (-2147483648 ≤ I 47 x1.toNat ∧ I 47 x1.toNat < 2147483648)) (kt : x3 ≤ (I 47 x1.toNat) → Gx (jx_0 L) d md_X_walk 62 [some (.inr (.inl 1)), some (.inl x1), o2, some (.inl x3)] [] I Q) (kf : ¬ (x3 ≤ (I 47 x1.toNat)) → Gx (jx_0 L) d md_X_walk 59 [some (.inr (.inl 1)), some (.inl x1), o2, some (.inl x3)] [] I Q) : Gx (jx_0 L) d md_X_walk 46 [some (.inr (.inl 1)), some (.inl x1), o2, some (.inl x3)] [] I Q := by
  obtain ⟨hz1, hz2, hz3⟩ := hz
  show jm_Go d 0 0 md_X_walk 46 [some (.inr (.inl 1)), some (.inl x1), o2, some (.inl x3)] [] (jx (jx_0 L) I) (jx_Q (jx_0 L) Q)
  have hd : jm_dc md_X_walk.2.1 46 [(.iload_n 3, 1), (.aload_n 0, 1), (.getfield 33, 3), (.getfield 129, 3), (.iload_n 1, 1), (.iaload, 1), (.if_icmp .le 6, 3)] = true := by decide +kernel
  refine go_iload_n rfl hd (fun hd => ?_)
  refine go_aload_n rfl hd (fun hd => ?_)
  refine go_getR co_X8 fl_8_33 (by decide) rfl rfl rfl hd (fun hd => ?_)
  refine go_getR co_X5 fl_8_129 (by decide) rfl rfl rfl hd (fun hd => ?_)
  refine go_iload_n rfl hd (fun hd => ?_)
  refine go_iaload rfl hz1.1 hz1.2 (by decide) hd (fun hd => ?_)
  exact go_icmp_le (by decide) hz2 hz3 hd kt kf
theorem b_X_walk_59 {L : Nat} {d : Nat} {I : jm_I} {Q : Option jm_V → jm_I → Prop} {o0 : Option jm_V} {o1 : Option jm_V} {o2 : Option jm_V} {o3 : Option jm_V}  (k : Q (some (.inl (-2))) I) : Gx (jx_0 L) d md_X_walk 59 [o0, o1, o2, o3] [] I Q := by
  show jm_Go d 0 0 md_X_walk 59 [o0, o1, o2, o3] [] (jx (jx_0 L) I) (jx_Q (jx_0 L) Q)
  have hd : jm_dc md_X_walk.2.1 59 [(.bipush (-2), 2), (.ireturn, 1)] = true := by decide +kernel
  refine go_bipush (by decide) hd (fun hd => ?_)
  exact go_ireturn hd rfl ⟨_, rfl, k⟩
theorem b_X_walk_62 {L : Nat} {d : Nat} {I : jm_I} {Q : Option jm_V → jm_I → Prop} {o1 : Option jm_V} {o2 : Option jm_V} {o3 : Option jm_V}  (k : Cx (jx_0 L) d md_History_remember [.inr (.inl 49), .inr (.inl 44)] I (fun v J => Gx (jx_0 L) (d + 1) md_X_walk 73 [some (.inr (.inl 1)), o1, o2, o3] (v.toList ++ []) J Q)) : Gx (jx_0 L) (d + 1) md_X_walk 62 [some (.inr (.inl 1)), o1, o2, o3] [] I Q := by
  show jm_Go (d + 1) 0 0 md_X_walk 62 [some (.inr (.inl 1)), o1, o2, o3] [] (jx (jx_0 L) I) (jx_Q (jx_0 L) Q)
  have hd : jm_dc md_X_walk.2.1 62 [(.aload_n 0, 1), (.getfield 40, 3), (.aload_n 0, 1), (.getfield 33, 3), (.invokevirtual 152, 3)] = true := by decide +kernel
  refine go_aload_n rfl hd (fun hd => ?_)
  refine go_getR co_X8 fl_8_40 (by decide) rfl rfl rfl hd (fun hd => ?_)
  refine go_aload_n rfl hd (fun hd => ?_)
  refine go_getR co_X8 fl_8_33 (by decide) rfl rfl rfl hd (fun hd => ?_)
  exact gx_virtual 49 4 [.inr (.inl 44)] [] mk_History_remember co_X4 rfl ml_8_152 in_History_remember se_History_remember rfl rfl (Nat.le_of_ble_eq_true rfl) rfl (Nat.le_of_ble_eq_true rfl) rfl hd k
theorem b_X_walk_73 {L : Nat} {d : Nat} {I : jm_I} {Q : Option jm_V → jm_I → Prop} {x1 : Int} {x2 : Int} {x3 : Int}  (k : Cx (jx_0 L) d md_X_moveTo [.inr (.inl 1), .inl x1, .inl x2, .inl x3] I (fun v J => Gx (jx_0 L) (d + 1) md_X_walk 80 [some (.inr (.inl 1)), some (.inl x1), some (.inl x2), some (.inl x3)] (v.toList ++ []) J Q)) : Gx (jx_0 L) (d + 1) md_X_walk 73 [some (.inr (.inl 1)), some (.inl x1), some (.inl x2), some (.inl x3)] [] I Q := by
  show jm_Go (d + 1) 0 0 md_X_walk 73 [some (.inr (.inl 1)), some (.inl x1), some (.inl x2), some (.inl x3)] [] (jx (jx_0 L) I) (jx_Q (jx_0 L) Q)
  have hd : jm_dc md_X_walk.2.1 73 [(.aload_n 0, 1), (.iload_n 1, 1), (.iload_n 2, 1), (.iload_n 3, 1), (.invokevirtual 177, 3)] = true := by decide +kernel
  refine go_aload_n rfl hd (fun hd => ?_)
  refine go_iload_n rfl hd (fun hd => ?_)
  refine go_iload_n rfl hd (fun hd => ?_)
  refine go_iload_n rfl hd (fun hd => ?_)
  exact gx_virtual 1 8 [.inl x1, .inl x2, .inl x3] [] mk_X_moveTo co_X8 rfl ml_8_177 in_X_moveTo se_X_moveTo rfl rfl (Nat.le_of_ble_eq_true rfl) rfl (Nat.le_of_ble_eq_true rfl) rfl hd k
theorem b_X_walk_80 {L : Nat} {d : Nat} {I : jm_I} {Q : Option jm_V → jm_I → Prop} {o0 : Option jm_V} {o1 : Option jm_V} {o2 : Option jm_V} {o3 : Option jm_V} {s0 : Int}  (k : Q (some (.inl s0)) I) : Gx (jx_0 L) d md_X_walk 80 [o0, o1, o2, o3] [.inl s0] I Q := by
  show jm_Go d 0 0 md_X_walk 80 [o0, o1, o2, o3] [.inl s0] (jx (jx_0 L) I) (jx_Q (jx_0 L) Q)
  have hd : jm_dc md_X_walk.2.1 80 [(.ireturn, 1)] = true := by decide +kernel
  exact go_ireturn hd rfl ⟨_, rfl, k⟩
theorem b_X_undo_0 {L : Nat} {d : Nat} {I : jm_I} {Q : Option jm_V → jm_I → Prop}   (hz : (-2147483648 ≤ I 49 2 ∧ I 49 2 < 2147483648)) (kt : ¬ (I 49 2) = 0 → Gx (jx_0 L) d md_X_undo 13 [some (.inr (.inl 1))] [] I Q) (kf : (I 49 2) = 0 → Gx (jx_0 L) d md_X_undo 10 [some (.inr (.inl 1))] [] I Q) : Cx (jx_0 L) d md_X_undo [.inr (.inl 1)] I Q := by
  have hz1 := hz
  show jm_Go d 0 0 md_X_undo 0 [some (.inr (.inl 1))] [] (jx (jx_0 L) I) (jx_Q (jx_0 L) Q)
  have hd : jm_dc md_X_undo.2.1 0 [(.aload_n 0, 1), (.getfield 40, 3), (.getfield 101, 3), (.ifCond .ne 6, 3)] = true := by decide +kernel
  refine go_aload_n rfl hd (fun hd => ?_)
  refine go_getR co_X8 fl_8_40 (by decide) rfl rfl rfl hd (fun hd => ?_)
  refine go_getI co_X4 fl_8_101 (by decide) (Or.inl rfl) rfl hd (fun hd => ?_)
  exact go_if_ne (by decide) hz1 hd kt kf
theorem b_X_undo_10 {L : Nat} {d : Nat} {I : jm_I} {Q : Option jm_V → jm_I → Prop} {o0 : Option jm_V}  (k : Q (some (.inl (-2))) I) : Gx (jx_0 L) d md_X_undo 10 [o0] [] I Q := by
  show jm_Go d 0 0 md_X_undo 10 [o0] [] (jx (jx_0 L) I) (jx_Q (jx_0 L) Q)
  have hd : jm_dc md_X_undo.2.1 10 [(.bipush (-2), 2), (.ireturn, 1)] = true := by decide +kernel
  refine go_bipush (by decide) hd (fun hd => ?_)
  exact go_ireturn hd rfl ⟨_, rfl, k⟩
theorem b_X_undo_13 {L : Nat} {d : Nat} {I : jm_I} {Q : Option jm_V → jm_I → Prop}   (k : Cx (jx_0 L) d md_History_recallInto [.inr (.inl 49), .inr (.inl 44)] I (fun v J => Gx (jx_0 L) (d + 1) md_X_undo 24 [some (.inr (.inl 1))] (v.toList ++ []) J Q)) : Gx (jx_0 L) (d + 1) md_X_undo 13 [some (.inr (.inl 1))] [] I Q := by
  show jm_Go (d + 1) 0 0 md_X_undo 13 [some (.inr (.inl 1))] [] (jx (jx_0 L) I) (jx_Q (jx_0 L) Q)
  have hd : jm_dc md_X_undo.2.1 13 [(.aload_n 0, 1), (.getfield 40, 3), (.aload_n 0, 1), (.getfield 33, 3), (.invokevirtual 184, 3)] = true := by decide +kernel
  refine go_aload_n rfl hd (fun hd => ?_)
  refine go_getR co_X8 fl_8_40 (by decide) rfl rfl rfl hd (fun hd => ?_)
  refine go_aload_n rfl hd (fun hd => ?_)
  refine go_getR co_X8 fl_8_33 (by decide) rfl rfl rfl hd (fun hd => ?_)
  exact gx_virtual 49 4 [.inr (.inl 44)] [] mk_History_recallInto co_X4 rfl ml_8_184 in_History_recallInto se_History_recallInto rfl rfl (Nat.le_of_ble_eq_true rfl) rfl (Nat.le_of_ble_eq_true rfl) rfl hd k
theorem b_X_undo_24 {L : Nat} {d : Nat} {I : jm_I} {Q : Option jm_V → jm_I → Prop}   (k : Q (some (.inl (I 49 2))) I) : Gx (jx_0 L) d md_X_undo 24 [some (.inr (.inl 1))] [] I Q := by
  show jm_Go d 0 0 md_X_undo 24 [some (.inr (.inl 1))] [] (jx (jx_0 L) I) (jx_Q (jx_0 L) Q)
  have hd : jm_dc md_X_undo.2.1 24 [(.aload_n 0, 1), (.getfield 40, 3), (.getfield 101, 3), (.ireturn, 1)] = true := by decide +kernel
  refine go_aload_n rfl hd (fun hd => ?_)
  refine go_getR co_X8 fl_8_40 (by decide) rfl rfl rfl hd (fun hd => ?_)
  refine go_getI co_X4 fl_8_101 (by decide) (Or.inl rfl) rfl hd (fun hd => ?_)
  exact go_ireturn hd rfl ⟨_, rfl, k⟩
theorem b_X_where_0 {L : Nat} {d : Nat} {I : jm_I} {Q : Option jm_V → jm_I → Prop} {x1 : Int} {x2 : Int}  (k : Cx (jx_0 L) d md_X_isThing [.inr (.inl 1), .inl x1] I (fun v J => Gx (jx_0 L) (d + 1) md_X_where 5 [some (.inr (.inl 1)), some (.inl x1), some (.inl x2)] (v.toList ++ []) J Q)) : Cx (jx_0 L) (d + 1) md_X_where [.inr (.inl 1), .inl x1, .inl x2] I Q := by
  show jm_Go (d + 1) 0 0 md_X_where 0 [some (.inr (.inl 1)), some (.inl x1), some (.inl x2)] [] (jx (jx_0 L) I) (jx_Q (jx_0 L) Q)
  have hd : jm_dc md_X_where.2.1 0 [(.aload_n 0, 1), (.iload_n 1, 1), (.invokevirtual 132, 3)] = true := by decide +kernel
  refine go_aload_n rfl hd (fun hd => ?_)
  refine go_iload_n rfl hd (fun hd => ?_)
  exact gx_virtual 1 8 [.inl x1] [] mk_X_isThing co_X8 rfl ml_8_132 in_X_isThing se_X_isThing rfl rfl (Nat.le_of_ble_eq_true rfl) rfl (Nat.le_of_ble_eq_true rfl) rfl hd k
theorem b_X_where_5 {L : Nat} {d : Nat} {I : jm_I} {Q : Option jm_V → jm_I → Prop} {o0 : Option jm_V} {o1 : Option jm_V} {o2 : Option jm_V} {s0 : Int}  (hz : (-2147483648 ≤ s0 ∧ s0 < 2147483648)) (kt : s0 = 0 → Gx (jx_0 L) d md_X_where 18 [o0, o1, o2] [] I Q) (kf : ¬ s0 = 0 → Gx (jx_0 L) d md_X_where 8 [o0, o1, o2] [] I Q) : Gx (jx_0 L) d md_X_where 5 [o0, o1, o2] [.inl s0] I Q := by
  have hz1 := hz
  show jm_Go d 0 0 md_X_where 5 [o0, o1, o2] [.inl s0] (jx (jx_0 L) I) (jx_Q (jx_0 L) Q)
  have hd : jm_dc md_X_where.2.1 5 [(.ifCond .eq 13, 3)] = true := by decide +kernel
  exact go_if_eq (by decide) hz1 hd kt kf
theorem b_X_where_8 {L : Nat} {d : Nat} {I : jm_I} {Q : Option jm_V → jm_I → Prop} {o0 : Option jm_V} {o1 : Option jm_V} {x2 : Int}  (k : Cx (jx_0 L) d md_X_within [.inl x2, .inl 0, .inl 100] I (fun v J => Gx (jx_0 L) (d + 1) md_X_where 15 [o0, o1, some (.inl x2)] (v.toList ++ []) J Q)) : Gx (jx_0 L) (d + 1) md_X_where 8 [o0, o1, some (.inl x2)] [] I Q := by
  show jm_Go (d + 1) 0 0 md_X_where 8 [o0, o1, some (.inl x2)] [] (jx (jx_0 L) I) (jx_Q (jx_0 L) Q)
  have hd : jm_dc md_X_where.2.1 8 [(.iload_n 2, 1), (.iconst 0, 1), (.bipush 100, 2), (.invokestatic 86, 3)] = true := by decide +kernel
  refine go_iload_n rfl hd (fun hd => ?_)
  refine go_iconst hd (fun hd => ?_)
  refine go_bipush (by decide) hd (fun hd => ?_)
  exact gx_static [.inl x2, .inl 0, .inl 100] [] mk_X_within ml_8_86 st_X_within rfl (Nat.le_of_ble_eq_true rfl) rfl (Nat.le_of_ble_eq_true rfl) rfl hd k
theorem b_X_where_15 {L : Nat} {d : Nat} {I : jm_I} {Q : Option jm_V → jm_I → Prop} {o0 : Option jm_V} {o1 : Option jm_V} {o2 : Option jm_V} {s0 : Int}  (hz : (-2147483648 ≤ s0 ∧ s0 < 2147483648)) (kt : ¬ s0 = 0 → Gx (jx_0 L) d md_X_where 20 [o0, o1, o2] [] I Q) (kf : s0 = 0 → Gx (jx_0 L) d md_X_where 18 [o0, o1, o2] [] I Q) : Gx (jx_0 L) d md_X_where 15 [o0, o1, o2] [.inl s0] I Q := by
  have hz1 := hz
  show jm_Go d 0 0 md_X_where 15 [o0, o1, o2] [.inl s0] (jx (jx_0 L) I) (jx_Q (jx_0 L) Q)
  have hd : jm_dc md_X_where.2.1 15 [(.ifCond .ne 5, 3)] = true := by decide +kernel
  exact go_if_ne (by decide) hz1 hd kt kf
theorem b_X_where_18 {L : Nat} {d : Nat} {I : jm_I} {Q : Option jm_V → jm_I → Prop} {o0 : Option jm_V} {o1 : Option jm_V} {o2 : Option jm_V}  (k : Q (some (.inl (-1))) I) : Gx (jx_0 L) d md_X_where 18 [o0, o1, o2] [] I Q := by
  show jm_Go d 0 0 md_X_where 18 [o0, o1, o2] [] (jx (jx_0 L) I) (jx_Q (jx_0 L) Q)
  have hd : jm_dc md_X_where.2.1 18 [(.iconst (-1), 1), (.ireturn, 1)] = true := by decide +kernel
  refine go_iconst hd (fun hd => ?_)
  exact go_ireturn hd rfl ⟨_, rfl, k⟩
theorem b_X_where_20 {L : Nat} {d : Nat} {I : jm_I} {Q : Option jm_V → jm_I → Prop} {x1 : Int} {x2 : Int} {c1 : Nat} (hD1 : I 1 0 = (c1 : Int)) (hc1 : jx_City (jx_0 L) c1) (hz : (0 ≤ x1 ∧ x1 < 5)) (k : Cx (jx_0 L) d md_City_roomIn [.inr (.inl c1), .inl x1, .inl (I 48 x1.toNat), .inl x2] I (fun v J => Gx (jx_0 L) (d + 1) md_X_where 38 [some (.inr (.inl 1)), some (.inl x1), some (.inl x2)] (v.toList ++ []) J Q)) : Gx (jx_0 L) (d + 1) md_X_where 20 [some (.inr (.inl 1)), some (.inl x1), some (.inl x2)] [] I Q := by
  have hz1 := hz
  show jm_Go (d + 1) 0 0 md_X_where 20 [some (.inr (.inl 1)), some (.inl x1), some (.inl x2)] [] (jx (jx_0 L) I) (jx_Q (jx_0 L) Q)
  have hd : jm_dc md_X_where.2.1 20 [(.aload_n 0, 1), (.getfield 12, 3), (.iload_n 1, 1), (.aload_n 0, 1), (.getfield 33, 3), (.getfield 139, 3), (.iload_n 1, 1), (.iaload, 1), (.iload_n 2, 1), (.invokevirtual 187, 3)] = true := by decide +kernel
  refine go_aload_n rfl hd (fun hd => ?_)
  refine go_getD co_X8 fl_8_12 (by decide) rfl rfl hD1 (ct_pos hc1) hd (fun hd => ?_)
  refine go_iload_n rfl hd (fun hd => ?_)
  refine go_aload_n rfl hd (fun hd => ?_)
  refine go_getR co_X8 fl_8_33 (by decide) rfl rfl rfl hd (fun hd => ?_)
  refine go_getR co_X5 fl_8_139 (by decide) rfl rfl rfl hd (fun hd => ?_)
  refine go_iload_n rfl hd (fun hd => ?_)
  refine go_iaload rfl hz1.1 hz1.2 (by decide) hd (fun hd => ?_)
  refine go_iload_n rfl hd (fun hd => ?_)
  exact gx_virtual c1 0 [.inl x1, .inl (I 48 x1.toNat), .inl x2] [] mk_City_roomIn co_X0 rfl ml_8_187 in_City_roomIn se_City_roomIn (ct_K hc1) rfl (Nat.le_of_ble_eq_true rfl) rfl (Nat.le_of_ble_eq_true rfl) rfl hd k
theorem b_X_where_38 {L : Nat} {d : Nat} {I : jm_I} {Q : Option jm_V → jm_I → Prop} {o0 : Option jm_V} {o1 : Option jm_V} {o2 : Option jm_V} {s0 : Int}  (k : Q (some (.inl s0)) I) : Gx (jx_0 L) d md_X_where 38 [o0, o1, o2] [.inl s0] I Q := by
  show jm_Go d 0 0 md_X_where 38 [o0, o1, o2] [.inl s0] (jx (jx_0 L) I) (jx_Q (jx_0 L) Q)
  have hd : jm_dc md_X_where.2.1 38 [(.ireturn, 1)] = true := by decide +kernel
  exact go_ireturn hd rfl ⟨_, rfl, k⟩
theorem b_X_upon_0 {L : Nat} {d : Nat} {I : jm_I} {Q : Option jm_V → jm_I → Prop} {x1 : Int} {x2 : Int}  (k : Cx (jx_0 L) d md_X_isThing [.inr (.inl 1), .inl x1] I (fun v J => Gx (jx_0 L) (d + 1) md_X_upon 5 [some (.inr (.inl 1)), some (.inl x1), some (.inl x2), none] (v.toList ++ []) J Q)) : Cx (jx_0 L) (d + 1) md_X_upon [.inr (.inl 1), .inl x1, .inl x2] I Q := by
  show jm_Go (d + 1) 0 0 md_X_upon 0 [some (.inr (.inl 1)), some (.inl x1), some (.inl x2), none] [] (jx (jx_0 L) I) (jx_Q (jx_0 L) Q)
  have hd : jm_dc md_X_upon.2.1 0 [(.aload_n 0, 1), (.iload_n 1, 1), (.invokevirtual 132, 3)] = true := by decide +kernel
  refine go_aload_n rfl hd (fun hd => ?_)
  refine go_iload_n rfl hd (fun hd => ?_)
  exact gx_virtual 1 8 [.inl x1] [] mk_X_isThing co_X8 rfl ml_8_132 in_X_isThing se_X_isThing rfl rfl (Nat.le_of_ble_eq_true rfl) rfl (Nat.le_of_ble_eq_true rfl) rfl hd k
theorem b_X_upon_5 {L : Nat} {d : Nat} {I : jm_I} {Q : Option jm_V → jm_I → Prop} {o0 : Option jm_V} {o1 : Option jm_V} {o2 : Option jm_V} {o3 : Option jm_V} {s0 : Int}  (hz : (-2147483648 ≤ s0 ∧ s0 < 2147483648)) (kt : s0 = 0 → Gx (jx_0 L) d md_X_upon 16 [o0, o1, o2, o3] [] I Q) (kf : ¬ s0 = 0 → Gx (jx_0 L) d md_X_upon 8 [o0, o1, o2, o3] [] I Q) : Gx (jx_0 L) d md_X_upon 5 [o0, o1, o2, o3] [.inl s0] I Q := by
  have hz1 := hz
  show jm_Go d 0 0 md_X_upon 5 [o0, o1, o2, o3] [.inl s0] (jx (jx_0 L) I) (jx_Q (jx_0 L) Q)
  have hd : jm_dc md_X_upon.2.1 5 [(.ifCond .eq 11, 3)] = true := by decide +kernel
  exact go_if_eq (by decide) hz1 hd kt kf
theorem b_X_upon_8 {L : Nat} {d : Nat} {I : jm_I} {Q : Option jm_V → jm_I → Prop} {o1 : Option jm_V} {x2 : Int} {o3 : Option jm_V}  (k : Cx (jx_0 L) d md_X_isPerson [.inr (.inl 1), .inl x2] I (fun v J => Gx (jx_0 L) (d + 1) md_X_upon 13 [some (.inr (.inl 1)), o1, some (.inl x2), o3] (v.toList ++ []) J Q)) : Gx (jx_0 L) (d + 1) md_X_upon 8 [some (.inr (.inl 1)), o1, some (.inl x2), o3] [] I Q := by
  show jm_Go (d + 1) 0 0 md_X_upon 8 [some (.inr (.inl 1)), o1, some (.inl x2), o3] [] (jx (jx_0 L) I) (jx_Q (jx_0 L) Q)
  have hd : jm_dc md_X_upon.2.1 8 [(.aload_n 0, 1), (.iload_n 2, 1), (.invokevirtual 116, 3)] = true := by decide +kernel
  refine go_aload_n rfl hd (fun hd => ?_)
  refine go_iload_n rfl hd (fun hd => ?_)
  exact gx_virtual 1 8 [.inl x2] [] mk_X_isPerson co_X8 rfl ml_8_116 in_X_isPerson se_X_isPerson rfl rfl (Nat.le_of_ble_eq_true rfl) rfl (Nat.le_of_ble_eq_true rfl) rfl hd k
theorem b_X_upon_13 {L : Nat} {d : Nat} {I : jm_I} {Q : Option jm_V → jm_I → Prop} {o0 : Option jm_V} {o1 : Option jm_V} {o2 : Option jm_V} {o3 : Option jm_V} {s0 : Int}  (hz : (-2147483648 ≤ s0 ∧ s0 < 2147483648)) (kt : ¬ s0 = 0 → Gx (jx_0 L) d md_X_upon 18 [o0, o1, o2, o3] [] I Q) (kf : s0 = 0 → Gx (jx_0 L) d md_X_upon 16 [o0, o1, o2, o3] [] I Q) : Gx (jx_0 L) d md_X_upon 13 [o0, o1, o2, o3] [.inl s0] I Q := by
  have hz1 := hz
  show jm_Go d 0 0 md_X_upon 13 [o0, o1, o2, o3] [.inl s0] (jx (jx_0 L) I) (jx_Q (jx_0 L) Q)
  have hd : jm_dc md_X_upon.2.1 13 [(.ifCond .ne 5, 3)] = true := by decide +kernel
  exact go_if_ne (by decide) hz1 hd kt kf
theorem b_X_upon_16 {L : Nat} {d : Nat} {I : jm_I} {Q : Option jm_V → jm_I → Prop} {o0 : Option jm_V} {o1 : Option jm_V} {o2 : Option jm_V} {o3 : Option jm_V}  (k : Q (some (.inl (-1))) I) : Gx (jx_0 L) d md_X_upon 16 [o0, o1, o2, o3] [] I Q := by
  show jm_Go d 0 0 md_X_upon 16 [o0, o1, o2, o3] [] (jx (jx_0 L) I) (jx_Q (jx_0 L) Q)
  have hd : jm_dc md_X_upon.2.1 16 [(.iconst (-1), 1), (.ireturn, 1)] = true := by decide +kernel
  refine go_iconst hd (fun hd => ?_)
  exact go_ireturn hd rfl ⟨_, rfl, k⟩
theorem b_X_upon_18 {L : Nat} {d : Nat} {I : jm_I} {Q : Option jm_V → jm_I → Prop} {o0 : Option jm_V} {o1 : Option jm_V} {o2 : Option jm_V} {o3 : Option jm_V}  (k : Gx (jx_0 L) d md_X_upon 20 [o0, o1, o2, some (.inl 0)] [] I Q) : Gx (jx_0 L) d md_X_upon 18 [o0, o1, o2, o3] [] I Q := by
  show jm_Go d 0 0 md_X_upon 18 [o0, o1, o2, o3] [] (jx (jx_0 L) I) (jx_Q (jx_0 L) Q)
  have hd : jm_dc md_X_upon.2.1 18 [(.iconst 0, 1), (.istore_n 3, 1)] = true := by decide +kernel
  refine go_iconst hd (fun hd => ?_)
  refine go_istore_n (by decide) hd (fun hd => ?_)
  exact k
theorem b_X_upon_20 {L : Nat} {d : Nat} {I : jm_I} {Q : Option jm_V → jm_I → Prop} {o0 : Option jm_V} {o1 : Option jm_V} {o2 : Option jm_V} {x3 : Int}  (hz : (-2147483648 ≤ x3 ∧ x3 < 2147483648)) (kt : 20 < x3 → Gx (jx_0 L) d md_X_upon 64 [o0, o1, o2, some (.inl x3)] [] I Q) (kf : ¬ (20 < x3) → Gx (jx_0 L) d md_X_upon 26 [o0, o1, o2, some (.inl x3)] [] I Q) : Gx (jx_0 L) d md_X_upon 20 [o0, o1, o2, some (.inl x3)] [] I Q := by
  have hz1 := hz
  show jm_Go d 0 0 md_X_upon 20 [o0, o1, o2, some (.inl x3)] [] (jx (jx_0 L) I) (jx_Q (jx_0 L) Q)
  have hd : jm_dc md_X_upon.2.1 20 [(.iload_n 3, 1), (.bipush 20, 2), (.if_icmp .gt 41, 3)] = true := by decide +kernel
  refine go_iload_n rfl hd (fun hd => ?_)
  refine go_bipush (by decide) hd (fun hd => ?_)
  exact go_icmp_gt (by decide) hz1 ⟨by decide, by decide⟩ hd kt kf
theorem b_X_upon_26 {L : Nat} {d : Nat} {I : jm_I} {Q : Option jm_V → jm_I → Prop} {x1 : Int} {o2 : Option jm_V} {x3 : Int} {c1 : Nat} (hD1 : I 1 0 = (c1 : Int)) (hc1 : jx_City (jx_0 L) c1) (hz : (0 ≤ x1 ∧ x1 < 5)) (k : Cx (jx_0 L) d md_City_roomIn [.inr (.inl c1), .inl x1, .inl (I 48 x1.toNat), .inl x3] I (fun v J => Gx (jx_0 L) (d + 1) md_X_upon 44 [some (.inr (.inl 1)), some (.inl x1), o2, some (.inl x3)] (v.toList ++ []) J Q)) : Gx (jx_0 L) (d + 1) md_X_upon 26 [some (.inr (.inl 1)), some (.inl x1), o2, some (.inl x3)] [] I Q := by
  have hz1 := hz
  show jm_Go (d + 1) 0 0 md_X_upon 26 [some (.inr (.inl 1)), some (.inl x1), o2, some (.inl x3)] [] (jx (jx_0 L) I) (jx_Q (jx_0 L) Q)
  have hd : jm_dc md_X_upon.2.1 26 [(.aload_n 0, 1), (.getfield 12, 3), (.iload_n 1, 1), (.aload_n 0, 1), (.getfield 33, 3), (.getfield 139, 3), (.iload_n 1, 1), (.iaload, 1), (.iload_n 3, 1), (.invokevirtual 187, 3)] = true := by decide +kernel
  refine go_aload_n rfl hd (fun hd => ?_)
  refine go_getD co_X8 fl_8_12 (by decide) rfl rfl hD1 (ct_pos hc1) hd (fun hd => ?_)
  refine go_iload_n rfl hd (fun hd => ?_)
  refine go_aload_n rfl hd (fun hd => ?_)
  refine go_getR co_X8 fl_8_33 (by decide) rfl rfl rfl hd (fun hd => ?_)
  refine go_getR co_X5 fl_8_139 (by decide) rfl rfl rfl hd (fun hd => ?_)
  refine go_iload_n rfl hd (fun hd => ?_)
  refine go_iaload rfl hz1.1 hz1.2 (by decide) hd (fun hd => ?_)
  refine go_iload_n rfl hd (fun hd => ?_)
  exact gx_virtual c1 0 [.inl x1, .inl (I 48 x1.toNat), .inl x3] [] mk_City_roomIn co_X0 rfl ml_8_187 in_City_roomIn se_City_roomIn (ct_K hc1) rfl (Nat.le_of_ble_eq_true rfl) rfl (Nat.le_of_ble_eq_true rfl) rfl hd k
theorem b_X_upon_44 {L : Nat} {d : Nat} {I : jm_I} {Q : Option jm_V → jm_I → Prop} {o1 : Option jm_V} {x2 : Int} {o3 : Option jm_V} {s0 : Int}  (hz : (0 ≤ x2 ∧ x2 < 5) ∧ (-2147483648 ≤ s0 ∧ s0 < 2147483648) ∧ (-2147483648 ≤ I 45 x2.toNat ∧ I 45 x2.toNat < 2147483648)) (kt : ¬ s0 = (I 45 x2.toNat) → Gx (jx_0 L) d md_X_upon 58 [some (.inr (.inl 1)), o1, some (.inl x2), o3] [] I Q) (kf : s0 = (I 45 x2.toNat) → Gx (jx_0 L) d md_X_upon 56 [some (.inr (.inl 1)), o1, some (.inl x2), o3] [] I Q) : Gx (jx_0 L) d md_X_upon 44 [some (.inr (.inl 1)), o1, some (.inl x2), o3] [.inl s0] I Q := by
  obtain ⟨hz1, hz2, hz3⟩ := hz
  show jm_Go d 0 0 md_X_upon 44 [some (.inr (.inl 1)), o1, some (.inl x2), o3] [.inl s0] (jx (jx_0 L) I) (jx_Q (jx_0 L) Q)
  have hd : jm_dc md_X_upon.2.1 44 [(.aload_n 0, 1), (.getfield 33, 3), (.getfield 120, 3), (.iload_n 2, 1), (.iaload, 1), (.if_icmp .ne 5, 3)] = true := by decide +kernel
  refine go_aload_n rfl hd (fun hd => ?_)
  refine go_getR co_X8 fl_8_33 (by decide) rfl rfl rfl hd (fun hd => ?_)
  refine go_getR co_X5 fl_8_120 (by decide) rfl rfl rfl hd (fun hd => ?_)
  refine go_iload_n rfl hd (fun hd => ?_)
  refine go_iaload rfl hz1.1 hz1.2 (by decide) hd (fun hd => ?_)
  exact go_icmp_ne (by decide) hz2 hz3 hd kt kf
theorem b_X_upon_56 {L : Nat} {d : Nat} {I : jm_I} {Q : Option jm_V → jm_I → Prop} {o0 : Option jm_V} {o1 : Option jm_V} {o2 : Option jm_V} {x3 : Int}  (k : Q (some (.inl x3)) I) : Gx (jx_0 L) d md_X_upon 56 [o0, o1, o2, some (.inl x3)] [] I Q := by
  show jm_Go d 0 0 md_X_upon 56 [o0, o1, o2, some (.inl x3)] [] (jx (jx_0 L) I) (jx_Q (jx_0 L) Q)
  have hd : jm_dc md_X_upon.2.1 56 [(.iload_n 3, 1), (.ireturn, 1)] = true := by decide +kernel
  refine go_iload_n rfl hd (fun hd => ?_)
  exact go_ireturn hd rfl ⟨_, rfl, k⟩
theorem b_X_upon_58 {L : Nat} {d : Nat} {I : jm_I} {Q : Option jm_V → jm_I → Prop} {o0 : Option jm_V} {o1 : Option jm_V} {o2 : Option jm_V} {x3 : Int}  (k : Gx (jx_0 L) d md_X_upon 20 [o0, o1, o2, some (.inl (x3 + 1))] [] I Q) : Gx (jx_0 L) d md_X_upon 58 [o0, o1, o2, some (.inl x3)] [] I Q := by
  show jm_Go d 0 0 md_X_upon 58 [o0, o1, o2, some (.inl x3)] [] (jx (jx_0 L) I) (jx_Q (jx_0 L) Q)
  have hd : jm_dc md_X_upon.2.1 58 [(.iinc 3 1, 3), (.goto (-41), 3)] = true := by decide +kernel
  refine go_iinc rfl hd (fun hd => ?_)
  exact go_goto (by decide) hd k
theorem b_X_upon_64 {L : Nat} {d : Nat} {I : jm_I} {Q : Option jm_V → jm_I → Prop} {o0 : Option jm_V} {o1 : Option jm_V} {o2 : Option jm_V} {o3 : Option jm_V}  (k : Q (some (.inl (-9))) I) : Gx (jx_0 L) d md_X_upon 64 [o0, o1, o2, o3] [] I Q := by
  show jm_Go d 0 0 md_X_upon 64 [o0, o1, o2, o3] [] (jx (jx_0 L) I) (jx_Q (jx_0 L) Q)
  have hd : jm_dc md_X_upon.2.1 64 [(.bipush (-9), 2), (.ireturn, 1)] = true := by decide +kernel
  refine go_bipush (by decide) hd (fun hd => ?_)
  exact go_ireturn hd rfl ⟨_, rfl, k⟩
theorem b_X_reach_0 {L : Nat} {d : Nat} {I : jm_I} {Q : Option jm_V → jm_I → Prop} {x1 : Int}  (k : Cx (jx_0 L) d md_X_isPerson [.inr (.inl 1), .inl x1] I (fun v J => Gx (jx_0 L) (d + 1) md_X_reach 5 [some (.inr (.inl 1)), some (.inl x1), none, none, none] (v.toList ++ []) J Q)) : Cx (jx_0 L) (d + 1) md_X_reach [.inr (.inl 1), .inl x1] I Q := by
  show jm_Go (d + 1) 0 0 md_X_reach 0 [some (.inr (.inl 1)), some (.inl x1), none, none, none] [] (jx (jx_0 L) I) (jx_Q (jx_0 L) Q)
  have hd : jm_dc md_X_reach.2.1 0 [(.aload_n 0, 1), (.iload_n 1, 1), (.invokevirtual 116, 3)] = true := by decide +kernel
  refine go_aload_n rfl hd (fun hd => ?_)
  refine go_iload_n rfl hd (fun hd => ?_)
  exact gx_virtual 1 8 [.inl x1] [] mk_X_isPerson co_X8 rfl ml_8_116 in_X_isPerson se_X_isPerson rfl rfl (Nat.le_of_ble_eq_true rfl) rfl (Nat.le_of_ble_eq_true rfl) rfl hd k
theorem b_X_reach_5 {L : Nat} {d : Nat} {I : jm_I} {Q : Option jm_V → jm_I → Prop} {o0 : Option jm_V} {o1 : Option jm_V} {o2 : Option jm_V} {o3 : Option jm_V} {o4 : Option jm_V} {s0 : Int}  (hz : (-2147483648 ≤ s0 ∧ s0 < 2147483648)) (kt : ¬ s0 = 0 → Gx (jx_0 L) d md_X_reach 10 [o0, o1, o2, o3, o4] [] I Q) (kf : s0 = 0 → Gx (jx_0 L) d md_X_reach 8 [o0, o1, o2, o3, o4] [] I Q) : Gx (jx_0 L) d md_X_reach 5 [o0, o1, o2, o3, o4] [.inl s0] I Q := by
  have hz1 := hz
  show jm_Go d 0 0 md_X_reach 5 [o0, o1, o2, o3, o4] [.inl s0] (jx (jx_0 L) I) (jx_Q (jx_0 L) Q)
  have hd : jm_dc md_X_reach.2.1 5 [(.ifCond .ne 5, 3)] = true := by decide +kernel
  exact go_if_ne (by decide) hz1 hd kt kf
theorem b_X_reach_8 {L : Nat} {d : Nat} {I : jm_I} {Q : Option jm_V → jm_I → Prop} {o0 : Option jm_V} {o1 : Option jm_V} {o2 : Option jm_V} {o3 : Option jm_V} {o4 : Option jm_V}  (k : Q (some (.inl (-1))) I) : Gx (jx_0 L) d md_X_reach 8 [o0, o1, o2, o3, o4] [] I Q := by
  show jm_Go d 0 0 md_X_reach 8 [o0, o1, o2, o3, o4] [] (jx (jx_0 L) I) (jx_Q (jx_0 L) Q)
  have hd : jm_dc md_X_reach.2.1 8 [(.iconst (-1), 1), (.ireturn, 1)] = true := by decide +kernel
  refine go_iconst hd (fun hd => ?_)
  exact go_ireturn hd rfl ⟨_, rfl, k⟩
theorem b_X_reach_10 {L : Nat} {d : Nat} {I : jm_I} {Q : Option jm_V → jm_I → Prop} {x1 : Int} {o2 : Option jm_V} {o3 : Option jm_V} {o4 : Option jm_V}  (k : Cx (jx_0 L) d md_X_isUp [.inr (.inl 1), .inl x1] I (fun v J => Gx (jx_0 L) (d + 1) md_X_reach 15 [some (.inr (.inl 1)), some (.inl x1), o2, o3, o4] (v.toList ++ []) J Q)) : Gx (jx_0 L) (d + 1) md_X_reach 10 [some (.inr (.inl 1)), some (.inl x1), o2, o3, o4] [] I Q := by
  show jm_Go (d + 1) 0 0 md_X_reach 10 [some (.inr (.inl 1)), some (.inl x1), o2, o3, o4] [] (jx (jx_0 L) I) (jx_Q (jx_0 L) Q)
  have hd : jm_dc md_X_reach.2.1 10 [(.aload_n 0, 1), (.iload_n 1, 1), (.invokevirtual 170, 3)] = true := by decide +kernel
  refine go_aload_n rfl hd (fun hd => ?_)
  refine go_iload_n rfl hd (fun hd => ?_)
  exact gx_virtual 1 8 [.inl x1] [] mk_X_isUp co_X8 rfl ml_8_170 in_X_isUp se_X_isUp rfl rfl (Nat.le_of_ble_eq_true rfl) rfl (Nat.le_of_ble_eq_true rfl) rfl hd k
theorem b_X_reach_15 {L : Nat} {d : Nat} {I : jm_I} {Q : Option jm_V → jm_I → Prop} {o0 : Option jm_V} {o1 : Option jm_V} {o2 : Option jm_V} {o3 : Option jm_V} {o4 : Option jm_V} {s0 : Int}  (hz : (-2147483648 ≤ s0 ∧ s0 < 2147483648)) (kt : s0 = 0 → Gx (jx_0 L) d md_X_reach 30 [o0, o1, o2, o3, o4] [] I Q) (kf : ¬ s0 = 0 → Gx (jx_0 L) d md_X_reach 18 [o0, o1, o2, o3, o4] [] I Q) : Gx (jx_0 L) d md_X_reach 15 [o0, o1, o2, o3, o4] [.inl s0] I Q := by
  have hz1 := hz
  show jm_Go d 0 0 md_X_reach 15 [o0, o1, o2, o3, o4] [.inl s0] (jx (jx_0 L) I) (jx_Q (jx_0 L) Q)
  have hd : jm_dc md_X_reach.2.1 15 [(.ifCond .eq 15, 3)] = true := by decide +kernel
  exact go_if_eq (by decide) hz1 hd kt kf
theorem b_X_reach_18 {L : Nat} {d : Nat} {I : jm_I} {Q : Option jm_V → jm_I → Prop} {x1 : Int} {o2 : Option jm_V} {o3 : Option jm_V} {o4 : Option jm_V}  (hz : (0 ≤ x1 ∧ x1 < 5)) (k : Gx (jx_0 L) d md_X_reach 37 [some (.inr (.inl 1)), some (.inl x1), o2, o3, o4] [.inl (I 47 x1.toNat)] I Q) : Gx (jx_0 L) d md_X_reach 18 [some (.inr (.inl 1)), some (.inl x1), o2, o3, o4] [] I Q := by
  have hz1 := hz
  show jm_Go d 0 0 md_X_reach 18 [some (.inr (.inl 1)), some (.inl x1), o2, o3, o4] [] (jx (jx_0 L) I) (jx_Q (jx_0 L) Q)
  have hd : jm_dc md_X_reach.2.1 18 [(.aload_n 0, 1), (.getfield 33, 3), (.getfield 129, 3), (.iload_n 1, 1), (.iaload, 1), (.goto 10, 3)] = true := by decide +kernel
  refine go_aload_n rfl hd (fun hd => ?_)
  refine go_getR co_X8 fl_8_33 (by decide) rfl rfl rfl hd (fun hd => ?_)
  refine go_getR co_X5 fl_8_129 (by decide) rfl rfl rfl hd (fun hd => ?_)
  refine go_iload_n rfl hd (fun hd => ?_)
  refine go_iaload rfl hz1.1 hz1.2 (by decide) hd (fun hd => ?_)
  exact go_goto (by decide) hd k
theorem b_X_reach_30 {L : Nat} {d : Nat} {I : jm_I} {Q : Option jm_V → jm_I → Prop} {o1 : Option jm_V} {o2 : Option jm_V} {o3 : Option jm_V} {o4 : Option jm_V} {c1 : Nat} (hD1 : I 1 0 = (c1 : Int)) (hc1 : jx_City (jx_0 L) c1) (k : Gx (jx_0 L) d md_X_reach 37 [some (.inr (.inl 1)), o1, o2, o3, o4] [.inl (I c1 1)] I Q) : Gx (jx_0 L) d md_X_reach 30 [some (.inr (.inl 1)), o1, o2, o3, o4] [] I Q := by
  show jm_Go d 0 0 md_X_reach 30 [some (.inr (.inl 1)), o1, o2, o3, o4] [] (jx (jx_0 L) I) (jx_Q (jx_0 L) Q)
  have hd : jm_dc md_X_reach.2.1 30 [(.aload_n 0, 1), (.getfield 12, 3), (.getfield 160, 3)] = true := by decide +kernel
  refine go_aload_n rfl hd (fun hd => ?_)
  refine go_getD co_X8 fl_8_12 (by decide) rfl rfl hD1 (ct_pos hc1) hd (fun hd => ?_)
  refine go_getI co_X0 fl_8_160 (by decide) (Or.inl rfl) (ct_K hc1) hd (fun hd => ?_)
  exact k
theorem b_X_reach_37 {L : Nat} {d : Nat} {I : jm_I} {Q : Option jm_V → jm_I → Prop} {o0 : Option jm_V} {o1 : Option jm_V} {o2 : Option jm_V} {o3 : Option jm_V} {o4 : Option jm_V} {s0 : Int}  (k : Gx (jx_0 L) d md_X_reach 43 [o0, o1, some (.inl s0), some (.inl 0), some (.inl 0)] [] I Q) : Gx (jx_0 L) d md_X_reach 37 [o0, o1, o2, o3, o4] [.inl s0] I Q := by
  show jm_Go d 0 0 md_X_reach 37 [o0, o1, o2, o3, o4] [.inl s0] (jx (jx_0 L) I) (jx_Q (jx_0 L) Q)
  have hd : jm_dc md_X_reach.2.1 37 [(.istore_n 2, 1), (.iconst 0, 1), (.istore_n 3, 1), (.iconst 0, 1), (.istore 4, 2)] = true := by decide +kernel
  refine go_istore_n (by decide) hd (fun hd => ?_)
  refine go_iconst hd (fun hd => ?_)
  refine go_istore_n (by decide) hd (fun hd => ?_)
  refine go_iconst hd (fun hd => ?_)
  refine go_istore (by decide) hd (fun hd => ?_)
  exact k
theorem b_X_reach_43 {L : Nat} {d : Nat} {I : jm_I} {Q : Option jm_V → jm_I → Prop} {o1 : Option jm_V} {o2 : Option jm_V} {o3 : Option jm_V} {x4 : Int} {c1 : Nat} (hD1 : I 1 0 = (c1 : Int)) (hc1 : jx_City (jx_0 L) c1) (hz : (-2147483648 ≤ x4 ∧ x4 < 2147483648) ∧ (-2147483648 ≤ I c1 0 ∧ I c1 0 < 2147483648)) (kt : (I c1 0) ≤ x4 → Gx (jx_0 L) d md_X_reach 92 [some (.inr (.inl 1)), o1, o2, o3, some (.inl x4)] [] I Q) (kf : ¬ ((I c1 0) ≤ x4) → Gx (jx_0 L) d md_X_reach 55 [some (.inr (.inl 1)), o1, o2, o3, some (.inl x4)] [] I Q) : Gx (jx_0 L) d md_X_reach 43 [some (.inr (.inl 1)), o1, o2, o3, some (.inl x4)] [] I Q := by
  obtain ⟨hz1, hz2⟩ := hz
  show jm_Go d 0 0 md_X_reach 43 [some (.inr (.inl 1)), o1, o2, o3, some (.inl x4)] [] (jx (jx_0 L) I) (jx_Q (jx_0 L) Q)
  have hd : jm_dc md_X_reach.2.1 43 [(.iload 4, 2), (.aload_n 0, 1), (.getfield 12, 3), (.getfield 190, 3), (.if_icmp .ge 40, 3)] = true := by decide +kernel
  refine go_iload rfl hd (fun hd => ?_)
  refine go_aload_n rfl hd (fun hd => ?_)
  refine go_getD co_X8 fl_8_12 (by decide) rfl rfl hD1 (ct_pos hc1) hd (fun hd => ?_)
  refine go_getI co_X0 fl_8_190 (by decide) (Or.inl rfl) (ct_K hc1) hd (fun hd => ?_)
  exact go_icmp_ge (by decide) hz1 hz2 hd kt kf
theorem b_X_reach_55 {L : Nat} {d : Nat} {I : jm_I} {Q : Option jm_V → jm_I → Prop} {x1 : Int} {x2 : Int} {o3 : Option jm_V} {x4 : Int} {c1 : Nat} (hD1 : I 1 0 = (c1 : Int)) (hc1 : jx_City (jx_0 L) c1) (hz : (0 ≤ x1 ∧ x1 < 5) ∧ (0 ≤ I 45 x1.toNat ∧ I 45 x1.toNat < 6) ∧ (0 ≤ x4 ∧ x4 < 6) ∧ (-2147483648 ≤ I (c1 + 14 + (I 45 x1.toNat).toNat) x4.toNat ∧ I (c1 + 14 + (I 45 x1.toNat).toNat) x4.toNat < 2147483648) ∧ (-2147483648 ≤ x2 ∧ x2 < 2147483648)) (kt : x2 < (I (c1 + 14 + (I 45 x1.toNat).toNat) x4.toNat) → Gx (jx_0 L) d md_X_reach 86 [some (.inr (.inl 1)), some (.inl x1), some (.inl x2), o3, some (.inl x4)] [] I Q) (kf : ¬ (x2 < (I (c1 + 14 + (I 45 x1.toNat).toNat) x4.toNat)) → Gx (jx_0 L) d md_X_reach 79 [some (.inr (.inl 1)), some (.inl x1), some (.inl x2), o3, some (.inl x4)] [] I Q) : Gx (jx_0 L) d md_X_reach 55 [some (.inr (.inl 1)), some (.inl x1), some (.inl x2), o3, some (.inl x4)] [] I Q := by
  obtain ⟨hz1, hz2, hz3, hz4, hz5⟩ := hz
  show jm_Go d 0 0 md_X_reach 55 [some (.inr (.inl 1)), some (.inl x1), some (.inl x2), o3, some (.inl x4)] [] (jx (jx_0 L) I) (jx_Q (jx_0 L) Q)
  have hd : jm_dc md_X_reach.2.1 55 [(.aload_n 0, 1), (.getfield 12, 3), (.getfield 180, 3), (.aload_n 0, 1), (.getfield 33, 3), (.getfield 120, 3), (.iload_n 1, 1), (.iaload, 1), (.aaload, 1), (.iload 4, 2), (.iaload, 1), (.iload_n 2, 1), (.if_icmp .gt 10, 3)] = true := by decide +kernel
  refine go_aload_n rfl hd (fun hd => ?_)
  refine go_getD co_X8 fl_8_12 (by decide) rfl rfl hD1 (ct_pos hc1) hd (fun hd => ?_)
  refine go_getR co_X0 fl_8_180 (by decide) rfl (ct_K hc1) (ct_R12 hc1) hd (fun hd => ?_)
  refine go_aload_n rfl hd (fun hd => ?_)
  refine go_getR co_X8 fl_8_33 (by decide) rfl rfl rfl hd (fun hd => ?_)
  refine go_getR co_X5 fl_8_120 (by decide) rfl rfl rfl hd (fun hd => ?_)
  refine go_iload_n rfl hd (fun hd => ?_)
  refine go_iaload rfl hz1.1 hz1.2 (by decide) hd (fun hd => ?_)
  refine go_aaload (Or.inr (ct_S13 hc1)) hz2.1 hz2.2 (by decide) (ct_distI hc1 hz2.1 hz2.2) hd (fun hd => ?_)
  refine go_iload rfl hd (fun hd => ?_)
  refine go_iaload (ct_distS hc1 hz2.1 hz2.2) hz3.1 hz3.2 (by decide) hd (fun hd => ?_)
  refine go_iload_n rfl hd (fun hd => ?_)
  exact go_icmp_gt (by decide) hz4 hz5 hd kt kf
theorem b_X_reach_79 {L : Nat} {d : Nat} {I : jm_I} {Q : Option jm_V → jm_I → Prop} {o0 : Option jm_V} {o1 : Option jm_V} {o2 : Option jm_V} {x3 : Int} {x4 : Int}  (k : Gx (jx_0 L) d md_X_reach 86 [o0, o1, o2, some (.inl (jb_or x3 (jb_shl 1 x4))), some (.inl x4)] [] I Q) : Gx (jx_0 L) d md_X_reach 79 [o0, o1, o2, some (.inl x3), some (.inl x4)] [] I Q := by
  show jm_Go d 0 0 md_X_reach 79 [o0, o1, o2, some (.inl x3), some (.inl x4)] [] (jx (jx_0 L) I) (jx_Q (jx_0 L) Q)
  have hd : jm_dc md_X_reach.2.1 79 [(.iload_n 3, 1), (.iconst 1, 1), (.iload 4, 2), (.ishl, 1), (.ior, 1), (.istore_n 3, 1)] = true := by decide +kernel
  refine go_iload_n rfl hd (fun hd => ?_)
  refine go_iconst hd (fun hd => ?_)
  refine go_iload rfl hd (fun hd => ?_)
  refine go_ishl hd (fun hd => ?_)
  refine go_ior hd (fun hd => ?_)
  refine go_istore_n (by decide) hd (fun hd => ?_)
  exact k
theorem b_X_reach_86 {L : Nat} {d : Nat} {I : jm_I} {Q : Option jm_V → jm_I → Prop} {o0 : Option jm_V} {o1 : Option jm_V} {o2 : Option jm_V} {o3 : Option jm_V} {x4 : Int}  (k : Gx (jx_0 L) d md_X_reach 43 [o0, o1, o2, o3, some (.inl (x4 + 1))] [] I Q) : Gx (jx_0 L) d md_X_reach 86 [o0, o1, o2, o3, some (.inl x4)] [] I Q := by
  show jm_Go d 0 0 md_X_reach 86 [o0, o1, o2, o3, some (.inl x4)] [] (jx (jx_0 L) I) (jx_Q (jx_0 L) Q)
  have hd : jm_dc md_X_reach.2.1 86 [(.iinc 4 1, 3), (.goto (-46), 3)] = true := by decide +kernel
  refine go_iinc rfl hd (fun hd => ?_)
  exact go_goto (by decide) hd k
theorem b_X_reach_92 {L : Nat} {d : Nat} {I : jm_I} {Q : Option jm_V → jm_I → Prop} {o0 : Option jm_V} {o1 : Option jm_V} {o2 : Option jm_V} {x3 : Int} {o4 : Option jm_V}  (k : Q (some (.inl x3)) I) : Gx (jx_0 L) d md_X_reach 92 [o0, o1, o2, some (.inl x3), o4] [] I Q := by
  show jm_Go d 0 0 md_X_reach 92 [o0, o1, o2, some (.inl x3), o4] [] (jx (jx_0 L) I) (jx_Q (jx_0 L) Q)
  have hd : jm_dc md_X_reach.2.1 92 [(.iload_n 3, 1), (.ireturn, 1)] = true := by decide +kernel
  refine go_iload_n rfl hd (fun hd => ?_)
  exact go_ireturn hd rfl ⟨_, rfl, k⟩
theorem b_X_presses_0 {L : Nat} {d : Nat} {I : jm_I} {Q : Option jm_V → jm_I → Prop} {x1 : Int} {x2 : Int} {x3 : Int} {x4 : Int}  (k : Cx (jx_0 L) d md_X_isThing [.inr (.inl 1), .inl x1] I (fun v J => Gx (jx_0 L) (d + 1) md_X_presses 5 [some (.inr (.inl 1)), some (.inl x1), some (.inl x2), some (.inl x3), some (.inl x4)] (v.toList ++ []) J Q)) : Cx (jx_0 L) (d + 1) md_X_presses [.inr (.inl 1), .inl x1, .inl x2, .inl x3, .inl x4] I Q := by
  show jm_Go (d + 1) 0 0 md_X_presses 0 [some (.inr (.inl 1)), some (.inl x1), some (.inl x2), some (.inl x3), some (.inl x4)] [] (jx (jx_0 L) I) (jx_Q (jx_0 L) Q)
  have hd : jm_dc md_X_presses.2.1 0 [(.aload_n 0, 1), (.iload_n 1, 1), (.invokevirtual 132, 3)] = true := by decide +kernel
  refine go_aload_n rfl hd (fun hd => ?_)
  refine go_iload_n rfl hd (fun hd => ?_)
  exact gx_virtual 1 8 [.inl x1] [] mk_X_isThing co_X8 rfl ml_8_132 in_X_isThing se_X_isThing rfl rfl (Nat.le_of_ble_eq_true rfl) rfl (Nat.le_of_ble_eq_true rfl) rfl hd k
theorem b_X_presses_5 {L : Nat} {d : Nat} {I : jm_I} {Q : Option jm_V → jm_I → Prop} {o0 : Option jm_V} {o1 : Option jm_V} {o2 : Option jm_V} {o3 : Option jm_V} {o4 : Option jm_V} {s0 : Int}  (hz : (-2147483648 ≤ s0 ∧ s0 < 2147483648)) (kt : s0 = 0 → Gx (jx_0 L) d md_X_presses 36 [o0, o1, o2, o3, o4] [] I Q) (kf : ¬ s0 = 0 → Gx (jx_0 L) d md_X_presses 8 [o0, o1, o2, o3, o4] [] I Q) : Gx (jx_0 L) d md_X_presses 5 [o0, o1, o2, o3, o4] [.inl s0] I Q := by
  have hz1 := hz
  show jm_Go d 0 0 md_X_presses 5 [o0, o1, o2, o3, o4] [.inl s0] (jx (jx_0 L) I) (jx_Q (jx_0 L) Q)
  have hd : jm_dc md_X_presses.2.1 5 [(.ifCond .eq 31, 3)] = true := by decide +kernel
  exact go_if_eq (by decide) hz1 hd kt kf
theorem b_X_presses_8 {L : Nat} {d : Nat} {I : jm_I} {Q : Option jm_V → jm_I → Prop} {o1 : Option jm_V} {x2 : Int} {o3 : Option jm_V} {o4 : Option jm_V}  (k : Cx (jx_0 L) d md_X_isRoom [.inr (.inl 1), .inl x2] I (fun v J => Gx (jx_0 L) (d + 1) md_X_presses 13 [some (.inr (.inl 1)), o1, some (.inl x2), o3, o4] (v.toList ++ []) J Q)) : Gx (jx_0 L) (d + 1) md_X_presses 8 [some (.inr (.inl 1)), o1, some (.inl x2), o3, o4] [] I Q := by
  show jm_Go (d + 1) 0 0 md_X_presses 8 [some (.inr (.inl 1)), o1, some (.inl x2), o3, o4] [] (jx (jx_0 L) I) (jx_Q (jx_0 L) Q)
  have hd : jm_dc md_X_presses.2.1 8 [(.aload_n 0, 1), (.iload_n 2, 1), (.invokevirtual 163, 3)] = true := by decide +kernel
  refine go_aload_n rfl hd (fun hd => ?_)
  refine go_iload_n rfl hd (fun hd => ?_)
  exact gx_virtual 1 8 [.inl x2] [] mk_X_isRoom co_X8 rfl ml_8_163 in_X_isRoom se_X_isRoom rfl rfl (Nat.le_of_ble_eq_true rfl) rfl (Nat.le_of_ble_eq_true rfl) rfl hd k
theorem b_X_presses_13 {L : Nat} {d : Nat} {I : jm_I} {Q : Option jm_V → jm_I → Prop} {o0 : Option jm_V} {o1 : Option jm_V} {o2 : Option jm_V} {o3 : Option jm_V} {o4 : Option jm_V} {s0 : Int}  (hz : (-2147483648 ≤ s0 ∧ s0 < 2147483648)) (kt : s0 = 0 → Gx (jx_0 L) d md_X_presses 36 [o0, o1, o2, o3, o4] [] I Q) (kf : ¬ s0 = 0 → Gx (jx_0 L) d md_X_presses 16 [o0, o1, o2, o3, o4] [] I Q) : Gx (jx_0 L) d md_X_presses 13 [o0, o1, o2, o3, o4] [.inl s0] I Q := by
  have hz1 := hz
  show jm_Go d 0 0 md_X_presses 13 [o0, o1, o2, o3, o4] [.inl s0] (jx (jx_0 L) I) (jx_Q (jx_0 L) Q)
  have hd : jm_dc md_X_presses.2.1 13 [(.ifCond .eq 23, 3)] = true := by decide +kernel
  exact go_if_eq (by decide) hz1 hd kt kf
theorem b_X_presses_16 {L : Nat} {d : Nat} {I : jm_I} {Q : Option jm_V → jm_I → Prop} {o0 : Option jm_V} {o1 : Option jm_V} {o2 : Option jm_V} {x3 : Int} {o4 : Option jm_V}  (k : Cx (jx_0 L) d md_X_within [.inl x3, .inl 0, .inl 12] I (fun v J => Gx (jx_0 L) (d + 1) md_X_presses 23 [o0, o1, o2, some (.inl x3), o4] (v.toList ++ []) J Q)) : Gx (jx_0 L) (d + 1) md_X_presses 16 [o0, o1, o2, some (.inl x3), o4] [] I Q := by
  show jm_Go (d + 1) 0 0 md_X_presses 16 [o0, o1, o2, some (.inl x3), o4] [] (jx (jx_0 L) I) (jx_Q (jx_0 L) Q)
  have hd : jm_dc md_X_presses.2.1 16 [(.iload_n 3, 1), (.iconst 0, 1), (.bipush 12, 2), (.invokestatic 86, 3)] = true := by decide +kernel
  refine go_iload_n rfl hd (fun hd => ?_)
  refine go_iconst hd (fun hd => ?_)
  refine go_bipush (by decide) hd (fun hd => ?_)
  exact gx_static [.inl x3, .inl 0, .inl 12] [] mk_X_within ml_8_86 st_X_within rfl (Nat.le_of_ble_eq_true rfl) rfl (Nat.le_of_ble_eq_true rfl) rfl hd k
theorem b_X_presses_23 {L : Nat} {d : Nat} {I : jm_I} {Q : Option jm_V → jm_I → Prop} {o0 : Option jm_V} {o1 : Option jm_V} {o2 : Option jm_V} {o3 : Option jm_V} {o4 : Option jm_V} {s0 : Int}  (hz : (-2147483648 ≤ s0 ∧ s0 < 2147483648)) (kt : s0 = 0 → Gx (jx_0 L) d md_X_presses 36 [o0, o1, o2, o3, o4] [] I Q) (kf : ¬ s0 = 0 → Gx (jx_0 L) d md_X_presses 26 [o0, o1, o2, o3, o4] [] I Q) : Gx (jx_0 L) d md_X_presses 23 [o0, o1, o2, o3, o4] [.inl s0] I Q := by
  have hz1 := hz
  show jm_Go d 0 0 md_X_presses 23 [o0, o1, o2, o3, o4] [.inl s0] (jx (jx_0 L) I) (jx_Q (jx_0 L) Q)
  have hd : jm_dc md_X_presses.2.1 23 [(.ifCond .eq 13, 3)] = true := by decide +kernel
  exact go_if_eq (by decide) hz1 hd kt kf
theorem b_X_presses_26 {L : Nat} {d : Nat} {I : jm_I} {Q : Option jm_V → jm_I → Prop} {o0 : Option jm_V} {o1 : Option jm_V} {o2 : Option jm_V} {o3 : Option jm_V} {x4 : Int}  (k : Cx (jx_0 L) d md_X_within [.inl x4, .inl 0, .inl 1] I (fun v J => Gx (jx_0 L) (d + 1) md_X_presses 33 [o0, o1, o2, o3, some (.inl x4)] (v.toList ++ []) J Q)) : Gx (jx_0 L) (d + 1) md_X_presses 26 [o0, o1, o2, o3, some (.inl x4)] [] I Q := by
  show jm_Go (d + 1) 0 0 md_X_presses 26 [o0, o1, o2, o3, some (.inl x4)] [] (jx (jx_0 L) I) (jx_Q (jx_0 L) Q)
  have hd : jm_dc md_X_presses.2.1 26 [(.iload 4, 2), (.iconst 0, 1), (.iconst 1, 1), (.invokestatic 86, 3)] = true := by decide +kernel
  refine go_iload rfl hd (fun hd => ?_)
  refine go_iconst hd (fun hd => ?_)
  refine go_iconst hd (fun hd => ?_)
  exact gx_static [.inl x4, .inl 0, .inl 1] [] mk_X_within ml_8_86 st_X_within rfl (Nat.le_of_ble_eq_true rfl) rfl (Nat.le_of_ble_eq_true rfl) rfl hd k
theorem b_X_presses_33 {L : Nat} {d : Nat} {I : jm_I} {Q : Option jm_V → jm_I → Prop} {o0 : Option jm_V} {o1 : Option jm_V} {o2 : Option jm_V} {o3 : Option jm_V} {o4 : Option jm_V} {s0 : Int}  (hz : (-2147483648 ≤ s0 ∧ s0 < 2147483648)) (kt : ¬ s0 = 0 → Gx (jx_0 L) d md_X_presses 38 [o0, o1, o2, o3, o4] [] I Q) (kf : s0 = 0 → Gx (jx_0 L) d md_X_presses 36 [o0, o1, o2, o3, o4] [] I Q) : Gx (jx_0 L) d md_X_presses 33 [o0, o1, o2, o3, o4] [.inl s0] I Q := by
  have hz1 := hz
  show jm_Go d 0 0 md_X_presses 33 [o0, o1, o2, o3, o4] [.inl s0] (jx (jx_0 L) I) (jx_Q (jx_0 L) Q)
  have hd : jm_dc md_X_presses.2.1 33 [(.ifCond .ne 5, 3)] = true := by decide +kernel
  exact go_if_ne (by decide) hz1 hd kt kf
theorem b_X_presses_36 {L : Nat} {d : Nat} {I : jm_I} {Q : Option jm_V → jm_I → Prop} {o0 : Option jm_V} {o1 : Option jm_V} {o2 : Option jm_V} {o3 : Option jm_V} {o4 : Option jm_V}  (k : Q (some (.inl (-1))) I) : Gx (jx_0 L) d md_X_presses 36 [o0, o1, o2, o3, o4] [] I Q := by
  show jm_Go d 0 0 md_X_presses 36 [o0, o1, o2, o3, o4] [] (jx (jx_0 L) I) (jx_Q (jx_0 L) Q)
  have hd : jm_dc md_X_presses.2.1 36 [(.iconst (-1), 1), (.ireturn, 1)] = true := by decide +kernel
  refine go_iconst hd (fun hd => ?_)
  exact go_ireturn hd rfl ⟨_, rfl, k⟩
theorem b_X_presses_38 {L : Nat} {d : Nat} {I : jm_I} {Q : Option jm_V → jm_I → Prop} {x1 : Int} {x2 : Int} {x3 : Int} {o4 : Option jm_V} {c1 : Nat} (hD1 : I 1 0 = (c1 : Int)) (hc1 : jx_City (jx_0 L) c1) (k : Cx (jx_0 L) d md_PressTable_fill [.inr (.inl 107), .inr (.inl c1), .inr (.inl 44), .inl x1, .inl x2, .inl x3] I (fun v J => Gx (jx_0 L) (d + 1) md_X_presses 56 [some (.inr (.inl 1)), some (.inl x1), some (.inl x2), some (.inl x3), o4] (v.toList ++ []) J Q)) : Gx (jx_0 L) (d + 1) md_X_presses 38 [some (.inr (.inl 1)), some (.inl x1), some (.inl x2), some (.inl x3), o4] [] I Q := by
  show jm_Go (d + 1) 0 0 md_X_presses 38 [some (.inr (.inl 1)), some (.inl x1), some (.inl x2), some (.inl x3), o4] [] (jx (jx_0 L) I) (jx_Q (jx_0 L) Q)
  have hd : jm_dc md_X_presses.2.1 38 [(.aload_n 0, 1), (.getfield 62, 3), (.aload_n 0, 1), (.getfield 12, 3), (.aload_n 0, 1), (.getfield 33, 3), (.iload_n 1, 1), (.iload_n 2, 1), (.iload_n 3, 1), (.invokevirtual 193, 3)] = true := by decide +kernel
  refine go_aload_n rfl hd (fun hd => ?_)
  refine go_getR co_X8 fl_8_62 (by decide) rfl rfl rfl hd (fun hd => ?_)
  refine go_aload_n rfl hd (fun hd => ?_)
  refine go_getD co_X8 fl_8_12 (by decide) rfl rfl hD1 (ct_pos hc1) hd (fun hd => ?_)
  refine go_aload_n rfl hd (fun hd => ?_)
  refine go_getR co_X8 fl_8_33 (by decide) rfl rfl rfl hd (fun hd => ?_)
  refine go_iload_n rfl hd (fun hd => ?_)
  refine go_iload_n rfl hd (fun hd => ?_)
  refine go_iload_n rfl hd (fun hd => ?_)
  exact gx_virtual 107 6 [.inr (.inl c1), .inr (.inl 44), .inl x1, .inl x2, .inl x3] [] mk_PressTable_fill co_X6 rfl ml_8_193 in_PressTable_fill se_PressTable_fill rfl rfl (Nat.le_of_ble_eq_true rfl) rfl (Nat.le_of_ble_eq_true rfl) rfl hd k
theorem b_X_presses_56 {L : Nat} {d : Nat} {I : jm_I} {Q : Option jm_V → jm_I → Prop} {o0 : Option jm_V} {o1 : Option jm_V} {o2 : Option jm_V} {o3 : Option jm_V} {x4 : Int}  (hz : (-2147483648 ≤ x4 ∧ x4 < 2147483648)) (kt : ¬ x4 = 0 → Gx (jx_0 L) d md_X_presses 71 [o0, o1, o2, o3, some (.inl x4)] [] I Q) (kf : x4 = 0 → Gx (jx_0 L) d md_X_presses 61 [o0, o1, o2, o3, some (.inl x4)] [] I Q) : Gx (jx_0 L) d md_X_presses 56 [o0, o1, o2, o3, some (.inl x4)] [] I Q := by
  have hz1 := hz
  show jm_Go d 0 0 md_X_presses 56 [o0, o1, o2, o3, some (.inl x4)] [] (jx (jx_0 L) I) (jx_Q (jx_0 L) Q)
  have hd : jm_dc md_X_presses.2.1 56 [(.iload 4, 2), (.ifCond .ne 13, 3)] = true := by decide +kernel
  refine go_iload rfl hd (fun hd => ?_)
  exact go_if_ne (by decide) hz1 hd kt kf
theorem b_X_presses_61 {L : Nat} {d : Nat} {I : jm_I} {Q : Option jm_V → jm_I → Prop} {o1 : Option jm_V} {o2 : Option jm_V} {o3 : Option jm_V} {o4 : Option jm_V}  (k : Cx (jx_0 L) d md_PressTable_fewest [.inr (.inl 107)] I (fun v J => Gx (jx_0 L) (d + 1) md_X_presses 68 [some (.inr (.inl 1)), o1, o2, o3, o4] (v.toList ++ []) J Q)) : Gx (jx_0 L) (d + 1) md_X_presses 61 [some (.inr (.inl 1)), o1, o2, o3, o4] [] I Q := by
  show jm_Go (d + 1) 0 0 md_X_presses 61 [some (.inr (.inl 1)), o1, o2, o3, o4] [] (jx (jx_0 L) I) (jx_Q (jx_0 L) Q)
  have hd : jm_dc md_X_presses.2.1 61 [(.aload_n 0, 1), (.getfield 62, 3), (.invokevirtual 197, 3)] = true := by decide +kernel
  refine go_aload_n rfl hd (fun hd => ?_)
  refine go_getR co_X8 fl_8_62 (by decide) rfl rfl rfl hd (fun hd => ?_)
  exact gx_virtual 107 6 [] [] mk_PressTable_fewest co_X6 rfl ml_8_197 in_PressTable_fewest se_PressTable_fewest rfl rfl (Nat.le_of_ble_eq_true rfl) rfl (Nat.le_of_ble_eq_true rfl) rfl hd k
theorem b_X_presses_68 {L : Nat} {d : Nat} {I : jm_I} {Q : Option jm_V → jm_I → Prop} {o0 : Option jm_V} {o1 : Option jm_V} {o2 : Option jm_V} {o3 : Option jm_V} {o4 : Option jm_V} {s0 : Int}  (k : Gx (jx_0 L) d md_X_presses 78 [o0, o1, o2, o3, o4] [.inl s0] I Q) : Gx (jx_0 L) d md_X_presses 68 [o0, o1, o2, o3, o4] [.inl s0] I Q := by
  show jm_Go d 0 0 md_X_presses 68 [o0, o1, o2, o3, o4] [.inl s0] (jx (jx_0 L) I) (jx_Q (jx_0 L) Q)
  have hd : jm_dc md_X_presses.2.1 68 [(.goto 10, 3)] = true := by decide +kernel
  exact go_goto (by decide) hd k
theorem b_X_presses_71 {L : Nat} {d : Nat} {I : jm_I} {Q : Option jm_V → jm_I → Prop} {o1 : Option jm_V} {o2 : Option jm_V} {o3 : Option jm_V} {o4 : Option jm_V}  (k : Cx (jx_0 L) d md_PressTable_alone [.inr (.inl 107)] I (fun v J => Gx (jx_0 L) (d + 1) md_X_presses 78 [some (.inr (.inl 1)), o1, o2, o3, o4] (v.toList ++ []) J Q)) : Gx (jx_0 L) (d + 1) md_X_presses 71 [some (.inr (.inl 1)), o1, o2, o3, o4] [] I Q := by
  show jm_Go (d + 1) 0 0 md_X_presses 71 [some (.inr (.inl 1)), o1, o2, o3, o4] [] (jx (jx_0 L) I) (jx_Q (jx_0 L) Q)
  have hd : jm_dc md_X_presses.2.1 71 [(.aload_n 0, 1), (.getfield 62, 3), (.invokevirtual 200, 3)] = true := by decide +kernel
  refine go_aload_n rfl hd (fun hd => ?_)
  refine go_getR co_X8 fl_8_62 (by decide) rfl rfl rfl hd (fun hd => ?_)
  exact gx_virtual 107 6 [] [] mk_PressTable_alone co_X6 rfl ml_8_200 in_PressTable_alone se_PressTable_alone rfl rfl (Nat.le_of_ble_eq_true rfl) rfl (Nat.le_of_ble_eq_true rfl) rfl hd k
theorem b_X_presses_78 {L : Nat} {d : Nat} {I : jm_I} {Q : Option jm_V → jm_I → Prop} {o0 : Option jm_V} {o1 : Option jm_V} {o2 : Option jm_V} {o3 : Option jm_V} {o4 : Option jm_V} {s0 : Int}  (k : Q (some (.inl s0)) I) : Gx (jx_0 L) d md_X_presses 78 [o0, o1, o2, o3, o4] [.inl s0] I Q := by
  show jm_Go d 0 0 md_X_presses 78 [o0, o1, o2, o3, o4] [.inl s0] (jx (jx_0 L) I) (jx_Q (jx_0 L) Q)
  have hd : jm_dc md_X_presses.2.1 78 [(.ireturn, 1)] = true := by decide +kernel
  exact go_ireturn hd rfl ⟨_, rfl, k⟩
theorem b_X_found_0 {L : Nat} {d : Nat} {I : jm_I} {Q : Option jm_V → jm_I → Prop} {x1 : Int} {x2 : Int} {x3 : Int}  (k : Cx (jx_0 L) d md_X_isThing [.inr (.inl 1), .inl x1] I (fun v J => Gx (jx_0 L) (d + 1) md_X_found 5 [some (.inr (.inl 1)), some (.inl x1), some (.inl x2), some (.inl x3)] (v.toList ++ []) J Q)) : Cx (jx_0 L) (d + 1) md_X_found [.inr (.inl 1), .inl x1, .inl x2, .inl x3] I Q := by
  show jm_Go (d + 1) 0 0 md_X_found 0 [some (.inr (.inl 1)), some (.inl x1), some (.inl x2), some (.inl x3)] [] (jx (jx_0 L) I) (jx_Q (jx_0 L) Q)
  have hd : jm_dc md_X_found.2.1 0 [(.aload_n 0, 1), (.iload_n 1, 1), (.invokevirtual 132, 3)] = true := by decide +kernel
  refine go_aload_n rfl hd (fun hd => ?_)
  refine go_iload_n rfl hd (fun hd => ?_)
  exact gx_virtual 1 8 [.inl x1] [] mk_X_isThing co_X8 rfl ml_8_132 in_X_isThing se_X_isThing rfl rfl (Nat.le_of_ble_eq_true rfl) rfl (Nat.le_of_ble_eq_true rfl) rfl hd k
theorem b_X_found_5 {L : Nat} {d : Nat} {I : jm_I} {Q : Option jm_V → jm_I → Prop} {o0 : Option jm_V} {o1 : Option jm_V} {o2 : Option jm_V} {o3 : Option jm_V} {s0 : Int}  (hz : (-2147483648 ≤ s0 ∧ s0 < 2147483648)) (kt : s0 = 0 → Gx (jx_0 L) d md_X_found 26 [o0, o1, o2, o3] [] I Q) (kf : ¬ s0 = 0 → Gx (jx_0 L) d md_X_found 8 [o0, o1, o2, o3] [] I Q) : Gx (jx_0 L) d md_X_found 5 [o0, o1, o2, o3] [.inl s0] I Q := by
  have hz1 := hz
  show jm_Go d 0 0 md_X_found 5 [o0, o1, o2, o3] [.inl s0] (jx (jx_0 L) I) (jx_Q (jx_0 L) Q)
  have hd : jm_dc md_X_found.2.1 5 [(.ifCond .eq 21, 3)] = true := by decide +kernel
  exact go_if_eq (by decide) hz1 hd kt kf
theorem b_X_found_8 {L : Nat} {d : Nat} {I : jm_I} {Q : Option jm_V → jm_I → Prop} {o1 : Option jm_V} {x2 : Int} {o3 : Option jm_V}  (k : Cx (jx_0 L) d md_X_isRoom [.inr (.inl 1), .inl x2] I (fun v J => Gx (jx_0 L) (d + 1) md_X_found 13 [some (.inr (.inl 1)), o1, some (.inl x2), o3] (v.toList ++ []) J Q)) : Gx (jx_0 L) (d + 1) md_X_found 8 [some (.inr (.inl 1)), o1, some (.inl x2), o3] [] I Q := by
  show jm_Go (d + 1) 0 0 md_X_found 8 [some (.inr (.inl 1)), o1, some (.inl x2), o3] [] (jx (jx_0 L) I) (jx_Q (jx_0 L) Q)
  have hd : jm_dc md_X_found.2.1 8 [(.aload_n 0, 1), (.iload_n 2, 1), (.invokevirtual 163, 3)] = true := by decide +kernel
  refine go_aload_n rfl hd (fun hd => ?_)
  refine go_iload_n rfl hd (fun hd => ?_)
  exact gx_virtual 1 8 [.inl x2] [] mk_X_isRoom co_X8 rfl ml_8_163 in_X_isRoom se_X_isRoom rfl rfl (Nat.le_of_ble_eq_true rfl) rfl (Nat.le_of_ble_eq_true rfl) rfl hd k
theorem b_X_found_13 {L : Nat} {d : Nat} {I : jm_I} {Q : Option jm_V → jm_I → Prop} {o0 : Option jm_V} {o1 : Option jm_V} {o2 : Option jm_V} {o3 : Option jm_V} {s0 : Int}  (hz : (-2147483648 ≤ s0 ∧ s0 < 2147483648)) (kt : s0 = 0 → Gx (jx_0 L) d md_X_found 26 [o0, o1, o2, o3] [] I Q) (kf : ¬ s0 = 0 → Gx (jx_0 L) d md_X_found 16 [o0, o1, o2, o3] [] I Q) : Gx (jx_0 L) d md_X_found 13 [o0, o1, o2, o3] [.inl s0] I Q := by
  have hz1 := hz
  show jm_Go d 0 0 md_X_found 13 [o0, o1, o2, o3] [.inl s0] (jx (jx_0 L) I) (jx_Q (jx_0 L) Q)
  have hd : jm_dc md_X_found.2.1 13 [(.ifCond .eq 13, 3)] = true := by decide +kernel
  exact go_if_eq (by decide) hz1 hd kt kf
theorem b_X_found_16 {L : Nat} {d : Nat} {I : jm_I} {Q : Option jm_V → jm_I → Prop} {o0 : Option jm_V} {o1 : Option jm_V} {o2 : Option jm_V} {x3 : Int}  (k : Cx (jx_0 L) d md_X_within [.inl x3, .inl 0, .inl 20] I (fun v J => Gx (jx_0 L) (d + 1) md_X_found 23 [o0, o1, o2, some (.inl x3)] (v.toList ++ []) J Q)) : Gx (jx_0 L) (d + 1) md_X_found 16 [o0, o1, o2, some (.inl x3)] [] I Q := by
  show jm_Go (d + 1) 0 0 md_X_found 16 [o0, o1, o2, some (.inl x3)] [] (jx (jx_0 L) I) (jx_Q (jx_0 L) Q)
  have hd : jm_dc md_X_found.2.1 16 [(.iload_n 3, 1), (.iconst 0, 1), (.bipush 20, 2), (.invokestatic 86, 3)] = true := by decide +kernel
  refine go_iload_n rfl hd (fun hd => ?_)
  refine go_iconst hd (fun hd => ?_)
  refine go_bipush (by decide) hd (fun hd => ?_)
  exact gx_static [.inl x3, .inl 0, .inl 20] [] mk_X_within ml_8_86 st_X_within rfl (Nat.le_of_ble_eq_true rfl) rfl (Nat.le_of_ble_eq_true rfl) rfl hd k
theorem b_X_found_23 {L : Nat} {d : Nat} {I : jm_I} {Q : Option jm_V → jm_I → Prop} {o0 : Option jm_V} {o1 : Option jm_V} {o2 : Option jm_V} {o3 : Option jm_V} {s0 : Int}  (hz : (-2147483648 ≤ s0 ∧ s0 < 2147483648)) (kt : ¬ s0 = 0 → Gx (jx_0 L) d md_X_found 28 [o0, o1, o2, o3] [] I Q) (kf : s0 = 0 → Gx (jx_0 L) d md_X_found 26 [o0, o1, o2, o3] [] I Q) : Gx (jx_0 L) d md_X_found 23 [o0, o1, o2, o3] [.inl s0] I Q := by
  have hz1 := hz
  show jm_Go d 0 0 md_X_found 23 [o0, o1, o2, o3] [.inl s0] (jx (jx_0 L) I) (jx_Q (jx_0 L) Q)
  have hd : jm_dc md_X_found.2.1 23 [(.ifCond .ne 5, 3)] = true := by decide +kernel
  exact go_if_ne (by decide) hz1 hd kt kf
theorem b_X_found_26 {L : Nat} {d : Nat} {I : jm_I} {Q : Option jm_V → jm_I → Prop} {o0 : Option jm_V} {o1 : Option jm_V} {o2 : Option jm_V} {o3 : Option jm_V}  (k : Q (some (.inl (-1))) I) : Gx (jx_0 L) d md_X_found 26 [o0, o1, o2, o3] [] I Q := by
  show jm_Go d 0 0 md_X_found 26 [o0, o1, o2, o3] [] (jx (jx_0 L) I) (jx_Q (jx_0 L) Q)
  have hd : jm_dc md_X_found.2.1 26 [(.iconst (-1), 1), (.ireturn, 1)] = true := by decide +kernel
  refine go_iconst hd (fun hd => ?_)
  exact go_ireturn hd rfl ⟨_, rfl, k⟩
theorem b_X_found_28 {L : Nat} {d : Nat} {I : jm_I} {Q : Option jm_V → jm_I → Prop} {o1 : Option jm_V} {o2 : Option jm_V} {o3 : Option jm_V}  (hz : (-2147483648 ≤ I 103 0 ∧ I 103 0 < 2147483648)) (kt : (I 103 0) < 4 → Gx (jx_0 L) d md_X_found 42 [some (.inr (.inl 1)), o1, o2, o3] [] I Q) (kf : ¬ ((I 103 0) < 4) → Gx (jx_0 L) d md_X_found 39 [some (.inr (.inl 1)), o1, o2, o3] [] I Q) : Gx (jx_0 L) d md_X_found 28 [some (.inr (.inl 1)), o1, o2, o3] [] I Q := by
  have hz1 := hz
  show jm_Go d 0 0 md_X_found 28 [some (.inr (.inl 1)), o1, o2, o3] [] (jx (jx_0 L) I) (jx_Q (jx_0 L) Q)
  have hd : jm_dc md_X_found.2.1 28 [(.aload_n 0, 1), (.getfield 55, 3), (.getfield 98, 3), (.iconst 4, 1), (.if_icmp .lt 6, 3)] = true := by decide +kernel
  refine go_aload_n rfl hd (fun hd => ?_)
  refine go_getR co_X8 fl_8_55 (by decide) rfl rfl rfl hd (fun hd => ?_)
  refine go_getI co_X3 fl_8_98 (by decide) (Or.inl rfl) rfl hd (fun hd => ?_)
  refine go_iconst hd (fun hd => ?_)
  exact go_icmp_lt (by decide) hz1 ⟨by decide, by decide⟩ hd kt kf
theorem b_X_found_39 {L : Nat} {d : Nat} {I : jm_I} {Q : Option jm_V → jm_I → Prop} {o0 : Option jm_V} {o1 : Option jm_V} {o2 : Option jm_V} {o3 : Option jm_V}  (k : Q (some (.inl (-3))) I) : Gx (jx_0 L) d md_X_found 39 [o0, o1, o2, o3] [] I Q := by
  show jm_Go d 0 0 md_X_found 39 [o0, o1, o2, o3] [] (jx (jx_0 L) I) (jx_Q (jx_0 L) Q)
  have hd : jm_dc md_X_found.2.1 39 [(.bipush (-3), 2), (.ireturn, 1)] = true := by decide +kernel
  refine go_bipush (by decide) hd (fun hd => ?_)
  exact go_ireturn hd rfl ⟨_, rfl, k⟩
theorem b_X_found_42 {L : Nat} {d : Nat} {I : jm_I} {Q : Option jm_V → jm_I → Prop} {x1 : Int} {x2 : Int} {x3 : Int}  (k : Cx (jx_0 L) d md_Finds_note [.inr (.inl 103), .inl x1, .inl x2, .inl x3] I (fun v J => Gx (jx_0 L) (d + 1) md_X_found 52 [some (.inr (.inl 1)), some (.inl x1), some (.inl x2), some (.inl x3)] (v.toList ++ []) J Q)) : Gx (jx_0 L) (d + 1) md_X_found 42 [some (.inr (.inl 1)), some (.inl x1), some (.inl x2), some (.inl x3)] [] I Q := by
  show jm_Go (d + 1) 0 0 md_X_found 42 [some (.inr (.inl 1)), some (.inl x1), some (.inl x2), some (.inl x3)] [] (jx (jx_0 L) I) (jx_Q (jx_0 L) Q)
  have hd : jm_dc md_X_found.2.1 42 [(.aload_n 0, 1), (.getfield 55, 3), (.iload_n 1, 1), (.iload_n 2, 1), (.iload_n 3, 1), (.invokevirtual 203, 3)] = true := by decide +kernel
  refine go_aload_n rfl hd (fun hd => ?_)
  refine go_getR co_X8 fl_8_55 (by decide) rfl rfl rfl hd (fun hd => ?_)
  refine go_iload_n rfl hd (fun hd => ?_)
  refine go_iload_n rfl hd (fun hd => ?_)
  refine go_iload_n rfl hd (fun hd => ?_)
  exact gx_virtual 103 3 [.inl x1, .inl x2, .inl x3] [] mk_Finds_note co_X3 rfl ml_8_203 in_Finds_note se_Finds_note rfl rfl (Nat.le_of_ble_eq_true rfl) rfl (Nat.le_of_ble_eq_true rfl) rfl hd k
theorem b_X_found_52 {L : Nat} {d : Nat} {I : jm_I} {Q : Option jm_V → jm_I → Prop} {o1 : Option jm_V} {o2 : Option jm_V} {o3 : Option jm_V}  (k : Q (some (.inl (I 103 0))) I) : Gx (jx_0 L) d md_X_found 52 [some (.inr (.inl 1)), o1, o2, o3] [] I Q := by
  show jm_Go d 0 0 md_X_found 52 [some (.inr (.inl 1)), o1, o2, o3] [] (jx (jx_0 L) I) (jx_Q (jx_0 L) Q)
  have hd : jm_dc md_X_found.2.1 52 [(.aload_n 0, 1), (.getfield 55, 3), (.getfield 98, 3), (.ireturn, 1)] = true := by decide +kernel
  refine go_aload_n rfl hd (fun hd => ?_)
  refine go_getR co_X8 fl_8_55 (by decide) rfl rfl rfl hd (fun hd => ?_)
  refine go_getI co_X3 fl_8_98 (by decide) (Or.inl rfl) rfl hd (fun hd => ?_)
  exact go_ireturn hd rfl ⟨_, rfl, k⟩
theorem b_X_forget_0 {L : Nat} {d : Nat} {I : jm_I} {Q : Option jm_V → jm_I → Prop}   (k : Q (some (.inl (I 103 0))) (jm_up I 103 0 0)) : Cx (jx_0 L) d md_X_forget [.inr (.inl 1)] I Q := by
  show jm_Go d 0 0 md_X_forget 0 [some (.inr (.inl 1)), none] [] (jx (jx_0 L) I) (jx_Q (jx_0 L) Q)
  have hd : jm_dc md_X_forget.2.1 0 [(.aload_n 0, 1), (.getfield 55, 3), (.getfield 98, 3), (.istore_n 1, 1), (.aload_n 0, 1), (.getfield 55, 3), (.iconst 0, 1), (.putfield 98, 3), (.iload_n 1, 1), (.ireturn, 1)] = true := by decide +kernel
  refine go_aload_n rfl hd (fun hd => ?_)
  refine go_getR co_X8 fl_8_55 (by decide) rfl rfl rfl hd (fun hd => ?_)
  refine go_getI co_X3 fl_8_98 (by decide) (Or.inl rfl) rfl hd (fun hd => ?_)
  refine go_istore_n (by decide) hd (fun hd => ?_)
  refine go_aload_n rfl hd (fun hd => ?_)
  refine go_getR co_X8 fl_8_55 (by decide) rfl rfl rfl hd (fun hd => ?_)
  refine go_iconst hd (fun hd => ?_)
  refine go_putI co_X3 fl_8_98 (by decide) rfl rfl hd (fun hd => ?_)
  refine go_iload_n rfl hd (fun hd => ?_)
  exact go_ireturn hd rfl ⟨_, rfl, k⟩
theorem b_X_doneBy_0 {L : Nat} {d : Nat} {I : jm_I} {Q : Option jm_V → jm_I → Prop} {c1 : Nat} (hD1 : I 1 0 = (c1 : Int)) (hc1 : jx_City (jx_0 L) c1) (k : Cx (jx_0 L) d md_Moment_rested [.inr (.inl 44), .inr (.inl c1)] I (fun v J => Gx (jx_0 L) (d + 1) md_X_doneBy 11 [some (.inr (.inl 1)), none, none, none] (v.toList ++ []) J Q)) : Cx (jx_0 L) (d + 1) md_X_doneBy [.inr (.inl 1)] I Q := by
  show jm_Go (d + 1) 0 0 md_X_doneBy 0 [some (.inr (.inl 1)), none, none, none] [] (jx (jx_0 L) I) (jx_Q (jx_0 L) Q)
  have hd : jm_dc md_X_doneBy.2.1 0 [(.aload_n 0, 1), (.getfield 33, 3), (.aload_n 0, 1), (.getfield 12, 3), (.invokevirtual 207, 3)] = true := by decide +kernel
  refine go_aload_n rfl hd (fun hd => ?_)
  refine go_getR co_X8 fl_8_33 (by decide) rfl rfl rfl hd (fun hd => ?_)
  refine go_aload_n rfl hd (fun hd => ?_)
  refine go_getD co_X8 fl_8_12 (by decide) rfl rfl hD1 (ct_pos hc1) hd (fun hd => ?_)
  exact gx_virtual 44 5 [.inr (.inl c1)] [] mk_Moment_rested co_X5 rfl ml_8_207 in_Moment_rested se_Moment_rested rfl rfl (Nat.le_of_ble_eq_true rfl) rfl (Nat.le_of_ble_eq_true rfl) rfl hd k
theorem b_X_doneBy_11 {L : Nat} {d : Nat} {I : jm_I} {Q : Option jm_V → jm_I → Prop} {o0 : Option jm_V} {o1 : Option jm_V} {o2 : Option jm_V} {o3 : Option jm_V} {s0 : Int}  (k : Gx (jx_0 L) d md_X_doneBy 16 [o0, some (.inl s0), some (.inl 0), some (.inl 0)] [] I Q) : Gx (jx_0 L) d md_X_doneBy 11 [o0, o1, o2, o3] [.inl s0] I Q := by
  show jm_Go d 0 0 md_X_doneBy 11 [o0, o1, o2, o3] [.inl s0] (jx (jx_0 L) I) (jx_Q (jx_0 L) Q)
  have hd : jm_dc md_X_doneBy.2.1 11 [(.istore_n 1, 1), (.iconst 0, 1), (.istore_n 2, 1), (.iconst 0, 1), (.istore_n 3, 1)] = true := by decide +kernel
  refine go_istore_n (by decide) hd (fun hd => ?_)
  refine go_iconst hd (fun hd => ?_)
  refine go_istore_n (by decide) hd (fun hd => ?_)
  refine go_iconst hd (fun hd => ?_)
  refine go_istore_n (by decide) hd (fun hd => ?_)
  exact k
theorem b_X_doneBy_16 {L : Nat} {d : Nat} {I : jm_I} {Q : Option jm_V → jm_I → Prop} {o1 : Option jm_V} {o2 : Option jm_V} {x3 : Int} {c1 : Nat} (hD1 : I 1 0 = (c1 : Int)) (hc1 : jx_City (jx_0 L) c1) (hz : (-2147483648 ≤ x3 ∧ x3 < 2147483648) ∧ (-2147483648 ≤ I c1 3 ∧ I c1 3 < 2147483648)) (kt : (I c1 3) ≤ x3 → Gx (jx_0 L) d md_X_doneBy 70 [some (.inr (.inl 1)), o1, o2, some (.inl x3)] [] I Q) (kf : ¬ ((I c1 3) ≤ x3) → Gx (jx_0 L) d md_X_doneBy 27 [some (.inr (.inl 1)), o1, o2, some (.inl x3)] [] I Q) : Gx (jx_0 L) d md_X_doneBy 16 [some (.inr (.inl 1)), o1, o2, some (.inl x3)] [] I Q := by
  obtain ⟨hz1, hz2⟩ := hz
  show jm_Go d 0 0 md_X_doneBy 16 [some (.inr (.inl 1)), o1, o2, some (.inl x3)] [] (jx (jx_0 L) I) (jx_Q (jx_0 L) Q)
  have hd : jm_dc md_X_doneBy.2.1 16 [(.iload_n 3, 1), (.aload_n 0, 1), (.getfield 12, 3), (.getfield 211, 3), (.if_icmp .ge 46, 3)] = true := by decide +kernel
  refine go_iload_n rfl hd (fun hd => ?_)
  refine go_aload_n rfl hd (fun hd => ?_)
  refine go_getD co_X8 fl_8_12 (by decide) rfl rfl hD1 (ct_pos hc1) hd (fun hd => ?_)
  refine go_getI co_X0 fl_8_211 (by decide) (Or.inl rfl) (ct_K hc1) hd (fun hd => ?_)
  exact go_icmp_ge (by decide) hz1 hz2 hd kt kf
theorem b_X_doneBy_27 {L : Nat} {d : Nat} {I : jm_I} {Q : Option jm_V → jm_I → Prop} {o0 : Option jm_V} {x1 : Int} {o2 : Option jm_V} {x3 : Int}  (hz : (-2147483648 ≤ jb_and (jb_shr x1 x3) 1 ∧ jb_and (jb_shr x1 x3) 1 < 2147483648)) (kt : (jb_and (jb_shr x1 x3) 1) = 0 → Gx (jx_0 L) d md_X_doneBy 64 [o0, some (.inl x1), o2, some (.inl x3)] [] I Q) (kf : ¬ (jb_and (jb_shr x1 x3) 1) = 0 → Gx (jx_0 L) d md_X_doneBy 35 [o0, some (.inl x1), o2, some (.inl x3)] [] I Q) : Gx (jx_0 L) d md_X_doneBy 27 [o0, some (.inl x1), o2, some (.inl x3)] [] I Q := by
  have hz1 := hz
  show jm_Go d 0 0 md_X_doneBy 27 [o0, some (.inl x1), o2, some (.inl x3)] [] (jx (jx_0 L) I) (jx_Q (jx_0 L) Q)
  have hd : jm_dc md_X_doneBy.2.1 27 [(.iload_n 1, 1), (.iload_n 3, 1), (.ishr, 1), (.iconst 1, 1), (.iand, 1), (.ifCond .eq 32, 3)] = true := by decide +kernel
  refine go_iload_n rfl hd (fun hd => ?_)
  refine go_iload_n rfl hd (fun hd => ?_)
  refine go_ishr hd (fun hd => ?_)
  refine go_iconst hd (fun hd => ?_)
  refine go_iand hd (fun hd => ?_)
  exact go_if_eq (by decide) hz1 hd kt kf
theorem b_X_doneBy_35 {L : Nat} {d : Nat} {I : jm_I} {Q : Option jm_V → jm_I → Prop} {o1 : Option jm_V} {o2 : Option jm_V} {x3 : Int} {c1 : Nat} (hD1 : I 1 0 = (c1 : Int)) (hc1 : jx_City (jx_0 L) c1) (k : Cx (jx_0 L) d md_DoneSearch_couldHave [.inr (.inl 148), .inr (.inl c1), .inr (.inl 44), .inr (.inl 103), .inl x3] I (fun v J => Gx (jx_0 L) (d + 1) md_X_doneBy 55 [some (.inr (.inl 1)), o1, o2, some (.inl x3)] (v.toList ++ []) J Q)) : Gx (jx_0 L) (d + 1) md_X_doneBy 35 [some (.inr (.inl 1)), o1, o2, some (.inl x3)] [] I Q := by
  show jm_Go (d + 1) 0 0 md_X_doneBy 35 [some (.inr (.inl 1)), o1, o2, some (.inl x3)] [] (jx (jx_0 L) I) (jx_Q (jx_0 L) Q)
  have hd : jm_dc md_X_doneBy.2.1 35 [(.aload_n 0, 1), (.getfield 69, 3), (.aload_n 0, 1), (.getfield 12, 3), (.aload_n 0, 1), (.getfield 33, 3), (.aload_n 0, 1), (.getfield 55, 3), (.iload_n 3, 1), (.invokevirtual 214, 3)] = true := by decide +kernel
  refine go_aload_n rfl hd (fun hd => ?_)
  refine go_getR co_X8 fl_8_69 (by decide) rfl rfl rfl hd (fun hd => ?_)
  refine go_aload_n rfl hd (fun hd => ?_)
  refine go_getD co_X8 fl_8_12 (by decide) rfl rfl hD1 (ct_pos hc1) hd (fun hd => ?_)
  refine go_aload_n rfl hd (fun hd => ?_)
  refine go_getR co_X8 fl_8_33 (by decide) rfl rfl rfl hd (fun hd => ?_)
  refine go_aload_n rfl hd (fun hd => ?_)
  refine go_getR co_X8 fl_8_55 (by decide) rfl rfl rfl hd (fun hd => ?_)
  refine go_iload_n rfl hd (fun hd => ?_)
  exact gx_virtual 148 2 [.inr (.inl c1), .inr (.inl 44), .inr (.inl 103), .inl x3] [] mk_DoneSearch_couldHave co_X2 rfl ml_8_214 in_DoneSearch_couldHave se_DoneSearch_couldHave rfl rfl (Nat.le_of_ble_eq_true rfl) rfl (Nat.le_of_ble_eq_true rfl) rfl hd k
theorem b_X_doneBy_55 {L : Nat} {d : Nat} {I : jm_I} {Q : Option jm_V → jm_I → Prop} {o0 : Option jm_V} {o1 : Option jm_V} {o2 : Option jm_V} {o3 : Option jm_V} {s0 : Int}  (hz : (-2147483648 ≤ s0 ∧ s0 < 2147483648)) (kt : s0 = 0 → Gx (jx_0 L) d md_X_doneBy 64 [o0, o1, o2, o3] [] I Q) (kf : ¬ s0 = 0 → Gx (jx_0 L) d md_X_doneBy 58 [o0, o1, o2, o3] [] I Q) : Gx (jx_0 L) d md_X_doneBy 55 [o0, o1, o2, o3] [.inl s0] I Q := by
  have hz1 := hz
  show jm_Go d 0 0 md_X_doneBy 55 [o0, o1, o2, o3] [.inl s0] (jx (jx_0 L) I) (jx_Q (jx_0 L) Q)
  have hd : jm_dc md_X_doneBy.2.1 55 [(.ifCond .eq 9, 3)] = true := by decide +kernel
  exact go_if_eq (by decide) hz1 hd kt kf
theorem b_X_doneBy_58 {L : Nat} {d : Nat} {I : jm_I} {Q : Option jm_V → jm_I → Prop} {o0 : Option jm_V} {o1 : Option jm_V} {x2 : Int} {x3 : Int}  (k : Gx (jx_0 L) d md_X_doneBy 64 [o0, o1, some (.inl (jb_or x2 (jb_shl 1 x3))), some (.inl x3)] [] I Q) : Gx (jx_0 L) d md_X_doneBy 58 [o0, o1, some (.inl x2), some (.inl x3)] [] I Q := by
  show jm_Go d 0 0 md_X_doneBy 58 [o0, o1, some (.inl x2), some (.inl x3)] [] (jx (jx_0 L) I) (jx_Q (jx_0 L) Q)
  have hd : jm_dc md_X_doneBy.2.1 58 [(.iload_n 2, 1), (.iconst 1, 1), (.iload_n 3, 1), (.ishl, 1), (.ior, 1), (.istore_n 2, 1)] = true := by decide +kernel
  refine go_iload_n rfl hd (fun hd => ?_)
  refine go_iconst hd (fun hd => ?_)
  refine go_iload_n rfl hd (fun hd => ?_)
  refine go_ishl hd (fun hd => ?_)
  refine go_ior hd (fun hd => ?_)
  refine go_istore_n (by decide) hd (fun hd => ?_)
  exact k
theorem b_X_doneBy_64 {L : Nat} {d : Nat} {I : jm_I} {Q : Option jm_V → jm_I → Prop} {o0 : Option jm_V} {o1 : Option jm_V} {o2 : Option jm_V} {x3 : Int}  (k : Gx (jx_0 L) d md_X_doneBy 16 [o0, o1, o2, some (.inl (x3 + 1))] [] I Q) : Gx (jx_0 L) d md_X_doneBy 64 [o0, o1, o2, some (.inl x3)] [] I Q := by
  show jm_Go d 0 0 md_X_doneBy 64 [o0, o1, o2, some (.inl x3)] [] (jx (jx_0 L) I) (jx_Q (jx_0 L) Q)
  have hd : jm_dc md_X_doneBy.2.1 64 [(.iinc 3 1, 3), (.goto (-51), 3)] = true := by decide +kernel
  refine go_iinc rfl hd (fun hd => ?_)
  exact go_goto (by decide) hd k
theorem b_X_doneBy_70 {L : Nat} {d : Nat} {I : jm_I} {Q : Option jm_V → jm_I → Prop} {o0 : Option jm_V} {o1 : Option jm_V} {x2 : Int} {o3 : Option jm_V}  (k : Q (some (.inl x2)) I) : Gx (jx_0 L) d md_X_doneBy 70 [o0, o1, some (.inl x2), o3] [] I Q := by
  show jm_Go d 0 0 md_X_doneBy 70 [o0, o1, some (.inl x2), o3] [] (jx (jx_0 L) I) (jx_Q (jx_0 L) Q)
  have hd : jm_dc md_X_doneBy.2.1 70 [(.iload_n 2, 1), (.ireturn, 1)] = true := by decide +kernel
  refine go_iload_n rfl hd (fun hd => ?_)
  exact go_ireturn hd rfl ⟨_, rfl, k⟩
theorem b_X_guard_0 {L : Nat} {d : Nat} {I : jm_I} {Q : Option jm_V → jm_I → Prop} {x1 : Int} {x2 : Int}  (k : Cx (jx_0 L) d md_X_isThing [.inr (.inl 1), .inl x1] I (fun v J => Gx (jx_0 L) (d + 1) md_X_guard 5 [some (.inr (.inl 1)), some (.inl x1), some (.inl x2), none, none, none, none, none] (v.toList ++ []) J Q)) : Cx (jx_0 L) (d + 1) md_X_guard [.inr (.inl 1), .inl x1, .inl x2] I Q := by
  show jm_Go (d + 1) 0 0 md_X_guard 0 [some (.inr (.inl 1)), some (.inl x1), some (.inl x2), none, none, none, none, none] [] (jx (jx_0 L) I) (jx_Q (jx_0 L) Q)
  have hd : jm_dc md_X_guard.2.1 0 [(.aload_n 0, 1), (.iload_n 1, 1), (.invokevirtual 132, 3)] = true := by decide +kernel
  refine go_aload_n rfl hd (fun hd => ?_)
  refine go_iload_n rfl hd (fun hd => ?_)
  exact gx_virtual 1 8 [.inl x1] [] mk_X_isThing co_X8 rfl ml_8_132 in_X_isThing se_X_isThing rfl rfl (Nat.le_of_ble_eq_true rfl) rfl (Nat.le_of_ble_eq_true rfl) rfl hd k
theorem b_X_guard_5 {L : Nat} {d : Nat} {I : jm_I} {Q : Option jm_V → jm_I → Prop} {o0 : Option jm_V} {o1 : Option jm_V} {o2 : Option jm_V} {o3 : Option jm_V} {o4 : Option jm_V} {o5 : Option jm_V} {o6 : Option jm_V} {o7 : Option jm_V} {s0 : Int}  (hz : (-2147483648 ≤ s0 ∧ s0 < 2147483648)) (kt : s0 = 0 → Gx (jx_0 L) d md_X_guard 16 [o0, o1, o2, o3, o4, o5, o6, o7] [] I Q) (kf : ¬ s0 = 0 → Gx (jx_0 L) d md_X_guard 8 [o0, o1, o2, o3, o4, o5, o6, o7] [] I Q) : Gx (jx_0 L) d md_X_guard 5 [o0, o1, o2, o3, o4, o5, o6, o7] [.inl s0] I Q := by
  have hz1 := hz
  show jm_Go d 0 0 md_X_guard 5 [o0, o1, o2, o3, o4, o5, o6, o7] [.inl s0] (jx (jx_0 L) I) (jx_Q (jx_0 L) Q)
  have hd : jm_dc md_X_guard.2.1 5 [(.ifCond .eq 11, 3)] = true := by decide +kernel
  exact go_if_eq (by decide) hz1 hd kt kf
theorem b_X_guard_8 {L : Nat} {d : Nat} {I : jm_I} {Q : Option jm_V → jm_I → Prop} {o1 : Option jm_V} {x2 : Int} {o3 : Option jm_V} {o4 : Option jm_V} {o5 : Option jm_V} {o6 : Option jm_V} {o7 : Option jm_V}  (k : Cx (jx_0 L) d md_X_isRoom [.inr (.inl 1), .inl x2] I (fun v J => Gx (jx_0 L) (d + 1) md_X_guard 13 [some (.inr (.inl 1)), o1, some (.inl x2), o3, o4, o5, o6, o7] (v.toList ++ []) J Q)) : Gx (jx_0 L) (d + 1) md_X_guard 8 [some (.inr (.inl 1)), o1, some (.inl x2), o3, o4, o5, o6, o7] [] I Q := by
  show jm_Go (d + 1) 0 0 md_X_guard 8 [some (.inr (.inl 1)), o1, some (.inl x2), o3, o4, o5, o6, o7] [] (jx (jx_0 L) I) (jx_Q (jx_0 L) Q)
  have hd : jm_dc md_X_guard.2.1 8 [(.aload_n 0, 1), (.iload_n 2, 1), (.invokevirtual 163, 3)] = true := by decide +kernel
  refine go_aload_n rfl hd (fun hd => ?_)
  refine go_iload_n rfl hd (fun hd => ?_)
  exact gx_virtual 1 8 [.inl x2] [] mk_X_isRoom co_X8 rfl ml_8_163 in_X_isRoom se_X_isRoom rfl rfl (Nat.le_of_ble_eq_true rfl) rfl (Nat.le_of_ble_eq_true rfl) rfl hd k
theorem b_X_guard_13 {L : Nat} {d : Nat} {I : jm_I} {Q : Option jm_V → jm_I → Prop} {o0 : Option jm_V} {o1 : Option jm_V} {o2 : Option jm_V} {o3 : Option jm_V} {o4 : Option jm_V} {o5 : Option jm_V} {o6 : Option jm_V} {o7 : Option jm_V} {s0 : Int}  (hz : (-2147483648 ≤ s0 ∧ s0 < 2147483648)) (kt : ¬ s0 = 0 → Gx (jx_0 L) d md_X_guard 18 [o0, o1, o2, o3, o4, o5, o6, o7] [] I Q) (kf : s0 = 0 → Gx (jx_0 L) d md_X_guard 16 [o0, o1, o2, o3, o4, o5, o6, o7] [] I Q) : Gx (jx_0 L) d md_X_guard 13 [o0, o1, o2, o3, o4, o5, o6, o7] [.inl s0] I Q := by
  have hz1 := hz
  show jm_Go d 0 0 md_X_guard 13 [o0, o1, o2, o3, o4, o5, o6, o7] [.inl s0] (jx (jx_0 L) I) (jx_Q (jx_0 L) Q)
  have hd : jm_dc md_X_guard.2.1 13 [(.ifCond .ne 5, 3)] = true := by decide +kernel
  exact go_if_ne (by decide) hz1 hd kt kf
theorem b_X_guard_16 {L : Nat} {d : Nat} {I : jm_I} {Q : Option jm_V → jm_I → Prop} {o0 : Option jm_V} {o1 : Option jm_V} {o2 : Option jm_V} {o3 : Option jm_V} {o4 : Option jm_V} {o5 : Option jm_V} {o6 : Option jm_V} {o7 : Option jm_V}  (k : Q (some (.inl (-1))) I) : Gx (jx_0 L) d md_X_guard 16 [o0, o1, o2, o3, o4, o5, o6, o7] [] I Q := by
  show jm_Go d 0 0 md_X_guard 16 [o0, o1, o2, o3, o4, o5, o6, o7] [] (jx (jx_0 L) I) (jx_Q (jx_0 L) Q)
  have hd : jm_dc md_X_guard.2.1 16 [(.iconst (-1), 1), (.ireturn, 1)] = true := by decide +kernel
  refine go_iconst hd (fun hd => ?_)
  exact go_ireturn hd rfl ⟨_, rfl, k⟩
theorem b_X_guard_18 {L : Nat} {d : Nat} {I : jm_I} {Q : Option jm_V → jm_I → Prop} {o1 : Option jm_V} {o2 : Option jm_V} {o3 : Option jm_V} {o4 : Option jm_V} {o5 : Option jm_V} {o6 : Option jm_V} {o7 : Option jm_V} {c1 : Nat} (hD1 : I 1 0 = (c1 : Int)) (hc1 : jx_City (jx_0 L) c1) (k : Cx (jx_0 L) d md_City_openDoors [.inr (.inl c1)] I (fun v J => Gx (jx_0 L) (d + 1) md_X_guard 25 [some (.inr (.inl 1)), o1, o2, o3, o4, o5, o6, o7] (v.toList ++ []) J Q)) : Gx (jx_0 L) (d + 1) md_X_guard 18 [some (.inr (.inl 1)), o1, o2, o3, o4, o5, o6, o7] [] I Q := by
  show jm_Go (d + 1) 0 0 md_X_guard 18 [some (.inr (.inl 1)), o1, o2, o3, o4, o5, o6, o7] [] (jx (jx_0 L) I) (jx_Q (jx_0 L) Q)
  have hd : jm_dc md_X_guard.2.1 18 [(.aload_n 0, 1), (.getfield 12, 3), (.invokevirtual 218, 3)] = true := by decide +kernel
  refine go_aload_n rfl hd (fun hd => ?_)
  refine go_getD co_X8 fl_8_12 (by decide) rfl rfl hD1 (ct_pos hc1) hd (fun hd => ?_)
  exact gx_virtual c1 0 [] [] mk_City_openDoors co_X0 rfl ml_8_218 in_City_openDoors se_City_openDoors (ct_K hc1) rfl (Nat.le_of_ble_eq_true rfl) rfl (Nat.le_of_ble_eq_true rfl) rfl hd k
theorem b_X_guard_25 {L : Nat} {d : Nat} {I : jm_I} {Q : Option jm_V → jm_I → Prop} {o0 : Option jm_V} {o1 : Option jm_V} {o2 : Option jm_V} {o3 : Option jm_V} {o4 : Option jm_V} {o5 : Option jm_V} {o6 : Option jm_V} {o7 : Option jm_V} {s0 : Int}  (k : Gx (jx_0 L) d md_X_guard 37 [o0, o1, o2, some (.inl s0), some (.inl 9), some (.inl (-9)), some (.inl 0), o7] [] I Q) : Gx (jx_0 L) d md_X_guard 25 [o0, o1, o2, o3, o4, o5, o6, o7] [.inl s0] I Q := by
  show jm_Go d 0 0 md_X_guard 25 [o0, o1, o2, o3, o4, o5, o6, o7] [.inl s0] (jx (jx_0 L) I) (jx_Q (jx_0 L) Q)
  have hd : jm_dc md_X_guard.2.1 25 [(.istore_n 3, 1), (.bipush 9, 2), (.istore 4, 2), (.bipush (-9), 2), (.istore 5, 2), (.iconst 0, 1), (.istore 6, 2)] = true := by decide +kernel
  refine go_istore_n (by decide) hd (fun hd => ?_)
  refine go_bipush (by decide) hd (fun hd => ?_)
  refine go_istore (by decide) hd (fun hd => ?_)
  refine go_bipush (by decide) hd (fun hd => ?_)
  refine go_istore (by decide) hd (fun hd => ?_)
  refine go_iconst hd (fun hd => ?_)
  refine go_istore (by decide) hd (fun hd => ?_)
  exact k
theorem b_X_guard_37 {L : Nat} {d : Nat} {I : jm_I} {Q : Option jm_V → jm_I → Prop} {o0 : Option jm_V} {o1 : Option jm_V} {o2 : Option jm_V} {o3 : Option jm_V} {o4 : Option jm_V} {o5 : Option jm_V} {x6 : Int} {o7 : Option jm_V}  (hz : (-2147483648 ≤ x6 ∧ x6 < 2147483648)) (kt : 256 ≤ x6 → Gx (jx_0 L) d md_X_guard 104 [o0, o1, o2, o3, o4, o5, some (.inl x6), o7] [] I Q) (kf : ¬ (256 ≤ x6) → Gx (jx_0 L) d md_X_guard 45 [o0, o1, o2, o3, o4, o5, some (.inl x6), o7] [] I Q) : Gx (jx_0 L) d md_X_guard 37 [o0, o1, o2, o3, o4, o5, some (.inl x6), o7] [] I Q := by
  have hz1 := hz
  show jm_Go d 0 0 md_X_guard 37 [o0, o1, o2, o3, o4, o5, some (.inl x6), o7] [] (jx (jx_0 L) I) (jx_Q (jx_0 L) Q)
  have hd : jm_dc md_X_guard.2.1 37 [(.iload 6, 2), (.sipush 256, 3), (.if_icmp .ge 62, 3)] = true := by decide +kernel
  refine go_iload rfl hd (fun hd => ?_)
  refine go_sipush (by decide) hd (fun hd => ?_)
  exact go_icmp_ge (by decide) hz1 ⟨by decide, by decide⟩ hd kt kf
theorem b_X_guard_45 {L : Nat} {d : Nat} {I : jm_I} {Q : Option jm_V → jm_I → Prop} {o0 : Option jm_V} {o1 : Option jm_V} {o2 : Option jm_V} {x3 : Int} {o4 : Option jm_V} {o5 : Option jm_V} {x6 : Int} {o7 : Option jm_V}  (hz : (-2147483648 ≤ jb_and x6 (jb_xor x3 (-1)) ∧ jb_and x6 (jb_xor x3 (-1)) < 2147483648)) (kt : ¬ (jb_and x6 (jb_xor x3 (-1))) = 0 → Gx (jx_0 L) d md_X_guard 68 [o0, o1, o2, some (.inl x3), o4, o5, some (.inl x6), o7] [] I Q) (kf : (jb_and x6 (jb_xor x3 (-1))) = 0 → Gx (jx_0 L) d md_X_guard 54 [o0, o1, o2, some (.inl x3), o4, o5, some (.inl x6), o7] [] I Q) : Gx (jx_0 L) d md_X_guard 45 [o0, o1, o2, some (.inl x3), o4, o5, some (.inl x6), o7] [] I Q := by
  have hz1 := hz
  show jm_Go d 0 0 md_X_guard 45 [o0, o1, o2, some (.inl x3), o4, o5, some (.inl x6), o7] [] (jx (jx_0 L) I) (jx_Q (jx_0 L) Q)
  have hd : jm_dc md_X_guard.2.1 45 [(.iload 6, 2), (.iload_n 3, 1), (.iconst (-1), 1), (.ixor, 1), (.iand, 1), (.ifCond .ne 17, 3)] = true := by decide +kernel
  refine go_iload rfl hd (fun hd => ?_)
  refine go_iload_n rfl hd (fun hd => ?_)
  refine go_iconst hd (fun hd => ?_)
  refine go_ixor hd (fun hd => ?_)
  refine go_iand hd (fun hd => ?_)
  exact go_if_ne (by decide) hz1 hd kt kf
theorem b_X_guard_54 {L : Nat} {d : Nat} {I : jm_I} {Q : Option jm_V → jm_I → Prop} {o0 : Option jm_V} {o1 : Option jm_V} {o2 : Option jm_V} {o3 : Option jm_V} {o4 : Option jm_V} {o5 : Option jm_V} {x6 : Int} {o7 : Option jm_V}  (k : Cx (jx_0 L) d md_Integer_bitCount [.inl x6] I (fun v J => Gx (jx_0 L) (d + 1) md_X_guard 59 [o0, o1, o2, o3, o4, o5, some (.inl x6), o7] (v.toList ++ []) J Q)) : Gx (jx_0 L) (d + 1) md_X_guard 54 [o0, o1, o2, o3, o4, o5, some (.inl x6), o7] [] I Q := by
  show jm_Go (d + 1) 0 0 md_X_guard 54 [o0, o1, o2, o3, o4, o5, some (.inl x6), o7] [] (jx (jx_0 L) I) (jx_Q (jx_0 L) Q)
  have hd : jm_dc md_X_guard.2.1 54 [(.iload 6, 2), (.invokestatic 221, 3)] = true := by decide +kernel
  refine go_iload rfl hd (fun hd => ?_)
  exact gx_static [.inl x6] [] mk_Integer_bitCount ml_8_221 st_Integer_bitCount rfl (Nat.le_of_ble_eq_true rfl) rfl (Nat.le_of_ble_eq_true rfl) rfl hd k
theorem b_X_guard_59 {L : Nat} {d : Nat} {I : jm_I} {Q : Option jm_V → jm_I → Prop} {o0 : Option jm_V} {o1 : Option jm_V} {o2 : Option jm_V} {o3 : Option jm_V} {x4 : Int} {o5 : Option jm_V} {o6 : Option jm_V} {o7 : Option jm_V} {s0 : Int}  (hz : (-2147483648 ≤ s0 ∧ s0 < 2147483648) ∧ (-2147483648 ≤ x4 ∧ x4 < 2147483648)) (kt : x4 ≤ s0 → Gx (jx_0 L) d md_X_guard 68 [o0, o1, o2, o3, some (.inl x4), o5, o6, o7] [] I Q) (kf : ¬ (x4 ≤ s0) → Gx (jx_0 L) d md_X_guard 64 [o0, o1, o2, o3, some (.inl x4), o5, o6, o7] [] I Q) : Gx (jx_0 L) d md_X_guard 59 [o0, o1, o2, o3, some (.inl x4), o5, o6, o7] [.inl s0] I Q := by
  obtain ⟨hz1, hz2⟩ := hz
  show jm_Go d 0 0 md_X_guard 59 [o0, o1, o2, o3, some (.inl x4), o5, o6, o7] [.inl s0] (jx (jx_0 L) I) (jx_Q (jx_0 L) Q)
  have hd : jm_dc md_X_guard.2.1 59 [(.iload 4, 2), (.if_icmp .ge 7, 3)] = true := by decide +kernel
  refine go_iload rfl hd (fun hd => ?_)
  exact go_icmp_ge (by decide) hz1 hz2 hd kt kf
theorem b_X_guard_64 {L : Nat} {d : Nat} {I : jm_I} {Q : Option jm_V → jm_I → Prop} {o0 : Option jm_V} {o1 : Option jm_V} {o2 : Option jm_V} {o3 : Option jm_V} {o4 : Option jm_V} {o5 : Option jm_V} {o6 : Option jm_V} {o7 : Option jm_V}  (k : Gx (jx_0 L) d md_X_guard 69 [o0, o1, o2, o3, o4, o5, o6, o7] [.inl 1] I Q) : Gx (jx_0 L) d md_X_guard 64 [o0, o1, o2, o3, o4, o5, o6, o7] [] I Q := by
  show jm_Go d 0 0 md_X_guard 64 [o0, o1, o2, o3, o4, o5, o6, o7] [] (jx (jx_0 L) I) (jx_Q (jx_0 L) Q)
  have hd : jm_dc md_X_guard.2.1 64 [(.iconst 1, 1), (.goto 4, 3)] = true := by decide +kernel
  refine go_iconst hd (fun hd => ?_)
  exact go_goto (by decide) hd k
theorem b_X_guard_68 {L : Nat} {d : Nat} {I : jm_I} {Q : Option jm_V → jm_I → Prop} {o0 : Option jm_V} {o1 : Option jm_V} {o2 : Option jm_V} {o3 : Option jm_V} {o4 : Option jm_V} {o5 : Option jm_V} {o6 : Option jm_V} {o7 : Option jm_V}  (k : Gx (jx_0 L) d md_X_guard 69 [o0, o1, o2, o3, o4, o5, o6, o7] [.inl 0] I Q) : Gx (jx_0 L) d md_X_guard 68 [o0, o1, o2, o3, o4, o5, o6, o7] [] I Q := by
  show jm_Go d 0 0 md_X_guard 68 [o0, o1, o2, o3, o4, o5, o6, o7] [] (jx (jx_0 L) I) (jx_Q (jx_0 L) Q)
  have hd : jm_dc md_X_guard.2.1 68 [(.iconst 0, 1)] = true := by decide +kernel
  refine go_iconst hd (fun hd => ?_)
  exact k
theorem b_X_guard_69 {L : Nat} {d : Nat} {I : jm_I} {Q : Option jm_V → jm_I → Prop} {o0 : Option jm_V} {o1 : Option jm_V} {o2 : Option jm_V} {o3 : Option jm_V} {o4 : Option jm_V} {o5 : Option jm_V} {o6 : Option jm_V} {o7 : Option jm_V} {s0 : Int}  (hz : (-2147483648 ≤ s0 ∧ s0 < 2147483648)) (kt : s0 = 0 → Gx (jx_0 L) d md_X_guard 98 [o0, o1, o2, o3, o4, o5, o6, some (.inl s0)] [] I Q) (kf : ¬ s0 = 0 → Gx (jx_0 L) d md_X_guard 76 [o0, o1, o2, o3, o4, o5, o6, some (.inl s0)] [] I Q) : Gx (jx_0 L) d md_X_guard 69 [o0, o1, o2, o3, o4, o5, o6, o7] [.inl s0] I Q := by
  have hz1 := hz
  show jm_Go d 0 0 md_X_guard 69 [o0, o1, o2, o3, o4, o5, o6, o7] [.inl s0] (jx (jx_0 L) I) (jx_Q (jx_0 L) Q)
  have hd : jm_dc md_X_guard.2.1 69 [(.istore 7, 2), (.iload 7, 2), (.ifCond .eq 25, 3)] = true := by decide +kernel
  refine go_istore (by decide) hd (fun hd => ?_)
  refine go_iload rfl hd (fun hd => ?_)
  exact go_if_eq (by decide) hz1 hd kt kf
theorem b_X_guard_76 {L : Nat} {d : Nat} {I : jm_I} {Q : Option jm_V → jm_I → Prop} {x1 : Int} {x2 : Int} {o3 : Option jm_V} {o4 : Option jm_V} {o5 : Option jm_V} {x6 : Int} {o7 : Option jm_V}  (k : Cx (jx_0 L) d md_X_anybodyCarries [.inr (.inl 1), .inl x1, .inl x2, .inl x6] I (fun v J => Gx (jx_0 L) (d + 1) md_X_guard 84 [some (.inr (.inl 1)), some (.inl x1), some (.inl x2), o3, o4, o5, some (.inl x6), o7] (v.toList ++ []) J Q)) : Gx (jx_0 L) (d + 1) md_X_guard 76 [some (.inr (.inl 1)), some (.inl x1), some (.inl x2), o3, o4, o5, some (.inl x6), o7] [] I Q := by
  show jm_Go (d + 1) 0 0 md_X_guard 76 [some (.inr (.inl 1)), some (.inl x1), some (.inl x2), o3, o4, o5, some (.inl x6), o7] [] (jx (jx_0 L) I) (jx_Q (jx_0 L) Q)
  have hd : jm_dc md_X_guard.2.1 76 [(.aload_n 0, 1), (.iload_n 1, 1), (.iload_n 2, 1), (.iload 6, 2), (.invokevirtual 226, 3)] = true := by decide +kernel
  refine go_aload_n rfl hd (fun hd => ?_)
  refine go_iload_n rfl hd (fun hd => ?_)
  refine go_iload_n rfl hd (fun hd => ?_)
  refine go_iload rfl hd (fun hd => ?_)
  exact gx_virtual 1 8 [.inl x1, .inl x2, .inl x6] [] mk_X_anybodyCarries co_X8 rfl ml_8_226 in_X_anybodyCarries se_X_anybodyCarries rfl rfl (Nat.le_of_ble_eq_true rfl) rfl (Nat.le_of_ble_eq_true rfl) rfl hd k
theorem b_X_guard_84 {L : Nat} {d : Nat} {I : jm_I} {Q : Option jm_V → jm_I → Prop} {o0 : Option jm_V} {o1 : Option jm_V} {o2 : Option jm_V} {o3 : Option jm_V} {o4 : Option jm_V} {o5 : Option jm_V} {o6 : Option jm_V} {o7 : Option jm_V} {s0 : Int}  (hz : (-2147483648 ≤ s0 ∧ s0 < 2147483648)) (kt : ¬ s0 = 0 → Gx (jx_0 L) d md_X_guard 98 [o0, o1, o2, o3, o4, o5, o6, o7] [] I Q) (kf : s0 = 0 → Gx (jx_0 L) d md_X_guard 87 [o0, o1, o2, o3, o4, o5, o6, o7] [] I Q) : Gx (jx_0 L) d md_X_guard 84 [o0, o1, o2, o3, o4, o5, o6, o7] [.inl s0] I Q := by
  have hz1 := hz
  show jm_Go d 0 0 md_X_guard 84 [o0, o1, o2, o3, o4, o5, o6, o7] [.inl s0] (jx (jx_0 L) I) (jx_Q (jx_0 L) Q)
  have hd : jm_dc md_X_guard.2.1 84 [(.ifCond .ne 14, 3)] = true := by decide +kernel
  exact go_if_ne (by decide) hz1 hd kt kf
theorem b_X_guard_87 {L : Nat} {d : Nat} {I : jm_I} {Q : Option jm_V → jm_I → Prop} {o0 : Option jm_V} {o1 : Option jm_V} {o2 : Option jm_V} {o3 : Option jm_V} {o4 : Option jm_V} {o5 : Option jm_V} {x6 : Int} {o7 : Option jm_V}  (k : Cx (jx_0 L) d md_Integer_bitCount [.inl x6] I (fun v J => Gx (jx_0 L) (d + 1) md_X_guard 92 [o0, o1, o2, o3, o4, o5, some (.inl x6), o7] (v.toList ++ []) J Q)) : Gx (jx_0 L) (d + 1) md_X_guard 87 [o0, o1, o2, o3, o4, o5, some (.inl x6), o7] [] I Q := by
  show jm_Go (d + 1) 0 0 md_X_guard 87 [o0, o1, o2, o3, o4, o5, some (.inl x6), o7] [] (jx (jx_0 L) I) (jx_Q (jx_0 L) Q)
  have hd : jm_dc md_X_guard.2.1 87 [(.iload 6, 2), (.invokestatic 221, 3)] = true := by decide +kernel
  refine go_iload rfl hd (fun hd => ?_)
  exact gx_static [.inl x6] [] mk_Integer_bitCount ml_8_221 st_Integer_bitCount rfl (Nat.le_of_ble_eq_true rfl) rfl (Nat.le_of_ble_eq_true rfl) rfl hd k
theorem b_X_guard_92 {L : Nat} {d : Nat} {I : jm_I} {Q : Option jm_V → jm_I → Prop} {o0 : Option jm_V} {o1 : Option jm_V} {o2 : Option jm_V} {o3 : Option jm_V} {o4 : Option jm_V} {o5 : Option jm_V} {x6 : Int} {o7 : Option jm_V} {s0 : Int}  (k : Gx (jx_0 L) d md_X_guard 98 [o0, o1, o2, o3, some (.inl s0), some (.inl x6), some (.inl x6), o7] [] I Q) : Gx (jx_0 L) d md_X_guard 92 [o0, o1, o2, o3, o4, o5, some (.inl x6), o7] [.inl s0] I Q := by
  show jm_Go d 0 0 md_X_guard 92 [o0, o1, o2, o3, o4, o5, some (.inl x6), o7] [.inl s0] (jx (jx_0 L) I) (jx_Q (jx_0 L) Q)
  have hd : jm_dc md_X_guard.2.1 92 [(.istore 4, 2), (.iload 6, 2), (.istore 5, 2)] = true := by decide +kernel
  refine go_istore (by decide) hd (fun hd => ?_)
  refine go_iload rfl hd (fun hd => ?_)
  refine go_istore (by decide) hd (fun hd => ?_)
  exact k
theorem b_X_guard_98 {L : Nat} {d : Nat} {I : jm_I} {Q : Option jm_V → jm_I → Prop} {o0 : Option jm_V} {o1 : Option jm_V} {o2 : Option jm_V} {o3 : Option jm_V} {o4 : Option jm_V} {o5 : Option jm_V} {x6 : Int} {o7 : Option jm_V}  (k : Gx (jx_0 L) d md_X_guard 37 [o0, o1, o2, o3, o4, o5, some (.inl (x6 + 1)), o7] [] I Q) : Gx (jx_0 L) d md_X_guard 98 [o0, o1, o2, o3, o4, o5, some (.inl x6), o7] [] I Q := by
  show jm_Go d 0 0 md_X_guard 98 [o0, o1, o2, o3, o4, o5, some (.inl x6), o7] [] (jx (jx_0 L) I) (jx_Q (jx_0 L) Q)
  have hd : jm_dc md_X_guard.2.1 98 [(.iinc 6 1, 3), (.goto (-64), 3)] = true := by decide +kernel
  refine go_iinc rfl hd (fun hd => ?_)
  exact go_goto (by decide) hd k
theorem b_X_guard_104 {L : Nat} {d : Nat} {I : jm_I} {Q : Option jm_V → jm_I → Prop} {o0 : Option jm_V} {o1 : Option jm_V} {o2 : Option jm_V} {o3 : Option jm_V} {o4 : Option jm_V} {x5 : Int} {o6 : Option jm_V} {o7 : Option jm_V}  (k : Q (some (.inl x5)) I) : Gx (jx_0 L) d md_X_guard 104 [o0, o1, o2, o3, o4, some (.inl x5), o6, o7] [] I Q := by
  show jm_Go d 0 0 md_X_guard 104 [o0, o1, o2, o3, o4, some (.inl x5), o6, o7] [] (jx (jx_0 L) I) (jx_Q (jx_0 L) Q)
  have hd : jm_dc md_X_guard.2.1 104 [(.iload 5, 2), (.ireturn, 1)] = true := by decide +kernel
  refine go_iload rfl hd (fun hd => ?_)
  exact go_ireturn hd rfl ⟨_, rfl, k⟩
theorem b_X_anybodyCarries_0 {L : Nat} {d : Nat} {I : jm_I} {Q : Option jm_V → jm_I → Prop} {x1 : Int} {x2 : Int} {x3 : Int} {c1 : Nat} (hD1 : I 1 0 = (c1 : Int)) (hc1 : jx_City (jx_0 L) c1) (k : Cx (jx_0 L) d md_X_roomOfThing [.inr (.inl 1), .inl x1] I (fun v J => Gx (jx_0 L) (d + 1) md_X_anybodyCarries 9 [some (.inr (.inl 1)), some (.inl x1), some (.inl x2), some (.inl x3), none, none] (v.toList ++ [.inr (.inl c1)]) J Q)) : Cx (jx_0 L) (d + 1) md_X_anybodyCarries [.inr (.inl 1), .inl x1, .inl x2, .inl x3] I Q := by
  show jm_Go (d + 1) 0 0 md_X_anybodyCarries 0 [some (.inr (.inl 1)), some (.inl x1), some (.inl x2), some (.inl x3), none, none] [] (jx (jx_0 L) I) (jx_Q (jx_0 L) Q)
  have hd : jm_dc md_X_anybodyCarries.2.1 0 [(.aload_n 0, 1), (.getfield 12, 3), (.aload_n 0, 1), (.iload_n 1, 1), (.invokevirtual 135, 3)] = true := by decide +kernel
  refine go_aload_n rfl hd (fun hd => ?_)
  refine go_getD co_X8 fl_8_12 (by decide) rfl rfl hD1 (ct_pos hc1) hd (fun hd => ?_)
  refine go_aload_n rfl hd (fun hd => ?_)
  refine go_iload_n rfl hd (fun hd => ?_)
  exact gx_virtual 1 8 [.inl x1] [.inr (.inl c1)] mk_X_roomOfThing co_X8 rfl ml_8_135 in_X_roomOfThing se_X_roomOfThing rfl rfl (Nat.le_of_ble_eq_true rfl) rfl (Nat.le_of_ble_eq_true rfl) rfl hd k
theorem b_X_anybodyCarries_9 {L : Nat} {d : Nat} {I : jm_I} {Q : Option jm_V → jm_I → Prop} {o1 : Option jm_V} {o2 : Option jm_V} {x3 : Int} {o4 : Option jm_V} {o5 : Option jm_V} {b0 : Nat} {s1 : Int} (hb0 : jx_City (jx_0 L) b0) (k : Cx (jx_0 L) d md_City_measureFrom [.inr (.inl b0), .inl s1, .inl x3, .inr (.inl 156)] I (fun v J => Gx (jx_0 L) (d + 1) md_X_anybodyCarries 17 [some (.inr (.inl 1)), o1, o2, some (.inl x3), o4, o5] (v.toList ++ []) J Q)) : Gx (jx_0 L) (d + 1) md_X_anybodyCarries 9 [some (.inr (.inl 1)), o1, o2, some (.inl x3), o4, o5] [.inl s1, .inr (.inl b0)] I Q := by
  show jm_Go (d + 1) 0 0 md_X_anybodyCarries 9 [some (.inr (.inl 1)), o1, o2, some (.inl x3), o4, o5] [.inl s1, .inr (.inl b0)] (jx (jx_0 L) I) (jx_Q (jx_0 L) Q)
  have hd : jm_dc md_X_anybodyCarries.2.1 9 [(.iload_n 3, 1), (.aload_n 0, 1), (.getfield 80, 3), (.invokevirtual 280, 3)] = true := by decide +kernel
  refine go_iload_n rfl hd (fun hd => ?_)
  refine go_aload_n rfl hd (fun hd => ?_)
  refine go_getR co_X8 fl_8_80 (by decide) rfl rfl rfl hd (fun hd => ?_)
  exact gx_virtual b0 0 [.inl s1, .inl x3, .inr (.inl 156)] [] mk_City_measureFrom co_X0 rfl ml_8_280 in_City_measureFrom se_City_measureFrom (ct_K hb0) rfl (Nat.le_of_ble_eq_true rfl) rfl (Nat.le_of_ble_eq_true rfl) rfl hd k
theorem b_X_anybodyCarries_17 {L : Nat} {d : Nat} {I : jm_I} {Q : Option jm_V → jm_I → Prop} {o1 : Option jm_V} {o2 : Option jm_V} {o3 : Option jm_V} {o4 : Option jm_V} {o5 : Option jm_V} {c1 : Nat} (hD1 : I 1 0 = (c1 : Int)) (hc1 : jx_City (jx_0 L) c1) (k : Cx (jx_0 L) d md_Moment_rested [.inr (.inl 44), .inr (.inl c1)] I (fun v J => Gx (jx_0 L) (d + 1) md_X_anybodyCarries 28 [some (.inr (.inl 1)), o1, o2, o3, o4, o5] (v.toList ++ []) J Q)) : Gx (jx_0 L) (d + 1) md_X_anybodyCarries 17 [some (.inr (.inl 1)), o1, o2, o3, o4, o5] [] I Q := by
  show jm_Go (d + 1) 0 0 md_X_anybodyCarries 17 [some (.inr (.inl 1)), o1, o2, o3, o4, o5] [] (jx (jx_0 L) I) (jx_Q (jx_0 L) Q)
  have hd : jm_dc md_X_anybodyCarries.2.1 17 [(.aload_n 0, 1), (.getfield 33, 3), (.aload_n 0, 1), (.getfield 12, 3), (.invokevirtual 207, 3)] = true := by decide +kernel
  refine go_aload_n rfl hd (fun hd => ?_)
  refine go_getR co_X8 fl_8_33 (by decide) rfl rfl rfl hd (fun hd => ?_)
  refine go_aload_n rfl hd (fun hd => ?_)
  refine go_getD co_X8 fl_8_12 (by decide) rfl rfl hD1 (ct_pos hc1) hd (fun hd => ?_)
  exact gx_virtual 44 5 [.inr (.inl c1)] [] mk_Moment_rested co_X5 rfl ml_8_207 in_Moment_rested se_Moment_rested rfl rfl (Nat.le_of_ble_eq_true rfl) rfl (Nat.le_of_ble_eq_true rfl) rfl hd k
theorem b_X_anybodyCarries_28 {L : Nat} {d : Nat} {I : jm_I} {Q : Option jm_V → jm_I → Prop} {o0 : Option jm_V} {o1 : Option jm_V} {o2 : Option jm_V} {o3 : Option jm_V} {o4 : Option jm_V} {o5 : Option jm_V} {s0 : Int}  (k : Gx (jx_0 L) d md_X_anybodyCarries 33 [o0, o1, o2, o3, some (.inl s0), some (.inl 0)] [] I Q) : Gx (jx_0 L) d md_X_anybodyCarries 28 [o0, o1, o2, o3, o4, o5] [.inl s0] I Q := by
  show jm_Go d 0 0 md_X_anybodyCarries 28 [o0, o1, o2, o3, o4, o5] [.inl s0] (jx (jx_0 L) I) (jx_Q (jx_0 L) Q)
  have hd : jm_dc md_X_anybodyCarries.2.1 28 [(.istore 4, 2), (.iconst 0, 1), (.istore 5, 2)] = true := by decide +kernel
  refine go_istore (by decide) hd (fun hd => ?_)
  refine go_iconst hd (fun hd => ?_)
  refine go_istore (by decide) hd (fun hd => ?_)
  exact k
theorem b_X_anybodyCarries_33 {L : Nat} {d : Nat} {I : jm_I} {Q : Option jm_V → jm_I → Prop} {o1 : Option jm_V} {o2 : Option jm_V} {o3 : Option jm_V} {o4 : Option jm_V} {x5 : Int} {c1 : Nat} (hD1 : I 1 0 = (c1 : Int)) (hc1 : jx_City (jx_0 L) c1) (hz : (-2147483648 ≤ x5 ∧ x5 < 2147483648) ∧ (-2147483648 ≤ I c1 3 ∧ I c1 3 < 2147483648)) (kt : (I c1 3) ≤ x5 → Gx (jx_0 L) d md_X_anybodyCarries 95 [some (.inr (.inl 1)), o1, o2, o3, o4, some (.inl x5)] [] I Q) (kf : ¬ ((I c1 3) ≤ x5) → Gx (jx_0 L) d md_X_anybodyCarries 45 [some (.inr (.inl 1)), o1, o2, o3, o4, some (.inl x5)] [] I Q) : Gx (jx_0 L) d md_X_anybodyCarries 33 [some (.inr (.inl 1)), o1, o2, o3, o4, some (.inl x5)] [] I Q := by
  obtain ⟨hz1, hz2⟩ := hz
  show jm_Go d 0 0 md_X_anybodyCarries 33 [some (.inr (.inl 1)), o1, o2, o3, o4, some (.inl x5)] [] (jx (jx_0 L) I) (jx_Q (jx_0 L) Q)
  have hd : jm_dc md_X_anybodyCarries.2.1 33 [(.iload 5, 2), (.aload_n 0, 1), (.getfield 12, 3), (.getfield 211, 3), (.if_icmp .ge 53, 3)] = true := by decide +kernel
  refine go_iload rfl hd (fun hd => ?_)
  refine go_aload_n rfl hd (fun hd => ?_)
  refine go_getD co_X8 fl_8_12 (by decide) rfl rfl hD1 (ct_pos hc1) hd (fun hd => ?_)
  refine go_getI co_X0 fl_8_211 (by decide) (Or.inl rfl) (ct_K hc1) hd (fun hd => ?_)
  exact go_icmp_ge (by decide) hz1 hz2 hd kt kf
theorem b_X_anybodyCarries_45 {L : Nat} {d : Nat} {I : jm_I} {Q : Option jm_V → jm_I → Prop} {o0 : Option jm_V} {o1 : Option jm_V} {o2 : Option jm_V} {o3 : Option jm_V} {x4 : Int} {x5 : Int}  (hz : (-2147483648 ≤ jb_and (jb_shr x4 x5) 1 ∧ jb_and (jb_shr x4 x5) 1 < 2147483648)) (kt : (jb_and (jb_shr x4 x5) 1) = 0 → Gx (jx_0 L) d md_X_anybodyCarries 89 [o0, o1, o2, o3, some (.inl x4), some (.inl x5)] [] I Q) (kf : ¬ (jb_and (jb_shr x4 x5) 1) = 0 → Gx (jx_0 L) d md_X_anybodyCarries 55 [o0, o1, o2, o3, some (.inl x4), some (.inl x5)] [] I Q) : Gx (jx_0 L) d md_X_anybodyCarries 45 [o0, o1, o2, o3, some (.inl x4), some (.inl x5)] [] I Q := by
  have hz1 := hz
  show jm_Go d 0 0 md_X_anybodyCarries 45 [o0, o1, o2, o3, some (.inl x4), some (.inl x5)] [] (jx (jx_0 L) I) (jx_Q (jx_0 L) Q)
  have hd : jm_dc md_X_anybodyCarries.2.1 45 [(.iload 4, 2), (.iload 5, 2), (.ishr, 1), (.iconst 1, 1), (.iand, 1), (.ifCond .eq 37, 3)] = true := by decide +kernel
  refine go_iload rfl hd (fun hd => ?_)
  refine go_iload rfl hd (fun hd => ?_)
  refine go_ishr hd (fun hd => ?_)
  refine go_iconst hd (fun hd => ?_)
  refine go_iand hd (fun hd => ?_)
  exact go_if_eq (by decide) hz1 hd kt kf
theorem b_X_anybodyCarries_55 {L : Nat} {d : Nat} {I : jm_I} {Q : Option jm_V → jm_I → Prop} {o1 : Option jm_V} {x2 : Int} {o3 : Option jm_V} {o4 : Option jm_V} {x5 : Int} {c1 : Nat} (hD1 : I 1 0 = (c1 : Int)) (hc1 : jx_City (jx_0 L) c1) (hz : (0 ≤ x5 ∧ x5 < 5) ∧ (0 ≤ I 45 x5.toNat ∧ I 45 x5.toNat < 6) ∧ (0 ≤ x2 ∧ x2 < 6) ∧ (-2147483648 ≤ (I 156 (I 45 x5.toNat).toNat) + (I 156 x2.toNat) ∧ (I 156 (I 45 x5.toNat).toNat) + (I 156 x2.toNat) < 2147483648) ∧ (-2147483648 ≤ I c1 1 ∧ I c1 1 < 2147483648)) (kt : (I c1 1) < ((I 156 (I 45 x5.toNat).toNat) + (I 156 x2.toNat)) → Gx (jx_0 L) d md_X_anybodyCarries 89 [some (.inr (.inl 1)), o1, some (.inl x2), o3, o4, some (.inl x5)] [] I Q) (kf : ¬ ((I c1 1) < ((I 156 (I 45 x5.toNat).toNat) + (I 156 x2.toNat))) → Gx (jx_0 L) d md_X_anybodyCarries 87 [some (.inr (.inl 1)), o1, some (.inl x2), o3, o4, some (.inl x5)] [] I Q) : Gx (jx_0 L) d md_X_anybodyCarries 55 [some (.inr (.inl 1)), o1, some (.inl x2), o3, o4, some (.inl x5)] [] I Q := by
  obtain ⟨hz1, hz2, hz3, hz4, hz5⟩ := hz
  show jm_Go d 0 0 md_X_anybodyCarries 55 [some (.inr (.inl 1)), o1, some (.inl x2), o3, o4, some (.inl x5)] [] (jx (jx_0 L) I) (jx_Q (jx_0 L) Q)
  have hd : jm_dc md_X_anybodyCarries.2.1 55 [(.aload_n 0, 1), (.getfield 80, 3), (.aload_n 0, 1), (.getfield 33, 3), (.getfield 120, 3), (.iload 5, 2), (.iaload, 1), (.iaload, 1), (.aload_n 0, 1), (.getfield 80, 3), (.iload_n 2, 1), (.iaload, 1), (.iadd, 1), (.aload_n 0, 1), (.getfield 12, 3), (.getfield 160, 3), (.if_icmp .gt 5, 3)] = true := by decide +kernel
  refine go_aload_n rfl hd (fun hd => ?_)
  refine go_getR co_X8 fl_8_80 (by decide) rfl rfl rfl hd (fun hd => ?_)
  refine go_aload_n rfl hd (fun hd => ?_)
  refine go_getR co_X8 fl_8_33 (by decide) rfl rfl rfl hd (fun hd => ?_)
  refine go_getR co_X5 fl_8_120 (by decide) rfl rfl rfl hd (fun hd => ?_)
  refine go_iload rfl hd (fun hd => ?_)
  refine go_iaload rfl hz1.1 hz1.2 (by decide) hd (fun hd => ?_)
  refine go_iaload rfl hz2.1 hz2.2 (by decide) hd (fun hd => ?_)
  refine go_aload_n rfl hd (fun hd => ?_)
  refine go_getR co_X8 fl_8_80 (by decide) rfl rfl rfl hd (fun hd => ?_)
  refine go_iload_n rfl hd (fun hd => ?_)
  refine go_iaload rfl hz3.1 hz3.2 (by decide) hd (fun hd => ?_)
  refine go_iadd hd (fun hd => ?_)
  refine go_aload_n rfl hd (fun hd => ?_)
  refine go_getD co_X8 fl_8_12 (by decide) rfl rfl hD1 (ct_pos hc1) hd (fun hd => ?_)
  refine go_getI co_X0 fl_8_160 (by decide) (Or.inl rfl) (ct_K hc1) hd (fun hd => ?_)
  exact go_icmp_gt (by decide) hz4 hz5 hd kt kf
theorem b_X_anybodyCarries_87 {L : Nat} {d : Nat} {I : jm_I} {Q : Option jm_V → jm_I → Prop} {o0 : Option jm_V} {o1 : Option jm_V} {o2 : Option jm_V} {o3 : Option jm_V} {o4 : Option jm_V} {o5 : Option jm_V}  (k : Q (some (.inl 1)) I) : Gx (jx_0 L) d md_X_anybodyCarries 87 [o0, o1, o2, o3, o4, o5] [] I Q := by
  show jm_Go d 0 0 md_X_anybodyCarries 87 [o0, o1, o2, o3, o4, o5] [] (jx (jx_0 L) I) (jx_Q (jx_0 L) Q)
  have hd : jm_dc md_X_anybodyCarries.2.1 87 [(.iconst 1, 1), (.ireturn, 1)] = true := by decide +kernel
  refine go_iconst hd (fun hd => ?_)
  exact go_zreturn hd rfl (Or.inr rfl) ⟨_, rfl, k⟩
theorem b_X_anybodyCarries_89 {L : Nat} {d : Nat} {I : jm_I} {Q : Option jm_V → jm_I → Prop} {o0 : Option jm_V} {o1 : Option jm_V} {o2 : Option jm_V} {o3 : Option jm_V} {o4 : Option jm_V} {x5 : Int}  (k : Gx (jx_0 L) d md_X_anybodyCarries 33 [o0, o1, o2, o3, o4, some (.inl (x5 + 1))] [] I Q) : Gx (jx_0 L) d md_X_anybodyCarries 89 [o0, o1, o2, o3, o4, some (.inl x5)] [] I Q := by
  show jm_Go d 0 0 md_X_anybodyCarries 89 [o0, o1, o2, o3, o4, some (.inl x5)] [] (jx (jx_0 L) I) (jx_Q (jx_0 L) Q)
  have hd : jm_dc md_X_anybodyCarries.2.1 89 [(.iinc 5 1, 3), (.goto (-59), 3)] = true := by decide +kernel
  refine go_iinc rfl hd (fun hd => ?_)
  exact go_goto (by decide) hd k
theorem b_X_anybodyCarries_95 {L : Nat} {d : Nat} {I : jm_I} {Q : Option jm_V → jm_I → Prop} {o0 : Option jm_V} {o1 : Option jm_V} {o2 : Option jm_V} {o3 : Option jm_V} {o4 : Option jm_V} {o5 : Option jm_V}  (k : Q (some (.inl 0)) I) : Gx (jx_0 L) d md_X_anybodyCarries 95 [o0, o1, o2, o3, o4, o5] [] I Q := by
  show jm_Go d 0 0 md_X_anybodyCarries 95 [o0, o1, o2, o3, o4, o5] [] (jx (jx_0 L) I) (jx_Q (jx_0 L) Q)
  have hd : jm_dc md_X_anybodyCarries.2.1 95 [(.iconst 0, 1), (.ireturn, 1)] = true := by decide +kernel
  refine go_iconst hd (fun hd => ?_)
  exact go_zreturn hd rfl (Or.inl rfl) ⟨_, rfl, k⟩
theorem b_X_taking_0 {L : Nat} {d : Nat} {I : jm_I} {Q : Option jm_V → jm_I → Prop} {x1 : Int} {x2 : Int}  (k : Cx (jx_0 L) d md_X_isPerson [.inr (.inl 1), .inl x1] I (fun v J => Gx (jx_0 L) (d + 1) md_X_taking 5 [some (.inr (.inl 1)), some (.inl x1), some (.inl x2)] (v.toList ++ []) J Q)) : Cx (jx_0 L) (d + 1) md_X_taking [.inr (.inl 1), .inl x1, .inl x2] I Q := by
  show jm_Go (d + 1) 0 0 md_X_taking 0 [some (.inr (.inl 1)), some (.inl x1), some (.inl x2)] [] (jx (jx_0 L) I) (jx_Q (jx_0 L) Q)
  have hd : jm_dc md_X_taking.2.1 0 [(.aload_n 0, 1), (.iload_n 1, 1), (.invokevirtual 116, 3)] = true := by decide +kernel
  refine go_aload_n rfl hd (fun hd => ?_)
  refine go_iload_n rfl hd (fun hd => ?_)
  exact gx_virtual 1 8 [.inl x1] [] mk_X_isPerson co_X8 rfl ml_8_116 in_X_isPerson se_X_isPerson rfl rfl (Nat.le_of_ble_eq_true rfl) rfl (Nat.le_of_ble_eq_true rfl) rfl hd k
theorem b_X_taking_5 {L : Nat} {d : Nat} {I : jm_I} {Q : Option jm_V → jm_I → Prop} {o0 : Option jm_V} {o1 : Option jm_V} {o2 : Option jm_V} {s0 : Int}  (hz : (-2147483648 ≤ s0 ∧ s0 < 2147483648)) (kt : s0 = 0 → Gx (jx_0 L) d md_X_taking 21 [o0, o1, o2] [] I Q) (kf : ¬ s0 = 0 → Gx (jx_0 L) d md_X_taking 8 [o0, o1, o2] [] I Q) : Gx (jx_0 L) d md_X_taking 5 [o0, o1, o2] [.inl s0] I Q := by
  have hz1 := hz
  show jm_Go d 0 0 md_X_taking 5 [o0, o1, o2] [.inl s0] (jx (jx_0 L) I) (jx_Q (jx_0 L) Q)
  have hd : jm_dc md_X_taking.2.1 5 [(.ifCond .eq 16, 3)] = true := by decide +kernel
  exact go_if_eq (by decide) hz1 hd kt kf
theorem b_X_taking_8 {L : Nat} {d : Nat} {I : jm_I} {Q : Option jm_V → jm_I → Prop} {o1 : Option jm_V} {x2 : Int}  (k : Cx (jx_0 L) d md_X_isPerson [.inr (.inl 1), .inl x2] I (fun v J => Gx (jx_0 L) (d + 1) md_X_taking 13 [some (.inr (.inl 1)), o1, some (.inl x2)] (v.toList ++ []) J Q)) : Gx (jx_0 L) (d + 1) md_X_taking 8 [some (.inr (.inl 1)), o1, some (.inl x2)] [] I Q := by
  show jm_Go (d + 1) 0 0 md_X_taking 8 [some (.inr (.inl 1)), o1, some (.inl x2)] [] (jx (jx_0 L) I) (jx_Q (jx_0 L) Q)
  have hd : jm_dc md_X_taking.2.1 8 [(.aload_n 0, 1), (.iload_n 2, 1), (.invokevirtual 116, 3)] = true := by decide +kernel
  refine go_aload_n rfl hd (fun hd => ?_)
  refine go_iload_n rfl hd (fun hd => ?_)
  exact gx_virtual 1 8 [.inl x2] [] mk_X_isPerson co_X8 rfl ml_8_116 in_X_isPerson se_X_isPerson rfl rfl (Nat.le_of_ble_eq_true rfl) rfl (Nat.le_of_ble_eq_true rfl) rfl hd k
theorem b_X_taking_13 {L : Nat} {d : Nat} {I : jm_I} {Q : Option jm_V → jm_I → Prop} {o0 : Option jm_V} {o1 : Option jm_V} {o2 : Option jm_V} {s0 : Int}  (hz : (-2147483648 ≤ s0 ∧ s0 < 2147483648)) (kt : s0 = 0 → Gx (jx_0 L) d md_X_taking 21 [o0, o1, o2] [] I Q) (kf : ¬ s0 = 0 → Gx (jx_0 L) d md_X_taking 16 [o0, o1, o2] [] I Q) : Gx (jx_0 L) d md_X_taking 13 [o0, o1, o2] [.inl s0] I Q := by
  have hz1 := hz
  show jm_Go d 0 0 md_X_taking 13 [o0, o1, o2] [.inl s0] (jx (jx_0 L) I) (jx_Q (jx_0 L) Q)
  have hd : jm_dc md_X_taking.2.1 13 [(.ifCond .eq 8, 3)] = true := by decide +kernel
  exact go_if_eq (by decide) hz1 hd kt kf
theorem b_X_taking_16 {L : Nat} {d : Nat} {I : jm_I} {Q : Option jm_V → jm_I → Prop} {o0 : Option jm_V} {x1 : Int} {x2 : Int}  (hz : (-2147483648 ≤ x1 ∧ x1 < 2147483648) ∧ (-2147483648 ≤ x2 ∧ x2 < 2147483648)) (kt : ¬ x1 = x2 → Gx (jx_0 L) d md_X_taking 24 [o0, some (.inl x1), some (.inl x2)] [] I Q) (kf : x1 = x2 → Gx (jx_0 L) d md_X_taking 21 [o0, some (.inl x1), some (.inl x2)] [] I Q) : Gx (jx_0 L) d md_X_taking 16 [o0, some (.inl x1), some (.inl x2)] [] I Q := by
  obtain ⟨hz1, hz2⟩ := hz
  show jm_Go d 0 0 md_X_taking 16 [o0, some (.inl x1), some (.inl x2)] [] (jx (jx_0 L) I) (jx_Q (jx_0 L) Q)
  have hd : jm_dc md_X_taking.2.1 16 [(.iload_n 1, 1), (.iload_n 2, 1), (.if_icmp .ne 6, 3)] = true := by decide +kernel
  refine go_iload_n rfl hd (fun hd => ?_)
  refine go_iload_n rfl hd (fun hd => ?_)
  exact go_icmp_ne (by decide) hz1 hz2 hd kt kf
theorem b_X_taking_21 {L : Nat} {d : Nat} {I : jm_I} {Q : Option jm_V → jm_I → Prop} {o0 : Option jm_V} {o1 : Option jm_V} {o2 : Option jm_V}  (k : Q (some (.inl (-1000000))) I) : Gx (jx_0 L) d md_X_taking 21 [o0, o1, o2] [] I Q := by
  show jm_Go d 0 0 md_X_taking 21 [o0, o1, o2] [] (jx (jx_0 L) I) (jx_Q (jx_0 L) Q)
  have hd : jm_dc md_X_taking.2.1 21 [(.ldc 229, 2), (.ireturn, 1)] = true := by decide +kernel
  refine go_ldc (-1000000) (-1000000) (by decide) kc_8_229 hd (fun hd => ?_)
  exact go_ireturn hd rfl ⟨_, rfl, k⟩
theorem b_X_taking_24 {L : Nat} {d : Nat} {I : jm_I} {Q : Option jm_V → jm_I → Prop} {x1 : Int} {x2 : Int} {c1 : Nat} (hD1 : I 1 0 = (c1 : Int)) (hc1 : jx_City (jx_0 L) c1) (k : Cx (jx_0 L) d md_TakingGame_play [.inr (.inl 151), .inr (.inl c1), .inr (.inl 44), .inl x1, .inl x2] I (fun v J => Gx (jx_0 L) (d + 1) md_X_taking 41 [some (.inr (.inl 1)), some (.inl x1), some (.inl x2)] (v.toList ++ []) J Q)) : Gx (jx_0 L) (d + 1) md_X_taking 24 [some (.inr (.inl 1)), some (.inl x1), some (.inl x2)] [] I Q := by
  show jm_Go (d + 1) 0 0 md_X_taking 24 [some (.inr (.inl 1)), some (.inl x1), some (.inl x2)] [] (jx (jx_0 L) I) (jx_Q (jx_0 L) Q)
  have hd : jm_dc md_X_taking.2.1 24 [(.aload_n 0, 1), (.getfield 76, 3), (.aload_n 0, 1), (.getfield 12, 3), (.aload_n 0, 1), (.getfield 33, 3), (.iload_n 1, 1), (.iload_n 2, 1), (.invokevirtual 230, 3)] = true := by decide +kernel
  refine go_aload_n rfl hd (fun hd => ?_)
  refine go_getR co_X8 fl_8_76 (by decide) rfl rfl rfl hd (fun hd => ?_)
  refine go_aload_n rfl hd (fun hd => ?_)
  refine go_getD co_X8 fl_8_12 (by decide) rfl rfl hD1 (ct_pos hc1) hd (fun hd => ?_)
  refine go_aload_n rfl hd (fun hd => ?_)
  refine go_getR co_X8 fl_8_33 (by decide) rfl rfl rfl hd (fun hd => ?_)
  refine go_iload_n rfl hd (fun hd => ?_)
  refine go_iload_n rfl hd (fun hd => ?_)
  exact gx_virtual 151 7 [.inr (.inl c1), .inr (.inl 44), .inl x1, .inl x2] [] mk_TakingGame_play co_X7 rfl ml_8_230 in_TakingGame_play se_TakingGame_play rfl rfl (Nat.le_of_ble_eq_true rfl) rfl (Nat.le_of_ble_eq_true rfl) rfl hd k
theorem b_X_taking_41 {L : Nat} {d : Nat} {I : jm_I} {Q : Option jm_V → jm_I → Prop} {o0 : Option jm_V} {o1 : Option jm_V} {o2 : Option jm_V} {s0 : Int}  (k : Q (some (.inl s0)) I) : Gx (jx_0 L) d md_X_taking 41 [o0, o1, o2] [.inl s0] I Q := by
  show jm_Go d 0 0 md_X_taking 41 [o0, o1, o2] [.inl s0] (jx (jx_0 L) I) (jx_Q (jx_0 L) Q)
  have hd : jm_dc md_X_taking.2.1 41 [(.ireturn, 1)] = true := by decide +kernel
  exact go_ireturn hd rfl ⟨_, rfl, k⟩
theorem b_X_odds_0 {L : Nat} {d : Nat} {I : jm_I} {Q : Option jm_V → jm_I → Prop} {x1 : Int} {x2 : Int} {x3 : Int}  (k : Cx (jx_0 L) d md_X_within [.inl x1, .inl 0, .inl 10] I (fun v J => Gx (jx_0 L) (d + 1) md_X_odds 7 [some (.inr (.inl 1)), some (.inl x1), some (.inl x2), some (.inl x3), none, none, none, none, none] (v.toList ++ []) J Q)) : Cx (jx_0 L) (d + 1) md_X_odds [.inr (.inl 1), .inl x1, .inl x2, .inl x3] I Q := by
  show jm_Go (d + 1) 0 0 md_X_odds 0 [some (.inr (.inl 1)), some (.inl x1), some (.inl x2), some (.inl x3), none, none, none, none, none] [] (jx (jx_0 L) I) (jx_Q (jx_0 L) Q)
  have hd : jm_dc md_X_odds.2.1 0 [(.iload_n 1, 1), (.iconst 0, 1), (.bipush 10, 2), (.invokestatic 86, 3)] = true := by decide +kernel
  refine go_iload_n rfl hd (fun hd => ?_)
  refine go_iconst hd (fun hd => ?_)
  refine go_bipush (by decide) hd (fun hd => ?_)
  exact gx_static [.inl x1, .inl 0, .inl 10] [] mk_X_within ml_8_86 st_X_within rfl (Nat.le_of_ble_eq_true rfl) rfl (Nat.le_of_ble_eq_true rfl) rfl hd k
theorem b_X_odds_7 {L : Nat} {d : Nat} {I : jm_I} {Q : Option jm_V → jm_I → Prop} {o0 : Option jm_V} {o1 : Option jm_V} {o2 : Option jm_V} {o3 : Option jm_V} {o4 : Option jm_V} {o5 : Option jm_V} {o6 : Option jm_V} {o7 : Option jm_V} {o8 : Option jm_V} {s0 : Int}  (hz : (-2147483648 ≤ s0 ∧ s0 < 2147483648)) (kt : s0 = 0 → Gx (jx_0 L) d md_X_odds 28 [o0, o1, o2, o3, o4, o5, o6, o7, o8] [] I Q) (kf : ¬ s0 = 0 → Gx (jx_0 L) d md_X_odds 10 [o0, o1, o2, o3, o4, o5, o6, o7, o8] [] I Q) : Gx (jx_0 L) d md_X_odds 7 [o0, o1, o2, o3, o4, o5, o6, o7, o8] [.inl s0] I Q := by
  have hz1 := hz
  show jm_Go d 0 0 md_X_odds 7 [o0, o1, o2, o3, o4, o5, o6, o7, o8] [.inl s0] (jx (jx_0 L) I) (jx_Q (jx_0 L) Q)
  have hd : jm_dc md_X_odds.2.1 7 [(.ifCond .eq 21, 3)] = true := by decide +kernel
  exact go_if_eq (by decide) hz1 hd kt kf
theorem b_X_odds_10 {L : Nat} {d : Nat} {I : jm_I} {Q : Option jm_V → jm_I → Prop} {o0 : Option jm_V} {o1 : Option jm_V} {x2 : Int} {o3 : Option jm_V} {o4 : Option jm_V} {o5 : Option jm_V} {o6 : Option jm_V} {o7 : Option jm_V} {o8 : Option jm_V}  (k : Cx (jx_0 L) d md_X_within [.inl x2, .inl 0, .inl 5] I (fun v J => Gx (jx_0 L) (d + 1) md_X_odds 16 [o0, o1, some (.inl x2), o3, o4, o5, o6, o7, o8] (v.toList ++ []) J Q)) : Gx (jx_0 L) (d + 1) md_X_odds 10 [o0, o1, some (.inl x2), o3, o4, o5, o6, o7, o8] [] I Q := by
  show jm_Go (d + 1) 0 0 md_X_odds 10 [o0, o1, some (.inl x2), o3, o4, o5, o6, o7, o8] [] (jx (jx_0 L) I) (jx_Q (jx_0 L) Q)
  have hd : jm_dc md_X_odds.2.1 10 [(.iload_n 2, 1), (.iconst 0, 1), (.iconst 5, 1), (.invokestatic 86, 3)] = true := by decide +kernel
  refine go_iload_n rfl hd (fun hd => ?_)
  refine go_iconst hd (fun hd => ?_)
  refine go_iconst hd (fun hd => ?_)
  exact gx_static [.inl x2, .inl 0, .inl 5] [] mk_X_within ml_8_86 st_X_within rfl (Nat.le_of_ble_eq_true rfl) rfl (Nat.le_of_ble_eq_true rfl) rfl hd k
theorem b_X_odds_16 {L : Nat} {d : Nat} {I : jm_I} {Q : Option jm_V → jm_I → Prop} {o0 : Option jm_V} {o1 : Option jm_V} {o2 : Option jm_V} {o3 : Option jm_V} {o4 : Option jm_V} {o5 : Option jm_V} {o6 : Option jm_V} {o7 : Option jm_V} {o8 : Option jm_V} {s0 : Int}  (hz : (-2147483648 ≤ s0 ∧ s0 < 2147483648)) (kt : s0 = 0 → Gx (jx_0 L) d md_X_odds 28 [o0, o1, o2, o3, o4, o5, o6, o7, o8] [] I Q) (kf : ¬ s0 = 0 → Gx (jx_0 L) d md_X_odds 19 [o0, o1, o2, o3, o4, o5, o6, o7, o8] [] I Q) : Gx (jx_0 L) d md_X_odds 16 [o0, o1, o2, o3, o4, o5, o6, o7, o8] [.inl s0] I Q := by
  have hz1 := hz
  show jm_Go d 0 0 md_X_odds 16 [o0, o1, o2, o3, o4, o5, o6, o7, o8] [.inl s0] (jx (jx_0 L) I) (jx_Q (jx_0 L) Q)
  have hd : jm_dc md_X_odds.2.1 16 [(.ifCond .eq 12, 3)] = true := by decide +kernel
  exact go_if_eq (by decide) hz1 hd kt kf
theorem b_X_odds_19 {L : Nat} {d : Nat} {I : jm_I} {Q : Option jm_V → jm_I → Prop} {o0 : Option jm_V} {o1 : Option jm_V} {o2 : Option jm_V} {x3 : Int} {o4 : Option jm_V} {o5 : Option jm_V} {o6 : Option jm_V} {o7 : Option jm_V} {o8 : Option jm_V}  (k : Cx (jx_0 L) d md_X_within [.inl x3, .inl 0, .inl 1] I (fun v J => Gx (jx_0 L) (d + 1) md_X_odds 25 [o0, o1, o2, some (.inl x3), o4, o5, o6, o7, o8] (v.toList ++ []) J Q)) : Gx (jx_0 L) (d + 1) md_X_odds 19 [o0, o1, o2, some (.inl x3), o4, o5, o6, o7, o8] [] I Q := by
  show jm_Go (d + 1) 0 0 md_X_odds 19 [o0, o1, o2, some (.inl x3), o4, o5, o6, o7, o8] [] (jx (jx_0 L) I) (jx_Q (jx_0 L) Q)
  have hd : jm_dc md_X_odds.2.1 19 [(.iload_n 3, 1), (.iconst 0, 1), (.iconst 1, 1), (.invokestatic 86, 3)] = true := by decide +kernel
  refine go_iload_n rfl hd (fun hd => ?_)
  refine go_iconst hd (fun hd => ?_)
  refine go_iconst hd (fun hd => ?_)
  exact gx_static [.inl x3, .inl 0, .inl 1] [] mk_X_within ml_8_86 st_X_within rfl (Nat.le_of_ble_eq_true rfl) rfl (Nat.le_of_ble_eq_true rfl) rfl hd k
theorem b_X_odds_25 {L : Nat} {d : Nat} {I : jm_I} {Q : Option jm_V → jm_I → Prop} {o0 : Option jm_V} {o1 : Option jm_V} {o2 : Option jm_V} {o3 : Option jm_V} {o4 : Option jm_V} {o5 : Option jm_V} {o6 : Option jm_V} {o7 : Option jm_V} {o8 : Option jm_V} {s0 : Int}  (hz : (-2147483648 ≤ s0 ∧ s0 < 2147483648)) (kt : ¬ s0 = 0 → Gx (jx_0 L) d md_X_odds 30 [o0, o1, o2, o3, o4, o5, o6, o7, o8] [] I Q) (kf : s0 = 0 → Gx (jx_0 L) d md_X_odds 28 [o0, o1, o2, o3, o4, o5, o6, o7, o8] [] I Q) : Gx (jx_0 L) d md_X_odds 25 [o0, o1, o2, o3, o4, o5, o6, o7, o8] [.inl s0] I Q := by
  have hz1 := hz
  show jm_Go d 0 0 md_X_odds 25 [o0, o1, o2, o3, o4, o5, o6, o7, o8] [.inl s0] (jx (jx_0 L) I) (jx_Q (jx_0 L) Q)
  have hd : jm_dc md_X_odds.2.1 25 [(.ifCond .ne 5, 3)] = true := by decide +kernel
  exact go_if_ne (by decide) hz1 hd kt kf
theorem b_X_odds_28 {L : Nat} {d : Nat} {I : jm_I} {Q : Option jm_V → jm_I → Prop} {o0 : Option jm_V} {o1 : Option jm_V} {o2 : Option jm_V} {o3 : Option jm_V} {o4 : Option jm_V} {o5 : Option jm_V} {o6 : Option jm_V} {o7 : Option jm_V} {o8 : Option jm_V}  (k : Q (some (.inl (-1))) I) : Gx (jx_0 L) d md_X_odds 28 [o0, o1, o2, o3, o4, o5, o6, o7, o8] [] I Q := by
  show jm_Go d 0 0 md_X_odds 28 [o0, o1, o2, o3, o4, o5, o6, o7, o8] [] (jx (jx_0 L) I) (jx_Q (jx_0 L) Q)
  have hd : jm_dc md_X_odds.2.1 28 [(.iconst (-1), 1), (.ireturn, 1)] = true := by decide +kernel
  refine go_iconst hd (fun hd => ?_)
  exact go_ireturn hd rfl ⟨_, rfl, k⟩
theorem b_X_odds_30 {L : Nat} {d : Nat} {I : jm_I} {Q : Option jm_V → jm_I → Prop} {o1 : Option jm_V} {o2 : Option jm_V} {o3 : Option jm_V} {o4 : Option jm_V} {o5 : Option jm_V} {o6 : Option jm_V} {o7 : Option jm_V} {o8 : Option jm_V} {c1 : Nat} (hD1 : I 1 0 = (c1 : Int)) (hc1 : jx_City (jx_0 L) c1) (k : Cx (jx_0 L) d md_Moment_rested [.inr (.inl 44), .inr (.inl c1)] I (fun v J => Gx (jx_0 L) (d + 1) md_X_odds 41 [some (.inr (.inl 1)), o1, o2, o3, o4, o5, o6, o7, o8] (v.toList ++ []) J Q)) : Gx (jx_0 L) (d + 1) md_X_odds 30 [some (.inr (.inl 1)), o1, o2, o3, o4, o5, o6, o7, o8] [] I Q := by
  show jm_Go (d + 1) 0 0 md_X_odds 30 [some (.inr (.inl 1)), o1, o2, o3, o4, o5, o6, o7, o8] [] (jx (jx_0 L) I) (jx_Q (jx_0 L) Q)
  have hd : jm_dc md_X_odds.2.1 30 [(.aload_n 0, 1), (.getfield 33, 3), (.aload_n 0, 1), (.getfield 12, 3), (.invokevirtual 207, 3)] = true := by decide +kernel
  refine go_aload_n rfl hd (fun hd => ?_)
  refine go_getR co_X8 fl_8_33 (by decide) rfl rfl rfl hd (fun hd => ?_)
  refine go_aload_n rfl hd (fun hd => ?_)
  refine go_getD co_X8 fl_8_12 (by decide) rfl rfl hD1 (ct_pos hc1) hd (fun hd => ?_)
  exact gx_virtual 44 5 [.inr (.inl c1)] [] mk_Moment_rested co_X5 rfl ml_8_207 in_Moment_rested se_Moment_rested rfl rfl (Nat.le_of_ble_eq_true rfl) rfl (Nat.le_of_ble_eq_true rfl) rfl hd k
theorem b_X_odds_41 {L : Nat} {d : Nat} {I : jm_I} {Q : Option jm_V → jm_I → Prop} {o0 : Option jm_V} {o1 : Option jm_V} {o2 : Option jm_V} {o3 : Option jm_V} {o4 : Option jm_V} {o5 : Option jm_V} {o6 : Option jm_V} {o7 : Option jm_V} {o8 : Option jm_V} {s0 : Int}  (k : Cx (jx_0 L) d md_Integer_bitCount [.inl s0] I (fun v J => Gx (jx_0 L) (d + 1) md_X_odds 44 [o0, o1, o2, o3, o4, o5, o6, o7, o8] (v.toList ++ []) J Q)) : Gx (jx_0 L) (d + 1) md_X_odds 41 [o0, o1, o2, o3, o4, o5, o6, o7, o8] [.inl s0] I Q := by
  show jm_Go (d + 1) 0 0 md_X_odds 41 [o0, o1, o2, o3, o4, o5, o6, o7, o8] [.inl s0] (jx (jx_0 L) I) (jx_Q (jx_0 L) Q)
  have hd : jm_dc md_X_odds.2.1 41 [(.invokestatic 221, 3)] = true := by decide +kernel
  exact gx_static [.inl s0] [] mk_Integer_bitCount ml_8_221 st_Integer_bitCount rfl (Nat.le_of_ble_eq_true rfl) rfl (Nat.le_of_ble_eq_true rfl) rfl hd k
theorem b_X_odds_44 {L : Nat} {d : Nat} {I : jm_I} {Q : Option jm_V → jm_I → Prop} {o0 : Option jm_V} {o1 : Option jm_V} {x2 : Int} {o3 : Option jm_V} {o4 : Option jm_V} {o5 : Option jm_V} {o6 : Option jm_V} {o7 : Option jm_V} {o8 : Option jm_V} {s0 : Int}  (hz : (-2147483648 ≤ x2 ∧ x2 < 2147483648) ∧ (-2147483648 ≤ s0 ∧ s0 < 2147483648)) (kt : x2 ≤ s0 → Gx (jx_0 L) d md_X_odds 56 [o0, o1, some (.inl x2), o3, some (.inl s0), o5, o6, o7, o8] [] I Q) (kf : ¬ (x2 ≤ s0) → Gx (jx_0 L) d md_X_odds 52 [o0, o1, some (.inl x2), o3, some (.inl s0), o5, o6, o7, o8] [] I Q) : Gx (jx_0 L) d md_X_odds 44 [o0, o1, some (.inl x2), o3, o4, o5, o6, o7, o8] [.inl s0] I Q := by
  obtain ⟨hz1, hz2⟩ := hz
  show jm_Go d 0 0 md_X_odds 44 [o0, o1, some (.inl x2), o3, o4, o5, o6, o7, o8] [.inl s0] (jx (jx_0 L) I) (jx_Q (jx_0 L) Q)
  have hd : jm_dc md_X_odds.2.1 44 [(.istore 4, 2), (.iload_n 2, 1), (.iload 4, 2), (.if_icmp .le 7, 3)] = true := by decide +kernel
  refine go_istore (by decide) hd (fun hd => ?_)
  refine go_iload_n rfl hd (fun hd => ?_)
  refine go_iload rfl hd (fun hd => ?_)
  exact go_icmp_le (by decide) hz1 hz2 hd kt kf
theorem b_X_odds_52 {L : Nat} {d : Nat} {I : jm_I} {Q : Option jm_V → jm_I → Prop} {o0 : Option jm_V} {o1 : Option jm_V} {o2 : Option jm_V} {o3 : Option jm_V} {o4 : Option jm_V} {o5 : Option jm_V} {o6 : Option jm_V} {o7 : Option jm_V} {o8 : Option jm_V}  (k : Gx (jx_0 L) d md_X_odds 80 [o0, o1, o2, o3, o4, o5, o6, o7, o8] [.inl 0] I Q) : Gx (jx_0 L) d md_X_odds 52 [o0, o1, o2, o3, o4, o5, o6, o7, o8] [] I Q := by
  show jm_Go d 0 0 md_X_odds 52 [o0, o1, o2, o3, o4, o5, o6, o7, o8] [] (jx (jx_0 L) I) (jx_Q (jx_0 L) Q)
  have hd : jm_dc md_X_odds.2.1 52 [(.iconst 0, 1), (.goto 27, 3)] = true := by decide +kernel
  refine go_iconst hd (fun hd => ?_)
  exact go_goto (by decide) hd k
theorem b_X_odds_56 {L : Nat} {d : Nat} {I : jm_I} {Q : Option jm_V → jm_I → Prop} {o0 : Option jm_V} {o1 : Option jm_V} {x2 : Int} {o3 : Option jm_V} {x4 : Int} {o5 : Option jm_V} {o6 : Option jm_V} {o7 : Option jm_V} {o8 : Option jm_V}  (k : Cx (jx_0 L) d md_X_choose [.inl x4, .inl x2] I (fun v J => Gx (jx_0 L) (d + 1) md_X_odds 62 [o0, o1, some (.inl x2), o3, some (.inl x4), o5, o6, o7, o8] (v.toList ++ []) J Q)) : Gx (jx_0 L) (d + 1) md_X_odds 56 [o0, o1, some (.inl x2), o3, some (.inl x4), o5, o6, o7, o8] [] I Q := by
  show jm_Go (d + 1) 0 0 md_X_odds 56 [o0, o1, some (.inl x2), o3, some (.inl x4), o5, o6, o7, o8] [] (jx (jx_0 L) I) (jx_Q (jx_0 L) Q)
  have hd : jm_dc md_X_odds.2.1 56 [(.iload 4, 2), (.iload_n 2, 1), (.invokestatic 234, 3)] = true := by decide +kernel
  refine go_iload rfl hd (fun hd => ?_)
  refine go_iload_n rfl hd (fun hd => ?_)
  exact gx_static [.inl x4, .inl x2] [] mk_X_choose ml_8_234 st_X_choose rfl (Nat.le_of_ble_eq_true rfl) rfl (Nat.le_of_ble_eq_true rfl) rfl hd k
theorem b_X_odds_62 {L : Nat} {d : Nat} {I : jm_I} {Q : Option jm_V → jm_I → Prop} {o0 : Option jm_V} {x1 : Int} {x2 : Int} {o3 : Option jm_V} {o4 : Option jm_V} {o5 : Option jm_V} {o6 : Option jm_V} {o7 : Option jm_V} {o8 : Option jm_V} {s0 : Int}  (k : Cx (jx_0 L) d md_X_power [.inl x1, .inl x2] I (fun v J => Gx (jx_0 L) (d + 1) md_X_odds 67 [o0, some (.inl x1), some (.inl x2), o3, o4, o5, o6, o7, o8] (v.toList ++ [.inl s0]) J Q)) : Gx (jx_0 L) (d + 1) md_X_odds 62 [o0, some (.inl x1), some (.inl x2), o3, o4, o5, o6, o7, o8] [.inl s0] I Q := by
  show jm_Go (d + 1) 0 0 md_X_odds 62 [o0, some (.inl x1), some (.inl x2), o3, o4, o5, o6, o7, o8] [.inl s0] (jx (jx_0 L) I) (jx_Q (jx_0 L) Q)
  have hd : jm_dc md_X_odds.2.1 62 [(.iload_n 1, 1), (.iload_n 2, 1), (.invokestatic 237, 3)] = true := by decide +kernel
  refine go_iload_n rfl hd (fun hd => ?_)
  refine go_iload_n rfl hd (fun hd => ?_)
  exact gx_static [.inl x1, .inl x2] [.inl s0] mk_X_power ml_8_237 st_X_power rfl (Nat.le_of_ble_eq_true rfl) rfl (Nat.le_of_ble_eq_true rfl) rfl hd k
theorem b_X_odds_67 {L : Nat} {d : Nat} {I : jm_I} {Q : Option jm_V → jm_I → Prop} {o0 : Option jm_V} {x1 : Int} {x2 : Int} {o3 : Option jm_V} {x4 : Int} {o5 : Option jm_V} {o6 : Option jm_V} {o7 : Option jm_V} {o8 : Option jm_V} {s0 : Int} {s1 : Int}  (k : Cx (jx_0 L) d md_X_power [.inl (10 - x1), .inl (x4 - x2)] I (fun v J => Gx (jx_0 L) (d + 1) md_X_odds 79 [o0, some (.inl x1), some (.inl x2), o3, some (.inl x4), o5, o6, o7, o8] (v.toList ++ [.inl (s0 * s1)]) J Q)) : Gx (jx_0 L) (d + 1) md_X_odds 67 [o0, some (.inl x1), some (.inl x2), o3, some (.inl x4), o5, o6, o7, o8] [.inl s1, .inl s0] I Q := by
  show jm_Go (d + 1) 0 0 md_X_odds 67 [o0, some (.inl x1), some (.inl x2), o3, some (.inl x4), o5, o6, o7, o8] [.inl s1, .inl s0] (jx (jx_0 L) I) (jx_Q (jx_0 L) Q)
  have hd : jm_dc md_X_odds.2.1 67 [(.imul, 1), (.bipush 10, 2), (.iload_n 1, 1), (.isub, 1), (.iload 4, 2), (.iload_n 2, 1), (.isub, 1), (.invokestatic 237, 3)] = true := by decide +kernel
  refine go_imul hd (fun hd => ?_)
  refine go_bipush (by decide) hd (fun hd => ?_)
  refine go_iload_n rfl hd (fun hd => ?_)
  refine go_isub hd (fun hd => ?_)
  refine go_iload rfl hd (fun hd => ?_)
  refine go_iload_n rfl hd (fun hd => ?_)
  refine go_isub hd (fun hd => ?_)
  exact gx_static [.inl (10 - x1), .inl (x4 - x2)] [.inl (s0 * s1)] mk_X_power ml_8_237 st_X_power rfl (Nat.le_of_ble_eq_true rfl) rfl (Nat.le_of_ble_eq_true rfl) rfl hd k
theorem b_X_odds_79 {L : Nat} {d : Nat} {I : jm_I} {Q : Option jm_V → jm_I → Prop} {o0 : Option jm_V} {o1 : Option jm_V} {o2 : Option jm_V} {o3 : Option jm_V} {o4 : Option jm_V} {o5 : Option jm_V} {o6 : Option jm_V} {o7 : Option jm_V} {o8 : Option jm_V} {s0 : Int} {s1 : Int}  (k : Gx (jx_0 L) d md_X_odds 80 [o0, o1, o2, o3, o4, o5, o6, o7, o8] [.inl (s0 * s1)] I Q) : Gx (jx_0 L) d md_X_odds 79 [o0, o1, o2, o3, o4, o5, o6, o7, o8] [.inl s1, .inl s0] I Q := by
  show jm_Go d 0 0 md_X_odds 79 [o0, o1, o2, o3, o4, o5, o6, o7, o8] [.inl s1, .inl s0] (jx (jx_0 L) I) (jx_Q (jx_0 L) Q)
  have hd : jm_dc md_X_odds.2.1 79 [(.imul, 1)] = true := by decide +kernel
  refine go_imul hd (fun hd => ?_)
  exact k
theorem b_X_odds_80 {L : Nat} {d : Nat} {I : jm_I} {Q : Option jm_V → jm_I → Prop} {o0 : Option jm_V} {o1 : Option jm_V} {o2 : Option jm_V} {o3 : Option jm_V} {x4 : Int} {o5 : Option jm_V} {o6 : Option jm_V} {o7 : Option jm_V} {o8 : Option jm_V} {s0 : Int}  (k : Cx (jx_0 L) d md_X_power [.inl 10, .inl x4] I (fun v J => Gx (jx_0 L) (d + 1) md_X_odds 89 [o0, o1, o2, o3, some (.inl x4), some (.inl s0), o6, o7, o8] (v.toList ++ []) J Q)) : Gx (jx_0 L) (d + 1) md_X_odds 80 [o0, o1, o2, o3, some (.inl x4), o5, o6, o7, o8] [.inl s0] I Q := by
  show jm_Go (d + 1) 0 0 md_X_odds 80 [o0, o1, o2, o3, some (.inl x4), o5, o6, o7, o8] [.inl s0] (jx (jx_0 L) I) (jx_Q (jx_0 L) Q)
  have hd : jm_dc md_X_odds.2.1 80 [(.istore 5, 2), (.bipush 10, 2), (.iload 4, 2), (.invokestatic 237, 3)] = true := by decide +kernel
  refine go_istore (by decide) hd (fun hd => ?_)
  refine go_bipush (by decide) hd (fun hd => ?_)
  refine go_iload rfl hd (fun hd => ?_)
  exact gx_static [.inl 10, .inl x4] [] mk_X_power ml_8_237 st_X_power rfl (Nat.le_of_ble_eq_true rfl) rfl (Nat.le_of_ble_eq_true rfl) rfl hd k
theorem b_X_odds_89 {L : Nat} {d : Nat} {I : jm_I} {Q : Option jm_V → jm_I → Prop} {o0 : Option jm_V} {o1 : Option jm_V} {o2 : Option jm_V} {o3 : Option jm_V} {o4 : Option jm_V} {x5 : Int} {o6 : Option jm_V} {o7 : Option jm_V} {o8 : Option jm_V} {s0 : Int}  (k : Cx (jx_0 L) d md_X_greatestCommonDivisor [.inl x5, .inl s0] I (fun v J => Gx (jx_0 L) (d + 1) md_X_odds 98 [o0, o1, o2, o3, o4, some (.inl x5), some (.inl s0), o7, o8] (v.toList ++ []) J Q)) : Gx (jx_0 L) (d + 1) md_X_odds 89 [o0, o1, o2, o3, o4, some (.inl x5), o6, o7, o8] [.inl s0] I Q := by
  show jm_Go (d + 1) 0 0 md_X_odds 89 [o0, o1, o2, o3, o4, some (.inl x5), o6, o7, o8] [.inl s0] (jx (jx_0 L) I) (jx_Q (jx_0 L) Q)
  have hd : jm_dc md_X_odds.2.1 89 [(.istore 6, 2), (.iload 5, 2), (.iload 6, 2), (.invokestatic 240, 3)] = true := by decide +kernel
  refine go_istore (by decide) hd (fun hd => ?_)
  refine go_iload rfl hd (fun hd => ?_)
  refine go_iload rfl hd (fun hd => ?_)
  exact gx_static [.inl x5, .inl s0] [] mk_X_greatestCommonDivisor ml_8_240 st_X_greatestCommonDivisor rfl (Nat.le_of_ble_eq_true rfl) rfl (Nat.le_of_ble_eq_true rfl) rfl hd k
theorem b_X_odds_98 {L : Nat} {d : Nat} {I : jm_I} {Q : Option jm_V → jm_I → Prop} {o0 : Option jm_V} {o1 : Option jm_V} {o2 : Option jm_V} {x3 : Int} {o4 : Option jm_V} {o5 : Option jm_V} {o6 : Option jm_V} {o7 : Option jm_V} {o8 : Option jm_V} {s0 : Int}  (hz : (-2147483648 ≤ x3 ∧ x3 < 2147483648)) (kt : ¬ x3 = 0 → Gx (jx_0 L) d md_X_odds 109 [o0, o1, o2, some (.inl x3), o4, o5, o6, some (.inl s0), o8] [] I Q) (kf : x3 = 0 → Gx (jx_0 L) d md_X_odds 104 [o0, o1, o2, some (.inl x3), o4, o5, o6, some (.inl s0), o8] [] I Q) : Gx (jx_0 L) d md_X_odds 98 [o0, o1, o2, some (.inl x3), o4, o5, o6, o7, o8] [.inl s0] I Q := by
  have hz1 := hz
  show jm_Go d 0 0 md_X_odds 98 [o0, o1, o2, some (.inl x3), o4, o5, o6, o7, o8] [.inl s0] (jx (jx_0 L) I) (jx_Q (jx_0 L) Q)
  have hd : jm_dc md_X_odds.2.1 98 [(.istore 7, 2), (.iload_n 3, 1), (.ifCond .ne 8, 3)] = true := by decide +kernel
  refine go_istore (by decide) hd (fun hd => ?_)
  refine go_iload_n rfl hd (fun hd => ?_)
  exact go_if_ne (by decide) hz1 hd kt kf
theorem b_X_odds_104 {L : Nat} {d : Nat} {I : jm_I} {Q : Option jm_V → jm_I → Prop} {o0 : Option jm_V} {o1 : Option jm_V} {o2 : Option jm_V} {o3 : Option jm_V} {o4 : Option jm_V} {x5 : Int} {o6 : Option jm_V} {o7 : Option jm_V} {o8 : Option jm_V}  (k : Gx (jx_0 L) d md_X_odds 111 [o0, o1, o2, o3, o4, some (.inl x5), o6, o7, o8] [.inl x5] I Q) : Gx (jx_0 L) d md_X_odds 104 [o0, o1, o2, o3, o4, some (.inl x5), o6, o7, o8] [] I Q := by
  show jm_Go d 0 0 md_X_odds 104 [o0, o1, o2, o3, o4, some (.inl x5), o6, o7, o8] [] (jx (jx_0 L) I) (jx_Q (jx_0 L) Q)
  have hd : jm_dc md_X_odds.2.1 104 [(.iload 5, 2), (.goto 5, 3)] = true := by decide +kernel
  refine go_iload rfl hd (fun hd => ?_)
  exact go_goto (by decide) hd k
theorem b_X_odds_109 {L : Nat} {d : Nat} {I : jm_I} {Q : Option jm_V → jm_I → Prop} {o0 : Option jm_V} {o1 : Option jm_V} {o2 : Option jm_V} {o3 : Option jm_V} {o4 : Option jm_V} {o5 : Option jm_V} {x6 : Int} {o7 : Option jm_V} {o8 : Option jm_V}  (k : Gx (jx_0 L) d md_X_odds 111 [o0, o1, o2, o3, o4, o5, some (.inl x6), o7, o8] [.inl x6] I Q) : Gx (jx_0 L) d md_X_odds 109 [o0, o1, o2, o3, o4, o5, some (.inl x6), o7, o8] [] I Q := by
  show jm_Go d 0 0 md_X_odds 109 [o0, o1, o2, o3, o4, o5, some (.inl x6), o7, o8] [] (jx (jx_0 L) I) (jx_Q (jx_0 L) Q)
  have hd : jm_dc md_X_odds.2.1 109 [(.iload 6, 2)] = true := by decide +kernel
  refine go_iload rfl hd (fun hd => ?_)
  exact k
theorem b_X_odds_111 {L : Nat} {d : Nat} {I : jm_I} {Q : Option jm_V → jm_I → Prop} {o0 : Option jm_V} {o1 : Option jm_V} {o2 : Option jm_V} {o3 : Option jm_V} {o4 : Option jm_V} {o5 : Option jm_V} {o6 : Option jm_V} {x7 : Int} {o8 : Option jm_V} {s0 : Int}  (hz : (-2147483648 ≤ x7 ∧ x7 < 2147483648)) (kt : ¬ x7 = 0 → Gx (jx_0 L) d md_X_odds 123 [o0, o1, o2, o3, o4, o5, o6, some (.inl x7), some (.inl s0)] [] I Q) (kf : x7 = 0 → Gx (jx_0 L) d md_X_odds 118 [o0, o1, o2, o3, o4, o5, o6, some (.inl x7), some (.inl s0)] [] I Q) : Gx (jx_0 L) d md_X_odds 111 [o0, o1, o2, o3, o4, o5, o6, some (.inl x7), o8] [.inl s0] I Q := by
  have hz1 := hz
  show jm_Go d 0 0 md_X_odds 111 [o0, o1, o2, o3, o4, o5, o6, some (.inl x7), o8] [.inl s0] (jx (jx_0 L) I) (jx_Q (jx_0 L) Q)
  have hd : jm_dc md_X_odds.2.1 111 [(.istore 8, 2), (.iload 7, 2), (.ifCond .ne 8, 3)] = true := by decide +kernel
  refine go_istore (by decide) hd (fun hd => ?_)
  refine go_iload rfl hd (fun hd => ?_)
  exact go_if_ne (by decide) hz1 hd kt kf
theorem b_X_odds_118 {L : Nat} {d : Nat} {I : jm_I} {Q : Option jm_V → jm_I → Prop} {o0 : Option jm_V} {o1 : Option jm_V} {o2 : Option jm_V} {o3 : Option jm_V} {o4 : Option jm_V} {o5 : Option jm_V} {o6 : Option jm_V} {o7 : Option jm_V} {x8 : Int}  (k : Gx (jx_0 L) d md_X_odds 128 [o0, o1, o2, o3, o4, o5, o6, o7, some (.inl x8)] [.inl x8] I Q) : Gx (jx_0 L) d md_X_odds 118 [o0, o1, o2, o3, o4, o5, o6, o7, some (.inl x8)] [] I Q := by
  show jm_Go d 0 0 md_X_odds 118 [o0, o1, o2, o3, o4, o5, o6, o7, some (.inl x8)] [] (jx (jx_0 L) I) (jx_Q (jx_0 L) Q)
  have hd : jm_dc md_X_odds.2.1 118 [(.iload 8, 2), (.goto 8, 3)] = true := by decide +kernel
  refine go_iload rfl hd (fun hd => ?_)
  exact go_goto (by decide) hd k
theorem b_X_odds_123 {L : Nat} {d : Nat} {I : jm_I} {Q : Option jm_V → jm_I → Prop} {o0 : Option jm_V} {o1 : Option jm_V} {o2 : Option jm_V} {o3 : Option jm_V} {o4 : Option jm_V} {o5 : Option jm_V} {o6 : Option jm_V} {x7 : Int} {x8 : Int}  (hz : (0 ≤ x8 ∧ x8 < 2147483648) ∧ (0 < x7 ∧ x7 < 2147483648)) (k : Gx (jx_0 L) d md_X_odds 128 [o0, o1, o2, o3, o4, o5, o6, some (.inl x7), some (.inl x8)] [.inl (x8 / x7)] I Q) : Gx (jx_0 L) d md_X_odds 123 [o0, o1, o2, o3, o4, o5, o6, some (.inl x7), some (.inl x8)] [] I Q := by
  obtain ⟨hz1, hz2⟩ := hz
  show jm_Go d 0 0 md_X_odds 123 [o0, o1, o2, o3, o4, o5, o6, some (.inl x7), some (.inl x8)] [] (jx (jx_0 L) I) (jx_Q (jx_0 L) Q)
  have hd : jm_dc md_X_odds.2.1 123 [(.iload 8, 2), (.iload 7, 2), (.idiv, 1)] = true := by decide +kernel
  refine go_iload rfl hd (fun hd => ?_)
  refine go_iload rfl hd (fun hd => ?_)
  refine go_idiv hz1 hz2 hd (fun hd => ?_)
  exact k
theorem b_X_odds_128 {L : Nat} {d : Nat} {I : jm_I} {Q : Option jm_V → jm_I → Prop} {o0 : Option jm_V} {o1 : Option jm_V} {o2 : Option jm_V} {o3 : Option jm_V} {o4 : Option jm_V} {o5 : Option jm_V} {o6 : Option jm_V} {o7 : Option jm_V} {o8 : Option jm_V} {s0 : Int}  (k : Q (some (.inl s0)) I) : Gx (jx_0 L) d md_X_odds 128 [o0, o1, o2, o3, o4, o5, o6, o7, o8] [.inl s0] I Q := by
  show jm_Go d 0 0 md_X_odds 128 [o0, o1, o2, o3, o4, o5, o6, o7, o8] [.inl s0] (jx (jx_0 L) I) (jx_Q (jx_0 L) Q)
  have hd : jm_dc md_X_odds.2.1 128 [(.ireturn, 1)] = true := by decide +kernel
  exact go_ireturn hd rfl ⟨_, rfl, k⟩
theorem b_X_choose_0 {L : Nat} {d : Nat} {I : jm_I} {Q : Option jm_V → jm_I → Prop} {x0 : Int} {x1 : Int}  (k : Gx (jx_0 L) d md_X_choose 4 [some (.inl x0), some (.inl x1), some (.inl 1), some (.inl 1)] [] I Q) : Cx (jx_0 L) d md_X_choose [.inl x0, .inl x1] I Q := by
  show jm_Go d 0 0 md_X_choose 0 [some (.inl x0), some (.inl x1), none, none] [] (jx (jx_0 L) I) (jx_Q (jx_0 L) Q)
  have hd : jm_dc md_X_choose.2.1 0 [(.iconst 1, 1), (.istore_n 2, 1), (.iconst 1, 1), (.istore_n 3, 1)] = true := by decide +kernel
  refine go_iconst hd (fun hd => ?_)
  refine go_istore_n (by decide) hd (fun hd => ?_)
  refine go_iconst hd (fun hd => ?_)
  refine go_istore_n (by decide) hd (fun hd => ?_)
  exact k
theorem b_X_choose_4 {L : Nat} {d : Nat} {I : jm_I} {Q : Option jm_V → jm_I → Prop} {o0 : Option jm_V} {x1 : Int} {o2 : Option jm_V} {x3 : Int}  (hz : (-2147483648 ≤ x3 ∧ x3 < 2147483648) ∧ (-2147483648 ≤ x1 ∧ x1 < 2147483648)) (kt : x1 < x3 → Gx (jx_0 L) d md_X_choose 25 [o0, some (.inl x1), o2, some (.inl x3)] [] I Q) (kf : ¬ (x1 < x3) → Gx (jx_0 L) d md_X_choose 9 [o0, some (.inl x1), o2, some (.inl x3)] [] I Q) : Gx (jx_0 L) d md_X_choose 4 [o0, some (.inl x1), o2, some (.inl x3)] [] I Q := by
  obtain ⟨hz1, hz2⟩ := hz
  show jm_Go d 0 0 md_X_choose 4 [o0, some (.inl x1), o2, some (.inl x3)] [] (jx (jx_0 L) I) (jx_Q (jx_0 L) Q)
  have hd : jm_dc md_X_choose.2.1 4 [(.iload_n 3, 1), (.iload_n 1, 1), (.if_icmp .gt 19, 3)] = true := by decide +kernel
  refine go_iload_n rfl hd (fun hd => ?_)
  refine go_iload_n rfl hd (fun hd => ?_)
  exact go_icmp_gt (by decide) hz1 hz2 hd kt kf
theorem b_X_choose_9 {L : Nat} {d : Nat} {I : jm_I} {Q : Option jm_V → jm_I → Prop} {x0 : Int} {x1 : Int} {x2 : Int} {x3 : Int}  (hz : (0 ≤ x2 * ((x0 - x1) + x3) ∧ x2 * ((x0 - x1) + x3) < 2147483648) ∧ (0 < x3 ∧ x3 < 2147483648)) (k : Gx (jx_0 L) d md_X_choose 4 [some (.inl x0), some (.inl x1), some (.inl ((x2 * ((x0 - x1) + x3)) / x3)), some (.inl (x3 + 1))] [] I Q) : Gx (jx_0 L) d md_X_choose 9 [some (.inl x0), some (.inl x1), some (.inl x2), some (.inl x3)] [] I Q := by
  obtain ⟨hz1, hz2⟩ := hz
  show jm_Go d 0 0 md_X_choose 9 [some (.inl x0), some (.inl x1), some (.inl x2), some (.inl x3)] [] (jx (jx_0 L) I) (jx_Q (jx_0 L) Q)
  have hd : jm_dc md_X_choose.2.1 9 [(.iload_n 2, 1), (.iload_n 0, 1), (.iload_n 1, 1), (.isub, 1), (.iload_n 3, 1), (.iadd, 1), (.imul, 1), (.iload_n 3, 1), (.idiv, 1), (.istore_n 2, 1), (.iinc 3 1, 3), (.goto (-18), 3)] = true := by decide +kernel
  refine go_iload_n rfl hd (fun hd => ?_)
  refine go_iload_n rfl hd (fun hd => ?_)
  refine go_iload_n rfl hd (fun hd => ?_)
  refine go_isub hd (fun hd => ?_)
  refine go_iload_n rfl hd (fun hd => ?_)
  refine go_iadd hd (fun hd => ?_)
  refine go_imul hd (fun hd => ?_)
  refine go_iload_n rfl hd (fun hd => ?_)
  refine go_idiv hz1 hz2 hd (fun hd => ?_)
  refine go_istore_n (by decide) hd (fun hd => ?_)
  refine go_iinc rfl hd (fun hd => ?_)
  exact go_goto (by decide) hd k
theorem b_X_choose_25 {L : Nat} {d : Nat} {I : jm_I} {Q : Option jm_V → jm_I → Prop} {o0 : Option jm_V} {o1 : Option jm_V} {x2 : Int} {o3 : Option jm_V}  (k : Q (some (.inl x2)) I) : Gx (jx_0 L) d md_X_choose 25 [o0, o1, some (.inl x2), o3] [] I Q := by
  show jm_Go d 0 0 md_X_choose 25 [o0, o1, some (.inl x2), o3] [] (jx (jx_0 L) I) (jx_Q (jx_0 L) Q)
  have hd : jm_dc md_X_choose.2.1 25 [(.iload_n 2, 1), (.ireturn, 1)] = true := by decide +kernel
  refine go_iload_n rfl hd (fun hd => ?_)
  exact go_ireturn hd rfl ⟨_, rfl, k⟩
theorem b_X_power_0 {L : Nat} {d : Nat} {I : jm_I} {Q : Option jm_V → jm_I → Prop} {x0 : Int} {x1 : Int}  (k : Gx (jx_0 L) d md_X_power 4 [some (.inl x0), some (.inl x1), some (.inl 1), some (.inl 0)] [] I Q) : Cx (jx_0 L) d md_X_power [.inl x0, .inl x1] I Q := by
  show jm_Go d 0 0 md_X_power 0 [some (.inl x0), some (.inl x1), none, none] [] (jx (jx_0 L) I) (jx_Q (jx_0 L) Q)
  have hd : jm_dc md_X_power.2.1 0 [(.iconst 1, 1), (.istore_n 2, 1), (.iconst 0, 1), (.istore_n 3, 1)] = true := by decide +kernel
  refine go_iconst hd (fun hd => ?_)
  refine go_istore_n (by decide) hd (fun hd => ?_)
  refine go_iconst hd (fun hd => ?_)
  refine go_istore_n (by decide) hd (fun hd => ?_)
  exact k
theorem b_X_power_4 {L : Nat} {d : Nat} {I : jm_I} {Q : Option jm_V → jm_I → Prop} {o0 : Option jm_V} {x1 : Int} {o2 : Option jm_V} {x3 : Int}  (hz : (-2147483648 ≤ x3 ∧ x3 < 2147483648) ∧ (-2147483648 ≤ x1 ∧ x1 < 2147483648)) (kt : x1 ≤ x3 → Gx (jx_0 L) d md_X_power 19 [o0, some (.inl x1), o2, some (.inl x3)] [] I Q) (kf : ¬ (x1 ≤ x3) → Gx (jx_0 L) d md_X_power 9 [o0, some (.inl x1), o2, some (.inl x3)] [] I Q) : Gx (jx_0 L) d md_X_power 4 [o0, some (.inl x1), o2, some (.inl x3)] [] I Q := by
  obtain ⟨hz1, hz2⟩ := hz
  show jm_Go d 0 0 md_X_power 4 [o0, some (.inl x1), o2, some (.inl x3)] [] (jx (jx_0 L) I) (jx_Q (jx_0 L) Q)
  have hd : jm_dc md_X_power.2.1 4 [(.iload_n 3, 1), (.iload_n 1, 1), (.if_icmp .ge 13, 3)] = true := by decide +kernel
  refine go_iload_n rfl hd (fun hd => ?_)
  refine go_iload_n rfl hd (fun hd => ?_)
  exact go_icmp_ge (by decide) hz1 hz2 hd kt kf
theorem b_X_power_9 {L : Nat} {d : Nat} {I : jm_I} {Q : Option jm_V → jm_I → Prop} {x0 : Int} {o1 : Option jm_V} {x2 : Int} {x3 : Int}  (k : Gx (jx_0 L) d md_X_power 4 [some (.inl x0), o1, some (.inl (x2 * x0)), some (.inl (x3 + 1))] [] I Q) : Gx (jx_0 L) d md_X_power 9 [some (.inl x0), o1, some (.inl x2), some (.inl x3)] [] I Q := by
  show jm_Go d 0 0 md_X_power 9 [some (.inl x0), o1, some (.inl x2), some (.inl x3)] [] (jx (jx_0 L) I) (jx_Q (jx_0 L) Q)
  have hd : jm_dc md_X_power.2.1 9 [(.iload_n 2, 1), (.iload_n 0, 1), (.imul, 1), (.istore_n 2, 1), (.iinc 3 1, 3), (.goto (-12), 3)] = true := by decide +kernel
  refine go_iload_n rfl hd (fun hd => ?_)
  refine go_iload_n rfl hd (fun hd => ?_)
  refine go_imul hd (fun hd => ?_)
  refine go_istore_n (by decide) hd (fun hd => ?_)
  refine go_iinc rfl hd (fun hd => ?_)
  exact go_goto (by decide) hd k
theorem b_X_power_19 {L : Nat} {d : Nat} {I : jm_I} {Q : Option jm_V → jm_I → Prop} {o0 : Option jm_V} {o1 : Option jm_V} {x2 : Int} {o3 : Option jm_V}  (k : Q (some (.inl x2)) I) : Gx (jx_0 L) d md_X_power 19 [o0, o1, some (.inl x2), o3] [] I Q := by
  show jm_Go d 0 0 md_X_power 19 [o0, o1, some (.inl x2), o3] [] (jx (jx_0 L) I) (jx_Q (jx_0 L) Q)
  have hd : jm_dc md_X_power.2.1 19 [(.iload_n 2, 1), (.ireturn, 1)] = true := by decide +kernel
  refine go_iload_n rfl hd (fun hd => ?_)
  exact go_ireturn hd rfl ⟨_, rfl, k⟩
theorem b_X_greatestCommonDivisor_0 {L : Nat} {d : Nat} {I : jm_I} {Q : Option jm_V → jm_I → Prop} {x0 : Int} {x1 : Int}  (k : Gx (jx_0 L) d md_X_greatestCommonDivisor 7 [some (.inl x0), some (.inl x1), some (.inl x0), some (.inl x1), some (.inl 0), none] [] I Q) : Cx (jx_0 L) d md_X_greatestCommonDivisor [.inl x0, .inl x1] I Q := by
  show jm_Go d 0 0 md_X_greatestCommonDivisor 0 [some (.inl x0), some (.inl x1), none, none, none, none] [] (jx (jx_0 L) I) (jx_Q (jx_0 L) Q)
  have hd : jm_dc md_X_greatestCommonDivisor.2.1 0 [(.iload_n 0, 1), (.istore_n 2, 1), (.iload_n 1, 1), (.istore_n 3, 1), (.iconst 0, 1), (.istore 4, 2)] = true := by decide +kernel
  refine go_iload_n rfl hd (fun hd => ?_)
  refine go_istore_n (by decide) hd (fun hd => ?_)
  refine go_iload_n rfl hd (fun hd => ?_)
  refine go_istore_n (by decide) hd (fun hd => ?_)
  refine go_iconst hd (fun hd => ?_)
  refine go_istore (by decide) hd (fun hd => ?_)
  exact k
theorem b_X_greatestCommonDivisor_7 {L : Nat} {d : Nat} {I : jm_I} {Q : Option jm_V → jm_I → Prop} {o0 : Option jm_V} {o1 : Option jm_V} {o2 : Option jm_V} {o3 : Option jm_V} {x4 : Int} {o5 : Option jm_V}  (hz : (-2147483648 ≤ x4 ∧ x4 < 2147483648)) (kt : 100 ≤ x4 → Gx (jx_0 L) d md_X_greatestCommonDivisor 34 [o0, o1, o2, o3, some (.inl x4), o5] [] I Q) (kf : ¬ (100 ≤ x4) → Gx (jx_0 L) d md_X_greatestCommonDivisor 14 [o0, o1, o2, o3, some (.inl x4), o5] [] I Q) : Gx (jx_0 L) d md_X_greatestCommonDivisor 7 [o0, o1, o2, o3, some (.inl x4), o5] [] I Q := by
  have hz1 := hz
  show jm_Go d 0 0 md_X_greatestCommonDivisor 7 [o0, o1, o2, o3, some (.inl x4), o5] [] (jx (jx_0 L) I) (jx_Q (jx_0 L) Q)
  have hd : jm_dc md_X_greatestCommonDivisor.2.1 7 [(.iload 4, 2), (.bipush 100, 2), (.if_icmp .ge 23, 3)] = true := by decide +kernel
  refine go_iload rfl hd (fun hd => ?_)
  refine go_bipush (by decide) hd (fun hd => ?_)
  exact go_icmp_ge (by decide) hz1 ⟨by decide, by decide⟩ hd kt kf
theorem b_X_greatestCommonDivisor_14 {L : Nat} {d : Nat} {I : jm_I} {Q : Option jm_V → jm_I → Prop} {o0 : Option jm_V} {o1 : Option jm_V} {o2 : Option jm_V} {x3 : Int} {o4 : Option jm_V} {o5 : Option jm_V}  (hz : (-2147483648 ≤ x3 ∧ x3 < 2147483648)) (kt : x3 = 0 → Gx (jx_0 L) d md_X_greatestCommonDivisor 34 [o0, o1, o2, some (.inl x3), o4, o5] [] I Q) (kf : ¬ x3 = 0 → Gx (jx_0 L) d md_X_greatestCommonDivisor 18 [o0, o1, o2, some (.inl x3), o4, o5] [] I Q) : Gx (jx_0 L) d md_X_greatestCommonDivisor 14 [o0, o1, o2, some (.inl x3), o4, o5] [] I Q := by
  have hz1 := hz
  show jm_Go d 0 0 md_X_greatestCommonDivisor 14 [o0, o1, o2, some (.inl x3), o4, o5] [] (jx (jx_0 L) I) (jx_Q (jx_0 L) Q)
  have hd : jm_dc md_X_greatestCommonDivisor.2.1 14 [(.iload_n 3, 1), (.ifCond .eq 19, 3)] = true := by decide +kernel
  refine go_iload_n rfl hd (fun hd => ?_)
  exact go_if_eq (by decide) hz1 hd kt kf
theorem b_X_greatestCommonDivisor_18 {L : Nat} {d : Nat} {I : jm_I} {Q : Option jm_V → jm_I → Prop} {o0 : Option jm_V} {o1 : Option jm_V} {x2 : Int} {x3 : Int} {x4 : Int} {o5 : Option jm_V}  (hz : (0 ≤ x2 ∧ x2 < 2147483648) ∧ (0 < x3 ∧ x3 < 2147483648)) (k : Gx (jx_0 L) d md_X_greatestCommonDivisor 7 [o0, o1, some (.inl x3), some (.inl (x2 % x3)), some (.inl (x4 + 1)), some (.inl (x2 % x3))] [] I Q) : Gx (jx_0 L) d md_X_greatestCommonDivisor 18 [o0, o1, some (.inl x2), some (.inl x3), some (.inl x4), o5] [] I Q := by
  obtain ⟨hz1, hz2⟩ := hz
  show jm_Go d 0 0 md_X_greatestCommonDivisor 18 [o0, o1, some (.inl x2), some (.inl x3), some (.inl x4), o5] [] (jx (jx_0 L) I) (jx_Q (jx_0 L) Q)
  have hd : jm_dc md_X_greatestCommonDivisor.2.1 18 [(.iload_n 2, 1), (.iload_n 3, 1), (.irem, 1), (.istore 5, 2), (.iload_n 3, 1), (.istore_n 2, 1), (.iload 5, 2), (.istore_n 3, 1), (.iinc 4 1, 3), (.goto (-24), 3)] = true := by decide +kernel
  refine go_iload_n rfl hd (fun hd => ?_)
  refine go_iload_n rfl hd (fun hd => ?_)
  refine go_irem hz1 hz2 hd (fun hd => ?_)
  refine go_istore (by decide) hd (fun hd => ?_)
  refine go_iload_n rfl hd (fun hd => ?_)
  refine go_istore_n (by decide) hd (fun hd => ?_)
  refine go_iload rfl hd (fun hd => ?_)
  refine go_istore_n (by decide) hd (fun hd => ?_)
  refine go_iinc rfl hd (fun hd => ?_)
  exact go_goto (by decide) hd k
theorem b_X_greatestCommonDivisor_34 {L : Nat} {d : Nat} {I : jm_I} {Q : Option jm_V → jm_I → Prop} {o0 : Option jm_V} {o1 : Option jm_V} {x2 : Int} {o3 : Option jm_V} {o4 : Option jm_V} {o5 : Option jm_V}  (k : Q (some (.inl x2)) I) : Gx (jx_0 L) d md_X_greatestCommonDivisor 34 [o0, o1, some (.inl x2), o3, o4, o5] [] I Q := by
  show jm_Go d 0 0 md_X_greatestCommonDivisor 34 [o0, o1, some (.inl x2), o3, o4, o5] [] (jx (jx_0 L) I) (jx_Q (jx_0 L) Q)
  have hd : jm_dc md_X_greatestCommonDivisor.2.1 34 [(.iload_n 2, 1), (.ireturn, 1)] = true := by decide +kernel
  refine go_iload_n rfl hd (fun hd => ?_)
  exact go_ireturn hd rfl ⟨_, rfl, k⟩
theorem b_X_worth_0 {L : Nat} {d : Nat} {I : jm_I} {Q : Option jm_V → jm_I → Prop} {x1 : Int}  (k : Cx (jx_0 L) d md_X_isPerson [.inr (.inl 1), .inl x1] I (fun v J => Gx (jx_0 L) (d + 1) md_X_worth 5 [some (.inr (.inl 1)), some (.inl x1), none, none, none, none] (v.toList ++ []) J Q)) : Cx (jx_0 L) (d + 1) md_X_worth [.inr (.inl 1), .inl x1] I Q := by
  show jm_Go (d + 1) 0 0 md_X_worth 0 [some (.inr (.inl 1)), some (.inl x1), none, none, none, none] [] (jx (jx_0 L) I) (jx_Q (jx_0 L) Q)
  have hd : jm_dc md_X_worth.2.1 0 [(.aload_n 0, 1), (.iload_n 1, 1), (.invokevirtual 116, 3)] = true := by decide +kernel
  refine go_aload_n rfl hd (fun hd => ?_)
  refine go_iload_n rfl hd (fun hd => ?_)
  exact gx_virtual 1 8 [.inl x1] [] mk_X_isPerson co_X8 rfl ml_8_116 in_X_isPerson se_X_isPerson rfl rfl (Nat.le_of_ble_eq_true rfl) rfl (Nat.le_of_ble_eq_true rfl) rfl hd k
theorem b_X_worth_5 {L : Nat} {d : Nat} {I : jm_I} {Q : Option jm_V → jm_I → Prop} {o0 : Option jm_V} {o1 : Option jm_V} {o2 : Option jm_V} {o3 : Option jm_V} {o4 : Option jm_V} {o5 : Option jm_V} {s0 : Int}  (hz : (-2147483648 ≤ s0 ∧ s0 < 2147483648)) (kt : ¬ s0 = 0 → Gx (jx_0 L) d md_X_worth 10 [o0, o1, o2, o3, o4, o5] [] I Q) (kf : s0 = 0 → Gx (jx_0 L) d md_X_worth 8 [o0, o1, o2, o3, o4, o5] [] I Q) : Gx (jx_0 L) d md_X_worth 5 [o0, o1, o2, o3, o4, o5] [.inl s0] I Q := by
  have hz1 := hz
  show jm_Go d 0 0 md_X_worth 5 [o0, o1, o2, o3, o4, o5] [.inl s0] (jx (jx_0 L) I) (jx_Q (jx_0 L) Q)
  have hd : jm_dc md_X_worth.2.1 5 [(.ifCond .ne 5, 3)] = true := by decide +kernel
  exact go_if_ne (by decide) hz1 hd kt kf
theorem b_X_worth_8 {L : Nat} {d : Nat} {I : jm_I} {Q : Option jm_V → jm_I → Prop} {o0 : Option jm_V} {o1 : Option jm_V} {o2 : Option jm_V} {o3 : Option jm_V} {o4 : Option jm_V} {o5 : Option jm_V}  (k : Q (some (.inl (-1))) I) : Gx (jx_0 L) d md_X_worth 8 [o0, o1, o2, o3, o4, o5] [] I Q := by
  show jm_Go d 0 0 md_X_worth 8 [o0, o1, o2, o3, o4, o5] [] (jx (jx_0 L) I) (jx_Q (jx_0 L) Q)
  have hd : jm_dc md_X_worth.2.1 8 [(.iconst (-1), 1), (.ireturn, 1)] = true := by decide +kernel
  refine go_iconst hd (fun hd => ?_)
  exact go_ireturn hd rfl ⟨_, rfl, k⟩
theorem b_X_worth_10 {L : Nat} {d : Nat} {I : jm_I} {Q : Option jm_V → jm_I → Prop} {o0 : Option jm_V} {o1 : Option jm_V} {o2 : Option jm_V} {o3 : Option jm_V} {o4 : Option jm_V} {o5 : Option jm_V}  (k : Gx (jx_0 L) d md_X_worth 14 [o0, o1, some (.inl 0), some (.inl 0), o4, o5] [] I Q) : Gx (jx_0 L) d md_X_worth 10 [o0, o1, o2, o3, o4, o5] [] I Q := by
  show jm_Go d 0 0 md_X_worth 10 [o0, o1, o2, o3, o4, o5] [] (jx (jx_0 L) I) (jx_Q (jx_0 L) Q)
  have hd : jm_dc md_X_worth.2.1 10 [(.iconst 0, 1), (.istore_n 2, 1), (.iconst 0, 1), (.istore_n 3, 1)] = true := by decide +kernel
  refine go_iconst hd (fun hd => ?_)
  refine go_istore_n (by decide) hd (fun hd => ?_)
  refine go_iconst hd (fun hd => ?_)
  refine go_istore_n (by decide) hd (fun hd => ?_)
  exact k
theorem b_X_worth_14 {L : Nat} {d : Nat} {I : jm_I} {Q : Option jm_V → jm_I → Prop} {o1 : Option jm_V} {o2 : Option jm_V} {x3 : Int} {o4 : Option jm_V} {o5 : Option jm_V} {c1 : Nat} (hD1 : I 1 0 = (c1 : Int)) (hc1 : jx_City (jx_0 L) c1) (hz : (-2147483648 ≤ x3 ∧ x3 < 2147483648) ∧ (-2147483648 ≤ I c1 4 ∧ I c1 4 < 2147483648)) (kt : (I c1 4) ≤ x3 → Gx (jx_0 L) d md_X_worth 99 [some (.inr (.inl 1)), o1, o2, some (.inl x3), o4, o5] [] I Q) (kf : ¬ ((I c1 4) ≤ x3) → Gx (jx_0 L) d md_X_worth 25 [some (.inr (.inl 1)), o1, o2, some (.inl x3), o4, o5] [] I Q) : Gx (jx_0 L) d md_X_worth 14 [some (.inr (.inl 1)), o1, o2, some (.inl x3), o4, o5] [] I Q := by
  obtain ⟨hz1, hz2⟩ := hz
  show jm_Go d 0 0 md_X_worth 14 [some (.inr (.inl 1)), o1, o2, some (.inl x3), o4, o5] [] (jx (jx_0 L) I) (jx_Q (jx_0 L) Q)
  have hd : jm_dc md_X_worth.2.1 14 [(.iload_n 3, 1), (.aload_n 0, 1), (.getfield 12, 3), (.getfield 243, 3), (.if_icmp .ge 77, 3)] = true := by decide +kernel
  refine go_iload_n rfl hd (fun hd => ?_)
  refine go_aload_n rfl hd (fun hd => ?_)
  refine go_getD co_X8 fl_8_12 (by decide) rfl rfl hD1 (ct_pos hc1) hd (fun hd => ?_)
  refine go_getI co_X0 fl_8_243 (by decide) (Or.inl rfl) (ct_K hc1) hd (fun hd => ?_)
  exact go_icmp_ge (by decide) hz1 hz2 hd kt kf
theorem b_X_worth_25 {L : Nat} {d : Nat} {I : jm_I} {Q : Option jm_V → jm_I → Prop} {o1 : Option jm_V} {o2 : Option jm_V} {x3 : Int} {o4 : Option jm_V} {o5 : Option jm_V}  (k : Cx (jx_0 L) d md_X_roomOfThing [.inr (.inl 1), .inl x3] I (fun v J => Gx (jx_0 L) (d + 1) md_X_worth 30 [some (.inr (.inl 1)), o1, o2, some (.inl x3), o4, o5] (v.toList ++ []) J Q)) : Gx (jx_0 L) (d + 1) md_X_worth 25 [some (.inr (.inl 1)), o1, o2, some (.inl x3), o4, o5] [] I Q := by
  show jm_Go (d + 1) 0 0 md_X_worth 25 [some (.inr (.inl 1)), o1, o2, some (.inl x3), o4, o5] [] (jx (jx_0 L) I) (jx_Q (jx_0 L) Q)
  have hd : jm_dc md_X_worth.2.1 25 [(.aload_n 0, 1), (.iload_n 3, 1), (.invokevirtual 135, 3)] = true := by decide +kernel
  refine go_aload_n rfl hd (fun hd => ?_)
  refine go_iload_n rfl hd (fun hd => ?_)
  exact gx_virtual 1 8 [.inl x3] [] mk_X_roomOfThing co_X8 rfl ml_8_135 in_X_roomOfThing se_X_roomOfThing rfl rfl (Nat.le_of_ble_eq_true rfl) rfl (Nat.le_of_ble_eq_true rfl) rfl hd k
theorem b_X_worth_30 {L : Nat} {d : Nat} {I : jm_I} {Q : Option jm_V → jm_I → Prop} {o0 : Option jm_V} {o1 : Option jm_V} {o2 : Option jm_V} {o3 : Option jm_V} {o4 : Option jm_V} {o5 : Option jm_V} {s0 : Int}  (k : Gx (jx_0 L) d md_X_worth 35 [o0, o1, o2, o3, some (.inl s0), some (.inl 0)] [] I Q) : Gx (jx_0 L) d md_X_worth 30 [o0, o1, o2, o3, o4, o5] [.inl s0] I Q := by
  show jm_Go d 0 0 md_X_worth 30 [o0, o1, o2, o3, o4, o5] [.inl s0] (jx (jx_0 L) I) (jx_Q (jx_0 L) Q)
  have hd : jm_dc md_X_worth.2.1 30 [(.istore 4, 2), (.iconst 0, 1), (.istore 5, 2)] = true := by decide +kernel
  refine go_istore (by decide) hd (fun hd => ?_)
  refine go_iconst hd (fun hd => ?_)
  refine go_istore (by decide) hd (fun hd => ?_)
  exact k
theorem b_X_worth_35 {L : Nat} {d : Nat} {I : jm_I} {Q : Option jm_V → jm_I → Prop} {o1 : Option jm_V} {o2 : Option jm_V} {o3 : Option jm_V} {o4 : Option jm_V} {x5 : Int} {c1 : Nat} (hD1 : I 1 0 = (c1 : Int)) (hc1 : jx_City (jx_0 L) c1) (hz : (-2147483648 ≤ x5 ∧ x5 < 2147483648) ∧ (-2147483648 ≤ I c1 0 ∧ I c1 0 < 2147483648)) (kt : (I c1 0) ≤ x5 → Gx (jx_0 L) d md_X_worth 93 [some (.inr (.inl 1)), o1, o2, o3, o4, some (.inl x5)] [] I Q) (kf : ¬ ((I c1 0) ≤ x5) → Gx (jx_0 L) d md_X_worth 47 [some (.inr (.inl 1)), o1, o2, o3, o4, some (.inl x5)] [] I Q) : Gx (jx_0 L) d md_X_worth 35 [some (.inr (.inl 1)), o1, o2, o3, o4, some (.inl x5)] [] I Q := by
  obtain ⟨hz1, hz2⟩ := hz
  show jm_Go d 0 0 md_X_worth 35 [some (.inr (.inl 1)), o1, o2, o3, o4, some (.inl x5)] [] (jx (jx_0 L) I) (jx_Q (jx_0 L) Q)
  have hd : jm_dc md_X_worth.2.1 35 [(.iload 5, 2), (.aload_n 0, 1), (.getfield 12, 3), (.getfield 190, 3), (.if_icmp .ge 49, 3)] = true := by decide +kernel
  refine go_iload rfl hd (fun hd => ?_)
  refine go_aload_n rfl hd (fun hd => ?_)
  refine go_getD co_X8 fl_8_12 (by decide) rfl rfl hD1 (ct_pos hc1) hd (fun hd => ?_)
  refine go_getI co_X0 fl_8_190 (by decide) (Or.inl rfl) (ct_K hc1) hd (fun hd => ?_)
  exact go_icmp_ge (by decide) hz1 hz2 hd kt kf
theorem b_X_worth_47 {L : Nat} {d : Nat} {I : jm_I} {Q : Option jm_V → jm_I → Prop} {o0 : Option jm_V} {o1 : Option jm_V} {o2 : Option jm_V} {o3 : Option jm_V} {x4 : Int} {x5 : Int}  (hz : (-2147483648 ≤ x5 ∧ x5 < 2147483648) ∧ (-2147483648 ≤ x4 ∧ x4 < 2147483648)) (kt : x5 = x4 → Gx (jx_0 L) d md_X_worth 87 [o0, o1, o2, o3, some (.inl x4), some (.inl x5)] [] I Q) (kf : ¬ x5 = x4 → Gx (jx_0 L) d md_X_worth 54 [o0, o1, o2, o3, some (.inl x4), some (.inl x5)] [] I Q) : Gx (jx_0 L) d md_X_worth 47 [o0, o1, o2, o3, some (.inl x4), some (.inl x5)] [] I Q := by
  obtain ⟨hz1, hz2⟩ := hz
  show jm_Go d 0 0 md_X_worth 47 [o0, o1, o2, o3, some (.inl x4), some (.inl x5)] [] (jx (jx_0 L) I) (jx_Q (jx_0 L) Q)
  have hd : jm_dc md_X_worth.2.1 47 [(.iload 5, 2), (.iload 4, 2), (.if_icmp .eq 36, 3)] = true := by decide +kernel
  refine go_iload rfl hd (fun hd => ?_)
  refine go_iload rfl hd (fun hd => ?_)
  exact go_icmp_eq (by decide) hz1 hz2 hd kt kf
theorem b_X_worth_54 {L : Nat} {d : Nat} {I : jm_I} {Q : Option jm_V → jm_I → Prop} {x1 : Int} {o2 : Option jm_V} {o3 : Option jm_V} {x4 : Int} {x5 : Int} {c1 : Nat} (hD1 : I 1 0 = (c1 : Int)) (hc1 : jx_City (jx_0 L) c1) (hz : (0 ≤ x1 ∧ x1 < 5)) (k : Cx (jx_0 L) d md_City_stepsToCarry [.inr (.inl c1), .inl (I 45 x1.toNat), .inl x4, .inl x5] I (fun v J => Gx (jx_0 L) (d + 1) md_X_worth 74 [some (.inr (.inl 1)), some (.inl x1), o2, o3, some (.inl x4), some (.inl x5)] (v.toList ++ []) J Q)) : Gx (jx_0 L) (d + 1) md_X_worth 54 [some (.inr (.inl 1)), some (.inl x1), o2, o3, some (.inl x4), some (.inl x5)] [] I Q := by
  have hz1 := hz
  show jm_Go (d + 1) 0 0 md_X_worth 54 [some (.inr (.inl 1)), some (.inl x1), o2, o3, some (.inl x4), some (.inl x5)] [] (jx (jx_0 L) I) (jx_Q (jx_0 L) Q)
  have hd : jm_dc md_X_worth.2.1 54 [(.aload_n 0, 1), (.getfield 12, 3), (.aload_n 0, 1), (.getfield 33, 3), (.getfield 120, 3), (.iload_n 1, 1), (.iaload, 1), (.iload 4, 2), (.iload 5, 2), (.invokevirtual 166, 3)] = true := by decide +kernel
  refine go_aload_n rfl hd (fun hd => ?_)
  refine go_getD co_X8 fl_8_12 (by decide) rfl rfl hD1 (ct_pos hc1) hd (fun hd => ?_)
  refine go_aload_n rfl hd (fun hd => ?_)
  refine go_getR co_X8 fl_8_33 (by decide) rfl rfl rfl hd (fun hd => ?_)
  refine go_getR co_X5 fl_8_120 (by decide) rfl rfl rfl hd (fun hd => ?_)
  refine go_iload_n rfl hd (fun hd => ?_)
  refine go_iaload rfl hz1.1 hz1.2 (by decide) hd (fun hd => ?_)
  refine go_iload rfl hd (fun hd => ?_)
  refine go_iload rfl hd (fun hd => ?_)
  exact gx_virtual c1 0 [.inl (I 45 x1.toNat), .inl x4, .inl x5] [] mk_City_stepsToCarry co_X0 rfl ml_8_166 in_City_stepsToCarry se_City_stepsToCarry (ct_K hc1) rfl (Nat.le_of_ble_eq_true rfl) rfl (Nat.le_of_ble_eq_true rfl) rfl hd k
theorem b_X_worth_74 {L : Nat} {d : Nat} {I : jm_I} {Q : Option jm_V → jm_I → Prop} {o1 : Option jm_V} {o2 : Option jm_V} {o3 : Option jm_V} {o4 : Option jm_V} {o5 : Option jm_V} {s0 : Int} {c1 : Nat} (hD1 : I 1 0 = (c1 : Int)) (hc1 : jx_City (jx_0 L) c1) (hz : (-2147483648 ≤ s0 ∧ s0 < 2147483648) ∧ (-2147483648 ≤ I c1 1 ∧ I c1 1 < 2147483648)) (kt : (I c1 1) < s0 → Gx (jx_0 L) d md_X_worth 87 [some (.inr (.inl 1)), o1, o2, o3, o4, o5] [] I Q) (kf : ¬ ((I c1 1) < s0) → Gx (jx_0 L) d md_X_worth 84 [some (.inr (.inl 1)), o1, o2, o3, o4, o5] [] I Q) : Gx (jx_0 L) d md_X_worth 74 [some (.inr (.inl 1)), o1, o2, o3, o4, o5] [.inl s0] I Q := by
  obtain ⟨hz1, hz2⟩ := hz
  show jm_Go d 0 0 md_X_worth 74 [some (.inr (.inl 1)), o1, o2, o3, o4, o5] [.inl s0] (jx (jx_0 L) I) (jx_Q (jx_0 L) Q)
  have hd : jm_dc md_X_worth.2.1 74 [(.aload_n 0, 1), (.getfield 12, 3), (.getfield 160, 3), (.if_icmp .gt 6, 3)] = true := by decide +kernel
  refine go_aload_n rfl hd (fun hd => ?_)
  refine go_getD co_X8 fl_8_12 (by decide) rfl rfl hD1 (ct_pos hc1) hd (fun hd => ?_)
  refine go_getI co_X0 fl_8_160 (by decide) (Or.inl rfl) (ct_K hc1) hd (fun hd => ?_)
  exact go_icmp_gt (by decide) hz1 hz2 hd kt kf
theorem b_X_worth_84 {L : Nat} {d : Nat} {I : jm_I} {Q : Option jm_V → jm_I → Prop} {o0 : Option jm_V} {o1 : Option jm_V} {x2 : Int} {o3 : Option jm_V} {o4 : Option jm_V} {o5 : Option jm_V}  (k : Gx (jx_0 L) d md_X_worth 87 [o0, o1, some (.inl (x2 + 1)), o3, o4, o5] [] I Q) : Gx (jx_0 L) d md_X_worth 84 [o0, o1, some (.inl x2), o3, o4, o5] [] I Q := by
  show jm_Go d 0 0 md_X_worth 84 [o0, o1, some (.inl x2), o3, o4, o5] [] (jx (jx_0 L) I) (jx_Q (jx_0 L) Q)
  have hd : jm_dc md_X_worth.2.1 84 [(.iinc 2 1, 3)] = true := by decide +kernel
  refine go_iinc rfl hd (fun hd => ?_)
  exact k
theorem b_X_worth_87 {L : Nat} {d : Nat} {I : jm_I} {Q : Option jm_V → jm_I → Prop} {o0 : Option jm_V} {o1 : Option jm_V} {o2 : Option jm_V} {o3 : Option jm_V} {o4 : Option jm_V} {x5 : Int}  (k : Gx (jx_0 L) d md_X_worth 35 [o0, o1, o2, o3, o4, some (.inl (x5 + 1))] [] I Q) : Gx (jx_0 L) d md_X_worth 87 [o0, o1, o2, o3, o4, some (.inl x5)] [] I Q := by
  show jm_Go d 0 0 md_X_worth 87 [o0, o1, o2, o3, o4, some (.inl x5)] [] (jx (jx_0 L) I) (jx_Q (jx_0 L) Q)
  have hd : jm_dc md_X_worth.2.1 87 [(.iinc 5 1, 3), (.goto (-55), 3)] = true := by decide +kernel
  refine go_iinc rfl hd (fun hd => ?_)
  exact go_goto (by decide) hd k
theorem b_X_worth_93 {L : Nat} {d : Nat} {I : jm_I} {Q : Option jm_V → jm_I → Prop} {o0 : Option jm_V} {o1 : Option jm_V} {o2 : Option jm_V} {x3 : Int} {o4 : Option jm_V} {o5 : Option jm_V}  (k : Gx (jx_0 L) d md_X_worth 14 [o0, o1, o2, some (.inl (x3 + 1)), o4, o5] [] I Q) : Gx (jx_0 L) d md_X_worth 93 [o0, o1, o2, some (.inl x3), o4, o5] [] I Q := by
  show jm_Go d 0 0 md_X_worth 93 [o0, o1, o2, some (.inl x3), o4, o5] [] (jx (jx_0 L) I) (jx_Q (jx_0 L) Q)
  have hd : jm_dc md_X_worth.2.1 93 [(.iinc 3 1, 3), (.goto (-82), 3)] = true := by decide +kernel
  refine go_iinc rfl hd (fun hd => ?_)
  exact go_goto (by decide) hd k
theorem b_X_worth_99 {L : Nat} {d : Nat} {I : jm_I} {Q : Option jm_V → jm_I → Prop} {o0 : Option jm_V} {o1 : Option jm_V} {x2 : Int} {o3 : Option jm_V} {o4 : Option jm_V} {o5 : Option jm_V}  (k : Q (some (.inl x2)) I) : Gx (jx_0 L) d md_X_worth 99 [o0, o1, some (.inl x2), o3, o4, o5] [] I Q := by
  show jm_Go d 0 0 md_X_worth 99 [o0, o1, some (.inl x2), o3, o4, o5] [] (jx (jx_0 L) I) (jx_Q (jx_0 L) Q)
  have hd : jm_dc md_X_worth.2.1 99 [(.iload_n 2, 1), (.ireturn, 1)] = true := by decide +kernel
  refine go_iload_n rfl hd (fun hd => ?_)
  exact go_ireturn hd rfl ⟨_, rfl, k⟩
theorem b_X_rate_0 {L : Nat} {d : Nat} {I : jm_I} {Q : Option jm_V → jm_I → Prop} {x1 : Int} {x2 : Int}  (k : Cx (jx_0 L) d md_X_isPerson [.inr (.inl 1), .inl x2] I (fun v J => Gx (jx_0 L) (d + 1) md_X_rate 5 [some (.inr (.inl 1)), some (.inl x1), some (.inl x2)] (v.toList ++ []) J Q)) : Cx (jx_0 L) (d + 1) md_X_rate [.inr (.inl 1), .inl x1, .inl x2] I Q := by
  show jm_Go (d + 1) 0 0 md_X_rate 0 [some (.inr (.inl 1)), some (.inl x1), some (.inl x2)] [] (jx (jx_0 L) I) (jx_Q (jx_0 L) Q)
  have hd : jm_dc md_X_rate.2.1 0 [(.aload_n 0, 1), (.iload_n 2, 1), (.invokevirtual 116, 3)] = true := by decide +kernel
  refine go_aload_n rfl hd (fun hd => ?_)
  refine go_iload_n rfl hd (fun hd => ?_)
  exact gx_virtual 1 8 [.inl x2] [] mk_X_isPerson co_X8 rfl ml_8_116 in_X_isPerson se_X_isPerson rfl rfl (Nat.le_of_ble_eq_true rfl) rfl (Nat.le_of_ble_eq_true rfl) rfl hd k
theorem b_X_rate_5 {L : Nat} {d : Nat} {I : jm_I} {Q : Option jm_V → jm_I → Prop} {o0 : Option jm_V} {o1 : Option jm_V} {o2 : Option jm_V} {s0 : Int}  (hz : (-2147483648 ≤ s0 ∧ s0 < 2147483648)) (kt : ¬ s0 = 0 → Gx (jx_0 L) d md_X_rate 11 [o0, o1, o2] [] I Q) (kf : s0 = 0 → Gx (jx_0 L) d md_X_rate 8 [o0, o1, o2] [] I Q) : Gx (jx_0 L) d md_X_rate 5 [o0, o1, o2] [.inl s0] I Q := by
  have hz1 := hz
  show jm_Go d 0 0 md_X_rate 5 [o0, o1, o2] [.inl s0] (jx (jx_0 L) I) (jx_Q (jx_0 L) Q)
  have hd : jm_dc md_X_rate.2.1 5 [(.ifCond .ne 6, 3)] = true := by decide +kernel
  exact go_if_ne (by decide) hz1 hd kt kf
theorem b_X_rate_8 {L : Nat} {d : Nat} {I : jm_I} {Q : Option jm_V → jm_I → Prop} {o0 : Option jm_V} {o1 : Option jm_V} {o2 : Option jm_V}  (k : Q (some (.inl (-1000000))) I) : Gx (jx_0 L) d md_X_rate 8 [o0, o1, o2] [] I Q := by
  show jm_Go d 0 0 md_X_rate 8 [o0, o1, o2] [] (jx (jx_0 L) I) (jx_Q (jx_0 L) Q)
  have hd : jm_dc md_X_rate.2.1 8 [(.ldc 229, 2), (.ireturn, 1)] = true := by decide +kernel
  refine go_ldc (-1000000) (-1000000) (by decide) kc_8_229 hd (fun hd => ?_)
  exact go_ireturn hd rfl ⟨_, rfl, k⟩
theorem b_X_rate_11 {L : Nat} {d : Nat} {I : jm_I} {Q : Option jm_V → jm_I → Prop} {o0 : Option jm_V} {x1 : Int} {o2 : Option jm_V}  (hz : (-2147483648 ≤ x1 ∧ x1 < 2147483648)) (k0 : x1 = 0 → Gx (jx_0 L) d md_X_rate 52 [o0, some (.inl x1), o2] [] I Q) (k1 : x1 = 1 → Gx (jx_0 L) d md_X_rate 58 [o0, some (.inl x1), o2] [] I Q) (k2 : x1 = 2 → Gx (jx_0 L) d md_X_rate 64 [o0, some (.inl x1), o2] [] I Q) (k3 : x1 = 3 → Gx (jx_0 L) d md_X_rate 70 [o0, some (.inl x1), o2] [] I Q) (k4 : x1 = 4 → Gx (jx_0 L) d md_X_rate 76 [o0, some (.inl x1), o2] [] I Q) (k5 : x1 = 5 → Gx (jx_0 L) d md_X_rate 82 [o0, some (.inl x1), o2] [] I Q) (kd : (x1 < 0 ∨ 5 < x1) → Gx (jx_0 L) d md_X_rate 88 [o0, some (.inl x1), o2] [] I Q) : Gx (jx_0 L) d md_X_rate 11 [o0, some (.inl x1), o2] [] I Q := by
  have hz1 := hz
  show jm_Go d 0 0 md_X_rate 11 [o0, some (.inl x1), o2] [] (jx (jx_0 L) I) (jx_Q (jx_0 L) Q)
  have hd : jm_dc md_X_rate.2.1 11 [(.iload_n 1, 1), (.tableswitch 76 0 5 #[40, 46, 52, 58, 64, 70], 40)] = true := by decide +kernel
  refine go_iload_n rfl hd (fun hd => ?_)
  by_cases hq : x1 < 0 ∨ 5 < x1
  · exact go_tableOut (a := x1) hz1 hq (by decide) hd (kd hq)
  · rcases (show x1 = 0 ∨ x1 = 1 ∨ x1 = 2 ∨ x1 = 3 ∨ x1 = 4 ∨ x1 = 5 by omega) with hq0 | hq1 | hq2 | hq3 | hq4 | hq5
    · exact go_tableIn (a := x1) (off := 40) (t := 52) hz1 (by omega) (by omega) (by rw [hq0]; rfl) (by decide) hd (k0 hq0)
    · exact go_tableIn (a := x1) (off := 46) (t := 58) hz1 (by omega) (by omega) (by rw [hq1]; rfl) (by decide) hd (k1 hq1)
    · exact go_tableIn (a := x1) (off := 52) (t := 64) hz1 (by omega) (by omega) (by rw [hq2]; rfl) (by decide) hd (k2 hq2)
    · exact go_tableIn (a := x1) (off := 58) (t := 70) hz1 (by omega) (by omega) (by rw [hq3]; rfl) (by decide) hd (k3 hq3)
    · exact go_tableIn (a := x1) (off := 64) (t := 76) hz1 (by omega) (by omega) (by rw [hq4]; rfl) (by decide) hd (k4 hq4)
    · exact go_tableIn (a := x1) (off := 70) (t := 82) hz1 (by omega) (by omega) (by rw [hq5]; rfl) (by decide) hd (k5 hq5)
theorem b_X_rate_52 {L : Nat} {d : Nat} {I : jm_I} {Q : Option jm_V → jm_I → Prop} {o1 : Option jm_V} {x2 : Int}  (k : Cx (jx_0 L) d md_X_ratePerson [.inr (.inl 1), .inl x2] I (fun v J => Gx (jx_0 L) (d + 1) md_X_rate 57 [some (.inr (.inl 1)), o1, some (.inl x2)] (v.toList ++ []) J Q)) : Gx (jx_0 L) (d + 1) md_X_rate 52 [some (.inr (.inl 1)), o1, some (.inl x2)] [] I Q := by
  show jm_Go (d + 1) 0 0 md_X_rate 52 [some (.inr (.inl 1)), o1, some (.inl x2)] [] (jx (jx_0 L) I) (jx_Q (jx_0 L) Q)
  have hd : jm_dc md_X_rate.2.1 52 [(.aload_n 0, 1), (.iload_n 2, 1), (.invokevirtual 246, 3)] = true := by decide +kernel
  refine go_aload_n rfl hd (fun hd => ?_)
  refine go_iload_n rfl hd (fun hd => ?_)
  exact gx_virtual 1 8 [.inl x2] [] mk_X_ratePerson co_X8 rfl ml_8_246 in_X_ratePerson se_X_ratePerson rfl rfl (Nat.le_of_ble_eq_true rfl) rfl (Nat.le_of_ble_eq_true rfl) rfl hd k
theorem b_X_rate_57 {L : Nat} {d : Nat} {I : jm_I} {Q : Option jm_V → jm_I → Prop} {o0 : Option jm_V} {o1 : Option jm_V} {o2 : Option jm_V} {s0 : Int}  (k : Q (some (.inl s0)) I) : Gx (jx_0 L) d md_X_rate 57 [o0, o1, o2] [.inl s0] I Q := by
  show jm_Go d 0 0 md_X_rate 57 [o0, o1, o2] [.inl s0] (jx (jx_0 L) I) (jx_Q (jx_0 L) Q)
  have hd : jm_dc md_X_rate.2.1 57 [(.ireturn, 1)] = true := by decide +kernel
  exact go_ireturn hd rfl ⟨_, rfl, k⟩
theorem b_X_rate_58 {L : Nat} {d : Nat} {I : jm_I} {Q : Option jm_V → jm_I → Prop} {o1 : Option jm_V} {x2 : Int}  (k : Cx (jx_0 L) d md_X_rateBarber [.inr (.inl 1), .inl x2] I (fun v J => Gx (jx_0 L) (d + 1) md_X_rate 63 [some (.inr (.inl 1)), o1, some (.inl x2)] (v.toList ++ []) J Q)) : Gx (jx_0 L) (d + 1) md_X_rate 58 [some (.inr (.inl 1)), o1, some (.inl x2)] [] I Q := by
  show jm_Go (d + 1) 0 0 md_X_rate 58 [some (.inr (.inl 1)), o1, some (.inl x2)] [] (jx (jx_0 L) I) (jx_Q (jx_0 L) Q)
  have hd : jm_dc md_X_rate.2.1 58 [(.aload_n 0, 1), (.iload_n 2, 1), (.invokevirtual 249, 3)] = true := by decide +kernel
  refine go_aload_n rfl hd (fun hd => ?_)
  refine go_iload_n rfl hd (fun hd => ?_)
  exact gx_virtual 1 8 [.inl x2] [] mk_X_rateBarber co_X8 rfl ml_8_249 in_X_rateBarber se_X_rateBarber rfl rfl (Nat.le_of_ble_eq_true rfl) rfl (Nat.le_of_ble_eq_true rfl) rfl hd k
theorem b_X_rate_63 {L : Nat} {d : Nat} {I : jm_I} {Q : Option jm_V → jm_I → Prop} {o0 : Option jm_V} {o1 : Option jm_V} {o2 : Option jm_V} {s0 : Int}  (k : Q (some (.inl s0)) I) : Gx (jx_0 L) d md_X_rate 63 [o0, o1, o2] [.inl s0] I Q := by
  show jm_Go d 0 0 md_X_rate 63 [o0, o1, o2] [.inl s0] (jx (jx_0 L) I) (jx_Q (jx_0 L) Q)
  have hd : jm_dc md_X_rate.2.1 63 [(.ireturn, 1)] = true := by decide +kernel
  exact go_ireturn hd rfl ⟨_, rfl, k⟩
theorem b_X_rate_64 {L : Nat} {d : Nat} {I : jm_I} {Q : Option jm_V → jm_I → Prop} {o1 : Option jm_V} {x2 : Int}  (k : Cx (jx_0 L) d md_X_rateThief [.inr (.inl 1), .inl x2] I (fun v J => Gx (jx_0 L) (d + 1) md_X_rate 69 [some (.inr (.inl 1)), o1, some (.inl x2)] (v.toList ++ []) J Q)) : Gx (jx_0 L) (d + 1) md_X_rate 64 [some (.inr (.inl 1)), o1, some (.inl x2)] [] I Q := by
  show jm_Go (d + 1) 0 0 md_X_rate 64 [some (.inr (.inl 1)), o1, some (.inl x2)] [] (jx (jx_0 L) I) (jx_Q (jx_0 L) Q)
  have hd : jm_dc md_X_rate.2.1 64 [(.aload_n 0, 1), (.iload_n 2, 1), (.invokevirtual 252, 3)] = true := by decide +kernel
  refine go_aload_n rfl hd (fun hd => ?_)
  refine go_iload_n rfl hd (fun hd => ?_)
  exact gx_virtual 1 8 [.inl x2] [] mk_X_rateThief co_X8 rfl ml_8_252 in_X_rateThief se_X_rateThief rfl rfl (Nat.le_of_ble_eq_true rfl) rfl (Nat.le_of_ble_eq_true rfl) rfl hd k
theorem b_X_rate_69 {L : Nat} {d : Nat} {I : jm_I} {Q : Option jm_V → jm_I → Prop} {o0 : Option jm_V} {o1 : Option jm_V} {o2 : Option jm_V} {s0 : Int}  (k : Q (some (.inl s0)) I) : Gx (jx_0 L) d md_X_rate 69 [o0, o1, o2] [.inl s0] I Q := by
  show jm_Go d 0 0 md_X_rate 69 [o0, o1, o2] [.inl s0] (jx (jx_0 L) I) (jx_Q (jx_0 L) Q)
  have hd : jm_dc md_X_rate.2.1 69 [(.ireturn, 1)] = true := by decide +kernel
  exact go_ireturn hd rfl ⟨_, rfl, k⟩
theorem b_X_rate_70 {L : Nat} {d : Nat} {I : jm_I} {Q : Option jm_V → jm_I → Prop} {o1 : Option jm_V} {x2 : Int}  (k : Cx (jx_0 L) d md_X_rateGrey [.inr (.inl 1), .inl x2] I (fun v J => Gx (jx_0 L) (d + 1) md_X_rate 75 [some (.inr (.inl 1)), o1, some (.inl x2)] (v.toList ++ []) J Q)) : Gx (jx_0 L) (d + 1) md_X_rate 70 [some (.inr (.inl 1)), o1, some (.inl x2)] [] I Q := by
  show jm_Go (d + 1) 0 0 md_X_rate 70 [some (.inr (.inl 1)), o1, some (.inl x2)] [] (jx (jx_0 L) I) (jx_Q (jx_0 L) Q)
  have hd : jm_dc md_X_rate.2.1 70 [(.aload_n 0, 1), (.iload_n 2, 1), (.invokevirtual 255, 3)] = true := by decide +kernel
  refine go_aload_n rfl hd (fun hd => ?_)
  refine go_iload_n rfl hd (fun hd => ?_)
  exact gx_virtual 1 8 [.inl x2] [] mk_X_rateGrey co_X8 rfl ml_8_255 in_X_rateGrey se_X_rateGrey rfl rfl (Nat.le_of_ble_eq_true rfl) rfl (Nat.le_of_ble_eq_true rfl) rfl hd k
theorem b_X_rate_75 {L : Nat} {d : Nat} {I : jm_I} {Q : Option jm_V → jm_I → Prop} {o0 : Option jm_V} {o1 : Option jm_V} {o2 : Option jm_V} {s0 : Int}  (k : Q (some (.inl s0)) I) : Gx (jx_0 L) d md_X_rate 75 [o0, o1, o2] [.inl s0] I Q := by
  show jm_Go d 0 0 md_X_rate 75 [o0, o1, o2] [.inl s0] (jx (jx_0 L) I) (jx_Q (jx_0 L) Q)
  have hd : jm_dc md_X_rate.2.1 75 [(.ireturn, 1)] = true := by decide +kernel
  exact go_ireturn hd rfl ⟨_, rfl, k⟩
theorem b_X_rate_76 {L : Nat} {d : Nat} {I : jm_I} {Q : Option jm_V → jm_I → Prop} {o1 : Option jm_V} {x2 : Int}  (k : Cx (jx_0 L) d md_X_rateTenth [.inr (.inl 1), .inl x2] I (fun v J => Gx (jx_0 L) (d + 1) md_X_rate 81 [some (.inr (.inl 1)), o1, some (.inl x2)] (v.toList ++ []) J Q)) : Gx (jx_0 L) (d + 1) md_X_rate 76 [some (.inr (.inl 1)), o1, some (.inl x2)] [] I Q := by
  show jm_Go (d + 1) 0 0 md_X_rate 76 [some (.inr (.inl 1)), o1, some (.inl x2)] [] (jx (jx_0 L) I) (jx_Q (jx_0 L) Q)
  have hd : jm_dc md_X_rate.2.1 76 [(.aload_n 0, 1), (.iload_n 2, 1), (.invokevirtual 258, 3)] = true := by decide +kernel
  refine go_aload_n rfl hd (fun hd => ?_)
  refine go_iload_n rfl hd (fun hd => ?_)
  exact gx_virtual 1 8 [.inl x2] [] mk_X_rateTenth co_X8 rfl ml_8_258 in_X_rateTenth se_X_rateTenth rfl rfl (Nat.le_of_ble_eq_true rfl) rfl (Nat.le_of_ble_eq_true rfl) rfl hd k
theorem b_X_rate_81 {L : Nat} {d : Nat} {I : jm_I} {Q : Option jm_V → jm_I → Prop} {o0 : Option jm_V} {o1 : Option jm_V} {o2 : Option jm_V} {s0 : Int}  (k : Q (some (.inl s0)) I) : Gx (jx_0 L) d md_X_rate 81 [o0, o1, o2] [.inl s0] I Q := by
  show jm_Go d 0 0 md_X_rate 81 [o0, o1, o2] [.inl s0] (jx (jx_0 L) I) (jx_Q (jx_0 L) Q)
  have hd : jm_dc md_X_rate.2.1 81 [(.ireturn, 1)] = true := by decide +kernel
  exact go_ireturn hd rfl ⟨_, rfl, k⟩
theorem b_X_rate_82 {L : Nat} {d : Nat} {I : jm_I} {Q : Option jm_V → jm_I → Prop} {o1 : Option jm_V} {x2 : Int}  (k : Cx (jx_0 L) d md_X_rateChild [.inr (.inl 1), .inl x2] I (fun v J => Gx (jx_0 L) (d + 1) md_X_rate 87 [some (.inr (.inl 1)), o1, some (.inl x2)] (v.toList ++ []) J Q)) : Gx (jx_0 L) (d + 1) md_X_rate 82 [some (.inr (.inl 1)), o1, some (.inl x2)] [] I Q := by
  show jm_Go (d + 1) 0 0 md_X_rate 82 [some (.inr (.inl 1)), o1, some (.inl x2)] [] (jx (jx_0 L) I) (jx_Q (jx_0 L) Q)
  have hd : jm_dc md_X_rate.2.1 82 [(.aload_n 0, 1), (.iload_n 2, 1), (.invokevirtual 261, 3)] = true := by decide +kernel
  refine go_aload_n rfl hd (fun hd => ?_)
  refine go_iload_n rfl hd (fun hd => ?_)
  exact gx_virtual 1 8 [.inl x2] [] mk_X_rateChild co_X8 rfl ml_8_261 in_X_rateChild se_X_rateChild rfl rfl (Nat.le_of_ble_eq_true rfl) rfl (Nat.le_of_ble_eq_true rfl) rfl hd k
theorem b_X_rate_87 {L : Nat} {d : Nat} {I : jm_I} {Q : Option jm_V → jm_I → Prop} {o0 : Option jm_V} {o1 : Option jm_V} {o2 : Option jm_V} {s0 : Int}  (k : Q (some (.inl s0)) I) : Gx (jx_0 L) d md_X_rate 87 [o0, o1, o2] [.inl s0] I Q := by
  show jm_Go d 0 0 md_X_rate 87 [o0, o1, o2] [.inl s0] (jx (jx_0 L) I) (jx_Q (jx_0 L) Q)
  have hd : jm_dc md_X_rate.2.1 87 [(.ireturn, 1)] = true := by decide +kernel
  exact go_ireturn hd rfl ⟨_, rfl, k⟩
theorem b_X_rate_88 {L : Nat} {d : Nat} {I : jm_I} {Q : Option jm_V → jm_I → Prop} {o0 : Option jm_V} {o1 : Option jm_V} {o2 : Option jm_V}  (k : Q (some (.inl (-1000000))) I) : Gx (jx_0 L) d md_X_rate 88 [o0, o1, o2] [] I Q := by
  show jm_Go d 0 0 md_X_rate 88 [o0, o1, o2] [] (jx (jx_0 L) I) (jx_Q (jx_0 L) Q)
  have hd : jm_dc md_X_rate.2.1 88 [(.ldc 229, 2), (.ireturn, 1)] = true := by decide +kernel
  refine go_ldc (-1000000) (-1000000) (by decide) kc_8_229 hd (fun hd => ?_)
  exact go_ireturn hd rfl ⟨_, rfl, k⟩
theorem b_X_ratePerson_0 {L : Nat} {d : Nat} {I : jm_I} {Q : Option jm_V → jm_I → Prop} {x1 : Int}  (hz : (0 ≤ x1 ∧ x1 < 5)) (k : Q (some (.inl (I 46 x1.toNat))) (jm_up I 1 14 ((I 1 14) + (1)))) : Cx (jx_0 L) d md_X_ratePerson [.inr (.inl 1), .inl x1] I Q := by
  have hz1 := hz
  show jm_Go d 0 0 md_X_ratePerson 0 [some (.inr (.inl 1)), some (.inl x1)] [] (jx (jx_0 L) I) (jx_Q (jx_0 L) Q)
  have hd : jm_dc md_X_ratePerson.2.1 0 [(.aload_n 0, 1), (.dup, 1), (.getfield 267, 3), (.lconst 1, 1), (.ladd, 1), (.putfield 267, 3), (.aload_n 0, 1), (.getfield 33, 3), (.getfield 123, 3), (.iload_n 1, 1), (.iaload, 1), (.ireturn, 1)] = true := by decide +kernel
  refine go_aload_n rfl hd (fun hd => ?_)
  refine go_dup rfl hd (fun hd => ?_)
  refine go_getJ co_X8 fl_8_267 (by decide) rfl rfl hd (fun hd => ?_)
  refine go_lconst (1) (by decide) hd (fun hd => ?_)
  refine go_ladd hd (fun hd => ?_)
  refine go_putJ co_X8 fl_8_267 (by decide) rfl rfl hd (fun hd => ?_)
  refine go_aload_n rfl hd (fun hd => ?_)
  refine go_getR co_X8 fl_8_33 (by decide) rfl rfl rfl hd (fun hd => ?_)
  refine go_getR co_X5 fl_8_123 (by decide) rfl rfl rfl hd (fun hd => ?_)
  refine go_iload_n rfl hd (fun hd => ?_)
  refine go_iaload rfl hz1.1 hz1.2 (by decide) hd (fun hd => ?_)
  exact go_ireturn hd rfl ⟨_, rfl, k⟩
theorem b_X_rateBarber_0 {L : Nat} {d : Nat} {I : jm_I} {Q : Option jm_V → jm_I → Prop} {x1 : Int}  (k : Cx (jx_0 L) d md_X_ratePerson [.inr (.inl 1), .inl x1] (jm_up I 1 14 ((I 1 14) + (10))) (fun v J => Gx (jx_0 L) (d + 1) md_X_rateBarber 17 [some (.inr (.inl 1)), some (.inl x1)] (v.toList ++ []) J Q)) : Cx (jx_0 L) (d + 1) md_X_rateBarber [.inr (.inl 1), .inl x1] I Q := by
  show jm_Go (d + 1) 0 0 md_X_rateBarber 0 [some (.inr (.inl 1)), some (.inl x1)] [] (jx (jx_0 L) I) (jx_Q (jx_0 L) Q)
  have hd : jm_dc md_X_rateBarber.2.1 0 [(.aload_n 0, 1), (.dup, 1), (.getfield 267, 3), (.ldc2_w 284, 3), (.ladd, 1), (.putfield 267, 3), (.aload_n 0, 1), (.iload_n 1, 1), (.invokevirtual 246, 3)] = true := by decide +kernel
  refine go_aload_n rfl hd (fun hd => ?_)
  refine go_dup rfl hd (fun hd => ?_)
  refine go_getJ co_X8 fl_8_267 (by decide) rfl rfl hd (fun hd => ?_)
  refine go_ldc2 (10) (10) (by decide) kl_8_284 hd (fun hd => ?_)
  refine go_ladd hd (fun hd => ?_)
  refine go_putJ co_X8 fl_8_267 (by decide) rfl rfl hd (fun hd => ?_)
  refine go_aload_n rfl hd (fun hd => ?_)
  refine go_iload_n rfl hd (fun hd => ?_)
  exact gx_virtual 1 8 [.inl x1] [] mk_X_ratePerson co_X8 rfl ml_8_246 in_X_ratePerson se_X_ratePerson rfl rfl (Nat.le_of_ble_eq_true rfl) rfl (Nat.le_of_ble_eq_true rfl) rfl hd k
theorem b_X_rateBarber_17 {L : Nat} {d : Nat} {I : jm_I} {Q : Option jm_V → jm_I → Prop} {x1 : Int} {s0 : Int}  (hz : (0 ≤ x1 ∧ x1 < 5)) (k : Q (some (.inl (s0 + (I 45 x1.toNat)))) I) : Gx (jx_0 L) d md_X_rateBarber 17 [some (.inr (.inl 1)), some (.inl x1)] [.inl s0] I Q := by
  have hz1 := hz
  show jm_Go d 0 0 md_X_rateBarber 17 [some (.inr (.inl 1)), some (.inl x1)] [.inl s0] (jx (jx_0 L) I) (jx_Q (jx_0 L) Q)
  have hd : jm_dc md_X_rateBarber.2.1 17 [(.aload_n 0, 1), (.getfield 33, 3), (.getfield 120, 3), (.iload_n 1, 1), (.iaload, 1), (.iadd, 1), (.ireturn, 1)] = true := by decide +kernel
  refine go_aload_n rfl hd (fun hd => ?_)
  refine go_getR co_X8 fl_8_33 (by decide) rfl rfl rfl hd (fun hd => ?_)
  refine go_getR co_X5 fl_8_120 (by decide) rfl rfl rfl hd (fun hd => ?_)
  refine go_iload_n rfl hd (fun hd => ?_)
  refine go_iaload rfl hz1.1 hz1.2 (by decide) hd (fun hd => ?_)
  refine go_iadd hd (fun hd => ?_)
  exact go_ireturn hd rfl ⟨_, rfl, k⟩
theorem b_X_rateThief_0 {L : Nat} {d : Nat} {I : jm_I} {Q : Option jm_V → jm_I → Prop} {x1 : Int}  (k : Gx (jx_0 L) d md_X_rateThief 16 [some (.inr (.inl 1)), some (.inl x1), some (.inl 0), some (.inl 0)] [] (jm_up I 1 14 ((I 1 14) + (100))) Q) : Cx (jx_0 L) d md_X_rateThief [.inr (.inl 1), .inl x1] I Q := by
  show jm_Go d 0 0 md_X_rateThief 0 [some (.inr (.inl 1)), some (.inl x1), none, none] [] (jx (jx_0 L) I) (jx_Q (jx_0 L) Q)
  have hd : jm_dc md_X_rateThief.2.1 0 [(.aload_n 0, 1), (.dup, 1), (.getfield 267, 3), (.ldc2_w 286, 3), (.ladd, 1), (.putfield 267, 3), (.iconst 0, 1), (.istore_n 2, 1), (.iconst 0, 1), (.istore_n 3, 1)] = true := by decide +kernel
  refine go_aload_n rfl hd (fun hd => ?_)
  refine go_dup rfl hd (fun hd => ?_)
  refine go_getJ co_X8 fl_8_267 (by decide) rfl rfl hd (fun hd => ?_)
  refine go_ldc2 (100) (100) (by decide) kl_8_286 hd (fun hd => ?_)
  refine go_ladd hd (fun hd => ?_)
  refine go_putJ co_X8 fl_8_267 (by decide) rfl rfl hd (fun hd => ?_)
  refine go_iconst hd (fun hd => ?_)
  refine go_istore_n (by decide) hd (fun hd => ?_)
  refine go_iconst hd (fun hd => ?_)
  refine go_istore_n (by decide) hd (fun hd => ?_)
  exact k
theorem b_X_rateThief_16 {L : Nat} {d : Nat} {I : jm_I} {Q : Option jm_V → jm_I → Prop} {o1 : Option jm_V} {o2 : Option jm_V} {x3 : Int} {c1 : Nat} (hD1 : I 1 0 = (c1 : Int)) (hc1 : jx_City (jx_0 L) c1) (hz : (-2147483648 ≤ x3 ∧ x3 < 2147483648) ∧ (-2147483648 ≤ I c1 4 ∧ I c1 4 < 2147483648)) (kt : (I c1 4) ≤ x3 → Gx (jx_0 L) d md_X_rateThief 53 [some (.inr (.inl 1)), o1, o2, some (.inl x3)] [] I Q) (kf : ¬ ((I c1 4) ≤ x3) → Gx (jx_0 L) d md_X_rateThief 27 [some (.inr (.inl 1)), o1, o2, some (.inl x3)] [] I Q) : Gx (jx_0 L) d md_X_rateThief 16 [some (.inr (.inl 1)), o1, o2, some (.inl x3)] [] I Q := by
  obtain ⟨hz1, hz2⟩ := hz
  show jm_Go d 0 0 md_X_rateThief 16 [some (.inr (.inl 1)), o1, o2, some (.inl x3)] [] (jx (jx_0 L) I) (jx_Q (jx_0 L) Q)
  have hd : jm_dc md_X_rateThief.2.1 16 [(.iload_n 3, 1), (.aload_n 0, 1), (.getfield 12, 3), (.getfield 243, 3), (.if_icmp .ge 29, 3)] = true := by decide +kernel
  refine go_iload_n rfl hd (fun hd => ?_)
  refine go_aload_n rfl hd (fun hd => ?_)
  refine go_getD co_X8 fl_8_12 (by decide) rfl rfl hD1 (ct_pos hc1) hd (fun hd => ?_)
  refine go_getI co_X0 fl_8_243 (by decide) (Or.inl rfl) (ct_K hc1) hd (fun hd => ?_)
  exact go_icmp_ge (by decide) hz1 hz2 hd kt kf
theorem b_X_rateThief_27 {L : Nat} {d : Nat} {I : jm_I} {Q : Option jm_V → jm_I → Prop} {o1 : Option jm_V} {o2 : Option jm_V} {x3 : Int}  (k : Cx (jx_0 L) d md_X_roomOfThing [.inr (.inl 1), .inl x3] I (fun v J => Gx (jx_0 L) (d + 1) md_X_rateThief 32 [some (.inr (.inl 1)), o1, o2, some (.inl x3)] (v.toList ++ []) J Q)) : Gx (jx_0 L) (d + 1) md_X_rateThief 27 [some (.inr (.inl 1)), o1, o2, some (.inl x3)] [] I Q := by
  show jm_Go (d + 1) 0 0 md_X_rateThief 27 [some (.inr (.inl 1)), o1, o2, some (.inl x3)] [] (jx (jx_0 L) I) (jx_Q (jx_0 L) Q)
  have hd : jm_dc md_X_rateThief.2.1 27 [(.aload_n 0, 1), (.iload_n 3, 1), (.invokevirtual 135, 3)] = true := by decide +kernel
  refine go_aload_n rfl hd (fun hd => ?_)
  refine go_iload_n rfl hd (fun hd => ?_)
  exact gx_virtual 1 8 [.inl x3] [] mk_X_roomOfThing co_X8 rfl ml_8_135 in_X_roomOfThing se_X_roomOfThing rfl rfl (Nat.le_of_ble_eq_true rfl) rfl (Nat.le_of_ble_eq_true rfl) rfl hd k
theorem b_X_rateThief_32 {L : Nat} {d : Nat} {I : jm_I} {Q : Option jm_V → jm_I → Prop} {x1 : Int} {o2 : Option jm_V} {o3 : Option jm_V} {s0 : Int}  (hz : (0 ≤ x1 ∧ x1 < 5) ∧ (-2147483648 ≤ s0 ∧ s0 < 2147483648) ∧ (-2147483648 ≤ I 45 x1.toNat ∧ I 45 x1.toNat < 2147483648)) (kt : ¬ s0 = (I 45 x1.toNat) → Gx (jx_0 L) d md_X_rateThief 47 [some (.inr (.inl 1)), some (.inl x1), o2, o3] [] I Q) (kf : s0 = (I 45 x1.toNat) → Gx (jx_0 L) d md_X_rateThief 44 [some (.inr (.inl 1)), some (.inl x1), o2, o3] [] I Q) : Gx (jx_0 L) d md_X_rateThief 32 [some (.inr (.inl 1)), some (.inl x1), o2, o3] [.inl s0] I Q := by
  obtain ⟨hz1, hz2, hz3⟩ := hz
  show jm_Go d 0 0 md_X_rateThief 32 [some (.inr (.inl 1)), some (.inl x1), o2, o3] [.inl s0] (jx (jx_0 L) I) (jx_Q (jx_0 L) Q)
  have hd : jm_dc md_X_rateThief.2.1 32 [(.aload_n 0, 1), (.getfield 33, 3), (.getfield 120, 3), (.iload_n 1, 1), (.iaload, 1), (.if_icmp .ne 6, 3)] = true := by decide +kernel
  refine go_aload_n rfl hd (fun hd => ?_)
  refine go_getR co_X8 fl_8_33 (by decide) rfl rfl rfl hd (fun hd => ?_)
  refine go_getR co_X5 fl_8_120 (by decide) rfl rfl rfl hd (fun hd => ?_)
  refine go_iload_n rfl hd (fun hd => ?_)
  refine go_iaload rfl hz1.1 hz1.2 (by decide) hd (fun hd => ?_)
  exact go_icmp_ne (by decide) hz2 hz3 hd kt kf
theorem b_X_rateThief_44 {L : Nat} {d : Nat} {I : jm_I} {Q : Option jm_V → jm_I → Prop} {o0 : Option jm_V} {o1 : Option jm_V} {x2 : Int} {o3 : Option jm_V}  (k : Gx (jx_0 L) d md_X_rateThief 47 [o0, o1, some (.inl (x2 + 1)), o3] [] I Q) : Gx (jx_0 L) d md_X_rateThief 44 [o0, o1, some (.inl x2), o3] [] I Q := by
  show jm_Go d 0 0 md_X_rateThief 44 [o0, o1, some (.inl x2), o3] [] (jx (jx_0 L) I) (jx_Q (jx_0 L) Q)
  have hd : jm_dc md_X_rateThief.2.1 44 [(.iinc 2 1, 3)] = true := by decide +kernel
  refine go_iinc rfl hd (fun hd => ?_)
  exact k
theorem b_X_rateThief_47 {L : Nat} {d : Nat} {I : jm_I} {Q : Option jm_V → jm_I → Prop} {o0 : Option jm_V} {o1 : Option jm_V} {o2 : Option jm_V} {x3 : Int}  (k : Gx (jx_0 L) d md_X_rateThief 16 [o0, o1, o2, some (.inl (x3 + 1))] [] I Q) : Gx (jx_0 L) d md_X_rateThief 47 [o0, o1, o2, some (.inl x3)] [] I Q := by
  show jm_Go d 0 0 md_X_rateThief 47 [o0, o1, o2, some (.inl x3)] [] (jx (jx_0 L) I) (jx_Q (jx_0 L) Q)
  have hd : jm_dc md_X_rateThief.2.1 47 [(.iinc 3 1, 3), (.goto (-34), 3)] = true := by decide +kernel
  refine go_iinc rfl hd (fun hd => ?_)
  exact go_goto (by decide) hd k
theorem b_X_rateThief_53 {L : Nat} {d : Nat} {I : jm_I} {Q : Option jm_V → jm_I → Prop} {x1 : Int} {o2 : Option jm_V} {o3 : Option jm_V}  (k : Cx (jx_0 L) d md_X_ratePerson [.inr (.inl 1), .inl x1] I (fun v J => Gx (jx_0 L) (d + 1) md_X_rateThief 58 [some (.inr (.inl 1)), some (.inl x1), o2, o3] (v.toList ++ []) J Q)) : Gx (jx_0 L) (d + 1) md_X_rateThief 53 [some (.inr (.inl 1)), some (.inl x1), o2, o3] [] I Q := by
  show jm_Go (d + 1) 0 0 md_X_rateThief 53 [some (.inr (.inl 1)), some (.inl x1), o2, o3] [] (jx (jx_0 L) I) (jx_Q (jx_0 L) Q)
  have hd : jm_dc md_X_rateThief.2.1 53 [(.aload_n 0, 1), (.iload_n 1, 1), (.invokevirtual 246, 3)] = true := by decide +kernel
  refine go_aload_n rfl hd (fun hd => ?_)
  refine go_iload_n rfl hd (fun hd => ?_)
  exact gx_virtual 1 8 [.inl x1] [] mk_X_ratePerson co_X8 rfl ml_8_246 in_X_ratePerson se_X_ratePerson rfl rfl (Nat.le_of_ble_eq_true rfl) rfl (Nat.le_of_ble_eq_true rfl) rfl hd k
theorem b_X_rateThief_58 {L : Nat} {d : Nat} {I : jm_I} {Q : Option jm_V → jm_I → Prop} {o0 : Option jm_V} {o1 : Option jm_V} {x2 : Int} {o3 : Option jm_V} {s0 : Int}  (k : Q (some (.inl (s0 - x2))) I) : Gx (jx_0 L) d md_X_rateThief 58 [o0, o1, some (.inl x2), o3] [.inl s0] I Q := by
  show jm_Go d 0 0 md_X_rateThief 58 [o0, o1, some (.inl x2), o3] [.inl s0] (jx (jx_0 L) I) (jx_Q (jx_0 L) Q)
  have hd : jm_dc md_X_rateThief.2.1 58 [(.iload_n 2, 1), (.isub, 1), (.ireturn, 1)] = true := by decide +kernel
  refine go_iload_n rfl hd (fun hd => ?_)
  refine go_isub hd (fun hd => ?_)
  exact go_ireturn hd rfl ⟨_, rfl, k⟩
theorem b_X_rateGrey_0 {L : Nat} {d : Nat} {I : jm_I} {Q : Option jm_V → jm_I → Prop} {x1 : Int}  (k : Cx (jx_0 L) d md_X_rateBarber [.inr (.inl 1), .inl x1] (jm_up I 1 14 ((I 1 14) + (1000))) (fun v J => Gx (jx_0 L) (d + 1) md_X_rateGrey 18 [some (.inr (.inl 1)), some (.inl x1)] (v.toList ++ [.inl 2]) J Q)) : Cx (jx_0 L) (d + 1) md_X_rateGrey [.inr (.inl 1), .inl x1] I Q := by
  show jm_Go (d + 1) 0 0 md_X_rateGrey 0 [some (.inr (.inl 1)), some (.inl x1)] [] (jx (jx_0 L) I) (jx_Q (jx_0 L) Q)
  have hd : jm_dc md_X_rateGrey.2.1 0 [(.aload_n 0, 1), (.dup, 1), (.getfield 267, 3), (.ldc2_w 288, 3), (.ladd, 1), (.putfield 267, 3), (.iconst 2, 1), (.aload_n 0, 1), (.iload_n 1, 1), (.invokevirtual 249, 3)] = true := by decide +kernel
  refine go_aload_n rfl hd (fun hd => ?_)
  refine go_dup rfl hd (fun hd => ?_)
  refine go_getJ co_X8 fl_8_267 (by decide) rfl rfl hd (fun hd => ?_)
  refine go_ldc2 (1000) (1000) (by decide) kl_8_288 hd (fun hd => ?_)
  refine go_ladd hd (fun hd => ?_)
  refine go_putJ co_X8 fl_8_267 (by decide) rfl rfl hd (fun hd => ?_)
  refine go_iconst hd (fun hd => ?_)
  refine go_aload_n rfl hd (fun hd => ?_)
  refine go_iload_n rfl hd (fun hd => ?_)
  exact gx_virtual 1 8 [.inl x1] [.inl 2] mk_X_rateBarber co_X8 rfl ml_8_249 in_X_rateBarber se_X_rateBarber rfl rfl (Nat.le_of_ble_eq_true rfl) rfl (Nat.le_of_ble_eq_true rfl) rfl hd k
theorem b_X_rateGrey_18 {L : Nat} {d : Nat} {I : jm_I} {Q : Option jm_V → jm_I → Prop} {o0 : Option jm_V} {o1 : Option jm_V} {s0 : Int} {s1 : Int}  (k : Q (some (.inl (s0 * s1))) I) : Gx (jx_0 L) d md_X_rateGrey 18 [o0, o1] [.inl s1, .inl s0] I Q := by
  show jm_Go d 0 0 md_X_rateGrey 18 [o0, o1] [.inl s1, .inl s0] (jx (jx_0 L) I) (jx_Q (jx_0 L) Q)
  have hd : jm_dc md_X_rateGrey.2.1 18 [(.imul, 1), (.ireturn, 1)] = true := by decide +kernel
  refine go_imul hd (fun hd => ?_)
  exact go_ireturn hd rfl ⟨_, rfl, k⟩
theorem b_X_rateTenth_0 {L : Nat} {d : Nat} {I : jm_I} {Q : Option jm_V → jm_I → Prop} {x1 : Int}  (k : Cx (jx_0 L) d md_X_rateThief [.inr (.inl 1), .inl x1] (jm_up I 1 14 ((I 1 14) + (10000))) (fun v J => Gx (jx_0 L) (d + 1) md_X_rateTenth 17 [some (.inr (.inl 1)), some (.inl x1)] (v.toList ++ []) J Q)) : Cx (jx_0 L) (d + 1) md_X_rateTenth [.inr (.inl 1), .inl x1] I Q := by
  show jm_Go (d + 1) 0 0 md_X_rateTenth 0 [some (.inr (.inl 1)), some (.inl x1)] [] (jx (jx_0 L) I) (jx_Q (jx_0 L) Q)
  have hd : jm_dc md_X_rateTenth.2.1 0 [(.aload_n 0, 1), (.dup, 1), (.getfield 267, 3), (.ldc2_w 290, 3), (.ladd, 1), (.putfield 267, 3), (.aload_n 0, 1), (.iload_n 1, 1), (.invokevirtual 252, 3)] = true := by decide +kernel
  refine go_aload_n rfl hd (fun hd => ?_)
  refine go_dup rfl hd (fun hd => ?_)
  refine go_getJ co_X8 fl_8_267 (by decide) rfl rfl hd (fun hd => ?_)
  refine go_ldc2 (10000) (10000) (by decide) kl_8_290 hd (fun hd => ?_)
  refine go_ladd hd (fun hd => ?_)
  refine go_putJ co_X8 fl_8_267 (by decide) rfl rfl hd (fun hd => ?_)
  refine go_aload_n rfl hd (fun hd => ?_)
  refine go_iload_n rfl hd (fun hd => ?_)
  exact gx_virtual 1 8 [.inl x1] [] mk_X_rateThief co_X8 rfl ml_8_252 in_X_rateThief se_X_rateThief rfl rfl (Nat.le_of_ble_eq_true rfl) rfl (Nat.le_of_ble_eq_true rfl) rfl hd k
theorem b_X_rateTenth_17 {L : Nat} {d : Nat} {I : jm_I} {Q : Option jm_V → jm_I → Prop} {o0 : Option jm_V} {x1 : Int} {s0 : Int}  (k : Q (some (.inl (s0 + x1))) I) : Gx (jx_0 L) d md_X_rateTenth 17 [o0, some (.inl x1)] [.inl s0] I Q := by
  show jm_Go d 0 0 md_X_rateTenth 17 [o0, some (.inl x1)] [.inl s0] (jx (jx_0 L) I) (jx_Q (jx_0 L) Q)
  have hd : jm_dc md_X_rateTenth.2.1 17 [(.iload_n 1, 1), (.iadd, 1), (.ireturn, 1)] = true := by decide +kernel
  refine go_iload_n rfl hd (fun hd => ?_)
  refine go_iadd hd (fun hd => ?_)
  exact go_ireturn hd rfl ⟨_, rfl, k⟩
theorem b_X_rateChild_0 {L : Nat} {d : Nat} {I : jm_I} {Q : Option jm_V → jm_I → Prop} {x1 : Int}  (k : Cx (jx_0 L) d md_X_ratePerson [.inr (.inl 1), .inl x1] (jm_up I 1 14 ((I 1 14) + (100000))) (fun v J => Gx (jx_0 L) (d + 1) md_X_rateChild 17 [some (.inr (.inl 1)), some (.inl x1)] (v.toList ++ []) J Q)) : Cx (jx_0 L) (d + 1) md_X_rateChild [.inr (.inl 1), .inl x1] I Q := by
  show jm_Go (d + 1) 0 0 md_X_rateChild 0 [some (.inr (.inl 1)), some (.inl x1)] [] (jx (jx_0 L) I) (jx_Q (jx_0 L) Q)
  have hd : jm_dc md_X_rateChild.2.1 0 [(.aload_n 0, 1), (.dup, 1), (.getfield 267, 3), (.ldc2_w 292, 3), (.ladd, 1), (.putfield 267, 3), (.aload_n 0, 1), (.iload_n 1, 1), (.invokevirtual 246, 3)] = true := by decide +kernel
  refine go_aload_n rfl hd (fun hd => ?_)
  refine go_dup rfl hd (fun hd => ?_)
  refine go_getJ co_X8 fl_8_267 (by decide) rfl rfl hd (fun hd => ?_)
  refine go_ldc2 (100000) (100000) (by decide) kl_8_292 hd (fun hd => ?_)
  refine go_ladd hd (fun hd => ?_)
  refine go_putJ co_X8 fl_8_267 (by decide) rfl rfl hd (fun hd => ?_)
  refine go_aload_n rfl hd (fun hd => ?_)
  refine go_iload_n rfl hd (fun hd => ?_)
  exact gx_virtual 1 8 [.inl x1] [] mk_X_ratePerson co_X8 rfl ml_8_246 in_X_ratePerson se_X_ratePerson rfl rfl (Nat.le_of_ble_eq_true rfl) rfl (Nat.le_of_ble_eq_true rfl) rfl hd k
theorem b_X_rateChild_17 {L : Nat} {d : Nat} {I : jm_I} {Q : Option jm_V → jm_I → Prop} {x1 : Int} {s0 : Int}  (k : Cx (jx_0 L) d md_X_isUp [.inr (.inl 1), .inl x1] I (fun v J => Gx (jx_0 L) (d + 1) md_X_rateChild 22 [some (.inr (.inl 1)), some (.inl x1)] (v.toList ++ [.inl s0]) J Q)) : Gx (jx_0 L) (d + 1) md_X_rateChild 17 [some (.inr (.inl 1)), some (.inl x1)] [.inl s0] I Q := by
  show jm_Go (d + 1) 0 0 md_X_rateChild 17 [some (.inr (.inl 1)), some (.inl x1)] [.inl s0] (jx (jx_0 L) I) (jx_Q (jx_0 L) Q)
  have hd : jm_dc md_X_rateChild.2.1 17 [(.aload_n 0, 1), (.iload_n 1, 1), (.invokevirtual 170, 3)] = true := by decide +kernel
  refine go_aload_n rfl hd (fun hd => ?_)
  refine go_iload_n rfl hd (fun hd => ?_)
  exact gx_virtual 1 8 [.inl x1] [.inl s0] mk_X_isUp co_X8 rfl ml_8_170 in_X_isUp se_X_isUp rfl rfl (Nat.le_of_ble_eq_true rfl) rfl (Nat.le_of_ble_eq_true rfl) rfl hd k
theorem b_X_rateChild_22 {L : Nat} {d : Nat} {I : jm_I} {Q : Option jm_V → jm_I → Prop} {o0 : Option jm_V} {o1 : Option jm_V} {s0 : Int} {s1 : Int}  (hz : (-2147483648 ≤ s1 ∧ s1 < 2147483648)) (kt : s1 = 0 → Gx (jx_0 L) d md_X_rateChild 37 [o0, o1] [.inl s0] I Q) (kf : ¬ s1 = 0 → Gx (jx_0 L) d md_X_rateChild 25 [o0, o1] [.inl s0] I Q) : Gx (jx_0 L) d md_X_rateChild 22 [o0, o1] [.inl s1, .inl s0] I Q := by
  have hz1 := hz
  show jm_Go d 0 0 md_X_rateChild 22 [o0, o1] [.inl s1, .inl s0] (jx (jx_0 L) I) (jx_Q (jx_0 L) Q)
  have hd : jm_dc md_X_rateChild.2.1 22 [(.ifCond .eq 15, 3)] = true := by decide +kernel
  exact go_if_eq (by decide) hz1 hd kt kf
theorem b_X_rateChild_25 {L : Nat} {d : Nat} {I : jm_I} {Q : Option jm_V → jm_I → Prop} {x1 : Int} {s0 : Int}  (hz : (0 ≤ x1 ∧ x1 < 5)) (k : Gx (jx_0 L) d md_X_rateChild 38 [some (.inr (.inl 1)), some (.inl x1)] [.inl (I 47 x1.toNat), .inl s0] I Q) : Gx (jx_0 L) d md_X_rateChild 25 [some (.inr (.inl 1)), some (.inl x1)] [.inl s0] I Q := by
  have hz1 := hz
  show jm_Go d 0 0 md_X_rateChild 25 [some (.inr (.inl 1)), some (.inl x1)] [.inl s0] (jx (jx_0 L) I) (jx_Q (jx_0 L) Q)
  have hd : jm_dc md_X_rateChild.2.1 25 [(.aload_n 0, 1), (.getfield 33, 3), (.getfield 129, 3), (.iload_n 1, 1), (.iaload, 1), (.goto 4, 3)] = true := by decide +kernel
  refine go_aload_n rfl hd (fun hd => ?_)
  refine go_getR co_X8 fl_8_33 (by decide) rfl rfl rfl hd (fun hd => ?_)
  refine go_getR co_X5 fl_8_129 (by decide) rfl rfl rfl hd (fun hd => ?_)
  refine go_iload_n rfl hd (fun hd => ?_)
  refine go_iaload rfl hz1.1 hz1.2 (by decide) hd (fun hd => ?_)
  exact go_goto (by decide) hd k
theorem b_X_rateChild_37 {L : Nat} {d : Nat} {I : jm_I} {Q : Option jm_V → jm_I → Prop} {o0 : Option jm_V} {o1 : Option jm_V} {s0 : Int}  (k : Gx (jx_0 L) d md_X_rateChild 38 [o0, o1] [.inl 0, .inl s0] I Q) : Gx (jx_0 L) d md_X_rateChild 37 [o0, o1] [.inl s0] I Q := by
  show jm_Go d 0 0 md_X_rateChild 37 [o0, o1] [.inl s0] (jx (jx_0 L) I) (jx_Q (jx_0 L) Q)
  have hd : jm_dc md_X_rateChild.2.1 37 [(.iconst 0, 1)] = true := by decide +kernel
  refine go_iconst hd (fun hd => ?_)
  exact k
theorem b_X_rateChild_38 {L : Nat} {d : Nat} {I : jm_I} {Q : Option jm_V → jm_I → Prop} {o0 : Option jm_V} {o1 : Option jm_V} {s0 : Int} {s1 : Int}  (k : Q (some (.inl (s0 + s1))) I) : Gx (jx_0 L) d md_X_rateChild 38 [o0, o1] [.inl s1, .inl s0] I Q := by
  show jm_Go d 0 0 md_X_rateChild 38 [o0, o1] [.inl s1, .inl s0] (jx (jx_0 L) I) (jx_Q (jx_0 L) Q)
  have hd : jm_dc md_X_rateChild.2.1 38 [(.iadd, 1), (.ireturn, 1)] = true := by decide +kernel
  refine go_iadd hd (fun hd => ?_)
  exact go_ireturn hd rfl ⟨_, rfl, k⟩
theorem b_X_keep_0 {L : Nat} {d : Nat} {I : jm_I} {Q : Option jm_V → jm_I → Prop} {x1 : Int}  (k : Cx (jx_0 L) d md_X_within [.inl x1, .inl 0, .inl 1] I (fun v J => Gx (jx_0 L) (d + 1) md_X_keep 6 [some (.inr (.inl 1)), some (.inl x1)] (v.toList ++ []) J Q)) : Cx (jx_0 L) (d + 1) md_X_keep [.inr (.inl 1), .inl x1] I Q := by
  show jm_Go (d + 1) 0 0 md_X_keep 0 [some (.inr (.inl 1)), some (.inl x1)] [] (jx (jx_0 L) I) (jx_Q (jx_0 L) Q)
  have hd : jm_dc md_X_keep.2.1 0 [(.iload_n 1, 1), (.iconst 0, 1), (.iconst 1, 1), (.invokestatic 86, 3)] = true := by decide +kernel
  refine go_iload_n rfl hd (fun hd => ?_)
  refine go_iconst hd (fun hd => ?_)
  refine go_iconst hd (fun hd => ?_)
  exact gx_static [.inl x1, .inl 0, .inl 1] [] mk_X_within ml_8_86 st_X_within rfl (Nat.le_of_ble_eq_true rfl) rfl (Nat.le_of_ble_eq_true rfl) rfl hd k
theorem b_X_keep_6 {L : Nat} {d : Nat} {I : jm_I} {Q : Option jm_V → jm_I → Prop} {o0 : Option jm_V} {o1 : Option jm_V} {s0 : Int}  (hz : (-2147483648 ≤ s0 ∧ s0 < 2147483648)) (kt : ¬ s0 = 0 → Gx (jx_0 L) d md_X_keep 11 [o0, o1] [] I Q) (kf : s0 = 0 → Gx (jx_0 L) d md_X_keep 9 [o0, o1] [] I Q) : Gx (jx_0 L) d md_X_keep 6 [o0, o1] [.inl s0] I Q := by
  have hz1 := hz
  show jm_Go d 0 0 md_X_keep 6 [o0, o1] [.inl s0] (jx (jx_0 L) I) (jx_Q (jx_0 L) Q)
  have hd : jm_dc md_X_keep.2.1 6 [(.ifCond .ne 5, 3)] = true := by decide +kernel
  exact go_if_ne (by decide) hz1 hd kt kf
theorem b_X_keep_9 {L : Nat} {d : Nat} {I : jm_I} {Q : Option jm_V → jm_I → Prop} {o0 : Option jm_V} {o1 : Option jm_V}  (k : Q (some (.inl (-1))) I) : Gx (jx_0 L) d md_X_keep 9 [o0, o1] [] I Q := by
  show jm_Go d 0 0 md_X_keep 9 [o0, o1] [] (jx (jx_0 L) I) (jx_Q (jx_0 L) Q)
  have hd : jm_dc md_X_keep.2.1 9 [(.iconst (-1), 1), (.ireturn, 1)] = true := by decide +kernel
  refine go_iconst hd (fun hd => ?_)
  exact go_ireturn hd rfl ⟨_, rfl, k⟩
theorem b_X_keep_11 {L : Nat} {d : Nat} {I : jm_I} {Q : Option jm_V → jm_I → Prop} {x1 : Int}  (hz : (0 ≤ x1 ∧ x1 < 2)) (k : Cx (jx_0 L) d md_Moment_copyFrom [.inr (.inl (157 + 5 * x1.toNat)), .inr (.inl 44)] I (fun v J => Gx (jx_0 L) (d + 1) md_X_keep 24 [some (.inr (.inl 1)), some (.inl x1)] (v.toList ++ []) J Q)) : Gx (jx_0 L) (d + 1) md_X_keep 11 [some (.inr (.inl 1)), some (.inl x1)] [] I Q := by
  have hz1 := hz
  show jm_Go (d + 1) 0 0 md_X_keep 11 [some (.inr (.inl 1)), some (.inl x1)] [] (jx (jx_0 L) I) (jx_Q (jx_0 L) Q)
  have hd : jm_dc md_X_keep.2.1 11 [(.aload_n 0, 1), (.getfield 44, 3), (.iload_n 1, 1), (.aaload, 1), (.aload_n 0, 1), (.getfield 33, 3), (.invokevirtual 264, 3)] = true := by decide +kernel
  refine go_aload_n rfl hd (fun hd => ?_)
  refine go_getR co_X8 fl_8_44 (by decide) rfl rfl rfl hd (fun hd => ?_)
  refine go_iload_n rfl hd (fun hd => ?_)
  refine go_aaload (Or.inl rfl) hz1.1 hz1.2 (by decide) (rw_R101 (L := L) hz1.1 hz1.2) hd (fun hd => ?_)
  refine go_aload_n rfl hd (fun hd => ?_)
  refine go_getR co_X8 fl_8_33 (by decide) rfl rfl rfl hd (fun hd => ?_)
  exact gx_virtual (157 + 5 * x1.toNat) 5 [.inr (.inl 44)] [] mk_Moment_copyFrom co_X5 rfl ml_8_264 in_Moment_copyFrom se_Moment_copyFrom (mo_K (rw_M101 (L := L) hz1.1 hz1.2)) rfl (Nat.le_of_ble_eq_true rfl) rfl (Nat.le_of_ble_eq_true rfl) rfl hd k
theorem b_X_keep_24 {L : Nat} {d : Nat} {I : jm_I} {Q : Option jm_V → jm_I → Prop} {x1 : Int}  (hz : (0 ≤ x1 ∧ x1 < 2)) (k : Q (some (.inl (I 44 0))) (jm_up I 102 (x1.toNat) 1)) : Gx (jx_0 L) d md_X_keep 24 [some (.inr (.inl 1)), some (.inl x1)] [] I Q := by
  have hz1 := hz
  show jm_Go d 0 0 md_X_keep 24 [some (.inr (.inl 1)), some (.inl x1)] [] (jx (jx_0 L) I) (jx_Q (jx_0 L) Q)
  have hd : jm_dc md_X_keep.2.1 24 [(.aload_n 0, 1), (.getfield 48, 3), (.iload_n 1, 1), (.iconst 1, 1), (.bastore, 1), (.aload_n 0, 1), (.getfield 33, 3), (.getfield 145, 3), (.ireturn, 1)] = true := by decide +kernel
  refine go_aload_n rfl hd (fun hd => ?_)
  refine go_getR co_X8 fl_8_48 (by decide) rfl rfl rfl hd (fun hd => ?_)
  refine go_iload_n rfl hd (fun hd => ?_)
  refine go_iconst hd (fun hd => ?_)
  refine go_zastore rfl hz1.1 hz1.2 (by decide) (Or.inr rfl) hd (fun hd => ?_)
  refine go_aload_n rfl hd (fun hd => ?_)
  refine go_getR co_X8 fl_8_33 (by decide) rfl rfl rfl hd (fun hd => ?_)
  refine go_getI co_X5 fl_8_145 (by decide) (Or.inl rfl) rfl hd (fun hd => ?_)
  exact go_ireturn hd rfl ⟨_, rfl, k⟩
theorem b_X_back_0 {L : Nat} {d : Nat} {I : jm_I} {Q : Option jm_V → jm_I → Prop} {x1 : Int}  (k : Cx (jx_0 L) d md_X_within [.inl x1, .inl 0, .inl 1] I (fun v J => Gx (jx_0 L) (d + 1) md_X_back 6 [some (.inr (.inl 1)), some (.inl x1)] (v.toList ++ []) J Q)) : Cx (jx_0 L) (d + 1) md_X_back [.inr (.inl 1), .inl x1] I Q := by
  show jm_Go (d + 1) 0 0 md_X_back 0 [some (.inr (.inl 1)), some (.inl x1)] [] (jx (jx_0 L) I) (jx_Q (jx_0 L) Q)
  have hd : jm_dc md_X_back.2.1 0 [(.iload_n 1, 1), (.iconst 0, 1), (.iconst 1, 1), (.invokestatic 86, 3)] = true := by decide +kernel
  refine go_iload_n rfl hd (fun hd => ?_)
  refine go_iconst hd (fun hd => ?_)
  refine go_iconst hd (fun hd => ?_)
  exact gx_static [.inl x1, .inl 0, .inl 1] [] mk_X_within ml_8_86 st_X_within rfl (Nat.le_of_ble_eq_true rfl) rfl (Nat.le_of_ble_eq_true rfl) rfl hd k
theorem b_X_back_6 {L : Nat} {d : Nat} {I : jm_I} {Q : Option jm_V → jm_I → Prop} {o0 : Option jm_V} {o1 : Option jm_V} {s0 : Int}  (hz : (-2147483648 ≤ s0 ∧ s0 < 2147483648)) (kt : ¬ s0 = 0 → Gx (jx_0 L) d md_X_back 11 [o0, o1] [] I Q) (kf : s0 = 0 → Gx (jx_0 L) d md_X_back 9 [o0, o1] [] I Q) : Gx (jx_0 L) d md_X_back 6 [o0, o1] [.inl s0] I Q := by
  have hz1 := hz
  show jm_Go d 0 0 md_X_back 6 [o0, o1] [.inl s0] (jx (jx_0 L) I) (jx_Q (jx_0 L) Q)
  have hd : jm_dc md_X_back.2.1 6 [(.ifCond .ne 5, 3)] = true := by decide +kernel
  exact go_if_ne (by decide) hz1 hd kt kf
theorem b_X_back_9 {L : Nat} {d : Nat} {I : jm_I} {Q : Option jm_V → jm_I → Prop} {o0 : Option jm_V} {o1 : Option jm_V}  (k : Q (some (.inl (-1))) I) : Gx (jx_0 L) d md_X_back 9 [o0, o1] [] I Q := by
  show jm_Go d 0 0 md_X_back 9 [o0, o1] [] (jx (jx_0 L) I) (jx_Q (jx_0 L) Q)
  have hd : jm_dc md_X_back.2.1 9 [(.iconst (-1), 1), (.ireturn, 1)] = true := by decide +kernel
  refine go_iconst hd (fun hd => ?_)
  exact go_ireturn hd rfl ⟨_, rfl, k⟩
theorem b_X_back_11 {L : Nat} {d : Nat} {I : jm_I} {Q : Option jm_V → jm_I → Prop} {x1 : Int}  (hz : (0 ≤ x1 ∧ x1 < 2) ∧ (-2147483648 ≤ I 102 x1.toNat ∧ I 102 x1.toNat < 2147483648)) (kt : ¬ (I 102 x1.toNat) = 0 → Gx (jx_0 L) d md_X_back 23 [some (.inr (.inl 1)), some (.inl x1)] [] I Q) (kf : (I 102 x1.toNat) = 0 → Gx (jx_0 L) d md_X_back 20 [some (.inr (.inl 1)), some (.inl x1)] [] I Q) : Gx (jx_0 L) d md_X_back 11 [some (.inr (.inl 1)), some (.inl x1)] [] I Q := by
  obtain ⟨hz1, hz2⟩ := hz
  show jm_Go d 0 0 md_X_back 11 [some (.inr (.inl 1)), some (.inl x1)] [] (jx (jx_0 L) I) (jx_Q (jx_0 L) Q)
  have hd : jm_dc md_X_back.2.1 11 [(.aload_n 0, 1), (.getfield 48, 3), (.iload_n 1, 1), (.baload, 1), (.ifCond .ne 6, 3)] = true := by decide +kernel
  refine go_aload_n rfl hd (fun hd => ?_)
  refine go_getR co_X8 fl_8_48 (by decide) rfl rfl rfl hd (fun hd => ?_)
  refine go_iload_n rfl hd (fun hd => ?_)
  refine go_zaload rfl hz1.1 hz1.2 (by decide) hd (fun hd => ?_)
  exact go_if_ne (by decide) hz2 hd kt kf
theorem b_X_back_20 {L : Nat} {d : Nat} {I : jm_I} {Q : Option jm_V → jm_I → Prop} {o0 : Option jm_V} {o1 : Option jm_V}  (k : Q (some (.inl (-2))) I) : Gx (jx_0 L) d md_X_back 20 [o0, o1] [] I Q := by
  show jm_Go d 0 0 md_X_back 20 [o0, o1] [] (jx (jx_0 L) I) (jx_Q (jx_0 L) Q)
  have hd : jm_dc md_X_back.2.1 20 [(.bipush (-2), 2), (.ireturn, 1)] = true := by decide +kernel
  refine go_bipush (by decide) hd (fun hd => ?_)
  exact go_ireturn hd rfl ⟨_, rfl, k⟩
theorem b_X_back_23 {L : Nat} {d : Nat} {I : jm_I} {Q : Option jm_V → jm_I → Prop} {x1 : Int}  (hz : (0 ≤ x1 ∧ x1 < 2)) (k : Cx (jx_0 L) d md_Moment_copyFrom [.inr (.inl 44), .inr (.inl (157 + 5 * x1.toNat))] I (fun v J => Gx (jx_0 L) (d + 1) md_X_back 36 [some (.inr (.inl 1)), some (.inl x1)] (v.toList ++ []) J Q)) : Gx (jx_0 L) (d + 1) md_X_back 23 [some (.inr (.inl 1)), some (.inl x1)] [] I Q := by
  have hz1 := hz
  show jm_Go (d + 1) 0 0 md_X_back 23 [some (.inr (.inl 1)), some (.inl x1)] [] (jx (jx_0 L) I) (jx_Q (jx_0 L) Q)
  have hd : jm_dc md_X_back.2.1 23 [(.aload_n 0, 1), (.getfield 33, 3), (.aload_n 0, 1), (.getfield 44, 3), (.iload_n 1, 1), (.aaload, 1), (.invokevirtual 264, 3)] = true := by decide +kernel
  refine go_aload_n rfl hd (fun hd => ?_)
  refine go_getR co_X8 fl_8_33 (by decide) rfl rfl rfl hd (fun hd => ?_)
  refine go_aload_n rfl hd (fun hd => ?_)
  refine go_getR co_X8 fl_8_44 (by decide) rfl rfl rfl hd (fun hd => ?_)
  refine go_iload_n rfl hd (fun hd => ?_)
  refine go_aaload (Or.inl rfl) hz1.1 hz1.2 (by decide) (rw_R101 (L := L) hz1.1 hz1.2) hd (fun hd => ?_)
  exact gx_virtual 44 5 [.inr (.inl (157 + 5 * x1.toNat))] [] mk_Moment_copyFrom co_X5 rfl ml_8_264 in_Moment_copyFrom se_Moment_copyFrom rfl rfl (Nat.le_of_ble_eq_true rfl) rfl (Nat.le_of_ble_eq_true rfl) rfl hd k
theorem b_X_back_36 {L : Nat} {d : Nat} {I : jm_I} {Q : Option jm_V → jm_I → Prop} {o1 : Option jm_V}  (k : Q (some (.inl (I 44 0))) (jm_up I 49 2 0)) : Gx (jx_0 L) d md_X_back 36 [some (.inr (.inl 1)), o1] [] I Q := by
  show jm_Go d 0 0 md_X_back 36 [some (.inr (.inl 1)), o1] [] (jx (jx_0 L) I) (jx_Q (jx_0 L) Q)
  have hd : jm_dc md_X_back.2.1 36 [(.aload_n 0, 1), (.getfield 40, 3), (.iconst 0, 1), (.putfield 101, 3), (.aload_n 0, 1), (.getfield 33, 3), (.getfield 145, 3), (.ireturn, 1)] = true := by decide +kernel
  refine go_aload_n rfl hd (fun hd => ?_)
  refine go_getR co_X8 fl_8_40 (by decide) rfl rfl rfl hd (fun hd => ?_)
  refine go_iconst hd (fun hd => ?_)
  refine go_putI co_X4 fl_8_101 (by decide) rfl rfl hd (fun hd => ?_)
  refine go_aload_n rfl hd (fun hd => ?_)
  refine go_getR co_X8 fl_8_33 (by decide) rfl rfl rfl hd (fun hd => ?_)
  refine go_getI co_X5 fl_8_145 (by decide) (Or.inl rfl) rfl hd (fun hd => ?_)
  exact go_ireturn hd rfl ⟨_, rfl, k⟩
theorem b_X_count_0 {L : Nat} {d : Nat} {I : jm_I} {Q : Option jm_V → jm_I → Prop} {x1 : Int}  (hz : (-2147483648 ≤ x1 ∧ x1 < 2147483648)) (k0 : x1 = 0 → Gx (jx_0 L) d md_X_count 44 [some (.inr (.inl 1)), some (.inl x1)] [] I Q) (k1 : x1 = 1 → Gx (jx_0 L) d md_X_count 52 [some (.inr (.inl 1)), some (.inl x1)] [] I Q) (k2 : x1 = 2 → Gx (jx_0 L) d md_X_count 60 [some (.inr (.inl 1)), some (.inl x1)] [] I Q) (k3 : x1 = 3 → Gx (jx_0 L) d md_X_count 68 [some (.inr (.inl 1)), some (.inl x1)] [] I Q) (k4 : x1 = 4 → Gx (jx_0 L) d md_X_count 76 [some (.inr (.inl 1)), some (.inl x1)] [] I Q) (k5 : x1 = 5 → Gx (jx_0 L) d md_X_count 84 [some (.inr (.inl 1)), some (.inl x1)] [] I Q) (k6 : x1 = 6 → Gx (jx_0 L) d md_X_count 92 [some (.inr (.inl 1)), some (.inl x1)] [] I Q) (kd : (x1 < 0 ∨ 6 < x1) → Gx (jx_0 L) d md_X_count 97 [some (.inr (.inl 1)), some (.inl x1)] [] I Q) : Cx (jx_0 L) d md_X_count [.inr (.inl 1), .inl x1] I Q := by
  have hz1 := hz
  show jm_Go d 0 0 md_X_count 0 [some (.inr (.inl 1)), some (.inl x1)] [] (jx (jx_0 L) I) (jx_Q (jx_0 L) Q)
  have hd : jm_dc md_X_count.2.1 0 [(.iload_n 1, 1), (.tableswitch 96 0 6 #[43, 51, 59, 67, 75, 83, 91], 43)] = true := by decide +kernel
  refine go_iload_n rfl hd (fun hd => ?_)
  by_cases hq : x1 < 0 ∨ 6 < x1
  · exact go_tableOut (a := x1) hz1 hq (by decide) hd (kd hq)
  · rcases (show x1 = 0 ∨ x1 = 1 ∨ x1 = 2 ∨ x1 = 3 ∨ x1 = 4 ∨ x1 = 5 ∨ x1 = 6 by omega) with hq0 | hq1 | hq2 | hq3 | hq4 | hq5 | hq6
    · exact go_tableIn (a := x1) (off := 43) (t := 44) hz1 (by omega) (by omega) (by rw [hq0]; rfl) (by decide) hd (k0 hq0)
    · exact go_tableIn (a := x1) (off := 51) (t := 52) hz1 (by omega) (by omega) (by rw [hq1]; rfl) (by decide) hd (k1 hq1)
    · exact go_tableIn (a := x1) (off := 59) (t := 60) hz1 (by omega) (by omega) (by rw [hq2]; rfl) (by decide) hd (k2 hq2)
    · exact go_tableIn (a := x1) (off := 67) (t := 68) hz1 (by omega) (by omega) (by rw [hq3]; rfl) (by decide) hd (k3 hq3)
    · exact go_tableIn (a := x1) (off := 75) (t := 76) hz1 (by omega) (by omega) (by rw [hq4]; rfl) (by decide) hd (k4 hq4)
    · exact go_tableIn (a := x1) (off := 83) (t := 84) hz1 (by omega) (by omega) (by rw [hq5]; rfl) (by decide) hd (k5 hq5)
    · exact go_tableIn (a := x1) (off := 91) (t := 92) hz1 (by omega) (by omega) (by rw [hq6]; rfl) (by decide) hd (k6 hq6)
theorem b_X_count_44 {L : Nat} {d : Nat} {I : jm_I} {Q : Option jm_V → jm_I → Prop} {o1 : Option jm_V} {c1 : Nat} (hD1 : I 1 0 = (c1 : Int)) (hc1 : jx_City (jx_0 L) c1) (k : Q (some (.inl (I c1 0))) I) : Gx (jx_0 L) d md_X_count 44 [some (.inr (.inl 1)), o1] [] I Q := by
  show jm_Go d 0 0 md_X_count 44 [some (.inr (.inl 1)), o1] [] (jx (jx_0 L) I) (jx_Q (jx_0 L) Q)
  have hd : jm_dc md_X_count.2.1 44 [(.aload_n 0, 1), (.getfield 12, 3), (.getfield 190, 3), (.ireturn, 1)] = true := by decide +kernel
  refine go_aload_n rfl hd (fun hd => ?_)
  refine go_getD co_X8 fl_8_12 (by decide) rfl rfl hD1 (ct_pos hc1) hd (fun hd => ?_)
  refine go_getI co_X0 fl_8_190 (by decide) (Or.inl rfl) (ct_K hc1) hd (fun hd => ?_)
  exact go_ireturn hd rfl ⟨_, rfl, k⟩
theorem b_X_count_52 {L : Nat} {d : Nat} {I : jm_I} {Q : Option jm_V → jm_I → Prop} {o1 : Option jm_V} {c1 : Nat} (hD1 : I 1 0 = (c1 : Int)) (hc1 : jx_City (jx_0 L) c1) (k : Q (some (.inl (I c1 2))) I) : Gx (jx_0 L) d md_X_count 52 [some (.inr (.inl 1)), o1] [] I Q := by
  show jm_Go d 0 0 md_X_count 52 [some (.inr (.inl 1)), o1] [] (jx (jx_0 L) I) (jx_Q (jx_0 L) Q)
  have hd : jm_dc md_X_count.2.1 52 [(.aload_n 0, 1), (.getfield 12, 3), (.getfield 104, 3), (.ireturn, 1)] = true := by decide +kernel
  refine go_aload_n rfl hd (fun hd => ?_)
  refine go_getD co_X8 fl_8_12 (by decide) rfl rfl hD1 (ct_pos hc1) hd (fun hd => ?_)
  refine go_getI co_X0 fl_8_104 (by decide) (Or.inl rfl) (ct_K hc1) hd (fun hd => ?_)
  exact go_ireturn hd rfl ⟨_, rfl, k⟩
theorem b_X_count_60 {L : Nat} {d : Nat} {I : jm_I} {Q : Option jm_V → jm_I → Prop} {o1 : Option jm_V} {c1 : Nat} (hD1 : I 1 0 = (c1 : Int)) (hc1 : jx_City (jx_0 L) c1) (k : Q (some (.inl (I c1 1))) I) : Gx (jx_0 L) d md_X_count 60 [some (.inr (.inl 1)), o1] [] I Q := by
  show jm_Go d 0 0 md_X_count 60 [some (.inr (.inl 1)), o1] [] (jx (jx_0 L) I) (jx_Q (jx_0 L) Q)
  have hd : jm_dc md_X_count.2.1 60 [(.aload_n 0, 1), (.getfield 12, 3), (.getfield 160, 3), (.ireturn, 1)] = true := by decide +kernel
  refine go_aload_n rfl hd (fun hd => ?_)
  refine go_getD co_X8 fl_8_12 (by decide) rfl rfl hD1 (ct_pos hc1) hd (fun hd => ?_)
  refine go_getI co_X0 fl_8_160 (by decide) (Or.inl rfl) (ct_K hc1) hd (fun hd => ?_)
  exact go_ireturn hd rfl ⟨_, rfl, k⟩
theorem b_X_count_68 {L : Nat} {d : Nat} {I : jm_I} {Q : Option jm_V → jm_I → Prop} {o1 : Option jm_V} {c1 : Nat} (hD1 : I 1 0 = (c1 : Int)) (hc1 : jx_City (jx_0 L) c1) (k : Q (some (.inl (I c1 3))) I) : Gx (jx_0 L) d md_X_count 68 [some (.inr (.inl 1)), o1] [] I Q := by
  show jm_Go d 0 0 md_X_count 68 [some (.inr (.inl 1)), o1] [] (jx (jx_0 L) I) (jx_Q (jx_0 L) Q)
  have hd : jm_dc md_X_count.2.1 68 [(.aload_n 0, 1), (.getfield 12, 3), (.getfield 211, 3), (.ireturn, 1)] = true := by decide +kernel
  refine go_aload_n rfl hd (fun hd => ?_)
  refine go_getD co_X8 fl_8_12 (by decide) rfl rfl hD1 (ct_pos hc1) hd (fun hd => ?_)
  refine go_getI co_X0 fl_8_211 (by decide) (Or.inl rfl) (ct_K hc1) hd (fun hd => ?_)
  exact go_ireturn hd rfl ⟨_, rfl, k⟩
theorem b_X_count_76 {L : Nat} {d : Nat} {I : jm_I} {Q : Option jm_V → jm_I → Prop} {o1 : Option jm_V} {c1 : Nat} (hD1 : I 1 0 = (c1 : Int)) (hc1 : jx_City (jx_0 L) c1) (k : Q (some (.inl (I c1 4))) I) : Gx (jx_0 L) d md_X_count 76 [some (.inr (.inl 1)), o1] [] I Q := by
  show jm_Go d 0 0 md_X_count 76 [some (.inr (.inl 1)), o1] [] (jx (jx_0 L) I) (jx_Q (jx_0 L) Q)
  have hd : jm_dc md_X_count.2.1 76 [(.aload_n 0, 1), (.getfield 12, 3), (.getfield 243, 3), (.ireturn, 1)] = true := by decide +kernel
  refine go_aload_n rfl hd (fun hd => ?_)
  refine go_getD co_X8 fl_8_12 (by decide) rfl rfl hD1 (ct_pos hc1) hd (fun hd => ?_)
  refine go_getI co_X0 fl_8_243 (by decide) (Or.inl rfl) (ct_K hc1) hd (fun hd => ?_)
  exact go_ireturn hd rfl ⟨_, rfl, k⟩
theorem b_X_count_84 {L : Nat} {d : Nat} {I : jm_I} {Q : Option jm_V → jm_I → Prop} {o1 : Option jm_V}  (k : Q (some (.inl (I 103 0))) I) : Gx (jx_0 L) d md_X_count 84 [some (.inr (.inl 1)), o1] [] I Q := by
  show jm_Go d 0 0 md_X_count 84 [some (.inr (.inl 1)), o1] [] (jx (jx_0 L) I) (jx_Q (jx_0 L) Q)
  have hd : jm_dc md_X_count.2.1 84 [(.aload_n 0, 1), (.getfield 55, 3), (.getfield 98, 3), (.ireturn, 1)] = true := by decide +kernel
  refine go_aload_n rfl hd (fun hd => ?_)
  refine go_getR co_X8 fl_8_55 (by decide) rfl rfl rfl hd (fun hd => ?_)
  refine go_getI co_X3 fl_8_98 (by decide) (Or.inl rfl) rfl hd (fun hd => ?_)
  exact go_ireturn hd rfl ⟨_, rfl, k⟩
theorem b_X_count_92 {L : Nat} {d : Nat} {I : jm_I} {Q : Option jm_V → jm_I → Prop} {o1 : Option jm_V}  (k : Q (some (.inl (I 1 4))) I) : Gx (jx_0 L) d md_X_count 92 [some (.inr (.inl 1)), o1] [] I Q := by
  show jm_Go d 0 0 md_X_count 92 [some (.inr (.inl 1)), o1] [] (jx (jx_0 L) I) (jx_Q (jx_0 L) Q)
  have hd : jm_dc md_X_count.2.1 92 [(.aload_n 0, 1), (.getfield 90, 3), (.ireturn, 1)] = true := by decide +kernel
  refine go_aload_n rfl hd (fun hd => ?_)
  refine go_getI co_X8 fl_8_90 (by decide) (Or.inl rfl) rfl hd (fun hd => ?_)
  exact go_ireturn hd rfl ⟨_, rfl, k⟩
theorem b_X_count_97 {L : Nat} {d : Nat} {I : jm_I} {Q : Option jm_V → jm_I → Prop} {o0 : Option jm_V} {o1 : Option jm_V}  (k : Q (some (.inl (-1))) I) : Gx (jx_0 L) d md_X_count 97 [o0, o1] [] I Q := by
  show jm_Go d 0 0 md_X_count 97 [o0, o1] [] (jx (jx_0 L) I) (jx_Q (jx_0 L) Q)
  have hd : jm_dc md_X_count.2.1 97 [(.iconst (-1), 1), (.ireturn, 1)] = true := by decide +kernel
  refine go_iconst hd (fun hd => ?_)
  exact go_ireturn hd rfl ⟨_, rfl, k⟩
theorem b_X_trace_0 {L : Nat} {d : Nat} {I : jm_I} {Q : Option jm_V → jm_I → Prop}   (k : Q (some (.inr (.inr (I 1 14)))) I) : Cx (jx_0 L) d md_X_trace [.inr (.inl 1)] I Q := by
  show jm_Go d 0 0 md_X_trace 0 [some (.inr (.inl 1))] [] (jx (jx_0 L) I) (jx_Q (jx_0 L) Q)
  have hd : jm_dc md_X_trace.2.1 0 [(.aload_n 0, 1), (.getfield 267, 3), (.lreturn, 1)] = true := by decide +kernel
  refine go_aload_n rfl hd (fun hd => ?_)
  refine go_getJ co_X8 fl_8_267 (by decide) rfl rfl hd (fun hd => ?_)
  exact go_lreturn hd rfl ⟨_, rfl, k⟩
