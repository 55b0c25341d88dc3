/-! ===== a lemma a basic block (by program, wip/gen/gen9.py) ===== -/
theorem b_CityReader_read_0 {L : Nat} {d : Nat} {I : jm_I} {Q : Option jm_V → jm_I → Prop} {a1 na1 : Nat} {x2 : Int} {a3 : Nat} (ha1 : (jx_0 L).2.1 a1 = (20, na1)) (ha3 : jx_City (jx_0 L) a3) (hz : (0 < a1)) (k : Cx (jx_0 L) d md_City_beAsAtFirst [.inr (.inl a3)] (jm_up (jm_up (jm_up (jm_up (jm_up (jm_up I 42 0 ((a1 : Nat) : Int)) 42 1 x2) 42 2 ((a3 : Nat) : Int)) 42 3 0) 42 7 0) 42 8 (-9)) (fun v J => Gx (jx_0 L) (d + 1) md_CityReader_read 38 [some (.inr (.inl 42)), some (.inr (.inl a1)), some (.inl x2), some (.inr (.inl a3)), none] (v.toList ++ []) J Q)) : Cx (jx_0 L) (d + 1) md_CityReader_read [.inr (.inl 42), .inr (.inl a1), .inl x2, .inr (.inl a3)] I Q := by
  have hz1 := hz
  show jm_Go (d + 1) 0 0 md_CityReader_read 0 [some (.inr (.inl 42)), some (.inr (.inl a1)), some (.inl x2), some (.inr (.inl a3)), none] [] (jx (jx_0 L) I) (jx_Q (jx_0 L) Q)
  have hd : jm_dc md_CityReader_read.2.1 0 [(.aload_n 0, 1), (.aload_n 1, 1), (.putfield 9, 3), (.aload_n 0, 1), (.iload_n 2, 1), (.putfield 15, 3), (.aload_n 0, 1), (.aload_n 3, 1), (.putfield 19, 3), (.aload_n 0, 1), (.iconst 0, 1), (.putfield 23, 3), (.aload_n 0, 1), (.iconst 0, 1), (.putfield 26, 3), (.aload_n 0, 1), (.bipush (-9), 2), (.putfield 30, 3), (.aload_n 0, 1), (.getfield 19, 3), (.invokevirtual 33, 3)] = true := by decide +kernel
  refine go_aload_n rfl hd (fun hd => ?_)
  refine go_aload_n rfl hd (fun hd => ?_)
  refine go_putD co_X1 fl_1_9 (by decide) rfl rfl hz1 hd (fun hd => ?_)
  refine go_aload_n rfl hd (fun hd => ?_)
  refine go_iload_n rfl hd (fun hd => ?_)
  refine go_putI co_X1 fl_1_15 (by decide) rfl rfl hd (fun hd => ?_)
  refine go_aload_n rfl hd (fun hd => ?_)
  refine go_aload_n rfl hd (fun hd => ?_)
  refine go_putD co_X1 fl_1_19 (by decide) rfl rfl (ct_pos ha3) hd (fun hd => ?_)
  refine go_aload_n rfl hd (fun hd => ?_)
  refine go_iconst hd (fun hd => ?_)
  refine go_putI co_X1 fl_1_23 (by decide) rfl rfl hd (fun hd => ?_)
  refine go_aload_n rfl hd (fun hd => ?_)
  refine go_iconst hd (fun hd => ?_)
  refine go_putZ co_X1 fl_1_26 (by decide) rfl rfl (Or.inl rfl) hd (fun hd => ?_)
  refine go_aload_n rfl hd (fun hd => ?_)
  refine go_bipush (by decide) hd (fun hd => ?_)
  refine go_putI co_X1 fl_1_30 (by decide) rfl rfl hd (fun hd => ?_)
  refine go_aload_n rfl hd (fun hd => ?_)
  refine go_getD co_X1 fl_1_19 (by decide) rfl rfl rfl (ct_pos ha3) hd (fun hd => ?_)
  exact gx_virtual a3 0 [] [] mk_City_beAsAtFirst co_X0 rfl ml_1_33 in_City_beAsAtFirst se_City_beAsAtFirst (ct_K ha3) rfl (Nat.le_of_ble_eq_true rfl) rfl (Nat.le_of_ble_eq_true rfl) rfl hd k
theorem b_CityReader_read_38 {L : Nat} {d : Nat} {I : jm_I} {Q : Option jm_V → jm_I → Prop} {o1 : Option jm_V} {o2 : Option jm_V} {o3 : Option jm_V} {o4 : Option jm_V}  (k : Cx (jx_0 L) d md_CityReader_nextToken [.inr (.inl 42)] I (fun v J => Gx (jx_0 L) (d + 1) md_CityReader_read 45 [some (.inr (.inl 42)), o1, o2, o3, some (.inl 0)] (v.toList ++ []) J Q)) : Gx (jx_0 L) (d + 1) md_CityReader_read 38 [some (.inr (.inl 42)), o1, o2, o3, o4] [] I Q := by
  show jm_Go (d + 1) 0 0 md_CityReader_read 38 [some (.inr (.inl 42)), o1, o2, o3, o4] [] (jx (jx_0 L) I) (jx_Q (jx_0 L) Q)
  have hd : jm_dc md_CityReader_read.2.1 38 [(.iconst 0, 1), (.istore 4, 2), (.aload_n 0, 1), (.invokevirtual 38, 3)] = true := by decide +kernel
  refine go_iconst hd (fun hd => ?_)
  refine go_istore (by decide) hd (fun hd => ?_)
  refine go_aload_n rfl hd (fun hd => ?_)
  exact gx_virtual 42 1 [] [] mk_CityReader_nextToken co_X1 rfl ml_1_38 in_CityReader_nextToken se_CityReader_nextToken rfl rfl (Nat.le_of_ble_eq_true rfl) rfl (Nat.le_of_ble_eq_true rfl) rfl hd k
theorem b_CityReader_read_45 {L : Nat} {d : Nat} {I : jm_I} {Q : Option jm_V → jm_I → Prop} {o0 : Option jm_V} {o1 : Option jm_V} {o2 : Option jm_V} {o3 : Option jm_V} {x4 : Int}  (hz : (-2147483648 ≤ x4 ∧ x4 < 2147483648)) (kt : 200 ≤ x4 → Gx (jx_0 L) d md_CityReader_read 89 [o0, o1, o2, o3, some (.inl x4)] [] I Q) (kf : ¬ (200 ≤ x4) → Gx (jx_0 L) d md_CityReader_read 53 [o0, o1, o2, o3, some (.inl x4)] [] I Q) : Gx (jx_0 L) d md_CityReader_read 45 [o0, o1, o2, o3, some (.inl x4)] [] I Q := by
  have hz1 := hz
  show jm_Go d 0 0 md_CityReader_read 45 [o0, o1, o2, o3, some (.inl x4)] [] (jx (jx_0 L) I) (jx_Q (jx_0 L) Q)
  have hd : jm_dc md_CityReader_read.2.1 45 [(.iload 4, 2), (.sipush 200, 3), (.if_icmp .ge 39, 3)] = true := by decide +kernel
  refine go_iload rfl hd (fun hd => ?_)
  refine go_sipush (by decide) hd (fun hd => ?_)
  exact go_icmp_ge (by decide) hz1 ⟨by decide, by decide⟩ hd kt kf
theorem b_CityReader_read_53 {L : Nat} {d : Nat} {I : jm_I} {Q : Option jm_V → jm_I → Prop} {o1 : Option jm_V} {o2 : Option jm_V} {o3 : Option jm_V} {o4 : Option jm_V}  (hz : (-2147483648 ≤ I 42 4 ∧ I 42 4 < 2147483648)) (kt : (I 42 4) = 0 → Gx (jx_0 L) d md_CityReader_read 89 [some (.inr (.inl 42)), o1, o2, o3, o4] [] I Q) (kf : ¬ (I 42 4) = 0 → Gx (jx_0 L) d md_CityReader_read 60 [some (.inr (.inl 42)), o1, o2, o3, o4] [] I Q) : Gx (jx_0 L) d md_CityReader_read 53 [some (.inr (.inl 42)), o1, o2, o3, o4] [] I Q := by
  have hz1 := hz
  show jm_Go d 0 0 md_CityReader_read 53 [some (.inr (.inl 42)), o1, o2, o3, o4] [] (jx (jx_0 L) I) (jx_Q (jx_0 L) Q)
  have hd : jm_dc md_CityReader_read.2.1 53 [(.aload_n 0, 1), (.getfield 41, 3), (.ifCond .eq 32, 3)] = true := by decide +kernel
  refine go_aload_n rfl hd (fun hd => ?_)
  refine go_getI co_X1 fl_1_41 (by decide) (Or.inl rfl) rfl hd (fun hd => ?_)
  exact go_if_eq (by decide) hz1 hd kt kf
theorem b_CityReader_read_60 {L : Nat} {d : Nat} {I : jm_I} {Q : Option jm_V → jm_I → Prop} {o1 : Option jm_V} {o2 : Option jm_V} {o3 : Option jm_V} {o4 : Option jm_V}  (hz : (-2147483648 ≤ I 42 8 ∧ I 42 8 < 2147483648)) (kt : ¬ (I 42 8) = (-9) → Gx (jx_0 L) d md_CityReader_read 89 [some (.inr (.inl 42)), o1, o2, o3, o4] [] I Q) (kf : (I 42 8) = (-9) → Gx (jx_0 L) d md_CityReader_read 69 [some (.inr (.inl 42)), o1, o2, o3, o4] [] I Q) : Gx (jx_0 L) d md_CityReader_read 60 [some (.inr (.inl 42)), o1, o2, o3, o4] [] I Q := by
  have hz1 := hz
  show jm_Go d 0 0 md_CityReader_read 60 [some (.inr (.inl 42)), o1, o2, o3, o4] [] (jx (jx_0 L) I) (jx_Q (jx_0 L) Q)
  have hd : jm_dc md_CityReader_read.2.1 60 [(.aload_n 0, 1), (.getfield 30, 3), (.bipush (-9), 2), (.if_icmp .ne 23, 3)] = true := by decide +kernel
  refine go_aload_n rfl hd (fun hd => ?_)
  refine go_getI co_X1 fl_1_30 (by decide) (Or.inl rfl) rfl hd (fun hd => ?_)
  refine go_bipush (by decide) hd (fun hd => ?_)
  exact go_icmp_ne (by decide) hz1 ⟨by decide, by decide⟩ hd kt kf
theorem b_CityReader_read_69 {L : Nat} {d : Nat} {I : jm_I} {Q : Option jm_V → jm_I → Prop} {o1 : Option jm_V} {o2 : Option jm_V} {o3 : Option jm_V} {x4 : Int}  (k : Cx (jx_0 L) d md_CityReader_readItem [.inr (.inl 42), .inl x4] I (fun v J => Gx (jx_0 L) (d + 1) md_CityReader_read 75 [some (.inr (.inl 42)), o1, o2, o3, some (.inl x4)] (v.toList ++ []) J Q)) : Gx (jx_0 L) (d + 1) md_CityReader_read 69 [some (.inr (.inl 42)), o1, o2, o3, some (.inl x4)] [] I Q := by
  show jm_Go (d + 1) 0 0 md_CityReader_read 69 [some (.inr (.inl 42)), o1, o2, o3, some (.inl x4)] [] (jx (jx_0 L) I) (jx_Q (jx_0 L) Q)
  have hd : jm_dc md_CityReader_read.2.1 69 [(.aload_n 0, 1), (.iload 4, 2), (.invokevirtual 44, 3)] = true := by decide +kernel
  refine go_aload_n rfl hd (fun hd => ?_)
  refine go_iload rfl hd (fun hd => ?_)
  exact gx_virtual 42 1 [.inl x4] [] mk_CityReader_readItem co_X1 rfl ml_1_44 in_CityReader_readItem se_CityReader_readItem rfl rfl (Nat.le_of_ble_eq_true rfl) rfl (Nat.le_of_ble_eq_true rfl) rfl hd k
theorem b_CityReader_read_75 {L : Nat} {d : Nat} {I : jm_I} {Q : Option jm_V → jm_I → Prop} {o1 : Option jm_V} {o2 : Option jm_V} {o3 : Option jm_V} {o4 : Option jm_V}  (k : Cx (jx_0 L) d md_CityReader_needEnd [.inr (.inl 42)] I (fun v J => Gx (jx_0 L) (d + 1) md_CityReader_read 79 [some (.inr (.inl 42)), o1, o2, o3, o4] (v.toList ++ []) J Q)) : Gx (jx_0 L) (d + 1) md_CityReader_read 75 [some (.inr (.inl 42)), o1, o2, o3, o4] [] I Q := by
  show jm_Go (d + 1) 0 0 md_CityReader_read 75 [some (.inr (.inl 42)), o1, o2, o3, o4] [] (jx (jx_0 L) I) (jx_Q (jx_0 L) Q)
  have hd : jm_dc md_CityReader_read.2.1 75 [(.aload_n 0, 1), (.invokevirtual 48, 3)] = true := by decide +kernel
  refine go_aload_n rfl hd (fun hd => ?_)
  exact gx_virtual 42 1 [] [] mk_CityReader_needEnd co_X1 rfl ml_1_48 in_CityReader_needEnd se_CityReader_needEnd rfl rfl (Nat.le_of_ble_eq_true rfl) rfl (Nat.le_of_ble_eq_true rfl) rfl hd k
theorem b_CityReader_read_79 {L : Nat} {d : Nat} {I : jm_I} {Q : Option jm_V → jm_I → Prop} {o1 : Option jm_V} {o2 : Option jm_V} {o3 : Option jm_V} {o4 : Option jm_V}  (k : Cx (jx_0 L) d md_CityReader_nextToken [.inr (.inl 42)] I (fun v J => Gx (jx_0 L) (d + 1) md_CityReader_read 83 [some (.inr (.inl 42)), o1, o2, o3, o4] (v.toList ++ []) J Q)) : Gx (jx_0 L) (d + 1) md_CityReader_read 79 [some (.inr (.inl 42)), o1, o2, o3, o4] [] I Q := by
  show jm_Go (d + 1) 0 0 md_CityReader_read 79 [some (.inr (.inl 42)), o1, o2, o3, o4] [] (jx (jx_0 L) I) (jx_Q (jx_0 L) Q)
  have hd : jm_dc md_CityReader_read.2.1 79 [(.aload_n 0, 1), (.invokevirtual 38, 3)] = true := by decide +kernel
  refine go_aload_n rfl hd (fun hd => ?_)
  exact gx_virtual 42 1 [] [] mk_CityReader_nextToken co_X1 rfl ml_1_38 in_CityReader_nextToken se_CityReader_nextToken rfl rfl (Nat.le_of_ble_eq_true rfl) rfl (Nat.le_of_ble_eq_true rfl) rfl hd k
theorem b_CityReader_read_83 {L : Nat} {d : Nat} {I : jm_I} {Q : Option jm_V → jm_I → Prop} {o0 : Option jm_V} {o1 : Option jm_V} {o2 : Option jm_V} {o3 : Option jm_V} {x4 : Int}  (k : Gx (jx_0 L) d md_CityReader_read 45 [o0, o1, o2, o3, some (.inl (x4 + 1))] [] I Q) : Gx (jx_0 L) d md_CityReader_read 83 [o0, o1, o2, o3, some (.inl x4)] [] I Q := by
  show jm_Go d 0 0 md_CityReader_read 83 [o0, o1, o2, o3, some (.inl x4)] [] (jx (jx_0 L) I) (jx_Q (jx_0 L) Q)
  have hd : jm_dc md_CityReader_read.2.1 83 [(.iinc 4 1, 3), (.goto (-41), 3)] = true := by decide +kernel
  refine go_iinc rfl hd (fun hd => ?_)
  exact go_goto (by decide) hd k
theorem b_CityReader_read_89 {L : Nat} {d : Nat} {I : jm_I} {Q : Option jm_V → jm_I → Prop} {o1 : Option jm_V} {o2 : Option jm_V} {o3 : Option jm_V} {o4 : Option jm_V}  (hz : (-2147483648 ≤ I 42 8 ∧ I 42 8 < 2147483648)) (kt : ¬ (I 42 8) = (-9) → Gx (jx_0 L) d md_CityReader_read 103 [some (.inr (.inl 42)), o1, o2, o3, o4] [] I Q) (kf : (I 42 8) = (-9) → Gx (jx_0 L) d md_CityReader_read 98 [some (.inr (.inl 42)), o1, o2, o3, o4] [] I Q) : Gx (jx_0 L) d md_CityReader_read 89 [some (.inr (.inl 42)), o1, o2, o3, o4] [] I Q := by
  have hz1 := hz
  show jm_Go d 0 0 md_CityReader_read 89 [some (.inr (.inl 42)), o1, o2, o3, o4] [] (jx (jx_0 L) I) (jx_Q (jx_0 L) Q)
  have hd : jm_dc md_CityReader_read.2.1 89 [(.aload_n 0, 1), (.getfield 30, 3), (.bipush (-9), 2), (.if_icmp .ne 8, 3)] = true := by decide +kernel
  refine go_aload_n rfl hd (fun hd => ?_)
  refine go_getI co_X1 fl_1_30 (by decide) (Or.inl rfl) rfl hd (fun hd => ?_)
  refine go_bipush (by decide) hd (fun hd => ?_)
  exact go_icmp_ne (by decide) hz1 ⟨by decide, by decide⟩ hd kt kf
theorem b_CityReader_read_98 {L : Nat} {d : Nat} {I : jm_I} {Q : Option jm_V → jm_I → Prop} {o0 : Option jm_V} {o1 : Option jm_V} {o2 : Option jm_V} {o3 : Option jm_V} {x4 : Int}  (k : Gx (jx_0 L) d md_CityReader_read 110 [o0, o1, o2, o3, some (.inl x4)] [.inl x4] I Q) : Gx (jx_0 L) d md_CityReader_read 98 [o0, o1, o2, o3, some (.inl x4)] [] I Q := by
  show jm_Go d 0 0 md_CityReader_read 98 [o0, o1, o2, o3, some (.inl x4)] [] (jx (jx_0 L) I) (jx_Q (jx_0 L) Q)
  have hd : jm_dc md_CityReader_read.2.1 98 [(.iload 4, 2), (.goto 10, 3)] = true := by decide +kernel
  refine go_iload rfl hd (fun hd => ?_)
  exact go_goto (by decide) hd k
theorem b_CityReader_read_103 {L : Nat} {d : Nat} {I : jm_I} {Q : Option jm_V → jm_I → Prop} {o1 : Option jm_V} {o2 : Option jm_V} {o3 : Option jm_V} {o4 : Option jm_V}  (k : Gx (jx_0 L) d md_CityReader_read 110 [some (.inr (.inl 42)), o1, o2, o3, o4] [.inl ((-10) - (I 42 8))] I Q) : Gx (jx_0 L) d md_CityReader_read 103 [some (.inr (.inl 42)), o1, o2, o3, o4] [] I Q := by
  show jm_Go d 0 0 md_CityReader_read 103 [some (.inr (.inl 42)), o1, o2, o3, o4] [] (jx (jx_0 L) I) (jx_Q (jx_0 L) Q)
  have hd : jm_dc md_CityReader_read.2.1 103 [(.bipush (-10), 2), (.aload_n 0, 1), (.getfield 30, 3), (.isub, 1)] = true := by decide +kernel
  refine go_bipush (by decide) hd (fun hd => ?_)
  refine go_aload_n rfl hd (fun hd => ?_)
  refine go_getI co_X1 fl_1_30 (by decide) (Or.inl rfl) rfl hd (fun hd => ?_)
  refine go_isub hd (fun hd => ?_)
  exact k
theorem b_CityReader_read_110 {L : Nat} {d : Nat} {I : jm_I} {Q : Option jm_V → jm_I → Prop} {o0 : Option jm_V} {o1 : Option jm_V} {o2 : Option jm_V} {o3 : Option jm_V} {o4 : Option jm_V} {s0 : Int}  (k : Q (some (.inl s0)) I) : Gx (jx_0 L) d md_CityReader_read 110 [o0, o1, o2, o3, o4] [.inl s0] I Q := by
  show jm_Go d 0 0 md_CityReader_read 110 [o0, o1, o2, o3, o4] [.inl s0] (jx (jx_0 L) I) (jx_Q (jx_0 L) Q)
  have hd : jm_dc md_CityReader_read.2.1 110 [(.ireturn, 1)] = true := by decide +kernel
  exact go_ireturn hd rfl ⟨_, rfl, k⟩
theorem b_CityReader_nextToken_0 {L : Nat} {d : Nat} {I : jm_I} {Q : Option jm_V → jm_I → Prop}   (hz : (-2147483648 ≤ I 42 3 ∧ I 42 3 < 2147483648) ∧ (-2147483648 ≤ I 42 1 ∧ I 42 1 < 2147483648)) (kt : (I 42 1) ≤ (I 42 3) → Gx (jx_0 L) d md_CityReader_nextToken 38 [some (.inr (.inl 42)), none, none] [] I Q) (kf : ¬ ((I 42 1) ≤ (I 42 3)) → Gx (jx_0 L) d md_CityReader_nextToken 11 [some (.inr (.inl 42)), none, none] [] I Q) : Cx (jx_0 L) d md_CityReader_nextToken [.inr (.inl 42)] I Q := by
  obtain ⟨hz1, hz2⟩ := hz
  show jm_Go d 0 0 md_CityReader_nextToken 0 [some (.inr (.inl 42)), none, none] [] (jx (jx_0 L) I) (jx_Q (jx_0 L) Q)
  have hd : jm_dc md_CityReader_nextToken.2.1 0 [(.aload_n 0, 1), (.getfield 23, 3), (.aload_n 0, 1), (.getfield 15, 3), (.if_icmp .ge 30, 3)] = true := by decide +kernel
  refine go_aload_n rfl hd (fun hd => ?_)
  refine go_getI co_X1 fl_1_23 (by decide) (Or.inl rfl) rfl hd (fun hd => ?_)
  refine go_aload_n rfl hd (fun hd => ?_)
  refine go_getI co_X1 fl_1_15 (by decide) (Or.inl rfl) rfl hd (fun hd => ?_)
  exact go_icmp_ge (by decide) hz1 hz2 hd kt kf
theorem b_CityReader_nextToken_11 {L : Nat} {d : Nat} {I : jm_I} {Q : Option jm_V → jm_I → Prop} {o1 : Option jm_V} {o2 : Option jm_V} (hD1 : I 42 0 = ((43 : Nat) : Int)) (hz : (0 ≤ I 42 3 ∧ I 42 3 < 200) ∧ (-2147483648 ≤ I 43 (I 42 3).toNat ∧ I 43 (I 42 3).toNat < 2147483648)) (kt : ¬ (I 43 (I 42 3).toNat) = 32 → Gx (jx_0 L) d md_CityReader_nextToken 38 [some (.inr (.inl 42)), o1, o2] [] I Q) (kf : (I 43 (I 42 3).toNat) = 32 → Gx (jx_0 L) d md_CityReader_nextToken 25 [some (.inr (.inl 42)), o1, o2] [] I Q) : Gx (jx_0 L) d md_CityReader_nextToken 11 [some (.inr (.inl 42)), o1, o2] [] I Q := by
  obtain ⟨hz1, hz2⟩ := hz
  show jm_Go d 0 0 md_CityReader_nextToken 11 [some (.inr (.inl 42)), o1, o2] [] (jx (jx_0 L) I) (jx_Q (jx_0 L) Q)
  have hd : jm_dc md_CityReader_nextToken.2.1 11 [(.aload_n 0, 1), (.getfield 9, 3), (.aload_n 0, 1), (.getfield 23, 3), (.iaload, 1), (.bipush 32, 2), (.if_icmp .ne 16, 3)] = true := by decide +kernel
  refine go_aload_n rfl hd (fun hd => ?_)
  refine go_getD co_X1 fl_1_9 (by decide) rfl rfl hD1 (by decide) hd (fun hd => ?_)
  refine go_aload_n rfl hd (fun hd => ?_)
  refine go_getI co_X1 fl_1_23 (by decide) (Or.inl rfl) rfl hd (fun hd => ?_)
  refine go_iaload rfl hz1.1 hz1.2 (by decide) hd (fun hd => ?_)
  refine go_bipush (by decide) hd (fun hd => ?_)
  exact go_icmp_ne (by decide) hz2 ⟨by decide, by decide⟩ hd kt kf
theorem b_CityReader_nextToken_25 {L : Nat} {d : Nat} {I : jm_I} {Q : Option jm_V → jm_I → Prop} {o1 : Option jm_V} {o2 : Option jm_V}  (k : Gx (jx_0 L) d md_CityReader_nextToken 0 [some (.inr (.inl 42)), o1, o2] [] (jm_up I 42 3 ((I 42 3) + 1)) Q) : Gx (jx_0 L) d md_CityReader_nextToken 25 [some (.inr (.inl 42)), o1, o2] [] I Q := by
  show jm_Go d 0 0 md_CityReader_nextToken 25 [some (.inr (.inl 42)), o1, o2] [] (jx (jx_0 L) I) (jx_Q (jx_0 L) Q)
  have hd : jm_dc md_CityReader_nextToken.2.1 25 [(.aload_n 0, 1), (.dup, 1), (.getfield 23, 3), (.iconst 1, 1), (.iadd, 1), (.putfield 23, 3), (.goto (-35), 3)] = true := by decide +kernel
  refine go_aload_n rfl hd (fun hd => ?_)
  refine go_dup rfl hd (fun hd => ?_)
  refine go_getI co_X1 fl_1_23 (by decide) (Or.inl rfl) rfl hd (fun hd => ?_)
  refine go_iconst hd (fun hd => ?_)
  refine go_iadd hd (fun hd => ?_)
  refine go_putI co_X1 fl_1_23 (by decide) rfl rfl hd (fun hd => ?_)
  exact go_goto (by decide) hd k
theorem b_CityReader_nextToken_38 {L : Nat} {d : Nat} {I : jm_I} {Q : Option jm_V → jm_I → Prop} {o1 : Option jm_V} {o2 : Option jm_V}  (k : Gx (jx_0 L) d md_CityReader_nextToken 51 [some (.inr (.inl 42)), o1, o2] [] (jm_up (jm_up I 42 5 (I 42 3)) 42 6 0) Q) : Gx (jx_0 L) d md_CityReader_nextToken 38 [some (.inr (.inl 42)), o1, o2] [] I Q := by
  show jm_Go d 0 0 md_CityReader_nextToken 38 [some (.inr (.inl 42)), o1, o2] [] (jx (jx_0 L) I) (jx_Q (jx_0 L) Q)
  have hd : jm_dc md_CityReader_nextToken.2.1 38 [(.aload_n 0, 1), (.aload_n 0, 1), (.getfield 23, 3), (.putfield 113, 3), (.aload_n 0, 1), (.iconst 0, 1), (.putfield 110, 3)] = true := by decide +kernel
  refine go_aload_n rfl hd (fun hd => ?_)
  refine go_aload_n rfl hd (fun hd => ?_)
  refine go_getI co_X1 fl_1_23 (by decide) (Or.inl rfl) rfl hd (fun hd => ?_)
  refine go_putI co_X1 fl_1_113 (by decide) rfl rfl hd (fun hd => ?_)
  refine go_aload_n rfl hd (fun hd => ?_)
  refine go_iconst hd (fun hd => ?_)
  refine go_putI co_X1 fl_1_110 (by decide) rfl rfl hd (fun hd => ?_)
  exact k
theorem b_CityReader_nextToken_51 {L : Nat} {d : Nat} {I : jm_I} {Q : Option jm_V → jm_I → Prop} {o1 : Option jm_V} {o2 : Option jm_V}  (hz : (-2147483648 ≤ I 42 3 ∧ I 42 3 < 2147483648) ∧ (-2147483648 ≤ I 42 1 ∧ I 42 1 < 2147483648)) (kt : (I 42 1) ≤ (I 42 3) → Gx (jx_0 L) d md_CityReader_nextToken 114 [some (.inr (.inl 42)), o1, o2] [] I Q) (kf : ¬ ((I 42 1) ≤ (I 42 3)) → Gx (jx_0 L) d md_CityReader_nextToken 62 [some (.inr (.inl 42)), o1, o2] [] I Q) : Gx (jx_0 L) d md_CityReader_nextToken 51 [some (.inr (.inl 42)), o1, o2] [] I Q := by
  obtain ⟨hz1, hz2⟩ := hz
  show jm_Go d 0 0 md_CityReader_nextToken 51 [some (.inr (.inl 42)), o1, o2] [] (jx (jx_0 L) I) (jx_Q (jx_0 L) Q)
  have hd : jm_dc md_CityReader_nextToken.2.1 51 [(.aload_n 0, 1), (.getfield 23, 3), (.aload_n 0, 1), (.getfield 15, 3), (.if_icmp .ge 55, 3)] = true := by decide +kernel
  refine go_aload_n rfl hd (fun hd => ?_)
  refine go_getI co_X1 fl_1_23 (by decide) (Or.inl rfl) rfl hd (fun hd => ?_)
  refine go_aload_n rfl hd (fun hd => ?_)
  refine go_getI co_X1 fl_1_15 (by decide) (Or.inl rfl) rfl hd (fun hd => ?_)
  exact go_icmp_ge (by decide) hz1 hz2 hd kt kf
theorem b_CityReader_nextToken_62 {L : Nat} {d : Nat} {I : jm_I} {Q : Option jm_V → jm_I → Prop} {o1 : Option jm_V} {o2 : Option jm_V} (hD1 : I 42 0 = ((43 : Nat) : Int)) (hz : (0 ≤ I 42 3 ∧ I 42 3 < 200)) (k : Cx (jx_0 L) d md_CityReader_isDigit [.inl (I 43 (I 42 3).toNat)] I (fun v J => Gx (jx_0 L) (d + 1) md_CityReader_nextToken 74 [some (.inr (.inl 42)), o1, o2] (v.toList ++ []) J Q)) : Gx (jx_0 L) (d + 1) md_CityReader_nextToken 62 [some (.inr (.inl 42)), o1, o2] [] I Q := by
  have hz1 := hz
  show jm_Go (d + 1) 0 0 md_CityReader_nextToken 62 [some (.inr (.inl 42)), o1, o2] [] (jx (jx_0 L) I) (jx_Q (jx_0 L) Q)
  have hd : jm_dc md_CityReader_nextToken.2.1 62 [(.aload_n 0, 1), (.getfield 9, 3), (.aload_n 0, 1), (.getfield 23, 3), (.iaload, 1), (.invokestatic 116, 3)] = true := by decide +kernel
  refine go_aload_n rfl hd (fun hd => ?_)
  refine go_getD co_X1 fl_1_9 (by decide) rfl rfl hD1 (by decide) hd (fun hd => ?_)
  refine go_aload_n rfl hd (fun hd => ?_)
  refine go_getI co_X1 fl_1_23 (by decide) (Or.inl rfl) rfl hd (fun hd => ?_)
  refine go_iaload rfl hz1.1 hz1.2 (by decide) hd (fun hd => ?_)
  exact gx_static [.inl (I 43 (I 42 3).toNat)] [] mk_CityReader_isDigit ml_1_116 st_CityReader_isDigit rfl (Nat.le_of_ble_eq_true rfl) rfl (Nat.le_of_ble_eq_true rfl) rfl hd k
theorem b_CityReader_nextToken_74 {L : Nat} {d : Nat} {I : jm_I} {Q : Option jm_V → jm_I → Prop} {o0 : Option jm_V} {o1 : Option jm_V} {o2 : Option jm_V} {s0 : Int}  (hz : (-2147483648 ≤ s0 ∧ s0 < 2147483648)) (kt : s0 = 0 → Gx (jx_0 L) d md_CityReader_nextToken 114 [o0, o1, o2] [] I Q) (kf : ¬ s0 = 0 → Gx (jx_0 L) d md_CityReader_nextToken 77 [o0, o1, o2] [] I Q) : Gx (jx_0 L) d md_CityReader_nextToken 74 [o0, o1, o2] [.inl s0] I Q := by
  have hz1 := hz
  show jm_Go d 0 0 md_CityReader_nextToken 74 [o0, o1, o2] [.inl s0] (jx (jx_0 L) I) (jx_Q (jx_0 L) Q)
  have hd : jm_dc md_CityReader_nextToken.2.1 74 [(.ifCond .eq 40, 3)] = true := by decide +kernel
  exact go_if_eq (by decide) hz1 hd kt kf
theorem b_CityReader_nextToken_77 {L : Nat} {d : Nat} {I : jm_I} {Q : Option jm_V → jm_I → Prop} {o1 : Option jm_V} {o2 : Option jm_V} (hD1 : I 42 0 = ((43 : Nat) : Int)) (hz : (0 ≤ I 42 3 ∧ I 42 3 < 200)) (k : Gx (jx_0 L) d md_CityReader_nextToken 51 [some (.inr (.inl 42)), o1, o2] [] (jm_up (jm_up I 42 6 ((((I 42 6) * 10) + (I 43 (I 42 3).toNat)) - 48)) 42 3 ((I 42 3) + 1)) Q) : Gx (jx_0 L) d md_CityReader_nextToken 77 [some (.inr (.inl 42)), o1, o2] [] I Q := by
  have hz1 := hz
  show jm_Go d 0 0 md_CityReader_nextToken 77 [some (.inr (.inl 42)), o1, o2] [] (jx (jx_0 L) I) (jx_Q (jx_0 L) Q)
  have hd : jm_dc md_CityReader_nextToken.2.1 77 [(.aload_n 0, 1), (.aload_n 0, 1), (.getfield 110, 3), (.bipush 10, 2), (.imul, 1), (.aload_n 0, 1), (.getfield 9, 3), (.aload_n 0, 1), (.getfield 23, 3), (.iaload, 1), (.iadd, 1), (.bipush 48, 2), (.isub, 1), (.putfield 110, 3), (.aload_n 0, 1), (.dup, 1), (.getfield 23, 3), (.iconst 1, 1), (.iadd, 1), (.putfield 23, 3), (.goto (-60), 3)] = true := by decide +kernel
  refine go_aload_n rfl hd (fun hd => ?_)
  refine go_aload_n rfl hd (fun hd => ?_)
  refine go_getI co_X1 fl_1_110 (by decide) (Or.inl rfl) rfl hd (fun hd => ?_)
  refine go_bipush (by decide) hd (fun hd => ?_)
  refine go_imul hd (fun hd => ?_)
  refine go_aload_n rfl hd (fun hd => ?_)
  refine go_getD co_X1 fl_1_9 (by decide) rfl rfl hD1 (by decide) hd (fun hd => ?_)
  refine go_aload_n rfl hd (fun hd => ?_)
  refine go_getI co_X1 fl_1_23 (by decide) (Or.inl rfl) rfl hd (fun hd => ?_)
  refine go_iaload rfl hz1.1 hz1.2 (by decide) hd (fun hd => ?_)
  refine go_iadd hd (fun hd => ?_)
  refine go_bipush (by decide) hd (fun hd => ?_)
  refine go_isub hd (fun hd => ?_)
  refine go_putI co_X1 fl_1_110 (by decide) rfl rfl hd (fun hd => ?_)
  refine go_aload_n rfl hd (fun hd => ?_)
  refine go_dup rfl hd (fun hd => ?_)
  refine go_getI co_X1 fl_1_23 (by decide) (Or.inl rfl) rfl hd (fun hd => ?_)
  refine go_iconst hd (fun hd => ?_)
  refine go_iadd hd (fun hd => ?_)
  refine go_putI co_X1 fl_1_23 (by decide) rfl rfl hd (fun hd => ?_)
  exact go_goto (by decide) hd k
theorem b_CityReader_nextToken_114 {L : Nat} {d : Nat} {I : jm_I} {Q : Option jm_V → jm_I → Prop} {o1 : Option jm_V} {o2 : Option jm_V}  (hz : (-2147483648 ≤ (I 42 3) - (I 42 5) ∧ (I 42 3) - (I 42 5) < 2147483648)) (kt : ((I 42 3) - (I 42 5)) ≤ 0 → Gx (jx_0 L) d md_CityReader_nextToken 174 [some (.inr (.inl 42)), some (.inl ((I 42 3) - (I 42 5))), o2] [] I Q) (kf : ¬ (((I 42 3) - (I 42 5)) ≤ 0) → Gx (jx_0 L) d md_CityReader_nextToken 128 [some (.inr (.inl 42)), some (.inl ((I 42 3) - (I 42 5))), o2] [] I Q) : Gx (jx_0 L) d md_CityReader_nextToken 114 [some (.inr (.inl 42)), o1, o2] [] I Q := by
  have hz1 := hz
  show jm_Go d 0 0 md_CityReader_nextToken 114 [some (.inr (.inl 42)), o1, o2] [] (jx (jx_0 L) I) (jx_Q (jx_0 L) Q)
  have hd : jm_dc md_CityReader_nextToken.2.1 114 [(.aload_n 0, 1), (.getfield 23, 3), (.aload_n 0, 1), (.getfield 113, 3), (.isub, 1), (.istore_n 1, 1), (.iload_n 1, 1), (.ifCond .le 49, 3)] = true := by decide +kernel
  refine go_aload_n rfl hd (fun hd => ?_)
  refine go_getI co_X1 fl_1_23 (by decide) (Or.inl rfl) rfl hd (fun hd => ?_)
  refine go_aload_n rfl hd (fun hd => ?_)
  refine go_getI co_X1 fl_1_113 (by decide) (Or.inl rfl) rfl hd (fun hd => ?_)
  refine go_isub hd (fun hd => ?_)
  refine go_istore_n (by decide) hd (fun hd => ?_)
  refine go_iload_n rfl hd (fun hd => ?_)
  exact go_if_le (by decide) hz1 hd kt kf
theorem b_CityReader_nextToken_128 {L : Nat} {d : Nat} {I : jm_I} {Q : Option jm_V → jm_I → Prop} {o0 : Option jm_V} {x1 : Int} {o2 : Option jm_V}  (hz : (-2147483648 ≤ x1 ∧ x1 < 2147483648)) (kt : x1 ≤ 1 → Gx (jx_0 L) d md_CityReader_nextToken 151 [o0, some (.inl x1), o2] [] I Q) (kf : ¬ (x1 ≤ 1) → Gx (jx_0 L) d md_CityReader_nextToken 133 [o0, some (.inl x1), o2] [] I Q) : Gx (jx_0 L) d md_CityReader_nextToken 128 [o0, some (.inl x1), o2] [] I Q := by
  have hz1 := hz
  show jm_Go d 0 0 md_CityReader_nextToken 128 [o0, some (.inl x1), o2] [] (jx (jx_0 L) I) (jx_Q (jx_0 L) Q)
  have hd : jm_dc md_CityReader_nextToken.2.1 128 [(.iload_n 1, 1), (.iconst 1, 1), (.if_icmp .le 21, 3)] = true := by decide +kernel
  refine go_iload_n rfl hd (fun hd => ?_)
  refine go_iconst hd (fun hd => ?_)
  exact go_icmp_le (by decide) hz1 ⟨by decide, by decide⟩ hd kt kf
theorem b_CityReader_nextToken_133 {L : Nat} {d : Nat} {I : jm_I} {Q : Option jm_V → jm_I → Prop} {o1 : Option jm_V} {o2 : Option jm_V} (hD1 : I 42 0 = ((43 : Nat) : Int)) (hz : (0 ≤ I 42 5 ∧ I 42 5 < 200) ∧ (-2147483648 ≤ I 43 (I 42 5).toNat ∧ I 43 (I 42 5).toNat < 2147483648)) (kt : ¬ (I 43 (I 42 5).toNat) = 48 → Gx (jx_0 L) d md_CityReader_nextToken 151 [some (.inr (.inl 42)), o1, o2] [] I Q) (kf : (I 43 (I 42 5).toNat) = 48 → Gx (jx_0 L) d md_CityReader_nextToken 147 [some (.inr (.inl 42)), o1, o2] [] I Q) : Gx (jx_0 L) d md_CityReader_nextToken 133 [some (.inr (.inl 42)), o1, o2] [] I Q := by
  obtain ⟨hz1, hz2⟩ := hz
  show jm_Go d 0 0 md_CityReader_nextToken 133 [some (.inr (.inl 42)), o1, o2] [] (jx (jx_0 L) I) (jx_Q (jx_0 L) Q)
  have hd : jm_dc md_CityReader_nextToken.2.1 133 [(.aload_n 0, 1), (.getfield 9, 3), (.aload_n 0, 1), (.getfield 113, 3), (.iaload, 1), (.bipush 48, 2), (.if_icmp .ne 7, 3)] = true := by decide +kernel
  refine go_aload_n rfl hd (fun hd => ?_)
  refine go_getD co_X1 fl_1_9 (by decide) rfl rfl hD1 (by decide) hd (fun hd => ?_)
  refine go_aload_n rfl hd (fun hd => ?_)
  refine go_getI co_X1 fl_1_113 (by decide) (Or.inl rfl) rfl hd (fun hd => ?_)
  refine go_iaload rfl hz1.1 hz1.2 (by decide) hd (fun hd => ?_)
  refine go_bipush (by decide) hd (fun hd => ?_)
  exact go_icmp_ne (by decide) hz2 ⟨by decide, by decide⟩ hd kt kf
theorem b_CityReader_nextToken_147 {L : Nat} {d : Nat} {I : jm_I} {Q : Option jm_V → jm_I → Prop} {o0 : Option jm_V} {o1 : Option jm_V} {o2 : Option jm_V}  (k : Gx (jx_0 L) d md_CityReader_nextToken 152 [o0, o1, o2] [.inl 1] I Q) : Gx (jx_0 L) d md_CityReader_nextToken 147 [o0, o1, o2] [] I Q := by
  show jm_Go d 0 0 md_CityReader_nextToken 147 [o0, o1, o2] [] (jx (jx_0 L) I) (jx_Q (jx_0 L) Q)
  have hd : jm_dc md_CityReader_nextToken.2.1 147 [(.iconst 1, 1), (.goto 4, 3)] = true := by decide +kernel
  refine go_iconst hd (fun hd => ?_)
  exact go_goto (by decide) hd k
theorem b_CityReader_nextToken_151 {L : Nat} {d : Nat} {I : jm_I} {Q : Option jm_V → jm_I → Prop} {o0 : Option jm_V} {o1 : Option jm_V} {o2 : Option jm_V}  (k : Gx (jx_0 L) d md_CityReader_nextToken 152 [o0, o1, o2] [.inl 0] I Q) : Gx (jx_0 L) d md_CityReader_nextToken 151 [o0, o1, o2] [] I Q := by
  show jm_Go d 0 0 md_CityReader_nextToken 151 [o0, o1, o2] [] (jx (jx_0 L) I) (jx_Q (jx_0 L) Q)
  have hd : jm_dc md_CityReader_nextToken.2.1 151 [(.iconst 0, 1)] = true := by decide +kernel
  refine go_iconst hd (fun hd => ?_)
  exact k
theorem b_CityReader_nextToken_152 {L : Nat} {d : Nat} {I : jm_I} {Q : Option jm_V → jm_I → Prop} {x1 : Int} {o2 : Option jm_V} {s0 : Int}  (hz : (-2147483648 ≤ x1 ∧ x1 < 2147483648)) (kt : 2 < x1 → Gx (jx_0 L) d md_CityReader_nextToken 163 [some (.inr (.inl 42)), some (.inl x1), some (.inl s0)] [.inr (.inl 42)] I Q) (kf : ¬ (2 < x1) → Gx (jx_0 L) d md_CityReader_nextToken 159 [some (.inr (.inl 42)), some (.inl x1), some (.inl s0)] [.inr (.inl 42)] I Q) : Gx (jx_0 L) d md_CityReader_nextToken 152 [some (.inr (.inl 42)), some (.inl x1), o2] [.inl s0] I Q := by
  have hz1 := hz
  show jm_Go d 0 0 md_CityReader_nextToken 152 [some (.inr (.inl 42)), some (.inl x1), o2] [.inl s0] (jx (jx_0 L) I) (jx_Q (jx_0 L) Q)
  have hd : jm_dc md_CityReader_nextToken.2.1 152 [(.istore_n 2, 1), (.aload_n 0, 1), (.iload_n 1, 1), (.iconst 2, 1), (.if_icmp .gt 7, 3)] = true := by decide +kernel
  refine go_istore_n (by decide) hd (fun hd => ?_)
  refine go_aload_n rfl hd (fun hd => ?_)
  refine go_iload_n rfl hd (fun hd => ?_)
  refine go_iconst hd (fun hd => ?_)
  exact go_icmp_gt (by decide) hz1 ⟨by decide, by decide⟩ hd kt kf
theorem b_CityReader_nextToken_159 {L : Nat} {d : Nat} {I : jm_I} {Q : Option jm_V → jm_I → Prop} {o0 : Option jm_V} {o1 : Option jm_V} {x2 : Int}  (hz : (-2147483648 ≤ x2 ∧ x2 < 2147483648)) (kt : x2 = 0 → Gx (jx_0 L) d md_CityReader_nextToken 167 [o0, o1, some (.inl x2)] [.inr (.inl 42)] I Q) (kf : ¬ x2 = 0 → Gx (jx_0 L) d md_CityReader_nextToken 163 [o0, o1, some (.inl x2)] [.inr (.inl 42)] I Q) : Gx (jx_0 L) d md_CityReader_nextToken 159 [o0, o1, some (.inl x2)] [.inr (.inl 42)] I Q := by
  have hz1 := hz
  show jm_Go d 0 0 md_CityReader_nextToken 159 [o0, o1, some (.inl x2)] [.inr (.inl 42)] (jx (jx_0 L) I) (jx_Q (jx_0 L) Q)
  have hd : jm_dc md_CityReader_nextToken.2.1 159 [(.iload_n 2, 1), (.ifCond .eq 7, 3)] = true := by decide +kernel
  refine go_iload_n rfl hd (fun hd => ?_)
  exact go_if_eq (by decide) hz1 hd kt kf
theorem b_CityReader_nextToken_163 {L : Nat} {d : Nat} {I : jm_I} {Q : Option jm_V → jm_I → Prop} {o0 : Option jm_V} {o1 : Option jm_V} {o2 : Option jm_V}  (k : Gx (jx_0 L) d md_CityReader_nextToken 168 [o0, o1, o2] [.inl 2, .inr (.inl 42)] I Q) : Gx (jx_0 L) d md_CityReader_nextToken 163 [o0, o1, o2] [.inr (.inl 42)] I Q := by
  show jm_Go d 0 0 md_CityReader_nextToken 163 [o0, o1, o2] [.inr (.inl 42)] (jx (jx_0 L) I) (jx_Q (jx_0 L) Q)
  have hd : jm_dc md_CityReader_nextToken.2.1 163 [(.iconst 2, 1), (.goto 4, 3)] = true := by decide +kernel
  refine go_iconst hd (fun hd => ?_)
  exact go_goto (by decide) hd k
theorem b_CityReader_nextToken_167 {L : Nat} {d : Nat} {I : jm_I} {Q : Option jm_V → jm_I → Prop} {o0 : Option jm_V} {o1 : Option jm_V} {o2 : Option jm_V}  (k : Gx (jx_0 L) d md_CityReader_nextToken 168 [o0, o1, o2] [.inl 1, .inr (.inl 42)] I Q) : Gx (jx_0 L) d md_CityReader_nextToken 167 [o0, o1, o2] [.inr (.inl 42)] I Q := by
  show jm_Go d 0 0 md_CityReader_nextToken 167 [o0, o1, o2] [.inr (.inl 42)] (jx (jx_0 L) I) (jx_Q (jx_0 L) Q)
  have hd : jm_dc md_CityReader_nextToken.2.1 167 [(.iconst 1, 1)] = true := by decide +kernel
  refine go_iconst hd (fun hd => ?_)
  exact k
theorem b_CityReader_nextToken_168 {L : Nat} {d : Nat} {I : jm_I} {Q : Option jm_V → jm_I → Prop} {o0 : Option jm_V} {o1 : Option jm_V} {o2 : Option jm_V} {s1 : Int}  (k : Gx (jx_0 L) d md_CityReader_nextToken 235 [o0, o1, o2] [] (jm_up I 42 4 s1) Q) : Gx (jx_0 L) d md_CityReader_nextToken 168 [o0, o1, o2] [.inl s1, .inr (.inl 42)] I Q := by
  show jm_Go d 0 0 md_CityReader_nextToken 168 [o0, o1, o2] [.inl s1, .inr (.inl 42)] (jx (jx_0 L) I) (jx_Q (jx_0 L) Q)
  have hd : jm_dc md_CityReader_nextToken.2.1 168 [(.putfield 41, 3), (.goto 64, 3)] = true := by decide +kernel
  refine go_putI co_X1 fl_1_41 (by decide) rfl rfl hd (fun hd => ?_)
  exact go_goto (by decide) hd k
theorem b_CityReader_nextToken_174 {L : Nat} {d : Nat} {I : jm_I} {Q : Option jm_V → jm_I → Prop} {o1 : Option jm_V} {o2 : Option jm_V}  (hz : (-2147483648 ≤ I 42 3 ∧ I 42 3 < 2147483648) ∧ (-2147483648 ≤ I 42 1 ∧ I 42 1 < 2147483648)) (kt : (I 42 3) < (I 42 1) → Gx (jx_0 L) d md_CityReader_nextToken 193 [some (.inr (.inl 42)), o1, o2] [] I Q) (kf : ¬ ((I 42 3) < (I 42 1)) → Gx (jx_0 L) d md_CityReader_nextToken 185 [some (.inr (.inl 42)), o1, o2] [] I Q) : Gx (jx_0 L) d md_CityReader_nextToken 174 [some (.inr (.inl 42)), o1, o2] [] I Q := by
  obtain ⟨hz1, hz2⟩ := hz
  show jm_Go d 0 0 md_CityReader_nextToken 174 [some (.inr (.inl 42)), o1, o2] [] (jx (jx_0 L) I) (jx_Q (jx_0 L) Q)
  have hd : jm_dc md_CityReader_nextToken.2.1 174 [(.aload_n 0, 1), (.getfield 23, 3), (.aload_n 0, 1), (.getfield 15, 3), (.if_icmp .lt 11, 3)] = true := by decide +kernel
  refine go_aload_n rfl hd (fun hd => ?_)
  refine go_getI co_X1 fl_1_23 (by decide) (Or.inl rfl) rfl hd (fun hd => ?_)
  refine go_aload_n rfl hd (fun hd => ?_)
  refine go_getI co_X1 fl_1_15 (by decide) (Or.inl rfl) rfl hd (fun hd => ?_)
  exact go_icmp_lt (by decide) hz1 hz2 hd kt kf
theorem b_CityReader_nextToken_185 {L : Nat} {d : Nat} {I : jm_I} {Q : Option jm_V → jm_I → Prop} {o1 : Option jm_V} {o2 : Option jm_V}  (k : Gx (jx_0 L) d md_CityReader_nextToken 235 [some (.inr (.inl 42)), o1, o2] [] (jm_up I 42 4 0) Q) : Gx (jx_0 L) d md_CityReader_nextToken 185 [some (.inr (.inl 42)), o1, o2] [] I Q := by
  show jm_Go d 0 0 md_CityReader_nextToken 185 [some (.inr (.inl 42)), o1, o2] [] (jx (jx_0 L) I) (jx_Q (jx_0 L) Q)
  have hd : jm_dc md_CityReader_nextToken.2.1 185 [(.aload_n 0, 1), (.iconst 0, 1), (.putfield 41, 3), (.goto 45, 3)] = true := by decide +kernel
  refine go_aload_n rfl hd (fun hd => ?_)
  refine go_iconst hd (fun hd => ?_)
  refine go_putI co_X1 fl_1_41 (by decide) rfl rfl hd (fun hd => ?_)
  exact go_goto (by decide) hd k
theorem b_CityReader_nextToken_193 {L : Nat} {d : Nat} {I : jm_I} {Q : Option jm_V → jm_I → Prop} {o1 : Option jm_V} {o2 : Option jm_V} (hD1 : I 42 0 = ((43 : Nat) : Int)) (hz : (0 ≤ I 42 3 ∧ I 42 3 < 200)) (k : Cx (jx_0 L) d md_CityReader_isKnown [.inl (I 43 (I 42 3).toNat)] I (fun v J => Gx (jx_0 L) (d + 1) md_CityReader_nextToken 206 [some (.inr (.inl 42)), o1, o2] (v.toList ++ [.inr (.inl 42)]) J Q)) : Gx (jx_0 L) (d + 1) md_CityReader_nextToken 193 [some (.inr (.inl 42)), o1, o2] [] I Q := by
  have hz1 := hz
  show jm_Go (d + 1) 0 0 md_CityReader_nextToken 193 [some (.inr (.inl 42)), o1, o2] [] (jx (jx_0 L) I) (jx_Q (jx_0 L) Q)
  have hd : jm_dc md_CityReader_nextToken.2.1 193 [(.aload_n 0, 1), (.aload_n 0, 1), (.getfield 9, 3), (.aload_n 0, 1), (.getfield 23, 3), (.iaload, 1), (.invokestatic 120, 3)] = true := by decide +kernel
  refine go_aload_n rfl hd (fun hd => ?_)
  refine go_aload_n rfl hd (fun hd => ?_)
  refine go_getD co_X1 fl_1_9 (by decide) rfl rfl hD1 (by decide) hd (fun hd => ?_)
  refine go_aload_n rfl hd (fun hd => ?_)
  refine go_getI co_X1 fl_1_23 (by decide) (Or.inl rfl) rfl hd (fun hd => ?_)
  refine go_iaload rfl hz1.1 hz1.2 (by decide) hd (fun hd => ?_)
  exact gx_static [.inl (I 43 (I 42 3).toNat)] [.inr (.inl 42)] mk_CityReader_isKnown ml_1_120 st_CityReader_isKnown rfl (Nat.le_of_ble_eq_true rfl) rfl (Nat.le_of_ble_eq_true rfl) rfl hd k
theorem b_CityReader_nextToken_206 {L : Nat} {d : Nat} {I : jm_I} {Q : Option jm_V → jm_I → Prop} {o0 : Option jm_V} {o1 : Option jm_V} {o2 : Option jm_V} {s1 : Int}  (hz : (-2147483648 ≤ s1 ∧ s1 < 2147483648)) (kt : s1 = 0 → Gx (jx_0 L) d md_CityReader_nextToken 221 [o0, o1, o2] [.inr (.inl 42)] I Q) (kf : ¬ s1 = 0 → Gx (jx_0 L) d md_CityReader_nextToken 209 [o0, o1, o2] [.inr (.inl 42)] I Q) : Gx (jx_0 L) d md_CityReader_nextToken 206 [o0, o1, o2] [.inl s1, .inr (.inl 42)] I Q := by
  have hz1 := hz
  show jm_Go d 0 0 md_CityReader_nextToken 206 [o0, o1, o2] [.inl s1, .inr (.inl 42)] (jx (jx_0 L) I) (jx_Q (jx_0 L) Q)
  have hd : jm_dc md_CityReader_nextToken.2.1 206 [(.ifCond .eq 15, 3)] = true := by decide +kernel
  exact go_if_eq (by decide) hz1 hd kt kf
theorem b_CityReader_nextToken_209 {L : Nat} {d : Nat} {I : jm_I} {Q : Option jm_V → jm_I → Prop} {o1 : Option jm_V} {o2 : Option jm_V} (hD1 : I 42 0 = ((43 : Nat) : Int)) (hz : (0 ≤ I 42 3 ∧ I 42 3 < 200)) (k : Gx (jx_0 L) d md_CityReader_nextToken 222 [some (.inr (.inl 42)), o1, o2] [.inl (I 43 (I 42 3).toNat), .inr (.inl 42)] I Q) : Gx (jx_0 L) d md_CityReader_nextToken 209 [some (.inr (.inl 42)), o1, o2] [.inr (.inl 42)] I Q := by
  have hz1 := hz
  show jm_Go d 0 0 md_CityReader_nextToken 209 [some (.inr (.inl 42)), o1, o2] [.inr (.inl 42)] (jx (jx_0 L) I) (jx_Q (jx_0 L) Q)
  have hd : jm_dc md_CityReader_nextToken.2.1 209 [(.aload_n 0, 1), (.getfield 9, 3), (.aload_n 0, 1), (.getfield 23, 3), (.iaload, 1), (.goto 4, 3)] = true := by decide +kernel
  refine go_aload_n rfl hd (fun hd => ?_)
  refine go_getD co_X1 fl_1_9 (by decide) rfl rfl hD1 (by decide) hd (fun hd => ?_)
  refine go_aload_n rfl hd (fun hd => ?_)
  refine go_getI co_X1 fl_1_23 (by decide) (Or.inl rfl) rfl hd (fun hd => ?_)
  refine go_iaload rfl hz1.1 hz1.2 (by decide) hd (fun hd => ?_)
  exact go_goto (by decide) hd k
theorem b_CityReader_nextToken_221 {L : Nat} {d : Nat} {I : jm_I} {Q : Option jm_V → jm_I → Prop} {o0 : Option jm_V} {o1 : Option jm_V} {o2 : Option jm_V}  (k : Gx (jx_0 L) d md_CityReader_nextToken 222 [o0, o1, o2] [.inl 2, .inr (.inl 42)] I Q) : Gx (jx_0 L) d md_CityReader_nextToken 221 [o0, o1, o2] [.inr (.inl 42)] I Q := by
  show jm_Go d 0 0 md_CityReader_nextToken 221 [o0, o1, o2] [.inr (.inl 42)] (jx (jx_0 L) I) (jx_Q (jx_0 L) Q)
  have hd : jm_dc md_CityReader_nextToken.2.1 221 [(.iconst 2, 1)] = true := by decide +kernel
  refine go_iconst hd (fun hd => ?_)
  exact k
theorem b_CityReader_nextToken_222 {L : Nat} {d : Nat} {I : jm_I} {Q : Option jm_V → jm_I → Prop} {o1 : Option jm_V} {o2 : Option jm_V} {s1 : Int}  (k : Gx (jx_0 L) d md_CityReader_nextToken 235 [some (.inr (.inl 42)), o1, o2] [] (jm_up (jm_up I 42 4 s1) 42 3 ((I 42 3) + 1)) Q) : Gx (jx_0 L) d md_CityReader_nextToken 222 [some (.inr (.inl 42)), o1, o2] [.inl s1, .inr (.inl 42)] I Q := by
  show jm_Go d 0 0 md_CityReader_nextToken 222 [some (.inr (.inl 42)), o1, o2] [.inl s1, .inr (.inl 42)] (jx (jx_0 L) I) (jx_Q (jx_0 L) Q)
  have hd : jm_dc md_CityReader_nextToken.2.1 222 [(.putfield 41, 3), (.aload_n 0, 1), (.dup, 1), (.getfield 23, 3), (.iconst 1, 1), (.iadd, 1), (.putfield 23, 3)] = true := by decide +kernel
  refine go_putI co_X1 fl_1_41 (by decide) rfl rfl hd (fun hd => ?_)
  refine go_aload_n rfl hd (fun hd => ?_)
  refine go_dup rfl hd (fun hd => ?_)
  refine go_getI co_X1 fl_1_23 (by decide) (Or.inl rfl) rfl hd (fun hd => ?_)
  refine go_iconst hd (fun hd => ?_)
  refine go_iadd hd (fun hd => ?_)
  refine go_putI co_X1 fl_1_23 (by decide) rfl rfl hd (fun hd => ?_)
  exact k
theorem b_CityReader_nextToken_235 {L : Nat} {d : Nat} {I : jm_I} {Q : Option jm_V → jm_I → Prop} {o0 : Option jm_V} {o1 : Option jm_V} {o2 : Option jm_V}  (k : Q none I) : Gx (jx_0 L) d md_CityReader_nextToken 235 [o0, o1, o2] [] I Q := by
  show jm_Go d 0 0 md_CityReader_nextToken 235 [o0, o1, o2] [] (jx (jx_0 L) I) (jx_Q (jx_0 L) Q)
  have hd : jm_dc md_CityReader_nextToken.2.1 235 [(.return_, 1)] = true := by decide +kernel
  exact go_vreturn hd rfl ⟨_, rfl, k⟩
theorem b_CityReader_isDigit_0 {L : Nat} {d : Nat} {I : jm_I} {Q : Option jm_V → jm_I → Prop} {x0 : Int}  (hz : (-2147483648 ≤ x0 ∧ x0 < 2147483648)) (kt : x0 < 48 → Gx (jx_0 L) d md_CityReader_isDigit 16 [some (.inl x0)] [] I Q) (kf : ¬ (x0 < 48) → Gx (jx_0 L) d md_CityReader_isDigit 6 [some (.inl x0)] [] I Q) : Cx (jx_0 L) d md_CityReader_isDigit [.inl x0] I Q := by
  have hz1 := hz
  show jm_Go d 0 0 md_CityReader_isDigit 0 [some (.inl x0)] [] (jx (jx_0 L) I) (jx_Q (jx_0 L) Q)
  have hd : jm_dc md_CityReader_isDigit.2.1 0 [(.iload_n 0, 1), (.bipush 48, 2), (.if_icmp .lt 13, 3)] = true := by decide +kernel
  refine go_iload_n rfl hd (fun hd => ?_)
  refine go_bipush (by decide) hd (fun hd => ?_)
  exact go_icmp_lt (by decide) hz1 ⟨by decide, by decide⟩ hd kt kf
theorem b_CityReader_isDigit_6 {L : Nat} {d : Nat} {I : jm_I} {Q : Option jm_V → jm_I → Prop} {x0 : Int}  (hz : (-2147483648 ≤ x0 ∧ x0 < 2147483648)) (kt : 57 < x0 → Gx (jx_0 L) d md_CityReader_isDigit 16 [some (.inl x0)] [] I Q) (kf : ¬ (57 < x0) → Gx (jx_0 L) d md_CityReader_isDigit 12 [some (.inl x0)] [] I Q) : Gx (jx_0 L) d md_CityReader_isDigit 6 [some (.inl x0)] [] I Q := by
  have hz1 := hz
  show jm_Go d 0 0 md_CityReader_isDigit 6 [some (.inl x0)] [] (jx (jx_0 L) I) (jx_Q (jx_0 L) Q)
  have hd : jm_dc md_CityReader_isDigit.2.1 6 [(.iload_n 0, 1), (.bipush 57, 2), (.if_icmp .gt 7, 3)] = true := by decide +kernel
  refine go_iload_n rfl hd (fun hd => ?_)
  refine go_bipush (by decide) hd (fun hd => ?_)
  exact go_icmp_gt (by decide) hz1 ⟨by decide, by decide⟩ hd kt kf
theorem b_CityReader_isDigit_12 {L : Nat} {d : Nat} {I : jm_I} {Q : Option jm_V → jm_I → Prop} {o0 : Option jm_V}  (k : Gx (jx_0 L) d md_CityReader_isDigit 17 [o0] [.inl 1] I Q) : Gx (jx_0 L) d md_CityReader_isDigit 12 [o0] [] I Q := by
  show jm_Go d 0 0 md_CityReader_isDigit 12 [o0] [] (jx (jx_0 L) I) (jx_Q (jx_0 L) Q)
  have hd : jm_dc md_CityReader_isDigit.2.1 12 [(.iconst 1, 1), (.goto 4, 3)] = true := by decide +kernel
  refine go_iconst hd (fun hd => ?_)
  exact go_goto (by decide) hd k
theorem b_CityReader_isDigit_16 {L : Nat} {d : Nat} {I : jm_I} {Q : Option jm_V → jm_I → Prop} {o0 : Option jm_V}  (k : Gx (jx_0 L) d md_CityReader_isDigit 17 [o0] [.inl 0] I Q) : Gx (jx_0 L) d md_CityReader_isDigit 16 [o0] [] I Q := by
  show jm_Go d 0 0 md_CityReader_isDigit 16 [o0] [] (jx (jx_0 L) I) (jx_Q (jx_0 L) Q)
  have hd : jm_dc md_CityReader_isDigit.2.1 16 [(.iconst 0, 1)] = true := by decide +kernel
  refine go_iconst hd (fun hd => ?_)
  exact k
theorem b_CityReader_isDigit_17 {L : Nat} {d : Nat} {I : jm_I} {Q : Option jm_V → jm_I → Prop} {o0 : Option jm_V} {s0 : Int}  (hz : (s0 = 0 ∨ s0 = 1)) (k : Q (some (.inl s0)) I) : Gx (jx_0 L) d md_CityReader_isDigit 17 [o0] [.inl s0] I Q := by
  have hz1 := hz
  show jm_Go d 0 0 md_CityReader_isDigit 17 [o0] [.inl s0] (jx (jx_0 L) I) (jx_Q (jx_0 L) Q)
  have hd : jm_dc md_CityReader_isDigit.2.1 17 [(.ireturn, 1)] = true := by decide +kernel
  exact go_zreturn hd rfl hz1 ⟨_, rfl, k⟩
theorem b_CityReader_isKnown_0 {L : Nat} {d : Nat} {I : jm_I} {Q : Option jm_V → jm_I → Prop} {x0 : Int}  (hz : (-2147483648 ≤ x0 ∧ x0 < 2147483648)) (kt : x0 = 114 → Gx (jx_0 L) d md_CityReader_isKnown 36 [some (.inl x0)] [] I Q) (kf : ¬ x0 = 114 → Gx (jx_0 L) d md_CityReader_isKnown 6 [some (.inl x0)] [] I Q) : Cx (jx_0 L) d md_CityReader_isKnown [.inl x0] I Q := by
  have hz1 := hz
  show jm_Go d 0 0 md_CityReader_isKnown 0 [some (.inl x0)] [] (jx (jx_0 L) I) (jx_Q (jx_0 L) Q)
  have hd : jm_dc md_CityReader_isKnown.2.1 0 [(.iload_n 0, 1), (.bipush 114, 2), (.if_icmp .eq 33, 3)] = true := by decide +kernel
  refine go_iload_n rfl hd (fun hd => ?_)
  refine go_bipush (by decide) hd (fun hd => ?_)
  exact go_icmp_eq (by decide) hz1 ⟨by decide, by decide⟩ hd kt kf
theorem b_CityReader_isKnown_6 {L : Nat} {d : Nat} {I : jm_I} {Q : Option jm_V → jm_I → Prop} {x0 : Int}  (hz : (-2147483648 ≤ x0 ∧ x0 < 2147483648)) (kt : x0 = 115 → Gx (jx_0 L) d md_CityReader_isKnown 36 [some (.inl x0)] [] I Q) (kf : ¬ x0 = 115 → Gx (jx_0 L) d md_CityReader_isKnown 12 [some (.inl x0)] [] I Q) : Gx (jx_0 L) d md_CityReader_isKnown 6 [some (.inl x0)] [] I Q := by
  have hz1 := hz
  show jm_Go d 0 0 md_CityReader_isKnown 6 [some (.inl x0)] [] (jx (jx_0 L) I) (jx_Q (jx_0 L) Q)
  have hd : jm_dc md_CityReader_isKnown.2.1 6 [(.iload_n 0, 1), (.bipush 115, 2), (.if_icmp .eq 27, 3)] = true := by decide +kernel
  refine go_iload_n rfl hd (fun hd => ?_)
  refine go_bipush (by decide) hd (fun hd => ?_)
  exact go_icmp_eq (by decide) hz1 ⟨by decide, by decide⟩ hd kt kf
theorem b_CityReader_isKnown_12 {L : Nat} {d : Nat} {I : jm_I} {Q : Option jm_V → jm_I → Prop} {x0 : Int}  (hz : (-2147483648 ≤ x0 ∧ x0 < 2147483648)) (kt : x0 = 100 → Gx (jx_0 L) d md_CityReader_isKnown 36 [some (.inl x0)] [] I Q) (kf : ¬ x0 = 100 → Gx (jx_0 L) d md_CityReader_isKnown 18 [some (.inl x0)] [] I Q) : Gx (jx_0 L) d md_CityReader_isKnown 12 [some (.inl x0)] [] I Q := by
  have hz1 := hz
  show jm_Go d 0 0 md_CityReader_isKnown 12 [some (.inl x0)] [] (jx (jx_0 L) I) (jx_Q (jx_0 L) Q)
  have hd : jm_dc md_CityReader_isKnown.2.1 12 [(.iload_n 0, 1), (.bipush 100, 2), (.if_icmp .eq 21, 3)] = true := by decide +kernel
  refine go_iload_n rfl hd (fun hd => ?_)
  refine go_bipush (by decide) hd (fun hd => ?_)
  exact go_icmp_eq (by decide) hz1 ⟨by decide, by decide⟩ hd kt kf
theorem b_CityReader_isKnown_18 {L : Nat} {d : Nat} {I : jm_I} {Q : Option jm_V → jm_I → Prop} {x0 : Int}  (hz : (-2147483648 ≤ x0 ∧ x0 < 2147483648)) (kt : x0 = 112 → Gx (jx_0 L) d md_CityReader_isKnown 36 [some (.inl x0)] [] I Q) (kf : ¬ x0 = 112 → Gx (jx_0 L) d md_CityReader_isKnown 24 [some (.inl x0)] [] I Q) : Gx (jx_0 L) d md_CityReader_isKnown 18 [some (.inl x0)] [] I Q := by
  have hz1 := hz
  show jm_Go d 0 0 md_CityReader_isKnown 18 [some (.inl x0)] [] (jx (jx_0 L) I) (jx_Q (jx_0 L) Q)
  have hd : jm_dc md_CityReader_isKnown.2.1 18 [(.iload_n 0, 1), (.bipush 112, 2), (.if_icmp .eq 15, 3)] = true := by decide +kernel
  refine go_iload_n rfl hd (fun hd => ?_)
  refine go_bipush (by decide) hd (fun hd => ?_)
  exact go_icmp_eq (by decide) hz1 ⟨by decide, by decide⟩ hd kt kf
theorem b_CityReader_isKnown_24 {L : Nat} {d : Nat} {I : jm_I} {Q : Option jm_V → jm_I → Prop} {x0 : Int}  (hz : (-2147483648 ≤ x0 ∧ x0 < 2147483648)) (kt : x0 = 116 → Gx (jx_0 L) d md_CityReader_isKnown 36 [some (.inl x0)] [] I Q) (kf : ¬ x0 = 116 → Gx (jx_0 L) d md_CityReader_isKnown 30 [some (.inl x0)] [] I Q) : Gx (jx_0 L) d md_CityReader_isKnown 24 [some (.inl x0)] [] I Q := by
  have hz1 := hz
  show jm_Go d 0 0 md_CityReader_isKnown 24 [some (.inl x0)] [] (jx (jx_0 L) I) (jx_Q (jx_0 L) Q)
  have hd : jm_dc md_CityReader_isKnown.2.1 24 [(.iload_n 0, 1), (.bipush 116, 2), (.if_icmp .eq 9, 3)] = true := by decide +kernel
  refine go_iload_n rfl hd (fun hd => ?_)
  refine go_bipush (by decide) hd (fun hd => ?_)
  exact go_icmp_eq (by decide) hz1 ⟨by decide, by decide⟩ hd kt kf
theorem b_CityReader_isKnown_30 {L : Nat} {d : Nat} {I : jm_I} {Q : Option jm_V → jm_I → Prop} {x0 : Int}  (hz : (-2147483648 ≤ x0 ∧ x0 < 2147483648)) (kt : ¬ x0 = 59 → Gx (jx_0 L) d md_CityReader_isKnown 40 [some (.inl x0)] [] I Q) (kf : x0 = 59 → Gx (jx_0 L) d md_CityReader_isKnown 36 [some (.inl x0)] [] I Q) : Gx (jx_0 L) d md_CityReader_isKnown 30 [some (.inl x0)] [] I Q := by
  have hz1 := hz
  show jm_Go d 0 0 md_CityReader_isKnown 30 [some (.inl x0)] [] (jx (jx_0 L) I) (jx_Q (jx_0 L) Q)
  have hd : jm_dc md_CityReader_isKnown.2.1 30 [(.iload_n 0, 1), (.bipush 59, 2), (.if_icmp .ne 7, 3)] = true := by decide +kernel
  refine go_iload_n rfl hd (fun hd => ?_)
  refine go_bipush (by decide) hd (fun hd => ?_)
  exact go_icmp_ne (by decide) hz1 ⟨by decide, by decide⟩ hd kt kf
theorem b_CityReader_isKnown_36 {L : Nat} {d : Nat} {I : jm_I} {Q : Option jm_V → jm_I → Prop} {o0 : Option jm_V}  (k : Gx (jx_0 L) d md_CityReader_isKnown 41 [o0] [.inl 1] I Q) : Gx (jx_0 L) d md_CityReader_isKnown 36 [o0] [] I Q := by
  show jm_Go d 0 0 md_CityReader_isKnown 36 [o0] [] (jx (jx_0 L) I) (jx_Q (jx_0 L) Q)
  have hd : jm_dc md_CityReader_isKnown.2.1 36 [(.iconst 1, 1), (.goto 4, 3)] = true := by decide +kernel
  refine go_iconst hd (fun hd => ?_)
  exact go_goto (by decide) hd k
theorem b_CityReader_isKnown_40 {L : Nat} {d : Nat} {I : jm_I} {Q : Option jm_V → jm_I → Prop} {o0 : Option jm_V}  (k : Gx (jx_0 L) d md_CityReader_isKnown 41 [o0] [.inl 0] I Q) : Gx (jx_0 L) d md_CityReader_isKnown 40 [o0] [] I Q := by
  show jm_Go d 0 0 md_CityReader_isKnown 40 [o0] [] (jx (jx_0 L) I) (jx_Q (jx_0 L) Q)
  have hd : jm_dc md_CityReader_isKnown.2.1 40 [(.iconst 0, 1)] = true := by decide +kernel
  refine go_iconst hd (fun hd => ?_)
  exact k
theorem b_CityReader_isKnown_41 {L : Nat} {d : Nat} {I : jm_I} {Q : Option jm_V → jm_I → Prop} {o0 : Option jm_V} {s0 : Int}  (hz : (s0 = 0 ∨ s0 = 1)) (k : Q (some (.inl s0)) I) : Gx (jx_0 L) d md_CityReader_isKnown 41 [o0] [.inl s0] I Q := by
  have hz1 := hz
  show jm_Go d 0 0 md_CityReader_isKnown 41 [o0] [.inl s0] (jx (jx_0 L) I) (jx_Q (jx_0 L) Q)
  have hd : jm_dc md_CityReader_isKnown.2.1 41 [(.ireturn, 1)] = true := by decide +kernel
  exact go_zreturn hd rfl hz1 ⟨_, rfl, k⟩
theorem b_CityReader_readItem_0 {L : Nat} {d : Nat} {I : jm_I} {Q : Option jm_V → jm_I → Prop} {x1 : Int}  (hz : (-2147483648 ≤ I 42 4 ∧ I 42 4 < 2147483648)) (k0 : (I 42 4) = 100 → Gx (jx_0 L) d md_CityReader_readItem 71 [some (.inr (.inl 42)), some (.inl x1)] [] I Q) (k1 : (I 42 4) = 112 → Gx (jx_0 L) d md_CityReader_readItem 78 [some (.inr (.inl 42)), some (.inl x1)] [] I Q) (k2 : (I 42 4) = 114 → Gx (jx_0 L) d md_CityReader_readItem 56 [some (.inr (.inl 42)), some (.inl x1)] [] I Q) (k3 : (I 42 4) = 115 → Gx (jx_0 L) d md_CityReader_readItem 64 [some (.inr (.inl 42)), some (.inl x1)] [] I Q) (k4 : (I 42 4) = 116 → Gx (jx_0 L) d md_CityReader_readItem 85 [some (.inr (.inl 42)), some (.inl x1)] [] I Q) (kd : ¬ (I 42 4) = 100 → ¬ (I 42 4) = 112 → ¬ (I 42 4) = 114 → ¬ (I 42 4) = 115 → ¬ (I 42 4) = 116 → Gx (jx_0 L) d md_CityReader_readItem 92 [some (.inr (.inl 42)), some (.inl x1)] [] I Q) : Cx (jx_0 L) d md_CityReader_readItem [.inr (.inl 42), .inl x1] I Q := by
  have hz1 := hz
  show jm_Go d 0 0 md_CityReader_readItem 0 [some (.inr (.inl 42)), some (.inl x1)] [] (jx (jx_0 L) I) (jx_Q (jx_0 L) Q)
  have hd : jm_dc md_CityReader_readItem.2.1 0 [(.aload_n 0, 1), (.getfield 41, 3), (.lookupswitch 88 #[(100, 67), (112, 74), (114, 52), (115, 60), (116, 81)], 52)] = true := by decide +kernel
  refine go_aload_n rfl hd (fun hd => ?_)
  refine go_getI co_X1 fl_1_41 (by decide) (Or.inl rfl) rfl hd (fun hd => ?_)
  by_cases hq0 : (I 42 4) = 100
  · exact go_lookup (a := I 42 4) (off := 67) (t := 71) hz1 (by decide) (by rw [hq0]; rfl) (by decide) hd (k0 hq0)
  by_cases hq1 : (I 42 4) = 112
  · exact go_lookup (a := I 42 4) (off := 74) (t := 78) hz1 (by decide) (by rw [hq1]; rfl) (by decide) hd (k1 hq1)
  by_cases hq2 : (I 42 4) = 114
  · exact go_lookup (a := I 42 4) (off := 52) (t := 56) hz1 (by decide) (by rw [hq2]; rfl) (by decide) hd (k2 hq2)
  by_cases hq3 : (I 42 4) = 115
  · exact go_lookup (a := I 42 4) (off := 60) (t := 64) hz1 (by decide) (by rw [hq3]; rfl) (by decide) hd (k3 hq3)
  by_cases hq4 : (I 42 4) = 116
  · exact go_lookup (a := I 42 4) (off := 81) (t := 85) hz1 (by decide) (by rw [hq4]; rfl) (by decide) hd (k4 hq4)
  exact go_lookup (a := I 42 4) (off := 88) (t := 92) hz1 (by decide) (by simp [Op.lookupswitch.offset, hq0, hq1, hq2, hq3, hq4, Ne.symm hq0, Ne.symm hq1, Ne.symm hq2, Ne.symm hq3, Ne.symm hq4]) (by decide) hd (kd hq0 hq1 hq2 hq3 hq4)
theorem b_CityReader_readItem_56 {L : Nat} {d : Nat} {I : jm_I} {Q : Option jm_V → jm_I → Prop} {x1 : Int}  (k : Cx (jx_0 L) d md_CityReader_readRooms [.inr (.inl 42), .inl x1] I (fun v J => Gx (jx_0 L) (d + 1) md_CityReader_readItem 61 [some (.inr (.inl 42)), some (.inl x1)] (v.toList ++ []) J Q)) : Gx (jx_0 L) (d + 1) md_CityReader_readItem 56 [some (.inr (.inl 42)), some (.inl x1)] [] I Q := by
  show jm_Go (d + 1) 0 0 md_CityReader_readItem 56 [some (.inr (.inl 42)), some (.inl x1)] [] (jx (jx_0 L) I) (jx_Q (jx_0 L) Q)
  have hd : jm_dc md_CityReader_readItem.2.1 56 [(.aload_n 0, 1), (.iload_n 1, 1), (.invokevirtual 51, 3)] = true := by decide +kernel
  refine go_aload_n rfl hd (fun hd => ?_)
  refine go_iload_n rfl hd (fun hd => ?_)
  exact gx_virtual 42 1 [.inl x1] [] mk_CityReader_readRooms co_X1 rfl ml_1_51 in_CityReader_readRooms se_CityReader_readRooms rfl rfl (Nat.le_of_ble_eq_true rfl) rfl (Nat.le_of_ble_eq_true rfl) rfl hd k
theorem b_CityReader_readItem_61 {L : Nat} {d : Nat} {I : jm_I} {Q : Option jm_V → jm_I → Prop} {o0 : Option jm_V} {o1 : Option jm_V}  (k : Gx (jx_0 L) d md_CityReader_readItem 96 [o0, o1] [] I Q) : Gx (jx_0 L) d md_CityReader_readItem 61 [o0, o1] [] I Q := by
  show jm_Go d 0 0 md_CityReader_readItem 61 [o0, o1] [] (jx (jx_0 L) I) (jx_Q (jx_0 L) Q)
  have hd : jm_dc md_CityReader_readItem.2.1 61 [(.goto 35, 3)] = true := by decide +kernel
  exact go_goto (by decide) hd k
theorem b_CityReader_readItem_64 {L : Nat} {d : Nat} {I : jm_I} {Q : Option jm_V → jm_I → Prop} {o1 : Option jm_V}  (k : Cx (jx_0 L) d md_CityReader_readSteps [.inr (.inl 42)] I (fun v J => Gx (jx_0 L) (d + 1) md_CityReader_readItem 68 [some (.inr (.inl 42)), o1] (v.toList ++ []) J Q)) : Gx (jx_0 L) (d + 1) md_CityReader_readItem 64 [some (.inr (.inl 42)), o1] [] I Q := by
  show jm_Go (d + 1) 0 0 md_CityReader_readItem 64 [some (.inr (.inl 42)), o1] [] (jx (jx_0 L) I) (jx_Q (jx_0 L) Q)
  have hd : jm_dc md_CityReader_readItem.2.1 64 [(.aload_n 0, 1), (.invokevirtual 54, 3)] = true := by decide +kernel
  refine go_aload_n rfl hd (fun hd => ?_)
  exact gx_virtual 42 1 [] [] mk_CityReader_readSteps co_X1 rfl ml_1_54 in_CityReader_readSteps se_CityReader_readSteps rfl rfl (Nat.le_of_ble_eq_true rfl) rfl (Nat.le_of_ble_eq_true rfl) rfl hd k
theorem b_CityReader_readItem_68 {L : Nat} {d : Nat} {I : jm_I} {Q : Option jm_V → jm_I → Prop} {o0 : Option jm_V} {o1 : Option jm_V}  (k : Gx (jx_0 L) d md_CityReader_readItem 96 [o0, o1] [] I Q) : Gx (jx_0 L) d md_CityReader_readItem 68 [o0, o1] [] I Q := by
  show jm_Go d 0 0 md_CityReader_readItem 68 [o0, o1] [] (jx (jx_0 L) I) (jx_Q (jx_0 L) Q)
  have hd : jm_dc md_CityReader_readItem.2.1 68 [(.goto 28, 3)] = true := by decide +kernel
  exact go_goto (by decide) hd k
theorem b_CityReader_readItem_71 {L : Nat} {d : Nat} {I : jm_I} {Q : Option jm_V → jm_I → Prop} {o1 : Option jm_V}  (k : Cx (jx_0 L) d md_CityReader_readDoor [.inr (.inl 42)] I (fun v J => Gx (jx_0 L) (d + 1) md_CityReader_readItem 75 [some (.inr (.inl 42)), o1] (v.toList ++ []) J Q)) : Gx (jx_0 L) (d + 1) md_CityReader_readItem 71 [some (.inr (.inl 42)), o1] [] I Q := by
  show jm_Go (d + 1) 0 0 md_CityReader_readItem 71 [some (.inr (.inl 42)), o1] [] (jx (jx_0 L) I) (jx_Q (jx_0 L) Q)
  have hd : jm_dc md_CityReader_readItem.2.1 71 [(.aload_n 0, 1), (.invokevirtual 57, 3)] = true := by decide +kernel
  refine go_aload_n rfl hd (fun hd => ?_)
  exact gx_virtual 42 1 [] [] mk_CityReader_readDoor co_X1 rfl ml_1_57 in_CityReader_readDoor se_CityReader_readDoor rfl rfl (Nat.le_of_ble_eq_true rfl) rfl (Nat.le_of_ble_eq_true rfl) rfl hd k
theorem b_CityReader_readItem_75 {L : Nat} {d : Nat} {I : jm_I} {Q : Option jm_V → jm_I → Prop} {o0 : Option jm_V} {o1 : Option jm_V}  (k : Gx (jx_0 L) d md_CityReader_readItem 96 [o0, o1] [] I Q) : Gx (jx_0 L) d md_CityReader_readItem 75 [o0, o1] [] I Q := by
  show jm_Go d 0 0 md_CityReader_readItem 75 [o0, o1] [] (jx (jx_0 L) I) (jx_Q (jx_0 L) Q)
  have hd : jm_dc md_CityReader_readItem.2.1 75 [(.goto 21, 3)] = true := by decide +kernel
  exact go_goto (by decide) hd k
theorem b_CityReader_readItem_78 {L : Nat} {d : Nat} {I : jm_I} {Q : Option jm_V → jm_I → Prop} {o1 : Option jm_V}  (k : Cx (jx_0 L) d md_CityReader_readPerson [.inr (.inl 42)] I (fun v J => Gx (jx_0 L) (d + 1) md_CityReader_readItem 82 [some (.inr (.inl 42)), o1] (v.toList ++ []) J Q)) : Gx (jx_0 L) (d + 1) md_CityReader_readItem 78 [some (.inr (.inl 42)), o1] [] I Q := by
  show jm_Go (d + 1) 0 0 md_CityReader_readItem 78 [some (.inr (.inl 42)), o1] [] (jx (jx_0 L) I) (jx_Q (jx_0 L) Q)
  have hd : jm_dc md_CityReader_readItem.2.1 78 [(.aload_n 0, 1), (.invokevirtual 60, 3)] = true := by decide +kernel
  refine go_aload_n rfl hd (fun hd => ?_)
  exact gx_virtual 42 1 [] [] mk_CityReader_readPerson co_X1 rfl ml_1_60 in_CityReader_readPerson se_CityReader_readPerson rfl rfl (Nat.le_of_ble_eq_true rfl) rfl (Nat.le_of_ble_eq_true rfl) rfl hd k
theorem b_CityReader_readItem_82 {L : Nat} {d : Nat} {I : jm_I} {Q : Option jm_V → jm_I → Prop} {o0 : Option jm_V} {o1 : Option jm_V}  (k : Gx (jx_0 L) d md_CityReader_readItem 96 [o0, o1] [] I Q) : Gx (jx_0 L) d md_CityReader_readItem 82 [o0, o1] [] I Q := by
  show jm_Go d 0 0 md_CityReader_readItem 82 [o0, o1] [] (jx (jx_0 L) I) (jx_Q (jx_0 L) Q)
  have hd : jm_dc md_CityReader_readItem.2.1 82 [(.goto 14, 3)] = true := by decide +kernel
  exact go_goto (by decide) hd k
theorem b_CityReader_readItem_85 {L : Nat} {d : Nat} {I : jm_I} {Q : Option jm_V → jm_I → Prop} {o1 : Option jm_V}  (k : Cx (jx_0 L) d md_CityReader_readThing [.inr (.inl 42)] I (fun v J => Gx (jx_0 L) (d + 1) md_CityReader_readItem 89 [some (.inr (.inl 42)), o1] (v.toList ++ []) J Q)) : Gx (jx_0 L) (d + 1) md_CityReader_readItem 85 [some (.inr (.inl 42)), o1] [] I Q := by
  show jm_Go (d + 1) 0 0 md_CityReader_readItem 85 [some (.inr (.inl 42)), o1] [] (jx (jx_0 L) I) (jx_Q (jx_0 L) Q)
  have hd : jm_dc md_CityReader_readItem.2.1 85 [(.aload_n 0, 1), (.invokevirtual 63, 3)] = true := by decide +kernel
  refine go_aload_n rfl hd (fun hd => ?_)
  exact gx_virtual 42 1 [] [] mk_CityReader_readThing co_X1 rfl ml_1_63 in_CityReader_readThing se_CityReader_readThing rfl rfl (Nat.le_of_ble_eq_true rfl) rfl (Nat.le_of_ble_eq_true rfl) rfl hd k
theorem b_CityReader_readItem_89 {L : Nat} {d : Nat} {I : jm_I} {Q : Option jm_V → jm_I → Prop} {o0 : Option jm_V} {o1 : Option jm_V}  (k : Gx (jx_0 L) d md_CityReader_readItem 96 [o0, o1] [] I Q) : Gx (jx_0 L) d md_CityReader_readItem 89 [o0, o1] [] I Q := by
  show jm_Go d 0 0 md_CityReader_readItem 89 [o0, o1] [] (jx (jx_0 L) I) (jx_Q (jx_0 L) Q)
  have hd : jm_dc md_CityReader_readItem.2.1 89 [(.goto 7, 3)] = true := by decide +kernel
  exact go_goto (by decide) hd k
theorem b_CityReader_readItem_92 {L : Nat} {d : Nat} {I : jm_I} {Q : Option jm_V → jm_I → Prop} {o1 : Option jm_V}  (k : Cx (jx_0 L) d md_CityReader_refuse [.inr (.inl 42)] I (fun v J => Gx (jx_0 L) (d + 1) md_CityReader_readItem 96 [some (.inr (.inl 42)), o1] (v.toList ++ []) J Q)) : Gx (jx_0 L) (d + 1) md_CityReader_readItem 92 [some (.inr (.inl 42)), o1] [] I Q := by
  show jm_Go (d + 1) 0 0 md_CityReader_readItem 92 [some (.inr (.inl 42)), o1] [] (jx (jx_0 L) I) (jx_Q (jx_0 L) Q)
  have hd : jm_dc md_CityReader_readItem.2.1 92 [(.aload_n 0, 1), (.invokevirtual 66, 3)] = true := by decide +kernel
  refine go_aload_n rfl hd (fun hd => ?_)
  exact gx_virtual 42 1 [] [] mk_CityReader_refuse co_X1 rfl ml_1_66 in_CityReader_refuse se_CityReader_refuse rfl rfl (Nat.le_of_ble_eq_true rfl) rfl (Nat.le_of_ble_eq_true rfl) rfl hd k
theorem b_CityReader_readItem_96 {L : Nat} {d : Nat} {I : jm_I} {Q : Option jm_V → jm_I → Prop} {o0 : Option jm_V} {o1 : Option jm_V}  (k : Q none I) : Gx (jx_0 L) d md_CityReader_readItem 96 [o0, o1] [] I Q := by
  show jm_Go d 0 0 md_CityReader_readItem 96 [o0, o1] [] (jx (jx_0 L) I) (jx_Q (jx_0 L) Q)
  have hd : jm_dc md_CityReader_readItem.2.1 96 [(.return_, 1)] = true := by decide +kernel
  exact go_vreturn hd rfl ⟨_, rfl, k⟩
theorem b_CityReader_readRooms_0 {L : Nat} {d : Nat} {I : jm_I} {Q : Option jm_V → jm_I → Prop} {x1 : Int}  (hz : (-2147483648 ≤ x1 ∧ x1 < 2147483648)) (kt : x1 ≤ 0 → Gx (jx_0 L) d md_CityReader_readRooms 9 [some (.inr (.inl 42)), some (.inl x1)] [] I Q) (kf : ¬ (x1 ≤ 0) → Gx (jx_0 L) d md_CityReader_readRooms 4 [some (.inr (.inl 42)), some (.inl x1)] [] I Q) : Cx (jx_0 L) d md_CityReader_readRooms [.inr (.inl 42), .inl x1] I Q := by
  have hz1 := hz
  show jm_Go d 0 0 md_CityReader_readRooms 0 [some (.inr (.inl 42)), some (.inl x1)] [] (jx (jx_0 L) I) (jx_Q (jx_0 L) Q)
  have hd : jm_dc md_CityReader_readRooms.2.1 0 [(.iload_n 1, 1), (.ifCond .le 8, 3)] = true := by decide +kernel
  refine go_iload_n rfl hd (fun hd => ?_)
  exact go_if_le (by decide) hz1 hd kt kf
theorem b_CityReader_readRooms_4 {L : Nat} {d : Nat} {I : jm_I} {Q : Option jm_V → jm_I → Prop} {o1 : Option jm_V}  (k : Cx (jx_0 L) d md_CityReader_refuse [.inr (.inl 42)] I (fun v J => Gx (jx_0 L) (d + 1) md_CityReader_readRooms 8 [some (.inr (.inl 42)), o1] (v.toList ++ []) J Q)) : Gx (jx_0 L) (d + 1) md_CityReader_readRooms 4 [some (.inr (.inl 42)), o1] [] I Q := by
  show jm_Go (d + 1) 0 0 md_CityReader_readRooms 4 [some (.inr (.inl 42)), o1] [] (jx (jx_0 L) I) (jx_Q (jx_0 L) Q)
  have hd : jm_dc md_CityReader_readRooms.2.1 4 [(.aload_n 0, 1), (.invokevirtual 66, 3)] = true := by decide +kernel
  refine go_aload_n rfl hd (fun hd => ?_)
  exact gx_virtual 42 1 [] [] mk_CityReader_refuse co_X1 rfl ml_1_66 in_CityReader_refuse se_CityReader_refuse rfl rfl (Nat.le_of_ble_eq_true rfl) rfl (Nat.le_of_ble_eq_true rfl) rfl hd k
theorem b_CityReader_readRooms_8 {L : Nat} {d : Nat} {I : jm_I} {Q : Option jm_V → jm_I → Prop} {o0 : Option jm_V} {o1 : Option jm_V}  (k : Q none I) : Gx (jx_0 L) d md_CityReader_readRooms 8 [o0, o1] [] I Q := by
  show jm_Go d 0 0 md_CityReader_readRooms 8 [o0, o1] [] (jx (jx_0 L) I) (jx_Q (jx_0 L) Q)
  have hd : jm_dc md_CityReader_readRooms.2.1 8 [(.return_, 1)] = true := by decide +kernel
  exact go_vreturn hd rfl ⟨_, rfl, k⟩
theorem b_CityReader_readRooms_9 {L : Nat} {d : Nat} {I : jm_I} {Q : Option jm_V → jm_I → Prop} {o1 : Option jm_V} {c1 : Nat} (hD1 : I 42 2 = (c1 : Int)) (hc1 : jx_City (jx_0 L) c1) (k : Cx (jx_0 L) d md_CityReader_needNumber [.inr (.inl 42), .inl 2, .inl 6] I (fun v J => Gx (jx_0 L) (d + 1) md_CityReader_readRooms 20 [some (.inr (.inl 42)), o1] (v.toList ++ [.inr (.inl c1)]) J Q)) : Gx (jx_0 L) (d + 1) md_CityReader_readRooms 9 [some (.inr (.inl 42)), o1] [] I Q := by
  show jm_Go (d + 1) 0 0 md_CityReader_readRooms 9 [some (.inr (.inl 42)), o1] [] (jx (jx_0 L) I) (jx_Q (jx_0 L) Q)
  have hd : jm_dc md_CityReader_readRooms.2.1 9 [(.aload_n 0, 1), (.getfield 19, 3), (.aload_n 0, 1), (.iconst 2, 1), (.bipush 6, 2), (.invokevirtual 69, 3)] = true := by decide +kernel
  refine go_aload_n rfl hd (fun hd => ?_)
  refine go_getD co_X1 fl_1_19 (by decide) rfl rfl hD1 (ct_pos hc1) hd (fun hd => ?_)
  refine go_aload_n rfl hd (fun hd => ?_)
  refine go_iconst hd (fun hd => ?_)
  refine go_bipush (by decide) hd (fun hd => ?_)
  exact gx_virtual 42 1 [.inl 2, .inl 6] [.inr (.inl c1)] mk_CityReader_needNumber co_X1 rfl ml_1_69 in_CityReader_needNumber se_CityReader_needNumber rfl rfl (Nat.le_of_ble_eq_true rfl) rfl (Nat.le_of_ble_eq_true rfl) rfl hd k
theorem b_CityReader_readRooms_20 {L : Nat} {d : Nat} {I : jm_I} {Q : Option jm_V → jm_I → Prop} {o0 : Option jm_V} {o1 : Option jm_V} {b0 : Nat} {s1 : Int} (hb0 : jx_City (jx_0 L) b0) (k : Q none (jm_up I b0 0 s1)) : Gx (jx_0 L) d md_CityReader_readRooms 20 [o0, o1] [.inl s1, .inr (.inl b0)] I Q := by
  show jm_Go d 0 0 md_CityReader_readRooms 20 [o0, o1] [.inl s1, .inr (.inl b0)] (jx (jx_0 L) I) (jx_Q (jx_0 L) Q)
  have hd : jm_dc md_CityReader_readRooms.2.1 20 [(.putfield 73, 3), (.return_, 1)] = true := by decide +kernel
  refine go_putI co_X0 fl_1_73 (by decide) rfl (ct_K hb0) hd (fun hd => ?_)
  exact go_vreturn hd rfl ⟨_, rfl, k⟩
theorem b_CityReader_refuse_0 {L : Nat} {d : Nat} {I : jm_I} {Q : Option jm_V → jm_I → Prop}   (hz : (-2147483648 ≤ I 42 8 ∧ I 42 8 < 2147483648)) (kt : ¬ (I 42 8) = (-9) → Gx (jx_0 L) d md_CityReader_refuse 17 [some (.inr (.inl 42))] [] I Q) (kf : (I 42 8) = (-9) → Gx (jx_0 L) d md_CityReader_refuse 9 [some (.inr (.inl 42))] [] I Q) : Cx (jx_0 L) d md_CityReader_refuse [.inr (.inl 42)] I Q := by
  have hz1 := hz
  show jm_Go d 0 0 md_CityReader_refuse 0 [some (.inr (.inl 42))] [] (jx (jx_0 L) I) (jx_Q (jx_0 L) Q)
  have hd : jm_dc md_CityReader_refuse.2.1 0 [(.aload_n 0, 1), (.getfield 30, 3), (.bipush (-9), 2), (.if_icmp .ne 11, 3)] = true := by decide +kernel
  refine go_aload_n rfl hd (fun hd => ?_)
  refine go_getI co_X1 fl_1_30 (by decide) (Or.inl rfl) rfl hd (fun hd => ?_)
  refine go_bipush (by decide) hd (fun hd => ?_)
  exact go_icmp_ne (by decide) hz1 ⟨by decide, by decide⟩ hd kt kf
theorem b_CityReader_refuse_9 {L : Nat} {d : Nat} {I : jm_I} {Q : Option jm_V → jm_I → Prop}   (k : Gx (jx_0 L) d md_CityReader_refuse 17 [some (.inr (.inl 42))] [] (jm_up I 42 8 (I 42 5)) Q) : Gx (jx_0 L) d md_CityReader_refuse 9 [some (.inr (.inl 42))] [] I Q := by
  show jm_Go d 0 0 md_CityReader_refuse 9 [some (.inr (.inl 42))] [] (jx (jx_0 L) I) (jx_Q (jx_0 L) Q)
  have hd : jm_dc md_CityReader_refuse.2.1 9 [(.aload_n 0, 1), (.aload_n 0, 1), (.getfield 113, 3), (.putfield 30, 3)] = true := by decide +kernel
  refine go_aload_n rfl hd (fun hd => ?_)
  refine go_aload_n rfl hd (fun hd => ?_)
  refine go_getI co_X1 fl_1_113 (by decide) (Or.inl rfl) rfl hd (fun hd => ?_)
  refine go_putI co_X1 fl_1_30 (by decide) rfl rfl hd (fun hd => ?_)
  exact k
theorem b_CityReader_refuse_17 {L : Nat} {d : Nat} {I : jm_I} {Q : Option jm_V → jm_I → Prop} {o0 : Option jm_V}  (k : Q none I) : Gx (jx_0 L) d md_CityReader_refuse 17 [o0] [] I Q := by
  show jm_Go d 0 0 md_CityReader_refuse 17 [o0] [] (jx (jx_0 L) I) (jx_Q (jx_0 L) Q)
  have hd : jm_dc md_CityReader_refuse.2.1 17 [(.return_, 1)] = true := by decide +kernel
  exact go_vreturn hd rfl ⟨_, rfl, k⟩
theorem b_CityReader_needNumber_0 {L : Nat} {d : Nat} {I : jm_I} {Q : Option jm_V → jm_I → Prop} {x1 : Int} {x2 : Int}  (hz : (-2147483648 ≤ I 42 8 ∧ I 42 8 < 2147483648)) (kt : (I 42 8) = (-9) → Gx (jx_0 L) d md_CityReader_needNumber 11 [some (.inr (.inl 42)), some (.inl x1), some (.inl x2)] [] I Q) (kf : ¬ (I 42 8) = (-9) → Gx (jx_0 L) d md_CityReader_needNumber 9 [some (.inr (.inl 42)), some (.inl x1), some (.inl x2)] [] I Q) : Cx (jx_0 L) d md_CityReader_needNumber [.inr (.inl 42), .inl x1, .inl x2] I Q := by
  have hz1 := hz
  show jm_Go d 0 0 md_CityReader_needNumber 0 [some (.inr (.inl 42)), some (.inl x1), some (.inl x2)] [] (jx (jx_0 L) I) (jx_Q (jx_0 L) Q)
  have hd : jm_dc md_CityReader_needNumber.2.1 0 [(.aload_n 0, 1), (.getfield 30, 3), (.bipush (-9), 2), (.if_icmp .eq 5, 3)] = true := by decide +kernel
  refine go_aload_n rfl hd (fun hd => ?_)
  refine go_getI co_X1 fl_1_30 (by decide) (Or.inl rfl) rfl hd (fun hd => ?_)
  refine go_bipush (by decide) hd (fun hd => ?_)
  exact go_icmp_eq (by decide) hz1 ⟨by decide, by decide⟩ hd kt kf
theorem b_CityReader_needNumber_9 {L : Nat} {d : Nat} {I : jm_I} {Q : Option jm_V → jm_I → Prop} {o0 : Option jm_V} {x1 : Int} {o2 : Option jm_V}  (k : Q (some (.inl x1)) I) : Gx (jx_0 L) d md_CityReader_needNumber 9 [o0, some (.inl x1), o2] [] I Q := by
  show jm_Go d 0 0 md_CityReader_needNumber 9 [o0, some (.inl x1), o2] [] (jx (jx_0 L) I) (jx_Q (jx_0 L) Q)
  have hd : jm_dc md_CityReader_needNumber.2.1 9 [(.iload_n 1, 1), (.ireturn, 1)] = true := by decide +kernel
  refine go_iload_n rfl hd (fun hd => ?_)
  exact go_ireturn hd rfl ⟨_, rfl, k⟩
theorem b_CityReader_needNumber_11 {L : Nat} {d : Nat} {I : jm_I} {Q : Option jm_V → jm_I → Prop} {o1 : Option jm_V} {o2 : Option jm_V}  (k : Cx (jx_0 L) d md_CityReader_nextToken [.inr (.inl 42)] I (fun v J => Gx (jx_0 L) (d + 1) md_CityReader_needNumber 15 [some (.inr (.inl 42)), o1, o2] (v.toList ++ []) J Q)) : Gx (jx_0 L) (d + 1) md_CityReader_needNumber 11 [some (.inr (.inl 42)), o1, o2] [] I Q := by
  show jm_Go (d + 1) 0 0 md_CityReader_needNumber 11 [some (.inr (.inl 42)), o1, o2] [] (jx (jx_0 L) I) (jx_Q (jx_0 L) Q)
  have hd : jm_dc md_CityReader_needNumber.2.1 11 [(.aload_n 0, 1), (.invokevirtual 38, 3)] = true := by decide +kernel
  refine go_aload_n rfl hd (fun hd => ?_)
  exact gx_virtual 42 1 [] [] mk_CityReader_nextToken co_X1 rfl ml_1_38 in_CityReader_nextToken se_CityReader_nextToken rfl rfl (Nat.le_of_ble_eq_true rfl) rfl (Nat.le_of_ble_eq_true rfl) rfl hd k
theorem b_CityReader_needNumber_15 {L : Nat} {d : Nat} {I : jm_I} {Q : Option jm_V → jm_I → Prop} {o1 : Option jm_V} {o2 : Option jm_V}  (hz : (-2147483648 ≤ I 42 4 ∧ I 42 4 < 2147483648)) (kt : ¬ (I 42 4) = 1 → Gx (jx_0 L) d md_CityReader_needNumber 39 [some (.inr (.inl 42)), o1, o2] [] I Q) (kf : (I 42 4) = 1 → Gx (jx_0 L) d md_CityReader_needNumber 23 [some (.inr (.inl 42)), o1, o2] [] I Q) : Gx (jx_0 L) d md_CityReader_needNumber 15 [some (.inr (.inl 42)), o1, o2] [] I Q := by
  have hz1 := hz
  show jm_Go d 0 0 md_CityReader_needNumber 15 [some (.inr (.inl 42)), o1, o2] [] (jx (jx_0 L) I) (jx_Q (jx_0 L) Q)
  have hd : jm_dc md_CityReader_needNumber.2.1 15 [(.aload_n 0, 1), (.getfield 41, 3), (.iconst 1, 1), (.if_icmp .ne 19, 3)] = true := by decide +kernel
  refine go_aload_n rfl hd (fun hd => ?_)
  refine go_getI co_X1 fl_1_41 (by decide) (Or.inl rfl) rfl hd (fun hd => ?_)
  refine go_iconst hd (fun hd => ?_)
  exact go_icmp_ne (by decide) hz1 ⟨by decide, by decide⟩ hd kt kf
theorem b_CityReader_needNumber_23 {L : Nat} {d : Nat} {I : jm_I} {Q : Option jm_V → jm_I → Prop} {x1 : Int} {o2 : Option jm_V}  (hz : (-2147483648 ≤ I 42 6 ∧ I 42 6 < 2147483648) ∧ (-2147483648 ≤ x1 ∧ x1 < 2147483648)) (kt : (I 42 6) < x1 → Gx (jx_0 L) d md_CityReader_needNumber 39 [some (.inr (.inl 42)), some (.inl x1), o2] [] I Q) (kf : ¬ ((I 42 6) < x1) → Gx (jx_0 L) d md_CityReader_needNumber 31 [some (.inr (.inl 42)), some (.inl x1), o2] [] I Q) : Gx (jx_0 L) d md_CityReader_needNumber 23 [some (.inr (.inl 42)), some (.inl x1), o2] [] I Q := by
  obtain ⟨hz1, hz2⟩ := hz
  show jm_Go d 0 0 md_CityReader_needNumber 23 [some (.inr (.inl 42)), some (.inl x1), o2] [] (jx (jx_0 L) I) (jx_Q (jx_0 L) Q)
  have hd : jm_dc md_CityReader_needNumber.2.1 23 [(.aload_n 0, 1), (.getfield 110, 3), (.iload_n 1, 1), (.if_icmp .lt 11, 3)] = true := by decide +kernel
  refine go_aload_n rfl hd (fun hd => ?_)
  refine go_getI co_X1 fl_1_110 (by decide) (Or.inl rfl) rfl hd (fun hd => ?_)
  refine go_iload_n rfl hd (fun hd => ?_)
  exact go_icmp_lt (by decide) hz1 hz2 hd kt kf
theorem b_CityReader_needNumber_31 {L : Nat} {d : Nat} {I : jm_I} {Q : Option jm_V → jm_I → Prop} {o1 : Option jm_V} {x2 : Int}  (hz : (-2147483648 ≤ I 42 6 ∧ I 42 6 < 2147483648) ∧ (-2147483648 ≤ x2 ∧ x2 < 2147483648)) (kt : (I 42 6) ≤ x2 → Gx (jx_0 L) d md_CityReader_needNumber 45 [some (.inr (.inl 42)), o1, some (.inl x2)] [] I Q) (kf : ¬ ((I 42 6) ≤ x2) → Gx (jx_0 L) d md_CityReader_needNumber 39 [some (.inr (.inl 42)), o1, some (.inl x2)] [] I Q) : Gx (jx_0 L) d md_CityReader_needNumber 31 [some (.inr (.inl 42)), o1, some (.inl x2)] [] I Q := by
  obtain ⟨hz1, hz2⟩ := hz
  show jm_Go d 0 0 md_CityReader_needNumber 31 [some (.inr (.inl 42)), o1, some (.inl x2)] [] (jx (jx_0 L) I) (jx_Q (jx_0 L) Q)
  have hd : jm_dc md_CityReader_needNumber.2.1 31 [(.aload_n 0, 1), (.getfield 110, 3), (.iload_n 2, 1), (.if_icmp .le 9, 3)] = true := by decide +kernel
  refine go_aload_n rfl hd (fun hd => ?_)
  refine go_getI co_X1 fl_1_110 (by decide) (Or.inl rfl) rfl hd (fun hd => ?_)
  refine go_iload_n rfl hd (fun hd => ?_)
  exact go_icmp_le (by decide) hz1 hz2 hd kt kf
theorem b_CityReader_needNumber_39 {L : Nat} {d : Nat} {I : jm_I} {Q : Option jm_V → jm_I → Prop} {o1 : Option jm_V} {o2 : Option jm_V}  (k : Cx (jx_0 L) d md_CityReader_refuse [.inr (.inl 42)] I (fun v J => Gx (jx_0 L) (d + 1) md_CityReader_needNumber 43 [some (.inr (.inl 42)), o1, o2] (v.toList ++ []) J Q)) : Gx (jx_0 L) (d + 1) md_CityReader_needNumber 39 [some (.inr (.inl 42)), o1, o2] [] I Q := by
  show jm_Go (d + 1) 0 0 md_CityReader_needNumber 39 [some (.inr (.inl 42)), o1, o2] [] (jx (jx_0 L) I) (jx_Q (jx_0 L) Q)
  have hd : jm_dc md_CityReader_needNumber.2.1 39 [(.aload_n 0, 1), (.invokevirtual 66, 3)] = true := by decide +kernel
  refine go_aload_n rfl hd (fun hd => ?_)
  exact gx_virtual 42 1 [] [] mk_CityReader_refuse co_X1 rfl ml_1_66 in_CityReader_refuse se_CityReader_refuse rfl rfl (Nat.le_of_ble_eq_true rfl) rfl (Nat.le_of_ble_eq_true rfl) rfl hd k
theorem b_CityReader_needNumber_43 {L : Nat} {d : Nat} {I : jm_I} {Q : Option jm_V → jm_I → Prop} {o0 : Option jm_V} {x1 : Int} {o2 : Option jm_V}  (k : Q (some (.inl x1)) I) : Gx (jx_0 L) d md_CityReader_needNumber 43 [o0, some (.inl x1), o2] [] I Q := by
  show jm_Go d 0 0 md_CityReader_needNumber 43 [o0, some (.inl x1), o2] [] (jx (jx_0 L) I) (jx_Q (jx_0 L) Q)
  have hd : jm_dc md_CityReader_needNumber.2.1 43 [(.iload_n 1, 1), (.ireturn, 1)] = true := by decide +kernel
  refine go_iload_n rfl hd (fun hd => ?_)
  exact go_ireturn hd rfl ⟨_, rfl, k⟩
theorem b_CityReader_needNumber_45 {L : Nat} {d : Nat} {I : jm_I} {Q : Option jm_V → jm_I → Prop} {o1 : Option jm_V} {o2 : Option jm_V}  (k : Q (some (.inl (I 42 6))) I) : Gx (jx_0 L) d md_CityReader_needNumber 45 [some (.inr (.inl 42)), o1, o2] [] I Q := by
  show jm_Go d 0 0 md_CityReader_needNumber 45 [some (.inr (.inl 42)), o1, o2] [] (jx (jx_0 L) I) (jx_Q (jx_0 L) Q)
  have hd : jm_dc md_CityReader_needNumber.2.1 45 [(.aload_n 0, 1), (.getfield 110, 3), (.ireturn, 1)] = true := by decide +kernel
  refine go_aload_n rfl hd (fun hd => ?_)
  refine go_getI co_X1 fl_1_110 (by decide) (Or.inl rfl) rfl hd (fun hd => ?_)
  exact go_ireturn hd rfl ⟨_, rfl, k⟩
theorem b_CityReader_readSteps_0 {L : Nat} {d : Nat} {I : jm_I} {Q : Option jm_V → jm_I → Prop}   (hz : (-2147483648 ≤ I 42 7 ∧ I 42 7 < 2147483648)) (kt : (I 42 7) = 0 → Gx (jx_0 L) d md_CityReader_readSteps 12 [some (.inr (.inl 42))] [] I Q) (kf : ¬ (I 42 7) = 0 → Gx (jx_0 L) d md_CityReader_readSteps 7 [some (.inr (.inl 42))] [] I Q) : Cx (jx_0 L) d md_CityReader_readSteps [.inr (.inl 42)] I Q := by
  have hz1 := hz
  show jm_Go d 0 0 md_CityReader_readSteps 0 [some (.inr (.inl 42))] [] (jx (jx_0 L) I) (jx_Q (jx_0 L) Q)
  have hd : jm_dc md_CityReader_readSteps.2.1 0 [(.aload_n 0, 1), (.getfield 26, 3), (.ifCond .eq 8, 3)] = true := by decide +kernel
  refine go_aload_n rfl hd (fun hd => ?_)
  refine go_getI co_X1 fl_1_26 (by decide) (Or.inr rfl) rfl hd (fun hd => ?_)
  exact go_if_eq (by decide) hz1 hd kt kf
theorem b_CityReader_readSteps_7 {L : Nat} {d : Nat} {I : jm_I} {Q : Option jm_V → jm_I → Prop}   (k : Cx (jx_0 L) d md_CityReader_refuse [.inr (.inl 42)] I (fun v J => Gx (jx_0 L) (d + 1) md_CityReader_readSteps 11 [some (.inr (.inl 42))] (v.toList ++ []) J Q)) : Gx (jx_0 L) (d + 1) md_CityReader_readSteps 7 [some (.inr (.inl 42))] [] I Q := by
  show jm_Go (d + 1) 0 0 md_CityReader_readSteps 7 [some (.inr (.inl 42))] [] (jx (jx_0 L) I) (jx_Q (jx_0 L) Q)
  have hd : jm_dc md_CityReader_readSteps.2.1 7 [(.aload_n 0, 1), (.invokevirtual 66, 3)] = true := by decide +kernel
  refine go_aload_n rfl hd (fun hd => ?_)
  exact gx_virtual 42 1 [] [] mk_CityReader_refuse co_X1 rfl ml_1_66 in_CityReader_refuse se_CityReader_refuse rfl rfl (Nat.le_of_ble_eq_true rfl) rfl (Nat.le_of_ble_eq_true rfl) rfl hd k
theorem b_CityReader_readSteps_11 {L : Nat} {d : Nat} {I : jm_I} {Q : Option jm_V → jm_I → Prop} {o0 : Option jm_V}  (k : Q none I) : Gx (jx_0 L) d md_CityReader_readSteps 11 [o0] [] I Q := by
  show jm_Go d 0 0 md_CityReader_readSteps 11 [o0] [] (jx (jx_0 L) I) (jx_Q (jx_0 L) Q)
  have hd : jm_dc md_CityReader_readSteps.2.1 11 [(.return_, 1)] = true := by decide +kernel
  exact go_vreturn hd rfl ⟨_, rfl, k⟩
theorem b_CityReader_readSteps_12 {L : Nat} {d : Nat} {I : jm_I} {Q : Option jm_V → jm_I → Prop} {c1 : Nat} (hD1 : I 42 2 = (c1 : Int)) (hc1 : jx_City (jx_0 L) c1) (k : Cx (jx_0 L) d md_CityReader_needNumber [.inr (.inl 42), .inl 1, .inl 20] (jm_up I 42 7 1) (fun v J => Gx (jx_0 L) (d + 1) md_CityReader_readSteps 28 [some (.inr (.inl 42))] (v.toList ++ [.inr (.inl c1)]) J Q)) : Gx (jx_0 L) (d + 1) md_CityReader_readSteps 12 [some (.inr (.inl 42))] [] I Q := by
  show jm_Go (d + 1) 0 0 md_CityReader_readSteps 12 [some (.inr (.inl 42))] [] (jx (jx_0 L) I) (jx_Q (jx_0 L) Q)
  have hd : jm_dc md_CityReader_readSteps.2.1 12 [(.aload_n 0, 1), (.iconst 1, 1), (.putfield 26, 3), (.aload_n 0, 1), (.getfield 19, 3), (.aload_n 0, 1), (.iconst 1, 1), (.bipush 20, 2), (.invokevirtual 69, 3)] = true := by decide +kernel
  refine go_aload_n rfl hd (fun hd => ?_)
  refine go_iconst hd (fun hd => ?_)
  refine go_putZ co_X1 fl_1_26 (by decide) rfl rfl (Or.inr rfl) hd (fun hd => ?_)
  refine go_aload_n rfl hd (fun hd => ?_)
  refine go_getD co_X1 fl_1_19 (by decide) rfl rfl hD1 (ct_pos hc1) hd (fun hd => ?_)
  refine go_aload_n rfl hd (fun hd => ?_)
  refine go_iconst hd (fun hd => ?_)
  refine go_bipush (by decide) hd (fun hd => ?_)
  exact gx_virtual 42 1 [.inl 1, .inl 20] [.inr (.inl c1)] mk_CityReader_needNumber co_X1 rfl ml_1_69 in_CityReader_needNumber se_CityReader_needNumber rfl rfl (Nat.le_of_ble_eq_true rfl) rfl (Nat.le_of_ble_eq_true rfl) rfl hd k
theorem b_CityReader_readSteps_28 {L : Nat} {d : Nat} {I : jm_I} {Q : Option jm_V → jm_I → Prop} {o0 : Option jm_V} {b0 : Nat} {s1 : Int} (hb0 : jx_City (jx_0 L) b0) (k : Q none (jm_up I b0 1 s1)) : Gx (jx_0 L) d md_CityReader_readSteps 28 [o0] [.inl s1, .inr (.inl b0)] I Q := by
  show jm_Go d 0 0 md_CityReader_readSteps 28 [o0] [.inl s1, .inr (.inl b0)] (jx (jx_0 L) I) (jx_Q (jx_0 L) Q)
  have hd : jm_dc md_CityReader_readSteps.2.1 28 [(.putfield 76, 3), (.return_, 1)] = true := by decide +kernel
  refine go_putI co_X0 fl_1_76 (by decide) rfl (ct_K hb0) hd (fun hd => ?_)
  exact go_vreturn hd rfl ⟨_, rfl, k⟩
theorem b_CityReader_readDoor_0 {L : Nat} {d : Nat} {I : jm_I} {Q : Option jm_V → jm_I → Prop} {c1 : Nat} (hD1 : I 42 2 = (c1 : Int)) (hc1 : jx_City (jx_0 L) c1) (hz : (-2147483648 ≤ I c1 2 ∧ I c1 2 < 2147483648)) (kt : (I c1 2) < 8 → Gx (jx_0 L) d md_CityReader_readDoor 19 [some (.inr (.inl 42)), some (.inl (I c1 2))] [] I Q) (kf : ¬ ((I c1 2) < 8) → Gx (jx_0 L) d md_CityReader_readDoor 14 [some (.inr (.inl 42)), some (.inl (I c1 2))] [] I Q) : Cx (jx_0 L) d md_CityReader_readDoor [.inr (.inl 42)] I Q := by
  have hz1 := hz
  show jm_Go d 0 0 md_CityReader_readDoor 0 [some (.inr (.inl 42)), none] [] (jx (jx_0 L) I) (jx_Q (jx_0 L) Q)
  have hd : jm_dc md_CityReader_readDoor.2.1 0 [(.aload_n 0, 1), (.getfield 19, 3), (.getfield 79, 3), (.istore_n 1, 1), (.iload_n 1, 1), (.bipush 8, 2), (.if_icmp .lt 8, 3)] = true := by decide +kernel
  refine go_aload_n rfl hd (fun hd => ?_)
  refine go_getD co_X1 fl_1_19 (by decide) rfl rfl hD1 (ct_pos hc1) hd (fun hd => ?_)
  refine go_getI co_X0 fl_1_79 (by decide) (Or.inl rfl) (ct_K hc1) hd (fun hd => ?_)
  refine go_istore_n (by decide) hd (fun hd => ?_)
  refine go_iload_n rfl hd (fun hd => ?_)
  refine go_bipush (by decide) hd (fun hd => ?_)
  exact go_icmp_lt (by decide) hz1 ⟨by decide, by decide⟩ hd kt kf
theorem b_CityReader_readDoor_14 {L : Nat} {d : Nat} {I : jm_I} {Q : Option jm_V → jm_I → Prop} {o1 : Option jm_V}  (k : Cx (jx_0 L) d md_CityReader_refuse [.inr (.inl 42)] I (fun v J => Gx (jx_0 L) (d + 1) md_CityReader_readDoor 18 [some (.inr (.inl 42)), o1] (v.toList ++ []) J Q)) : Gx (jx_0 L) (d + 1) md_CityReader_readDoor 14 [some (.inr (.inl 42)), o1] [] I Q := by
  show jm_Go (d + 1) 0 0 md_CityReader_readDoor 14 [some (.inr (.inl 42)), o1] [] (jx (jx_0 L) I) (jx_Q (jx_0 L) Q)
  have hd : jm_dc md_CityReader_readDoor.2.1 14 [(.aload_n 0, 1), (.invokevirtual 66, 3)] = true := by decide +kernel
  refine go_aload_n rfl hd (fun hd => ?_)
  exact gx_virtual 42 1 [] [] mk_CityReader_refuse co_X1 rfl ml_1_66 in_CityReader_refuse se_CityReader_refuse rfl rfl (Nat.le_of_ble_eq_true rfl) rfl (Nat.le_of_ble_eq_true rfl) rfl hd k
theorem b_CityReader_readDoor_18 {L : Nat} {d : Nat} {I : jm_I} {Q : Option jm_V → jm_I → Prop} {o0 : Option jm_V} {o1 : Option jm_V}  (k : Q none I) : Gx (jx_0 L) d md_CityReader_readDoor 18 [o0, o1] [] I Q := by
  show jm_Go d 0 0 md_CityReader_readDoor 18 [o0, o1] [] (jx (jx_0 L) I) (jx_Q (jx_0 L) Q)
  have hd : jm_dc md_CityReader_readDoor.2.1 18 [(.return_, 1)] = true := by decide +kernel
  exact go_vreturn hd rfl ⟨_, rfl, k⟩
theorem b_CityReader_readDoor_19 {L : Nat} {d : Nat} {I : jm_I} {Q : Option jm_V → jm_I → Prop} {x1 : Int} {c1 : Nat} (hD1 : I 42 2 = (c1 : Int)) (hc1 : jx_City (jx_0 L) c1) (k : Cx (jx_0 L) d md_CityReader_needNumber [.inr (.inl 42), .inl 0, .inl ((I c1 0) - 1)] I (fun v J => Gx (jx_0 L) (d + 1) md_CityReader_readDoor 41 [some (.inr (.inl 42)), some (.inl x1)] (v.toList ++ [.inl x1, .inr (.inl (c1 + 1))]) J Q)) : Gx (jx_0 L) (d + 1) md_CityReader_readDoor 19 [some (.inr (.inl 42)), some (.inl x1)] [] I Q := by
  show jm_Go (d + 1) 0 0 md_CityReader_readDoor 19 [some (.inr (.inl 42)), some (.inl x1)] [] (jx (jx_0 L) I) (jx_Q (jx_0 L) Q)
  have hd : jm_dc md_CityReader_readDoor.2.1 19 [(.aload_n 0, 1), (.getfield 19, 3), (.getfield 82, 3), (.iload_n 1, 1), (.aload_n 0, 1), (.iconst 0, 1), (.aload_n 0, 1), (.getfield 19, 3), (.getfield 73, 3), (.iconst 1, 1), (.isub, 1), (.invokevirtual 69, 3)] = true := by decide +kernel
  refine go_aload_n rfl hd (fun hd => ?_)
  refine go_getD co_X1 fl_1_19 (by decide) rfl rfl hD1 (ct_pos hc1) hd (fun hd => ?_)
  refine go_getR co_X0 fl_1_82 (by decide) rfl (ct_K hc1) (ct_R5 hc1) hd (fun hd => ?_)
  refine go_iload_n rfl hd (fun hd => ?_)
  refine go_aload_n rfl hd (fun hd => ?_)
  refine go_iconst hd (fun hd => ?_)
  refine go_aload_n rfl hd (fun hd => ?_)
  refine go_getD co_X1 fl_1_19 (by decide) rfl rfl hD1 (ct_pos hc1) hd (fun hd => ?_)
  refine go_getI co_X0 fl_1_73 (by decide) (Or.inl rfl) (ct_K hc1) hd (fun hd => ?_)
  refine go_iconst hd (fun hd => ?_)
  refine go_isub hd (fun hd => ?_)
  exact gx_virtual 42 1 [.inl 0, .inl ((I c1 0) - 1)] [.inl x1, .inr (.inl (c1 + 1))] mk_CityReader_needNumber co_X1 rfl ml_1_69 in_CityReader_needNumber se_CityReader_needNumber rfl rfl (Nat.le_of_ble_eq_true rfl) rfl (Nat.le_of_ble_eq_true rfl) rfl hd k
theorem b_CityReader_readDoor_41 {L : Nat} {d : Nat} {I : jm_I} {Q : Option jm_V → jm_I → Prop} {x1 : Int} {b0 nb0 : Nat} {s1 : Int} {s2 : Int} {c1 : Nat} (hb0 : (jx_0 L).2.1 b0 = (20, nb0)) (hD1 : (jm_up I b0 (s1.toNat) s2) 42 2 = (c1 : Int)) (hc1 : jx_City (jx_0 L) c1) (hz : (0 ≤ s1 ∧ s1 < nb0) ∧ (nb0 < 2147483648)) (k : Cx (jx_0 L) d md_CityReader_needNumber [.inr (.inl 42), .inl 0, .inl (((jm_up I b0 (s1.toNat) s2) c1 0) - 1)] (jm_up I b0 (s1.toNat) s2) (fun v J => Gx (jx_0 L) (d + 1) md_CityReader_readDoor 64 [some (.inr (.inl 42)), some (.inl x1)] (v.toList ++ [.inl x1, .inr (.inl (c1 + 2))]) J Q)) : Gx (jx_0 L) (d + 1) md_CityReader_readDoor 41 [some (.inr (.inl 42)), some (.inl x1)] [.inl s2, .inl s1, .inr (.inl b0)] I Q := by
  obtain ⟨hz1, hz2⟩ := hz
  show jm_Go (d + 1) 0 0 md_CityReader_readDoor 41 [some (.inr (.inl 42)), some (.inl x1)] [.inl s2, .inl s1, .inr (.inl b0)] (jx (jx_0 L) I) (jx_Q (jx_0 L) Q)
  have hd : jm_dc md_CityReader_readDoor.2.1 41 [(.iastore, 1), (.aload_n 0, 1), (.getfield 19, 3), (.getfield 85, 3), (.iload_n 1, 1), (.aload_n 0, 1), (.iconst 0, 1), (.aload_n 0, 1), (.getfield 19, 3), (.getfield 73, 3), (.iconst 1, 1), (.isub, 1), (.invokevirtual 69, 3)] = true := by decide +kernel
  refine go_iastore hb0 hz1.1 hz1.2 hz2 hd (fun hd => ?_)
  refine go_aload_n rfl hd (fun hd => ?_)
  refine go_getD co_X1 fl_1_19 (by decide) rfl rfl hD1 (ct_pos hc1) hd (fun hd => ?_)
  refine go_getR co_X0 fl_1_85 (by decide) rfl (ct_K hc1) (ct_R6 hc1) hd (fun hd => ?_)
  refine go_iload_n rfl hd (fun hd => ?_)
  refine go_aload_n rfl hd (fun hd => ?_)
  refine go_iconst hd (fun hd => ?_)
  refine go_aload_n rfl hd (fun hd => ?_)
  refine go_getD co_X1 fl_1_19 (by decide) rfl rfl hD1 (ct_pos hc1) hd (fun hd => ?_)
  refine go_getI co_X0 fl_1_73 (by decide) (Or.inl rfl) (ct_K hc1) hd (fun hd => ?_)
  refine go_iconst hd (fun hd => ?_)
  refine go_isub hd (fun hd => ?_)
  exact gx_virtual 42 1 [.inl 0, .inl (((jm_up I b0 (s1.toNat) s2) c1 0) - 1)] [.inl x1, .inr (.inl (c1 + 2))] mk_CityReader_needNumber co_X1 rfl ml_1_69 in_CityReader_needNumber se_CityReader_needNumber rfl rfl (Nat.le_of_ble_eq_true rfl) rfl (Nat.le_of_ble_eq_true rfl) rfl hd k
theorem b_CityReader_readDoor_64 {L : Nat} {d : Nat} {I : jm_I} {Q : Option jm_V → jm_I → Prop} {x1 : Int} {b0 nb0 : Nat} {s1 : Int} {s2 : Int} {c1 : Nat} (hb0 : (jx_0 L).2.1 b0 = (20, nb0)) (hD1 : (jm_up I b0 (s1.toNat) s2) 42 2 = (c1 : Int)) (hc1 : jx_City (jx_0 L) c1) (hz : (0 ≤ s1 ∧ s1 < nb0) ∧ (nb0 < 2147483648) ∧ (0 ≤ x1 ∧ x1 < 8) ∧ (0 ≤ x1 ∧ x1 < 8) ∧ (-2147483648 ≤ (jm_up I b0 (s1.toNat) s2) (c1 + 2) x1.toNat ∧ (jm_up I b0 (s1.toNat) s2) (c1 + 2) x1.toNat < 2147483648) ∧ (-2147483648 ≤ (jm_up I b0 (s1.toNat) s2) (c1 + 1) x1.toNat ∧ (jm_up I b0 (s1.toNat) s2) (c1 + 1) x1.toNat < 2147483648)) (kt : ¬ ((jm_up I b0 (s1.toNat) s2) (c1 + 2) x1.toNat) = ((jm_up I b0 (s1.toNat) s2) (c1 + 1) x1.toNat) → Gx (jx_0 L) d md_CityReader_readDoor 90 [some (.inr (.inl 42)), some (.inl x1)] [] (jm_up I b0 (s1.toNat) s2) Q) (kf : ((jm_up I b0 (s1.toNat) s2) (c1 + 2) x1.toNat) = ((jm_up I b0 (s1.toNat) s2) (c1 + 1) x1.toNat) → Gx (jx_0 L) d md_CityReader_readDoor 86 [some (.inr (.inl 42)), some (.inl x1)] [] (jm_up I b0 (s1.toNat) s2) Q) : Gx (jx_0 L) d md_CityReader_readDoor 64 [some (.inr (.inl 42)), some (.inl x1)] [.inl s2, .inl s1, .inr (.inl b0)] I Q := by
  obtain ⟨hz1, hz2, hz3, hz4, hz5, hz6⟩ := hz
  show jm_Go d 0 0 md_CityReader_readDoor 64 [some (.inr (.inl 42)), some (.inl x1)] [.inl s2, .inl s1, .inr (.inl b0)] (jx (jx_0 L) I) (jx_Q (jx_0 L) Q)
  have hd : jm_dc md_CityReader_readDoor.2.1 64 [(.iastore, 1), (.aload_n 0, 1), (.getfield 19, 3), (.getfield 85, 3), (.iload_n 1, 1), (.iaload, 1), (.aload_n 0, 1), (.getfield 19, 3), (.getfield 82, 3), (.iload_n 1, 1), (.iaload, 1), (.if_icmp .ne 7, 3)] = true := by decide +kernel
  refine go_iastore hb0 hz1.1 hz1.2 hz2 hd (fun hd => ?_)
  refine go_aload_n rfl hd (fun hd => ?_)
  refine go_getD co_X1 fl_1_19 (by decide) rfl rfl hD1 (ct_pos hc1) hd (fun hd => ?_)
  refine go_getR co_X0 fl_1_85 (by decide) rfl (ct_K hc1) (ct_R6 hc1) hd (fun hd => ?_)
  refine go_iload_n rfl hd (fun hd => ?_)
  refine go_iaload (ct_S2 hc1) hz3.1 hz3.2 (by decide) hd (fun hd => ?_)
  refine go_aload_n rfl hd (fun hd => ?_)
  refine go_getD co_X1 fl_1_19 (by decide) rfl rfl hD1 (ct_pos hc1) hd (fun hd => ?_)
  refine go_getR co_X0 fl_1_82 (by decide) rfl (ct_K hc1) (ct_R5 hc1) hd (fun hd => ?_)
  refine go_iload_n rfl hd (fun hd => ?_)
  refine go_iaload (ct_S1 hc1) hz4.1 hz4.2 (by decide) hd (fun hd => ?_)
  exact go_icmp_ne (by decide) hz5 hz6 hd kt kf
theorem b_CityReader_readDoor_86 {L : Nat} {d : Nat} {I : jm_I} {Q : Option jm_V → jm_I → Prop} {o1 : Option jm_V}  (k : Cx (jx_0 L) d md_CityReader_refuse [.inr (.inl 42)] I (fun v J => Gx (jx_0 L) (d + 1) md_CityReader_readDoor 90 [some (.inr (.inl 42)), o1] (v.toList ++ []) J Q)) : Gx (jx_0 L) (d + 1) md_CityReader_readDoor 86 [some (.inr (.inl 42)), o1] [] I Q := by
  show jm_Go (d + 1) 0 0 md_CityReader_readDoor 86 [some (.inr (.inl 42)), o1] [] (jx (jx_0 L) I) (jx_Q (jx_0 L) Q)
  have hd : jm_dc md_CityReader_readDoor.2.1 86 [(.aload_n 0, 1), (.invokevirtual 66, 3)] = true := by decide +kernel
  refine go_aload_n rfl hd (fun hd => ?_)
  exact gx_virtual 42 1 [] [] mk_CityReader_refuse co_X1 rfl ml_1_66 in_CityReader_refuse se_CityReader_refuse rfl rfl (Nat.le_of_ble_eq_true rfl) rfl (Nat.le_of_ble_eq_true rfl) rfl hd k
theorem b_CityReader_readDoor_90 {L : Nat} {d : Nat} {I : jm_I} {Q : Option jm_V → jm_I → Prop} {x1 : Int} {c1 : Nat} (hD1 : I 42 2 = (c1 : Int)) (hc1 : jx_City (jx_0 L) c1) (k : Cx (jx_0 L) d md_CityReader_needNumber [.inr (.inl 42), .inl 0, .inl 1] I (fun v J => Gx (jx_0 L) (d + 1) md_CityReader_readDoor 104 [some (.inr (.inl 42)), some (.inl x1)] (v.toList ++ [.inl x1, .inr (.inl (c1 + 3))]) J Q)) : Gx (jx_0 L) (d + 1) md_CityReader_readDoor 90 [some (.inr (.inl 42)), some (.inl x1)] [] I Q := by
  show jm_Go (d + 1) 0 0 md_CityReader_readDoor 90 [some (.inr (.inl 42)), some (.inl x1)] [] (jx (jx_0 L) I) (jx_Q (jx_0 L) Q)
  have hd : jm_dc md_CityReader_readDoor.2.1 90 [(.aload_n 0, 1), (.getfield 19, 3), (.getfield 88, 3), (.iload_n 1, 1), (.aload_n 0, 1), (.iconst 0, 1), (.iconst 1, 1), (.invokevirtual 69, 3)] = true := by decide +kernel
  refine go_aload_n rfl hd (fun hd => ?_)
  refine go_getD co_X1 fl_1_19 (by decide) rfl rfl hD1 (ct_pos hc1) hd (fun hd => ?_)
  refine go_getR co_X0 fl_1_88 (by decide) rfl (ct_K hc1) (ct_R7 hc1) hd (fun hd => ?_)
  refine go_iload_n rfl hd (fun hd => ?_)
  refine go_aload_n rfl hd (fun hd => ?_)
  refine go_iconst hd (fun hd => ?_)
  refine go_iconst hd (fun hd => ?_)
  exact gx_virtual 42 1 [.inl 0, .inl 1] [.inl x1, .inr (.inl (c1 + 3))] mk_CityReader_needNumber co_X1 rfl ml_1_69 in_CityReader_needNumber se_CityReader_needNumber rfl rfl (Nat.le_of_ble_eq_true rfl) rfl (Nat.le_of_ble_eq_true rfl) rfl hd k
theorem b_CityReader_readDoor_104 {L : Nat} {d : Nat} {I : jm_I} {Q : Option jm_V → jm_I → Prop} {o1 : Option jm_V} {b0 nb0 : Nat} {s1 : Int} {s2 : Int} {c1 : Nat} (hb0 : (jx_0 L).2.1 b0 = (20, nb0)) (hD1 : (jm_up I b0 (s1.toNat) s2) 42 2 = (c1 : Int)) (hc1 : jx_City (jx_0 L) c1) (hz : (0 ≤ s1 ∧ s1 < nb0) ∧ (nb0 < 2147483648)) (k : Q none (jm_up (jm_up I b0 (s1.toNat) s2) c1 2 (((jm_up I b0 (s1.toNat) s2) c1 2) + 1))) : Gx (jx_0 L) d md_CityReader_readDoor 104 [some (.inr (.inl 42)), o1] [.inl s2, .inl s1, .inr (.inl b0)] I Q := by
  obtain ⟨hz1, hz2⟩ := hz
  show jm_Go d 0 0 md_CityReader_readDoor 104 [some (.inr (.inl 42)), o1] [.inl s2, .inl s1, .inr (.inl b0)] (jx (jx_0 L) I) (jx_Q (jx_0 L) Q)
  have hd : jm_dc md_CityReader_readDoor.2.1 104 [(.iastore, 1), (.aload_n 0, 1), (.getfield 19, 3), (.dup, 1), (.getfield 79, 3), (.iconst 1, 1), (.iadd, 1), (.putfield 79, 3), (.return_, 1)] = true := by decide +kernel
  refine go_iastore hb0 hz1.1 hz1.2 hz2 hd (fun hd => ?_)
  refine go_aload_n rfl hd (fun hd => ?_)
  refine go_getD co_X1 fl_1_19 (by decide) rfl rfl hD1 (ct_pos hc1) hd (fun hd => ?_)
  refine go_dup rfl hd (fun hd => ?_)
  refine go_getI co_X0 fl_1_79 (by decide) (Or.inl rfl) (ct_K hc1) hd (fun hd => ?_)
  refine go_iconst hd (fun hd => ?_)
  refine go_iadd hd (fun hd => ?_)
  refine go_putI co_X0 fl_1_79 (by decide) rfl (ct_K hc1) hd (fun hd => ?_)
  exact go_vreturn hd rfl ⟨_, rfl, k⟩
theorem b_CityReader_readPerson_0 {L : Nat} {d : Nat} {I : jm_I} {Q : Option jm_V → jm_I → Prop} {c1 : Nat} (hD1 : I 42 2 = (c1 : Int)) (hc1 : jx_City (jx_0 L) c1) (hz : (-2147483648 ≤ I c1 3 ∧ I c1 3 < 2147483648)) (kt : (I c1 3) < 5 → Gx (jx_0 L) d md_CityReader_readPerson 18 [some (.inr (.inl 42)), some (.inl (I c1 3))] [] I Q) (kf : ¬ ((I c1 3) < 5) → Gx (jx_0 L) d md_CityReader_readPerson 13 [some (.inr (.inl 42)), some (.inl (I c1 3))] [] I Q) : Cx (jx_0 L) d md_CityReader_readPerson [.inr (.inl 42)] I Q := by
  have hz1 := hz
  show jm_Go d 0 0 md_CityReader_readPerson 0 [some (.inr (.inl 42)), none] [] (jx (jx_0 L) I) (jx_Q (jx_0 L) Q)
  have hd : jm_dc md_CityReader_readPerson.2.1 0 [(.aload_n 0, 1), (.getfield 19, 3), (.getfield 91, 3), (.istore_n 1, 1), (.iload_n 1, 1), (.iconst 5, 1), (.if_icmp .lt 8, 3)] = true := by decide +kernel
  refine go_aload_n rfl hd (fun hd => ?_)
  refine go_getD co_X1 fl_1_19 (by decide) rfl rfl hD1 (ct_pos hc1) hd (fun hd => ?_)
  refine go_getI co_X0 fl_1_91 (by decide) (Or.inl rfl) (ct_K hc1) hd (fun hd => ?_)
  refine go_istore_n (by decide) hd (fun hd => ?_)
  refine go_iload_n rfl hd (fun hd => ?_)
  refine go_iconst hd (fun hd => ?_)
  exact go_icmp_lt (by decide) hz1 ⟨by decide, by decide⟩ hd kt kf
theorem b_CityReader_readPerson_13 {L : Nat} {d : Nat} {I : jm_I} {Q : Option jm_V → jm_I → Prop} {o1 : Option jm_V}  (k : Cx (jx_0 L) d md_CityReader_refuse [.inr (.inl 42)] I (fun v J => Gx (jx_0 L) (d + 1) md_CityReader_readPerson 17 [some (.inr (.inl 42)), o1] (v.toList ++ []) J Q)) : Gx (jx_0 L) (d + 1) md_CityReader_readPerson 13 [some (.inr (.inl 42)), o1] [] I Q := by
  show jm_Go (d + 1) 0 0 md_CityReader_readPerson 13 [some (.inr (.inl 42)), o1] [] (jx (jx_0 L) I) (jx_Q (jx_0 L) Q)
  have hd : jm_dc md_CityReader_readPerson.2.1 13 [(.aload_n 0, 1), (.invokevirtual 66, 3)] = true := by decide +kernel
  refine go_aload_n rfl hd (fun hd => ?_)
  exact gx_virtual 42 1 [] [] mk_CityReader_refuse co_X1 rfl ml_1_66 in_CityReader_refuse se_CityReader_refuse rfl rfl (Nat.le_of_ble_eq_true rfl) rfl (Nat.le_of_ble_eq_true rfl) rfl hd k
theorem b_CityReader_readPerson_17 {L : Nat} {d : Nat} {I : jm_I} {Q : Option jm_V → jm_I → Prop} {o0 : Option jm_V} {o1 : Option jm_V}  (k : Q none I) : Gx (jx_0 L) d md_CityReader_readPerson 17 [o0, o1] [] I Q := by
  show jm_Go d 0 0 md_CityReader_readPerson 17 [o0, o1] [] (jx (jx_0 L) I) (jx_Q (jx_0 L) Q)
  have hd : jm_dc md_CityReader_readPerson.2.1 17 [(.return_, 1)] = true := by decide +kernel
  exact go_vreturn hd rfl ⟨_, rfl, k⟩
theorem b_CityReader_readPerson_18 {L : Nat} {d : Nat} {I : jm_I} {Q : Option jm_V → jm_I → Prop} {x1 : Int} {c1 : Nat} (hD1 : I 42 2 = (c1 : Int)) (hc1 : jx_City (jx_0 L) c1) (k : Cx (jx_0 L) d md_CityReader_needNumber [.inr (.inl 42), .inl 0, .inl ((I c1 0) - 1)] I (fun v J => Gx (jx_0 L) (d + 1) md_CityReader_readPerson 40 [some (.inr (.inl 42)), some (.inl x1)] (v.toList ++ [.inl x1, .inr (.inl (c1 + 4))]) J Q)) : Gx (jx_0 L) (d + 1) md_CityReader_readPerson 18 [some (.inr (.inl 42)), some (.inl x1)] [] I Q := by
  show jm_Go (d + 1) 0 0 md_CityReader_readPerson 18 [some (.inr (.inl 42)), some (.inl x1)] [] (jx (jx_0 L) I) (jx_Q (jx_0 L) Q)
  have hd : jm_dc md_CityReader_readPerson.2.1 18 [(.aload_n 0, 1), (.getfield 19, 3), (.getfield 94, 3), (.iload_n 1, 1), (.aload_n 0, 1), (.iconst 0, 1), (.aload_n 0, 1), (.getfield 19, 3), (.getfield 73, 3), (.iconst 1, 1), (.isub, 1), (.invokevirtual 69, 3)] = true := by decide +kernel
  refine go_aload_n rfl hd (fun hd => ?_)
  refine go_getD co_X1 fl_1_19 (by decide) rfl rfl hD1 (ct_pos hc1) hd (fun hd => ?_)
  refine go_getR co_X0 fl_1_94 (by decide) rfl (ct_K hc1) (ct_R8 hc1) hd (fun hd => ?_)
  refine go_iload_n rfl hd (fun hd => ?_)
  refine go_aload_n rfl hd (fun hd => ?_)
  refine go_iconst hd (fun hd => ?_)
  refine go_aload_n rfl hd (fun hd => ?_)
  refine go_getD co_X1 fl_1_19 (by decide) rfl rfl hD1 (ct_pos hc1) hd (fun hd => ?_)
  refine go_getI co_X0 fl_1_73 (by decide) (Or.inl rfl) (ct_K hc1) hd (fun hd => ?_)
  refine go_iconst hd (fun hd => ?_)
  refine go_isub hd (fun hd => ?_)
  exact gx_virtual 42 1 [.inl 0, .inl ((I c1 0) - 1)] [.inl x1, .inr (.inl (c1 + 4))] mk_CityReader_needNumber co_X1 rfl ml_1_69 in_CityReader_needNumber se_CityReader_needNumber rfl rfl (Nat.le_of_ble_eq_true rfl) rfl (Nat.le_of_ble_eq_true rfl) rfl hd k
theorem b_CityReader_readPerson_40 {L : Nat} {d : Nat} {I : jm_I} {Q : Option jm_V → jm_I → Prop} {x1 : Int} {b0 nb0 : Nat} {s1 : Int} {s2 : Int} {c1 : Nat} (hb0 : (jx_0 L).2.1 b0 = (20, nb0)) (hD1 : (jm_up I b0 (s1.toNat) s2) 42 2 = (c1 : Int)) (hc1 : jx_City (jx_0 L) c1) (hz : (0 ≤ s1 ∧ s1 < nb0) ∧ (nb0 < 2147483648)) (k : Cx (jx_0 L) d md_CityReader_needNumber [.inr (.inl 42), .inl 10, .inl 60] (jm_up I b0 (s1.toNat) s2) (fun v J => Gx (jx_0 L) (d + 1) md_CityReader_readPerson 57 [some (.inr (.inl 42)), some (.inl x1)] (v.toList ++ [.inl x1, .inr (.inl (c1 + 5))]) J Q)) : Gx (jx_0 L) (d + 1) md_CityReader_readPerson 40 [some (.inr (.inl 42)), some (.inl x1)] [.inl s2, .inl s1, .inr (.inl b0)] I Q := by
  obtain ⟨hz1, hz2⟩ := hz
  show jm_Go (d + 1) 0 0 md_CityReader_readPerson 40 [some (.inr (.inl 42)), some (.inl x1)] [.inl s2, .inl s1, .inr (.inl b0)] (jx (jx_0 L) I) (jx_Q (jx_0 L) Q)
  have hd : jm_dc md_CityReader_readPerson.2.1 40 [(.iastore, 1), (.aload_n 0, 1), (.getfield 19, 3), (.getfield 97, 3), (.iload_n 1, 1), (.aload_n 0, 1), (.bipush 10, 2), (.bipush 60, 2), (.invokevirtual 69, 3)] = true := by decide +kernel
  refine go_iastore hb0 hz1.1 hz1.2 hz2 hd (fun hd => ?_)
  refine go_aload_n rfl hd (fun hd => ?_)
  refine go_getD co_X1 fl_1_19 (by decide) rfl rfl hD1 (ct_pos hc1) hd (fun hd => ?_)
  refine go_getR co_X0 fl_1_97 (by decide) rfl (ct_K hc1) (ct_R9 hc1) hd (fun hd => ?_)
  refine go_iload_n rfl hd (fun hd => ?_)
  refine go_aload_n rfl hd (fun hd => ?_)
  refine go_bipush (by decide) hd (fun hd => ?_)
  refine go_bipush (by decide) hd (fun hd => ?_)
  exact gx_virtual 42 1 [.inl 10, .inl 60] [.inl x1, .inr (.inl (c1 + 5))] mk_CityReader_needNumber co_X1 rfl ml_1_69 in_CityReader_needNumber se_CityReader_needNumber rfl rfl (Nat.le_of_ble_eq_true rfl) rfl (Nat.le_of_ble_eq_true rfl) rfl hd k
theorem b_CityReader_readPerson_57 {L : Nat} {d : Nat} {I : jm_I} {Q : Option jm_V → jm_I → Prop} {o1 : Option jm_V} {b0 nb0 : Nat} {s1 : Int} {s2 : Int} {c1 : Nat} (hb0 : (jx_0 L).2.1 b0 = (20, nb0)) (hD1 : (jm_up I b0 (s1.toNat) s2) 42 2 = (c1 : Int)) (hc1 : jx_City (jx_0 L) c1) (hz : (0 ≤ s1 ∧ s1 < nb0) ∧ (nb0 < 2147483648)) (k : Q none (jm_up (jm_up I b0 (s1.toNat) s2) c1 3 (((jm_up I b0 (s1.toNat) s2) c1 3) + 1))) : Gx (jx_0 L) d md_CityReader_readPerson 57 [some (.inr (.inl 42)), o1] [.inl s2, .inl s1, .inr (.inl b0)] I Q := by
  obtain ⟨hz1, hz2⟩ := hz
  show jm_Go d 0 0 md_CityReader_readPerson 57 [some (.inr (.inl 42)), o1] [.inl s2, .inl s1, .inr (.inl b0)] (jx (jx_0 L) I) (jx_Q (jx_0 L) Q)
  have hd : jm_dc md_CityReader_readPerson.2.1 57 [(.iastore, 1), (.aload_n 0, 1), (.getfield 19, 3), (.dup, 1), (.getfield 91, 3), (.iconst 1, 1), (.iadd, 1), (.putfield 91, 3), (.return_, 1)] = true := by decide +kernel
  refine go_iastore hb0 hz1.1 hz1.2 hz2 hd (fun hd => ?_)
  refine go_aload_n rfl hd (fun hd => ?_)
  refine go_getD co_X1 fl_1_19 (by decide) rfl rfl hD1 (ct_pos hc1) hd (fun hd => ?_)
  refine go_dup rfl hd (fun hd => ?_)
  refine go_getI co_X0 fl_1_91 (by decide) (Or.inl rfl) (ct_K hc1) hd (fun hd => ?_)
  refine go_iconst hd (fun hd => ?_)
  refine go_iadd hd (fun hd => ?_)
  refine go_putI co_X0 fl_1_91 (by decide) rfl (ct_K hc1) hd (fun hd => ?_)
  exact go_vreturn hd rfl ⟨_, rfl, k⟩
theorem b_CityReader_readThing_0 {L : Nat} {d : Nat} {I : jm_I} {Q : Option jm_V → jm_I → Prop} {c1 : Nat} (hD1 : I 42 2 = (c1 : Int)) (hc1 : jx_City (jx_0 L) c1) (hz : (-2147483648 ≤ I c1 4 ∧ I c1 4 < 2147483648)) (kt : (I c1 4) < 5 → Gx (jx_0 L) d md_CityReader_readThing 18 [some (.inr (.inl 42)), some (.inl (I c1 4)), none] [] I Q) (kf : ¬ ((I c1 4) < 5) → Gx (jx_0 L) d md_CityReader_readThing 13 [some (.inr (.inl 42)), some (.inl (I c1 4)), none] [] I Q) : Cx (jx_0 L) d md_CityReader_readThing [.inr (.inl 42)] I Q := by
  have hz1 := hz
  show jm_Go d 0 0 md_CityReader_readThing 0 [some (.inr (.inl 42)), none, none] [] (jx (jx_0 L) I) (jx_Q (jx_0 L) Q)
  have hd : jm_dc md_CityReader_readThing.2.1 0 [(.aload_n 0, 1), (.getfield 19, 3), (.getfield 100, 3), (.istore_n 1, 1), (.iload_n 1, 1), (.iconst 5, 1), (.if_icmp .lt 8, 3)] = true := by decide +kernel
  refine go_aload_n rfl hd (fun hd => ?_)
  refine go_getD co_X1 fl_1_19 (by decide) rfl rfl hD1 (ct_pos hc1) hd (fun hd => ?_)
  refine go_getI co_X0 fl_1_100 (by decide) (Or.inl rfl) (ct_K hc1) hd (fun hd => ?_)
  refine go_istore_n (by decide) hd (fun hd => ?_)
  refine go_iload_n rfl hd (fun hd => ?_)
  refine go_iconst hd (fun hd => ?_)
  exact go_icmp_lt (by decide) hz1 ⟨by decide, by decide⟩ hd kt kf
theorem b_CityReader_readThing_13 {L : Nat} {d : Nat} {I : jm_I} {Q : Option jm_V → jm_I → Prop} {o1 : Option jm_V} {o2 : Option jm_V}  (k : Cx (jx_0 L) d md_CityReader_refuse [.inr (.inl 42)] I (fun v J => Gx (jx_0 L) (d + 1) md_CityReader_readThing 17 [some (.inr (.inl 42)), o1, o2] (v.toList ++ []) J Q)) : Gx (jx_0 L) (d + 1) md_CityReader_readThing 13 [some (.inr (.inl 42)), o1, o2] [] I Q := by
  show jm_Go (d + 1) 0 0 md_CityReader_readThing 13 [some (.inr (.inl 42)), o1, o2] [] (jx (jx_0 L) I) (jx_Q (jx_0 L) Q)
  have hd : jm_dc md_CityReader_readThing.2.1 13 [(.aload_n 0, 1), (.invokevirtual 66, 3)] = true := by decide +kernel
  refine go_aload_n rfl hd (fun hd => ?_)
  exact gx_virtual 42 1 [] [] mk_CityReader_refuse co_X1 rfl ml_1_66 in_CityReader_refuse se_CityReader_refuse rfl rfl (Nat.le_of_ble_eq_true rfl) rfl (Nat.le_of_ble_eq_true rfl) rfl hd k
theorem b_CityReader_readThing_17 {L : Nat} {d : Nat} {I : jm_I} {Q : Option jm_V → jm_I → Prop} {o0 : Option jm_V} {o1 : Option jm_V} {o2 : Option jm_V}  (k : Q none I) : Gx (jx_0 L) d md_CityReader_readThing 17 [o0, o1, o2] [] I Q := by
  show jm_Go d 0 0 md_CityReader_readThing 17 [o0, o1, o2] [] (jx (jx_0 L) I) (jx_Q (jx_0 L) Q)
  have hd : jm_dc md_CityReader_readThing.2.1 17 [(.return_, 1)] = true := by decide +kernel
  exact go_vreturn hd rfl ⟨_, rfl, k⟩
theorem b_CityReader_readThing_18 {L : Nat} {d : Nat} {I : jm_I} {Q : Option jm_V → jm_I → Prop} {x1 : Int} {o2 : Option jm_V} {c1 : Nat} (hD1 : I 42 2 = (c1 : Int)) (hc1 : jx_City (jx_0 L) c1) (k : Cx (jx_0 L) d md_CityReader_needNumber [.inr (.inl 42), .inl 1, .inl 4] I (fun v J => Gx (jx_0 L) (d + 1) md_CityReader_readThing 32 [some (.inr (.inl 42)), some (.inl x1), o2] (v.toList ++ [.inl x1, .inr (.inl (c1 + 6))]) J Q)) : Gx (jx_0 L) (d + 1) md_CityReader_readThing 18 [some (.inr (.inl 42)), some (.inl x1), o2] [] I Q := by
  show jm_Go (d + 1) 0 0 md_CityReader_readThing 18 [some (.inr (.inl 42)), some (.inl x1), o2] [] (jx (jx_0 L) I) (jx_Q (jx_0 L) Q)
  have hd : jm_dc md_CityReader_readThing.2.1 18 [(.aload_n 0, 1), (.getfield 19, 3), (.getfield 103, 3), (.iload_n 1, 1), (.aload_n 0, 1), (.iconst 1, 1), (.iconst 4, 1), (.invokevirtual 69, 3)] = true := by decide +kernel
  refine go_aload_n rfl hd (fun hd => ?_)
  refine go_getD co_X1 fl_1_19 (by decide) rfl rfl hD1 (ct_pos hc1) hd (fun hd => ?_)
  refine go_getR co_X0 fl_1_103 (by decide) rfl (ct_K hc1) (ct_R10 hc1) hd (fun hd => ?_)
  refine go_iload_n rfl hd (fun hd => ?_)
  refine go_aload_n rfl hd (fun hd => ?_)
  refine go_iconst hd (fun hd => ?_)
  refine go_iconst hd (fun hd => ?_)
  exact gx_virtual 42 1 [.inl 1, .inl 4] [.inl x1, .inr (.inl (c1 + 6))] mk_CityReader_needNumber co_X1 rfl ml_1_69 in_CityReader_needNumber se_CityReader_needNumber rfl rfl (Nat.le_of_ble_eq_true rfl) rfl (Nat.le_of_ble_eq_true rfl) rfl hd k
theorem b_CityReader_readThing_32 {L : Nat} {d : Nat} {I : jm_I} {Q : Option jm_V → jm_I → Prop} {o0 : Option jm_V} {o1 : Option jm_V} {o2 : Option jm_V} {b0 nb0 : Nat} {s1 : Int} {s2 : Int} (hb0 : (jx_0 L).2.1 b0 = (20, nb0)) (hz : (0 ≤ s1 ∧ s1 < nb0) ∧ (nb0 < 2147483648)) (k : Gx (jx_0 L) d md_CityReader_readThing 35 [o0, o1, some (.inl 0)] [] (jm_up I b0 (s1.toNat) s2) Q) : Gx (jx_0 L) d md_CityReader_readThing 32 [o0, o1, o2] [.inl s2, .inl s1, .inr (.inl b0)] I Q := by
  obtain ⟨hz1, hz2⟩ := hz
  show jm_Go d 0 0 md_CityReader_readThing 32 [o0, o1, o2] [.inl s2, .inl s1, .inr (.inl b0)] (jx (jx_0 L) I) (jx_Q (jx_0 L) Q)
  have hd : jm_dc md_CityReader_readThing.2.1 32 [(.iastore, 1), (.iconst 0, 1), (.istore_n 2, 1)] = true := by decide +kernel
  refine go_iastore hb0 hz1.1 hz1.2 hz2 hd (fun hd => ?_)
  refine go_iconst hd (fun hd => ?_)
  refine go_istore_n (by decide) hd (fun hd => ?_)
  exact k
theorem b_CityReader_readThing_35 {L : Nat} {d : Nat} {I : jm_I} {Q : Option jm_V → jm_I → Prop} {x1 : Int} {x2 : Int} {c1 : Nat} (hD1 : I 42 2 = (c1 : Int)) (hc1 : jx_City (jx_0 L) c1) (hz : (0 ≤ x1 ∧ x1 < 5) ∧ (-2147483648 ≤ x2 ∧ x2 < 2147483648) ∧ (-2147483648 ≤ I (c1 + 6) x1.toNat ∧ I (c1 + 6) x1.toNat < 2147483648)) (kt : (I (c1 + 6) x1.toNat) ≤ x2 → Gx (jx_0 L) d md_CityReader_readThing 79 [some (.inr (.inl 42)), some (.inl x1), some (.inl x2)] [] I Q) (kf : ¬ ((I (c1 + 6) x1.toNat) ≤ x2) → Gx (jx_0 L) d md_CityReader_readThing 48 [some (.inr (.inl 42)), some (.inl x1), some (.inl x2)] [] I Q) : Gx (jx_0 L) d md_CityReader_readThing 35 [some (.inr (.inl 42)), some (.inl x1), some (.inl x2)] [] I Q := by
  obtain ⟨hz1, hz2, hz3⟩ := hz
  show jm_Go d 0 0 md_CityReader_readThing 35 [some (.inr (.inl 42)), some (.inl x1), some (.inl x2)] [] (jx (jx_0 L) I) (jx_Q (jx_0 L) Q)
  have hd : jm_dc md_CityReader_readThing.2.1 35 [(.iload_n 2, 1), (.aload_n 0, 1), (.getfield 19, 3), (.getfield 103, 3), (.iload_n 1, 1), (.iaload, 1), (.if_icmp .ge 34, 3)] = true := by decide +kernel
  refine go_iload_n rfl hd (fun hd => ?_)
  refine go_aload_n rfl hd (fun hd => ?_)
  refine go_getD co_X1 fl_1_19 (by decide) rfl rfl hD1 (ct_pos hc1) hd (fun hd => ?_)
  refine go_getR co_X0 fl_1_103 (by decide) rfl (ct_K hc1) (ct_R10 hc1) hd (fun hd => ?_)
  refine go_iload_n rfl hd (fun hd => ?_)
  refine go_iaload (ct_S6 hc1) hz1.1 hz1.2 (by decide) hd (fun hd => ?_)
  exact go_icmp_ge (by decide) hz2 hz3 hd kt kf
theorem b_CityReader_readThing_48 {L : Nat} {d : Nat} {I : jm_I} {Q : Option jm_V → jm_I → Prop} {x1 : Int} {x2 : Int} {c1 : Nat} (hD1 : I 42 2 = (c1 : Int)) (hc1 : jx_City (jx_0 L) c1) (hz : (0 ≤ x1 ∧ x1 < 5)) (k : Cx (jx_0 L) d md_CityReader_needNumber [.inr (.inl 42), .inl 0, .inl ((I c1 0) - 1)] I (fun v J => Gx (jx_0 L) (d + 1) md_CityReader_readThing 72 [some (.inr (.inl 42)), some (.inl x1), some (.inl x2)] (v.toList ++ [.inl x2, .inr (.inl (c1 + 8 + x1.toNat))]) J Q)) : Gx (jx_0 L) (d + 1) md_CityReader_readThing 48 [some (.inr (.inl 42)), some (.inl x1), some (.inl x2)] [] I Q := by
  have hz1 := hz
  show jm_Go (d + 1) 0 0 md_CityReader_readThing 48 [some (.inr (.inl 42)), some (.inl x1), some (.inl x2)] [] (jx (jx_0 L) I) (jx_Q (jx_0 L) Q)
  have hd : jm_dc md_CityReader_readThing.2.1 48 [(.aload_n 0, 1), (.getfield 19, 3), (.getfield 106, 3), (.iload_n 1, 1), (.aaload, 1), (.iload_n 2, 1), (.aload_n 0, 1), (.iconst 0, 1), (.aload_n 0, 1), (.getfield 19, 3), (.getfield 73, 3), (.iconst 1, 1), (.isub, 1), (.invokevirtual 69, 3)] = true := by decide +kernel
  refine go_aload_n rfl hd (fun hd => ?_)
  refine go_getD co_X1 fl_1_19 (by decide) rfl rfl hD1 (ct_pos hc1) hd (fun hd => ?_)
  refine go_getR co_X0 fl_1_106 (by decide) rfl (ct_K hc1) (ct_R11 hc1) hd (fun hd => ?_)
  refine go_iload_n rfl hd (fun hd => ?_)
  refine go_aaload (Or.inr (ct_S7 hc1)) hz1.1 hz1.2 (by decide) (ct_roundI hc1 hz1.1 hz1.2) hd (fun hd => ?_)
  refine go_iload_n rfl hd (fun hd => ?_)
  refine go_aload_n rfl hd (fun hd => ?_)
  refine go_iconst hd (fun hd => ?_)
  refine go_aload_n rfl hd (fun hd => ?_)
  refine go_getD co_X1 fl_1_19 (by decide) rfl rfl hD1 (ct_pos hc1) hd (fun hd => ?_)
  refine go_getI co_X0 fl_1_73 (by decide) (Or.inl rfl) (ct_K hc1) hd (fun hd => ?_)
  refine go_iconst hd (fun hd => ?_)
  refine go_isub hd (fun hd => ?_)
  exact gx_virtual 42 1 [.inl 0, .inl ((I c1 0) - 1)] [.inl x2, .inr (.inl (c1 + 8 + x1.toNat))] mk_CityReader_needNumber co_X1 rfl ml_1_69 in_CityReader_needNumber se_CityReader_needNumber rfl rfl (Nat.le_of_ble_eq_true rfl) rfl (Nat.le_of_ble_eq_true rfl) rfl hd k
theorem b_CityReader_readThing_72 {L : Nat} {d : Nat} {I : jm_I} {Q : Option jm_V → jm_I → Prop} {o0 : Option jm_V} {o1 : Option jm_V} {x2 : Int} {b0 nb0 : Nat} {s1 : Int} {s2 : Int} (hb0 : (jx_0 L).2.1 b0 = (20, nb0)) (hz : (0 ≤ s1 ∧ s1 < nb0) ∧ (nb0 < 2147483648)) (k : Gx (jx_0 L) d md_CityReader_readThing 35 [o0, o1, some (.inl (x2 + 1))] [] (jm_up I b0 (s1.toNat) s2) Q) : Gx (jx_0 L) d md_CityReader_readThing 72 [o0, o1, some (.inl x2)] [.inl s2, .inl s1, .inr (.inl b0)] I Q := by
  obtain ⟨hz1, hz2⟩ := hz
  show jm_Go d 0 0 md_CityReader_readThing 72 [o0, o1, some (.inl x2)] [.inl s2, .inl s1, .inr (.inl b0)] (jx (jx_0 L) I) (jx_Q (jx_0 L) Q)
  have hd : jm_dc md_CityReader_readThing.2.1 72 [(.iastore, 1), (.iinc 2 1, 3), (.goto (-41), 3)] = true := by decide +kernel
  refine go_iastore hb0 hz1.1 hz1.2 hz2 hd (fun hd => ?_)
  refine go_iinc rfl hd (fun hd => ?_)
  exact go_goto (by decide) hd k
theorem b_CityReader_readThing_79 {L : Nat} {d : Nat} {I : jm_I} {Q : Option jm_V → jm_I → Prop} {o1 : Option jm_V} {o2 : Option jm_V} {c1 : Nat} (hD1 : I 42 2 = (c1 : Int)) (hc1 : jx_City (jx_0 L) c1) (k : Q none (jm_up I c1 4 ((I c1 4) + 1))) : Gx (jx_0 L) d md_CityReader_readThing 79 [some (.inr (.inl 42)), o1, o2] [] I Q := by
  show jm_Go d 0 0 md_CityReader_readThing 79 [some (.inr (.inl 42)), o1, o2] [] (jx (jx_0 L) I) (jx_Q (jx_0 L) Q)
  have hd : jm_dc md_CityReader_readThing.2.1 79 [(.aload_n 0, 1), (.getfield 19, 3), (.dup, 1), (.getfield 100, 3), (.iconst 1, 1), (.iadd, 1), (.putfield 100, 3), (.return_, 1)] = true := by decide +kernel
  refine go_aload_n rfl hd (fun hd => ?_)
  refine go_getD co_X1 fl_1_19 (by decide) rfl rfl hD1 (ct_pos hc1) hd (fun hd => ?_)
  refine go_dup rfl hd (fun hd => ?_)
  refine go_getI co_X0 fl_1_100 (by decide) (Or.inl rfl) (ct_K hc1) hd (fun hd => ?_)
  refine go_iconst hd (fun hd => ?_)
  refine go_iadd hd (fun hd => ?_)
  refine go_putI co_X0 fl_1_100 (by decide) rfl (ct_K hc1) hd (fun hd => ?_)
  exact go_vreturn hd rfl ⟨_, rfl, k⟩
theorem b_CityReader_needEnd_0 {L : Nat} {d : Nat} {I : jm_I} {Q : Option jm_V → jm_I → Prop}   (hz : (-2147483648 ≤ I 42 8 ∧ I 42 8 < 2147483648)) (kt : (I 42 8) = (-9) → Gx (jx_0 L) d md_CityReader_needEnd 10 [some (.inr (.inl 42))] [] I Q) (kf : ¬ (I 42 8) = (-9) → Gx (jx_0 L) d md_CityReader_needEnd 9 [some (.inr (.inl 42))] [] I Q) : Cx (jx_0 L) d md_CityReader_needEnd [.inr (.inl 42)] I Q := by
  have hz1 := hz
  show jm_Go d 0 0 md_CityReader_needEnd 0 [some (.inr (.inl 42))] [] (jx (jx_0 L) I) (jx_Q (jx_0 L) Q)
  have hd : jm_dc md_CityReader_needEnd.2.1 0 [(.aload_n 0, 1), (.getfield 30, 3), (.bipush (-9), 2), (.if_icmp .eq 4, 3)] = true := by decide +kernel
  refine go_aload_n rfl hd (fun hd => ?_)
  refine go_getI co_X1 fl_1_30 (by decide) (Or.inl rfl) rfl hd (fun hd => ?_)
  refine go_bipush (by decide) hd (fun hd => ?_)
  exact go_icmp_eq (by decide) hz1 ⟨by decide, by decide⟩ hd kt kf
theorem b_CityReader_needEnd_9 {L : Nat} {d : Nat} {I : jm_I} {Q : Option jm_V → jm_I → Prop} {o0 : Option jm_V}  (k : Q none I) : Gx (jx_0 L) d md_CityReader_needEnd 9 [o0] [] I Q := by
  show jm_Go d 0 0 md_CityReader_needEnd 9 [o0] [] (jx (jx_0 L) I) (jx_Q (jx_0 L) Q)
  have hd : jm_dc md_CityReader_needEnd.2.1 9 [(.return_, 1)] = true := by decide +kernel
  exact go_vreturn hd rfl ⟨_, rfl, k⟩
theorem b_CityReader_needEnd_10 {L : Nat} {d : Nat} {I : jm_I} {Q : Option jm_V → jm_I → Prop}   (k : Cx (jx_0 L) d md_CityReader_nextToken [.inr (.inl 42)] I (fun v J => Gx (jx_0 L) (d + 1) md_CityReader_needEnd 14 [some (.inr (.inl 42))] (v.toList ++ []) J Q)) : Gx (jx_0 L) (d + 1) md_CityReader_needEnd 10 [some (.inr (.inl 42))] [] I Q := by
  show jm_Go (d + 1) 0 0 md_CityReader_needEnd 10 [some (.inr (.inl 42))] [] (jx (jx_0 L) I) (jx_Q (jx_0 L) Q)
  have hd : jm_dc md_CityReader_needEnd.2.1 10 [(.aload_n 0, 1), (.invokevirtual 38, 3)] = true := by decide +kernel
  refine go_aload_n rfl hd (fun hd => ?_)
  exact gx_virtual 42 1 [] [] mk_CityReader_nextToken co_X1 rfl ml_1_38 in_CityReader_nextToken se_CityReader_nextToken rfl rfl (Nat.le_of_ble_eq_true rfl) rfl (Nat.le_of_ble_eq_true rfl) rfl hd k
theorem b_CityReader_needEnd_14 {L : Nat} {d : Nat} {I : jm_I} {Q : Option jm_V → jm_I → Prop}   (hz : (-2147483648 ≤ I 42 4 ∧ I 42 4 < 2147483648)) (kt : (I 42 4) = 59 → Gx (jx_0 L) d md_CityReader_needEnd 27 [some (.inr (.inl 42))] [] I Q) (kf : ¬ (I 42 4) = 59 → Gx (jx_0 L) d md_CityReader_needEnd 23 [some (.inr (.inl 42))] [] I Q) : Gx (jx_0 L) d md_CityReader_needEnd 14 [some (.inr (.inl 42))] [] I Q := by
  have hz1 := hz
  show jm_Go d 0 0 md_CityReader_needEnd 14 [some (.inr (.inl 42))] [] (jx (jx_0 L) I) (jx_Q (jx_0 L) Q)
  have hd : jm_dc md_CityReader_needEnd.2.1 14 [(.aload_n 0, 1), (.getfield 41, 3), (.bipush 59, 2), (.if_icmp .eq 7, 3)] = true := by decide +kernel
  refine go_aload_n rfl hd (fun hd => ?_)
  refine go_getI co_X1 fl_1_41 (by decide) (Or.inl rfl) rfl hd (fun hd => ?_)
  refine go_bipush (by decide) hd (fun hd => ?_)
  exact go_icmp_eq (by decide) hz1 ⟨by decide, by decide⟩ hd kt kf
theorem b_CityReader_needEnd_23 {L : Nat} {d : Nat} {I : jm_I} {Q : Option jm_V → jm_I → Prop}   (k : Cx (jx_0 L) d md_CityReader_refuse [.inr (.inl 42)] I (fun v J => Gx (jx_0 L) (d + 1) md_CityReader_needEnd 27 [some (.inr (.inl 42))] (v.toList ++ []) J Q)) : Gx (jx_0 L) (d + 1) md_CityReader_needEnd 23 [some (.inr (.inl 42))] [] I Q := by
  show jm_Go (d + 1) 0 0 md_CityReader_needEnd 23 [some (.inr (.inl 42))] [] (jx (jx_0 L) I) (jx_Q (jx_0 L) Q)
  have hd : jm_dc md_CityReader_needEnd.2.1 23 [(.aload_n 0, 1), (.invokevirtual 66, 3)] = true := by decide +kernel
  refine go_aload_n rfl hd (fun hd => ?_)
  exact gx_virtual 42 1 [] [] mk_CityReader_refuse co_X1 rfl ml_1_66 in_CityReader_refuse se_CityReader_refuse rfl rfl (Nat.le_of_ble_eq_true rfl) rfl (Nat.le_of_ble_eq_true rfl) rfl hd k
theorem b_CityReader_needEnd_27 {L : Nat} {d : Nat} {I : jm_I} {Q : Option jm_V → jm_I → Prop} {o0 : Option jm_V}  (k : Q none I) : Gx (jx_0 L) d md_CityReader_needEnd 27 [o0] [] I Q := by
  show jm_Go d 0 0 md_CityReader_needEnd 27 [o0] [] (jx (jx_0 L) I) (jx_Q (jx_0 L) Q)
  have hd : jm_dc md_CityReader_needEnd.2.1 27 [(.return_, 1)] = true := by decide +kernel
  exact go_vreturn hd rfl ⟨_, rfl, k⟩
theorem b_History_remember_0 {L : Nat} {d : Nat} {I : jm_I} {Q : Option jm_V → jm_I → Prop} {a1 : Nat} (ha1 : jx_Mom (jx_0 L) a1) (hz : (0 ≤ I 49 1 ∧ I 49 1 < 10)) (k : Cx (jx_0 L) d md_Moment_copyFrom [.inr (.inl (51 + 5 * (I 49 1).toNat)), .inr (.inl a1)] I (fun v J => Gx (jx_0 L) (d + 1) md_History_remember 13 [some (.inr (.inl 49)), some (.inr (.inl a1))] (v.toList ++ []) J Q)) : Cx (jx_0 L) (d + 1) md_History_remember [.inr (.inl 49), .inr (.inl a1)] I Q := by
  have hz1 := hz
  show jm_Go (d + 1) 0 0 md_History_remember 0 [some (.inr (.inl 49)), some (.inr (.inl a1))] [] (jx (jx_0 L) I) (jx_Q (jx_0 L) Q)
  have hd : jm_dc md_History_remember.2.1 0 [(.aload_n 0, 1), (.getfield 11, 3), (.aload_n 0, 1), (.getfield 18, 3), (.aaload, 1), (.aload_n 1, 1), (.invokevirtual 22, 3)] = true := by decide +kernel
  refine go_aload_n rfl hd (fun hd => ?_)
  refine go_getR co_X4 fl_4_11 (by decide) rfl rfl rfl hd (fun hd => ?_)
  refine go_aload_n rfl hd (fun hd => ?_)
  refine go_getI co_X4 fl_4_18 (by decide) (Or.inl rfl) rfl hd (fun hd => ?_)
  refine go_aaload (Or.inl rfl) hz1.1 hz1.2 (by decide) (rw_R50 (L := L) hz1.1 hz1.2) hd (fun hd => ?_)
  refine go_aload_n rfl hd (fun hd => ?_)
  exact gx_virtual (51 + 5 * (I 49 1).toNat) 5 [.inr (.inl a1)] [] mk_Moment_copyFrom co_X5 rfl ml_4_22 in_Moment_copyFrom se_Moment_copyFrom (mo_K (rw_M50 (L := L) hz1.1 hz1.2)) rfl (Nat.le_of_ble_eq_true rfl) rfl (Nat.le_of_ble_eq_true rfl) rfl hd k
theorem b_History_remember_13 {L : Nat} {d : Nat} {I : jm_I} {Q : Option jm_V → jm_I → Prop} {o1 : Option jm_V}  (hz : (0 ≤ (I 49 1) + 1 ∧ (I 49 1) + 1 < 2147483648) ∧ (-2147483648 ≤ (I 49 2) + 1 ∧ (I 49 2) + 1 < 2147483648)) (k : Q none (jm_up (jm_up I 49 1 (((I 49 1) + 1) % 10)) 49 2 (min ((I 49 2) + 1) 10))) : Gx (jx_0 L) d md_History_remember 13 [some (.inr (.inl 49)), o1] [] I Q := by
  obtain ⟨hz1, hz2⟩ := hz
  show jm_Go d 0 0 md_History_remember 13 [some (.inr (.inl 49)), o1] [] (jx (jx_0 L) I) (jx_Q (jx_0 L) Q)
  have hd : jm_dc md_History_remember.2.1 13 [(.aload_n 0, 1), (.aload_n 0, 1), (.getfield 18, 3), (.iconst 1, 1), (.iadd, 1), (.bipush 10, 2), (.irem, 1), (.putfield 18, 3), (.aload_n 0, 1), (.aload_n 0, 1), (.getfield 26, 3), (.iconst 1, 1), (.iadd, 1), (.bipush 10, 2), (.invokestatic 29, 3), (.putfield 26, 3), (.return_, 1)] = true := by decide +kernel
  refine go_aload_n rfl hd (fun hd => ?_)
  refine go_aload_n rfl hd (fun hd => ?_)
  refine go_getI co_X4 fl_4_18 (by decide) (Or.inl rfl) rfl hd (fun hd => ?_)
  refine go_iconst hd (fun hd => ?_)
  refine go_iadd hd (fun hd => ?_)
  refine go_bipush (by decide) hd (fun hd => ?_)
  refine go_irem hz1 (by decide) hd (fun hd => ?_)
  refine go_putI co_X4 fl_4_18 (by decide) rfl rfl hd (fun hd => ?_)
  refine go_aload_n rfl hd (fun hd => ?_)
  refine go_aload_n rfl hd (fun hd => ?_)
  refine go_getI co_X4 fl_4_26 (by decide) (Or.inl rfl) rfl hd (fun hd => ?_)
  refine go_iconst hd (fun hd => ?_)
  refine go_iadd hd (fun hd => ?_)
  refine go_bipush (by decide) hd (fun hd => ?_)
  refine go_min ml_4_29 hz2 ⟨by decide, by decide⟩ (Nat.le_of_ble_eq_true rfl) hd (fun hd => ?_)
  refine go_putI co_X4 fl_4_26 (by decide) rfl rfl hd (fun hd => ?_)
  exact go_vreturn hd rfl ⟨_, rfl, k⟩
theorem b_History_recallInto_0 {L : Nat} {d : Nat} {I : jm_I} {Q : Option jm_V → jm_I → Prop} {a1 : Nat} (ha1 : jx_Mom (jx_0 L) a1) (hz : (0 ≤ ((I 49 1) + 10) - 1 ∧ ((I 49 1) + 10) - 1 < 2147483648) ∧ (0 ≤ ((((I 49 1) + 10) - 1) % 10) ∧ ((((I 49 1) + 10) - 1) % 10) < 10)) (k : Cx (jx_0 L) d md_Moment_copyFrom [.inr (.inl a1), .inr (.inl (51 + 5 * (((((I 49 1) + 10) - 1) % 10)).toNat))] (jm_up I 49 1 ((((I 49 1) + 10) - 1) % 10)) (fun v J => Gx (jx_0 L) (d + 1) md_History_recallInto 29 [some (.inr (.inl 49)), some (.inr (.inl a1))] (v.toList ++ []) J Q)) : Cx (jx_0 L) (d + 1) md_History_recallInto [.inr (.inl 49), .inr (.inl a1)] I Q := by
  obtain ⟨hz1, hz2⟩ := hz
  show jm_Go (d + 1) 0 0 md_History_recallInto 0 [some (.inr (.inl 49)), some (.inr (.inl a1))] [] (jx (jx_0 L) I) (jx_Q (jx_0 L) Q)
  have hd : jm_dc md_History_recallInto.2.1 0 [(.aload_n 0, 1), (.aload_n 0, 1), (.getfield 18, 3), (.bipush 10, 2), (.iadd, 1), (.iconst 1, 1), (.isub, 1), (.bipush 10, 2), (.irem, 1), (.putfield 18, 3), (.aload_n 1, 1), (.aload_n 0, 1), (.getfield 11, 3), (.aload_n 0, 1), (.getfield 18, 3), (.aaload, 1), (.invokevirtual 22, 3)] = true := by decide +kernel
  refine go_aload_n rfl hd (fun hd => ?_)
  refine go_aload_n rfl hd (fun hd => ?_)
  refine go_getI co_X4 fl_4_18 (by decide) (Or.inl rfl) rfl hd (fun hd => ?_)
  refine go_bipush (by decide) hd (fun hd => ?_)
  refine go_iadd hd (fun hd => ?_)
  refine go_iconst hd (fun hd => ?_)
  refine go_isub hd (fun hd => ?_)
  refine go_bipush (by decide) hd (fun hd => ?_)
  refine go_irem hz1 (by decide) hd (fun hd => ?_)
  refine go_putI co_X4 fl_4_18 (by decide) rfl rfl hd (fun hd => ?_)
  refine go_aload_n rfl hd (fun hd => ?_)
  refine go_aload_n rfl hd (fun hd => ?_)
  refine go_getR co_X4 fl_4_11 (by decide) rfl rfl rfl hd (fun hd => ?_)
  refine go_aload_n rfl hd (fun hd => ?_)
  refine go_getI co_X4 fl_4_18 (by decide) (Or.inl rfl) rfl hd (fun hd => ?_)
  refine go_aaload (Or.inl rfl) hz2.1 hz2.2 (by decide) (rw_R50 (L := L) hz2.1 hz2.2) hd (fun hd => ?_)
  exact gx_virtual a1 5 [.inr (.inl (51 + 5 * (((((I 49 1) + 10) - 1) % 10)).toNat))] [] mk_Moment_copyFrom co_X5 rfl ml_4_22 in_Moment_copyFrom se_Moment_copyFrom (mo_K ha1) rfl (Nat.le_of_ble_eq_true rfl) rfl (Nat.le_of_ble_eq_true rfl) rfl hd k
theorem b_History_recallInto_29 {L : Nat} {d : Nat} {I : jm_I} {Q : Option jm_V → jm_I → Prop} {o1 : Option jm_V}  (k : Q none (jm_up I 49 2 ((I 49 2) - 1))) : Gx (jx_0 L) d md_History_recallInto 29 [some (.inr (.inl 49)), o1] [] I Q := by
  show jm_Go d 0 0 md_History_recallInto 29 [some (.inr (.inl 49)), o1] [] (jx (jx_0 L) I) (jx_Q (jx_0 L) Q)
  have hd : jm_dc md_History_recallInto.2.1 29 [(.aload_n 0, 1), (.dup, 1), (.getfield 26, 3), (.iconst 1, 1), (.isub, 1), (.putfield 26, 3), (.return_, 1)] = true := by decide +kernel
  refine go_aload_n rfl hd (fun hd => ?_)
  refine go_dup rfl hd (fun hd => ?_)
  refine go_getI co_X4 fl_4_26 (by decide) (Or.inl rfl) rfl hd (fun hd => ?_)
  refine go_iconst hd (fun hd => ?_)
  refine go_isub hd (fun hd => ?_)
  refine go_putI co_X4 fl_4_26 (by decide) rfl rfl hd (fun hd => ?_)
  exact go_vreturn hd rfl ⟨_, rfl, k⟩
theorem b_PressTable_fill_0 {L : Nat} {d : Nat} {I : jm_I} {Q : Option jm_V → jm_I → Prop} {a1 : Nat} {a2 : Nat} {x3 : Int} {x4 : Int} {x5 : Int} (ha1 : jx_City (jx_0 L) a1) (ha2 : jx_Mom (jx_0 L) a2) (k : Cx (jx_0 L) d md_Moment_rested [.inr (.inl a2), .inr (.inl a1)] (jm_up (jm_up (jm_up I 107 0 ((a1 : Nat) : Int)) 107 1 ((a2 : Nat) : Int)) 107 2 x3) (fun v J => Gx (jx_0 L) (d + 1) md_PressTable_fill 27 [some (.inr (.inl 107)), some (.inr (.inl a1)), some (.inr (.inl a2)), some (.inl x3), some (.inl x4), some (.inl x5), none, none] (v.toList ++ [.inr (.inl 107)]) J Q)) : Cx (jx_0 L) (d + 1) md_PressTable_fill [.inr (.inl 107), .inr (.inl a1), .inr (.inl a2), .inl x3, .inl x4, .inl x5] I Q := by
  show jm_Go (d + 1) 0 0 md_PressTable_fill 0 [some (.inr (.inl 107)), some (.inr (.inl a1)), some (.inr (.inl a2)), some (.inl x3), some (.inl x4), some (.inl x5), none, none] [] (jx (jx_0 L) I) (jx_Q (jx_0 L) Q)
  have hd : jm_dc md_PressTable_fill.2.1 0 [(.aload_n 0, 1), (.aload_n 1, 1), (.putfield 23, 3), (.aload_n 0, 1), (.aload_n 2, 1), (.putfield 27, 3), (.aload_n 0, 1), (.iload_n 3, 1), (.putfield 31, 3), (.aload_n 0, 1), (.aload_n 0, 1), (.getfield 27, 3), (.aload_n 0, 1), (.getfield 23, 3), (.invokevirtual 35, 3)] = true := by decide +kernel
  refine go_aload_n rfl hd (fun hd => ?_)
  refine go_aload_n rfl hd (fun hd => ?_)
  refine go_putD co_X6 fl_6_23 (by decide) rfl rfl (ct_pos ha1) hd (fun hd => ?_)
  refine go_aload_n rfl hd (fun hd => ?_)
  refine go_aload_n rfl hd (fun hd => ?_)
  refine go_putD co_X6 fl_6_27 (by decide) rfl rfl (mo_pos ha2) hd (fun hd => ?_)
  refine go_aload_n rfl hd (fun hd => ?_)
  refine go_iload_n rfl hd (fun hd => ?_)
  refine go_putI co_X6 fl_6_31 (by decide) rfl rfl hd (fun hd => ?_)
  refine go_aload_n rfl hd (fun hd => ?_)
  refine go_aload_n rfl hd (fun hd => ?_)
  refine go_getD co_X6 fl_6_27 (by decide) rfl rfl rfl (mo_pos ha2) hd (fun hd => ?_)
  refine go_aload_n rfl hd (fun hd => ?_)
  refine go_getD co_X6 fl_6_23 (by decide) rfl rfl rfl (ct_pos ha1) hd (fun hd => ?_)
  exact gx_virtual a2 5 [.inr (.inl a1)] [.inr (.inl 107)] mk_Moment_rested co_X5 rfl ml_6_35 in_Moment_rested se_Moment_rested (mo_K ha2) rfl (Nat.le_of_ble_eq_true rfl) rfl (Nat.le_of_ble_eq_true rfl) rfl hd k
theorem b_PressTable_fill_27 {L : Nat} {d : Nat} {I : jm_I} {Q : Option jm_V → jm_I → Prop} {o1 : Option jm_V} {o2 : Option jm_V} {o3 : Option jm_V} {o4 : Option jm_V} {o5 : Option jm_V} {o6 : Option jm_V} {o7 : Option jm_V} {s1 : Int}  (k : Cx (jx_0 L) d md_PressTable_fillCarried [.inr (.inl 107)] (jm_up I 107 3 s1) (fun v J => Gx (jx_0 L) (d + 1) md_PressTable_fill 34 [some (.inr (.inl 107)), o1, o2, o3, o4, o5, o6, o7] (v.toList ++ []) J Q)) : Gx (jx_0 L) (d + 1) md_PressTable_fill 27 [some (.inr (.inl 107)), o1, o2, o3, o4, o5, o6, o7] [.inl s1, .inr (.inl 107)] I Q := by
  show jm_Go (d + 1) 0 0 md_PressTable_fill 27 [some (.inr (.inl 107)), o1, o2, o3, o4, o5, o6, o7] [.inl s1, .inr (.inl 107)] (jx (jx_0 L) I) (jx_Q (jx_0 L) Q)
  have hd : jm_dc md_PressTable_fill.2.1 27 [(.putfield 41, 3), (.aload_n 0, 1), (.invokevirtual 43, 3)] = true := by decide +kernel
  refine go_putI co_X6 fl_6_41 (by decide) rfl rfl hd (fun hd => ?_)
  refine go_aload_n rfl hd (fun hd => ?_)
  exact gx_virtual 107 6 [] [] mk_PressTable_fillCarried co_X6 rfl ml_6_43 in_PressTable_fillCarried se_PressTable_fillCarried rfl rfl (Nat.le_of_ble_eq_true rfl) rfl (Nat.le_of_ble_eq_true rfl) rfl hd k
theorem b_PressTable_fill_34 {L : Nat} {d : Nat} {I : jm_I} {Q : Option jm_V → jm_I → Prop} {o1 : Option jm_V} {o2 : Option jm_V} {o3 : Option jm_V} {x4 : Int} {o5 : Option jm_V} {o6 : Option jm_V} {o7 : Option jm_V}  (k : Cx (jx_0 L) d md_PressTable_spotsInRoom [.inr (.inl 107), .inl x4] I (fun v J => Gx (jx_0 L) (d + 1) md_PressTable_fill 40 [some (.inr (.inl 107)), o1, o2, o3, some (.inl x4), o5, o6, o7] (v.toList ++ []) J Q)) : Gx (jx_0 L) (d + 1) md_PressTable_fill 34 [some (.inr (.inl 107)), o1, o2, o3, some (.inl x4), o5, o6, o7] [] I Q := by
  show jm_Go (d + 1) 0 0 md_PressTable_fill 34 [some (.inr (.inl 107)), o1, o2, o3, some (.inl x4), o5, o6, o7] [] (jx (jx_0 L) I) (jx_Q (jx_0 L) Q)
  have hd : jm_dc md_PressTable_fill.2.1 34 [(.aload_n 0, 1), (.iload 4, 2), (.invokevirtual 46, 3)] = true := by decide +kernel
  refine go_aload_n rfl hd (fun hd => ?_)
  refine go_iload rfl hd (fun hd => ?_)
  exact gx_virtual 107 6 [.inl x4] [] mk_PressTable_spotsInRoom co_X6 rfl ml_6_46 in_PressTable_spotsInRoom se_PressTable_spotsInRoom rfl rfl (Nat.le_of_ble_eq_true rfl) rfl (Nat.le_of_ble_eq_true rfl) rfl hd k
theorem b_PressTable_fill_40 {L : Nat} {d : Nat} {I : jm_I} {Q : Option jm_V → jm_I → Prop} {o0 : Option jm_V} {o1 : Option jm_V} {o2 : Option jm_V} {o3 : Option jm_V} {o4 : Option jm_V} {o5 : Option jm_V} {o6 : Option jm_V} {o7 : Option jm_V} {s0 : Int}  (k : Gx (jx_0 L) d md_PressTable_fill 45 [o0, o1, o2, o3, o4, o5, some (.inl s0), some (.inl 0)] [] I Q) : Gx (jx_0 L) d md_PressTable_fill 40 [o0, o1, o2, o3, o4, o5, o6, o7] [.inl s0] I Q := by
  show jm_Go d 0 0 md_PressTable_fill 40 [o0, o1, o2, o3, o4, o5, o6, o7] [.inl s0] (jx (jx_0 L) I) (jx_Q (jx_0 L) Q)
  have hd : jm_dc md_PressTable_fill.2.1 40 [(.istore 6, 2), (.iconst 0, 1), (.istore 7, 2)] = true := by decide +kernel
  refine go_istore (by decide) hd (fun hd => ?_)
  refine go_iconst hd (fun hd => ?_)
  refine go_istore (by decide) hd (fun hd => ?_)
  exact k
theorem b_PressTable_fill_45 {L : Nat} {d : Nat} {I : jm_I} {Q : Option jm_V → jm_I → Prop} {o0 : Option jm_V} {o1 : Option jm_V} {o2 : Option jm_V} {o3 : Option jm_V} {o4 : Option jm_V} {o5 : Option jm_V} {o6 : Option jm_V} {x7 : Int}  (hz : (-2147483648 ≤ x7 ∧ x7 < 2147483648)) (kt : 32 ≤ x7 → Gx (jx_0 L) d md_PressTable_fill 95 [o0, o1, o2, o3, o4, o5, o6, some (.inl x7)] [] I Q) (kf : ¬ (32 ≤ x7) → Gx (jx_0 L) d md_PressTable_fill 52 [o0, o1, o2, o3, o4, o5, o6, some (.inl x7)] [] I Q) : Gx (jx_0 L) d md_PressTable_fill 45 [o0, o1, o2, o3, o4, o5, o6, some (.inl x7)] [] I Q := by
  have hz1 := hz
  show jm_Go d 0 0 md_PressTable_fill 45 [o0, o1, o2, o3, o4, o5, o6, some (.inl x7)] [] (jx (jx_0 L) I) (jx_Q (jx_0 L) Q)
  have hd : jm_dc md_PressTable_fill.2.1 45 [(.iload 7, 2), (.bipush 32, 2), (.if_icmp .ge 46, 3)] = true := by decide +kernel
  refine go_iload rfl hd (fun hd => ?_)
  refine go_bipush (by decide) hd (fun hd => ?_)
  exact go_icmp_ge (by decide) hz1 ⟨by decide, by decide⟩ hd kt kf
theorem b_PressTable_fill_52 {L : Nat} {d : Nat} {I : jm_I} {Q : Option jm_V → jm_I → Prop} {o1 : Option jm_V} {o2 : Option jm_V} {o3 : Option jm_V} {o4 : Option jm_V} {o5 : Option jm_V} {o6 : Option jm_V} {x7 : Int}  (hz : (-2147483648 ≤ jb_and x7 (jb_xor (I 107 3) (-1)) ∧ jb_and x7 (jb_xor (I 107 3) (-1)) < 2147483648)) (kt : ¬ (jb_and x7 (jb_xor (I 107 3) (-1))) = 0 → Gx (jx_0 L) d md_PressTable_fill 87 [some (.inr (.inl 107)), o1, o2, o3, o4, o5, o6, some (.inl x7)] [.inl x7, .inr (.inl 147)] I Q) (kf : (jb_and x7 (jb_xor (I 107 3) (-1))) = 0 → Gx (jx_0 L) d md_PressTable_fill 70 [some (.inr (.inl 107)), o1, o2, o3, o4, o5, o6, some (.inl x7)] [.inl x7, .inr (.inl 147)] I Q) : Gx (jx_0 L) d md_PressTable_fill 52 [some (.inr (.inl 107)), o1, o2, o3, o4, o5, o6, some (.inl x7)] [] I Q := by
  have hz1 := hz
  show jm_Go d 0 0 md_PressTable_fill 52 [some (.inr (.inl 107)), o1, o2, o3, o4, o5, o6, some (.inl x7)] [] (jx (jx_0 L) I) (jx_Q (jx_0 L) Q)
  have hd : jm_dc md_PressTable_fill.2.1 52 [(.aload_n 0, 1), (.getfield 19, 3), (.iload 7, 2), (.iload 7, 2), (.aload_n 0, 1), (.getfield 41, 3), (.iconst (-1), 1), (.ixor, 1), (.iand, 1), (.ifCond .ne 20, 3)] = true := by decide +kernel
  refine go_aload_n rfl hd (fun hd => ?_)
  refine go_getR co_X6 fl_6_19 (by decide) rfl rfl rfl hd (fun hd => ?_)
  refine go_iload rfl hd (fun hd => ?_)
  refine go_iload rfl hd (fun hd => ?_)
  refine go_aload_n rfl hd (fun hd => ?_)
  refine go_getI co_X6 fl_6_41 (by decide) (Or.inl rfl) rfl hd (fun hd => ?_)
  refine go_iconst hd (fun hd => ?_)
  refine go_ixor hd (fun hd => ?_)
  refine go_iand hd (fun hd => ?_)
  exact go_if_ne (by decide) hz1 hd kt kf
theorem b_PressTable_fill_70 {L : Nat} {d : Nat} {I : jm_I} {Q : Option jm_V → jm_I → Prop} {o1 : Option jm_V} {o2 : Option jm_V} {o3 : Option jm_V} {o4 : Option jm_V} {x5 : Int} {x6 : Int} {x7 : Int} {s1 : Int}  (k : Cx (jx_0 L) d md_PressTable_fillRow [.inr (.inl 107), .inl x7, .inl x5, .inl x6] I (fun v J => Gx (jx_0 L) (d + 1) md_PressTable_fill 80 [some (.inr (.inl 107)), o1, o2, o3, o4, some (.inl x5), some (.inl x6), some (.inl x7)] (v.toList ++ [.inl s1, .inr (.inl 147)]) J Q)) : Gx (jx_0 L) (d + 1) md_PressTable_fill 70 [some (.inr (.inl 107)), o1, o2, o3, o4, some (.inl x5), some (.inl x6), some (.inl x7)] [.inl s1, .inr (.inl 147)] I Q := by
  show jm_Go (d + 1) 0 0 md_PressTable_fill 70 [some (.inr (.inl 107)), o1, o2, o3, o4, some (.inl x5), some (.inl x6), some (.inl x7)] [.inl s1, .inr (.inl 147)] (jx (jx_0 L) I) (jx_Q (jx_0 L) Q)
  have hd : jm_dc md_PressTable_fill.2.1 70 [(.aload_n 0, 1), (.iload 7, 2), (.iload 5, 2), (.iload 6, 2), (.invokevirtual 50, 3)] = true := by decide +kernel
  refine go_aload_n rfl hd (fun hd => ?_)
  refine go_iload rfl hd (fun hd => ?_)
  refine go_iload rfl hd (fun hd => ?_)
  refine go_iload rfl hd (fun hd => ?_)
  exact gx_virtual 107 6 [.inl x7, .inl x5, .inl x6] [.inl s1, .inr (.inl 147)] mk_PressTable_fillRow co_X6 rfl ml_6_50 in_PressTable_fillRow se_PressTable_fillRow rfl rfl (Nat.le_of_ble_eq_true rfl) rfl (Nat.le_of_ble_eq_true rfl) rfl hd k
theorem b_PressTable_fill_80 {L : Nat} {d : Nat} {I : jm_I} {Q : Option jm_V → jm_I → Prop} {o0 : Option jm_V} {o1 : Option jm_V} {o2 : Option jm_V} {o3 : Option jm_V} {o4 : Option jm_V} {o5 : Option jm_V} {o6 : Option jm_V} {o7 : Option jm_V} {s1 : Int} {s2 : Int}  (hz : (-2147483648 ≤ s2 ∧ s2 < 2147483648)) (kt : s2 = 0 → Gx (jx_0 L) d md_PressTable_fill 87 [o0, o1, o2, o3, o4, o5, o6, o7] [.inl s1, .inr (.inl 147)] I Q) (kf : ¬ s2 = 0 → Gx (jx_0 L) d md_PressTable_fill 83 [o0, o1, o2, o3, o4, o5, o6, o7] [.inl s1, .inr (.inl 147)] I Q) : Gx (jx_0 L) d md_PressTable_fill 80 [o0, o1, o2, o3, o4, o5, o6, o7] [.inl s2, .inl s1, .inr (.inl 147)] I Q := by
  have hz1 := hz
  show jm_Go d 0 0 md_PressTable_fill 80 [o0, o1, o2, o3, o4, o5, o6, o7] [.inl s2, .inl s1, .inr (.inl 147)] (jx (jx_0 L) I) (jx_Q (jx_0 L) Q)
  have hd : jm_dc md_PressTable_fill.2.1 80 [(.ifCond .eq 7, 3)] = true := by decide +kernel
  exact go_if_eq (by decide) hz1 hd kt kf
theorem b_PressTable_fill_83 {L : Nat} {d : Nat} {I : jm_I} {Q : Option jm_V → jm_I → Prop} {o0 : Option jm_V} {o1 : Option jm_V} {o2 : Option jm_V} {o3 : Option jm_V} {o4 : Option jm_V} {o5 : Option jm_V} {o6 : Option jm_V} {o7 : Option jm_V} {s1 : Int}  (k : Gx (jx_0 L) d md_PressTable_fill 88 [o0, o1, o2, o3, o4, o5, o6, o7] [.inl 1, .inl s1, .inr (.inl 147)] I Q) : Gx (jx_0 L) d md_PressTable_fill 83 [o0, o1, o2, o3, o4, o5, o6, o7] [.inl s1, .inr (.inl 147)] I Q := by
  show jm_Go d 0 0 md_PressTable_fill 83 [o0, o1, o2, o3, o4, o5, o6, o7] [.inl s1, .inr (.inl 147)] (jx (jx_0 L) I) (jx_Q (jx_0 L) Q)
  have hd : jm_dc md_PressTable_fill.2.1 83 [(.iconst 1, 1), (.goto 4, 3)] = true := by decide +kernel
  refine go_iconst hd (fun hd => ?_)
  exact go_goto (by decide) hd k
theorem b_PressTable_fill_87 {L : Nat} {d : Nat} {I : jm_I} {Q : Option jm_V → jm_I → Prop} {o0 : Option jm_V} {o1 : Option jm_V} {o2 : Option jm_V} {o3 : Option jm_V} {o4 : Option jm_V} {o5 : Option jm_V} {o6 : Option jm_V} {o7 : Option jm_V} {s1 : Int}  (k : Gx (jx_0 L) d md_PressTable_fill 88 [o0, o1, o2, o3, o4, o5, o6, o7] [.inl 0, .inl s1, .inr (.inl 147)] I Q) : Gx (jx_0 L) d md_PressTable_fill 87 [o0, o1, o2, o3, o4, o5, o6, o7] [.inl s1, .inr (.inl 147)] I Q := by
  show jm_Go d 0 0 md_PressTable_fill 87 [o0, o1, o2, o3, o4, o5, o6, o7] [.inl s1, .inr (.inl 147)] (jx (jx_0 L) I) (jx_Q (jx_0 L) Q)
  have hd : jm_dc md_PressTable_fill.2.1 87 [(.iconst 0, 1)] = true := by decide +kernel
  refine go_iconst hd (fun hd => ?_)
  exact k
theorem b_PressTable_fill_88 {L : Nat} {d : Nat} {I : jm_I} {Q : Option jm_V → jm_I → Prop} {o0 : Option jm_V} {o1 : Option jm_V} {o2 : Option jm_V} {o3 : Option jm_V} {o4 : Option jm_V} {o5 : Option jm_V} {o6 : Option jm_V} {x7 : Int} {s1 : Int} {s2 : Int}  (hz : (0 ≤ s1 ∧ s1 < 32) ∧ (s2 = 0 ∨ s2 = 1)) (k : Gx (jx_0 L) d md_PressTable_fill 45 [o0, o1, o2, o3, o4, o5, o6, some (.inl (x7 + 1))] [] (jm_up I 147 (s1.toNat) s2) Q) : Gx (jx_0 L) d md_PressTable_fill 88 [o0, o1, o2, o3, o4, o5, o6, some (.inl x7)] [.inl s2, .inl s1, .inr (.inl 147)] I Q := by
  obtain ⟨hz1, hz2⟩ := hz
  show jm_Go d 0 0 md_PressTable_fill 88 [o0, o1, o2, o3, o4, o5, o6, some (.inl x7)] [.inl s2, .inl s1, .inr (.inl 147)] (jx (jx_0 L) I) (jx_Q (jx_0 L) Q)
  have hd : jm_dc md_PressTable_fill.2.1 88 [(.bastore, 1), (.iinc 7 1, 3), (.goto (-47), 3)] = true := by decide +kernel
  refine go_zastore rfl hz1.1 hz1.2 (by decide) hz2 hd (fun hd => ?_)
  refine go_iinc rfl hd (fun hd => ?_)
  exact go_goto (by decide) hd k
theorem b_PressTable_fill_95 {L : Nat} {d : Nat} {I : jm_I} {Q : Option jm_V → jm_I → Prop} {o0 : Option jm_V} {o1 : Option jm_V} {o2 : Option jm_V} {o3 : Option jm_V} {o4 : Option jm_V} {o5 : Option jm_V} {o6 : Option jm_V} {o7 : Option jm_V}  (k : Q none I) : Gx (jx_0 L) d md_PressTable_fill 95 [o0, o1, o2, o3, o4, o5, o6, o7] [] I Q := by
  show jm_Go d 0 0 md_PressTable_fill 95 [o0, o1, o2, o3, o4, o5, o6, o7] [] (jx (jx_0 L) I) (jx_Q (jx_0 L) Q)
  have hd : jm_dc md_PressTable_fill.2.1 95 [(.return_, 1)] = true := by decide +kernel
  exact go_vreturn hd rfl ⟨_, rfl, k⟩
theorem b_PressTable_fillCarried_0 {L : Nat} {d : Nat} {I : jm_I} {Q : Option jm_V → jm_I → Prop}   (k : Gx (jx_0 L) d md_PressTable_fillCarried 2 [some (.inr (.inl 107)), some (.inl 0), none] [] I Q) : Cx (jx_0 L) d md_PressTable_fillCarried [.inr (.inl 107)] I Q := by
  show jm_Go d 0 0 md_PressTable_fillCarried 0 [some (.inr (.inl 107)), none, none] [] (jx (jx_0 L) I) (jx_Q (jx_0 L) Q)
  have hd : jm_dc md_PressTable_fillCarried.2.1 0 [(.iconst 0, 1), (.istore_n 1, 1)] = true := by decide +kernel
  refine go_iconst hd (fun hd => ?_)
  refine go_istore_n (by decide) hd (fun hd => ?_)
  exact k
theorem b_PressTable_fillCarried_2 {L : Nat} {d : Nat} {I : jm_I} {Q : Option jm_V → jm_I → Prop} {x1 : Int} {o2 : Option jm_V} {c1 : Nat} (hD1 : I 107 0 = (c1 : Int)) (hc1 : jx_City (jx_0 L) c1) (hz : (-2147483648 ≤ x1 ∧ x1 < 2147483648) ∧ (-2147483648 ≤ I c1 3 ∧ I c1 3 < 2147483648)) (kt : (I c1 3) ≤ x1 → Gx (jx_0 L) d md_PressTable_fillCarried 70 [some (.inr (.inl 107)), some (.inl x1), o2] [] I Q) (kf : ¬ ((I c1 3) ≤ x1) → Gx (jx_0 L) d md_PressTable_fillCarried 13 [some (.inr (.inl 107)), some (.inl x1), o2] [] I Q) : Gx (jx_0 L) d md_PressTable_fillCarried 2 [some (.inr (.inl 107)), some (.inl x1), o2] [] I Q := by
  obtain ⟨hz1, hz2⟩ := hz
  show jm_Go d 0 0 md_PressTable_fillCarried 2 [some (.inr (.inl 107)), some (.inl x1), o2] [] (jx (jx_0 L) I) (jx_Q (jx_0 L) Q)
  have hd : jm_dc md_PressTable_fillCarried.2.1 2 [(.iload_n 1, 1), (.aload_n 0, 1), (.getfield 23, 3), (.getfield 69, 3), (.if_icmp .ge 60, 3)] = true := by decide +kernel
  refine go_iload_n rfl hd (fun hd => ?_)
  refine go_aload_n rfl hd (fun hd => ?_)
  refine go_getD co_X6 fl_6_23 (by decide) rfl rfl hD1 (ct_pos hc1) hd (fun hd => ?_)
  refine go_getI co_X0 fl_6_69 (by decide) (Or.inl rfl) (ct_K hc1) hd (fun hd => ?_)
  exact go_icmp_ge (by decide) hz1 hz2 hd kt kf
theorem b_PressTable_fillCarried_13 {L : Nat} {d : Nat} {I : jm_I} {Q : Option jm_V → jm_I → Prop} {o0 : Option jm_V} {o1 : Option jm_V} {o2 : Option jm_V}  (k : Gx (jx_0 L) d md_PressTable_fillCarried 15 [o0, o1, some (.inl 0)] [] I Q) : Gx (jx_0 L) d md_PressTable_fillCarried 13 [o0, o1, o2] [] I Q := by
  show jm_Go d 0 0 md_PressTable_fillCarried 13 [o0, o1, o2] [] (jx (jx_0 L) I) (jx_Q (jx_0 L) Q)
  have hd : jm_dc md_PressTable_fillCarried.2.1 13 [(.iconst 0, 1), (.istore_n 2, 1)] = true := by decide +kernel
  refine go_iconst hd (fun hd => ?_)
  refine go_istore_n (by decide) hd (fun hd => ?_)
  exact k
theorem b_PressTable_fillCarried_15 {L : Nat} {d : Nat} {I : jm_I} {Q : Option jm_V → jm_I → Prop} {o0 : Option jm_V} {o1 : Option jm_V} {x2 : Int}  (hz : (-2147483648 ≤ x2 ∧ x2 < 2147483648)) (kt : 10 ≤ x2 → Gx (jx_0 L) d md_PressTable_fillCarried 64 [o0, o1, some (.inl x2)] [] I Q) (kf : ¬ (10 ≤ x2) → Gx (jx_0 L) d md_PressTable_fillCarried 21 [o0, o1, some (.inl x2)] [] I Q) : Gx (jx_0 L) d md_PressTable_fillCarried 15 [o0, o1, some (.inl x2)] [] I Q := by
  have hz1 := hz
  show jm_Go d 0 0 md_PressTable_fillCarried 15 [o0, o1, some (.inl x2)] [] (jx (jx_0 L) I) (jx_Q (jx_0 L) Q)
  have hd : jm_dc md_PressTable_fillCarried.2.1 15 [(.iload_n 2, 1), (.bipush 10, 2), (.if_icmp .ge 46, 3)] = true := by decide +kernel
  refine go_iload_n rfl hd (fun hd => ?_)
  refine go_bipush (by decide) hd (fun hd => ?_)
  exact go_icmp_ge (by decide) hz1 ⟨by decide, by decide⟩ hd kt kf
theorem b_PressTable_fillCarried_21 {L : Nat} {d : Nat} {I : jm_I} {Q : Option jm_V → jm_I → Prop} {x1 : Int} {x2 : Int}  (hz : (0 ≤ x1 ∧ x1 < 5)) (k : Cx (jx_0 L) d md_PressTable_isSpot [.inr (.inl 107), .inl x2] I (fun v J => Gx (jx_0 L) (d + 1) md_PressTable_fillCarried 33 [some (.inr (.inl 107)), some (.inl x1), some (.inl x2)] (v.toList ++ [.inl x2, .inr (.inl (142 + x1.toNat))]) J Q)) : Gx (jx_0 L) (d + 1) md_PressTable_fillCarried 21 [some (.inr (.inl 107)), some (.inl x1), some (.inl x2)] [] I Q := by
  have hz1 := hz
  show jm_Go (d + 1) 0 0 md_PressTable_fillCarried 21 [some (.inr (.inl 107)), some (.inl x1), some (.inl x2)] [] (jx (jx_0 L) I) (jx_Q (jx_0 L) Q)
  have hd : jm_dc md_PressTable_fillCarried.2.1 21 [(.aload_n 0, 1), (.getfield 16, 3), (.iload_n 1, 1), (.aaload, 1), (.iload_n 2, 1), (.aload_n 0, 1), (.iload_n 2, 1), (.invokevirtual 84, 3)] = true := by decide +kernel
  refine go_aload_n rfl hd (fun hd => ?_)
  refine go_getR co_X6 fl_6_16 (by decide) rfl rfl rfl hd (fun hd => ?_)
  refine go_iload_n rfl hd (fun hd => ?_)
  refine go_aaload (Or.inr rfl) hz1.1 hz1.2 (by decide) (rw_R141 (L := L) hz1.1 hz1.2) hd (fun hd => ?_)
  refine go_iload_n rfl hd (fun hd => ?_)
  refine go_aload_n rfl hd (fun hd => ?_)
  refine go_iload_n rfl hd (fun hd => ?_)
  exact gx_virtual 107 6 [.inl x2] [.inl x2, .inr (.inl (142 + x1.toNat))] mk_PressTable_isSpot co_X6 rfl ml_6_84 in_PressTable_isSpot se_PressTable_isSpot rfl rfl (Nat.le_of_ble_eq_true rfl) rfl (Nat.le_of_ble_eq_true rfl) rfl hd k
theorem b_PressTable_fillCarried_33 {L : Nat} {d : Nat} {I : jm_I} {Q : Option jm_V → jm_I → Prop} {o0 : Option jm_V} {o1 : Option jm_V} {o2 : Option jm_V} {b0 nb0 : Nat} {s1 : Int} {s2 : Int} (hb0 : (jx_0 L).2.1 b0 = (20, nb0)) (hz : (-2147483648 ≤ s2 ∧ s2 < 2147483648)) (kt : s2 = 0 → Gx (jx_0 L) d md_PressTable_fillCarried 56 [o0, o1, o2] [.inl s1, .inr (.inl b0)] I Q) (kf : ¬ s2 = 0 → Gx (jx_0 L) d md_PressTable_fillCarried 36 [o0, o1, o2] [.inl s1, .inr (.inl b0)] I Q) : Gx (jx_0 L) d md_PressTable_fillCarried 33 [o0, o1, o2] [.inl s2, .inl s1, .inr (.inl b0)] I Q := by
  have hz1 := hz
  show jm_Go d 0 0 md_PressTable_fillCarried 33 [o0, o1, o2] [.inl s2, .inl s1, .inr (.inl b0)] (jx (jx_0 L) I) (jx_Q (jx_0 L) Q)
  have hd : jm_dc md_PressTable_fillCarried.2.1 33 [(.ifCond .eq 23, 3)] = true := by decide +kernel
  exact go_if_eq (by decide) hz1 hd kt kf
theorem b_PressTable_fillCarried_36 {L : Nat} {d : Nat} {I : jm_I} {Q : Option jm_V → jm_I → Prop} {x1 : Int} {x2 : Int} {b0 nb0 : Nat} {s1 : Int} {c1 : Nat} (hb0 : (jx_0 L).2.1 b0 = (20, nb0)) (hD1 : I 107 0 = (c1 : Int)) (hc1 : jx_City (jx_0 L) c1) (k : Cx (jx_0 L) d md_City_roomOfSpot [.inr (.inl c1), .inl (I 107 2), .inl x2] I (fun v J => Gx (jx_0 L) (d + 1) md_PressTable_fillCarried 50 [some (.inr (.inl 107)), some (.inl x1), some (.inl x2)] (v.toList ++ [.inl x1, .inr (.inl 107), .inl s1, .inr (.inl b0)]) J Q)) : Gx (jx_0 L) (d + 1) md_PressTable_fillCarried 36 [some (.inr (.inl 107)), some (.inl x1), some (.inl x2)] [.inl s1, .inr (.inl b0)] I Q := by
  show jm_Go (d + 1) 0 0 md_PressTable_fillCarried 36 [some (.inr (.inl 107)), some (.inl x1), some (.inl x2)] [.inl s1, .inr (.inl b0)] (jx (jx_0 L) I) (jx_Q (jx_0 L) Q)
  have hd : jm_dc md_PressTable_fillCarried.2.1 36 [(.aload_n 0, 1), (.iload_n 1, 1), (.aload_n 0, 1), (.getfield 23, 3), (.aload_n 0, 1), (.getfield 31, 3), (.iload_n 2, 1), (.invokevirtual 88, 3)] = true := by decide +kernel
  refine go_aload_n rfl hd (fun hd => ?_)
  refine go_iload_n rfl hd (fun hd => ?_)
  refine go_aload_n rfl hd (fun hd => ?_)
  refine go_getD co_X6 fl_6_23 (by decide) rfl rfl hD1 (ct_pos hc1) hd (fun hd => ?_)
  refine go_aload_n rfl hd (fun hd => ?_)
  refine go_getI co_X6 fl_6_31 (by decide) (Or.inl rfl) rfl hd (fun hd => ?_)
  refine go_iload_n rfl hd (fun hd => ?_)
  exact gx_virtual c1 0 [.inl (I 107 2), .inl x2] [.inl x1, .inr (.inl 107), .inl s1, .inr (.inl b0)] mk_City_roomOfSpot co_X0 rfl ml_6_88 in_City_roomOfSpot se_City_roomOfSpot (ct_K hc1) rfl (Nat.le_of_ble_eq_true rfl) rfl (Nat.le_of_ble_eq_true rfl) rfl hd k
theorem b_PressTable_fillCarried_50 {L : Nat} {d : Nat} {I : jm_I} {Q : Option jm_V → jm_I → Prop} {o0 : Option jm_V} {o1 : Option jm_V} {o2 : Option jm_V} {b0 nb0 : Nat} {s1 : Int} {s3 : Int} {s4 : Int} (hb0 : (jx_0 L).2.1 b0 = (20, nb0)) (k : Cx (jx_0 L) d md_PressTable_spotsInReach [.inr (.inl 107), .inl s3, .inl s4] I (fun v J => Gx (jx_0 L) (d + 1) md_PressTable_fillCarried 53 [o0, o1, o2] (v.toList ++ [.inl s1, .inr (.inl b0)]) J Q)) : Gx (jx_0 L) (d + 1) md_PressTable_fillCarried 50 [o0, o1, o2] [.inl s4, .inl s3, .inr (.inl 107), .inl s1, .inr (.inl b0)] I Q := by
  show jm_Go (d + 1) 0 0 md_PressTable_fillCarried 50 [o0, o1, o2] [.inl s4, .inl s3, .inr (.inl 107), .inl s1, .inr (.inl b0)] (jx (jx_0 L) I) (jx_Q (jx_0 L) Q)
  have hd : jm_dc md_PressTable_fillCarried.2.1 50 [(.invokevirtual 91, 3)] = true := by decide +kernel
  exact gx_virtual 107 6 [.inl s3, .inl s4] [.inl s1, .inr (.inl b0)] mk_PressTable_spotsInReach co_X6 rfl ml_6_91 in_PressTable_spotsInReach se_PressTable_spotsInReach rfl rfl (Nat.le_of_ble_eq_true rfl) rfl (Nat.le_of_ble_eq_true rfl) rfl hd k
theorem b_PressTable_fillCarried_53 {L : Nat} {d : Nat} {I : jm_I} {Q : Option jm_V → jm_I → Prop} {o0 : Option jm_V} {o1 : Option jm_V} {o2 : Option jm_V} {b0 nb0 : Nat} {s1 : Int} {s2 : Int} (hb0 : (jx_0 L).2.1 b0 = (20, nb0)) (k : Gx (jx_0 L) d md_PressTable_fillCarried 57 [o0, o1, o2] [.inl s2, .inl s1, .inr (.inl b0)] I Q) : Gx (jx_0 L) d md_PressTable_fillCarried 53 [o0, o1, o2] [.inl s2, .inl s1, .inr (.inl b0)] I Q := by
  show jm_Go d 0 0 md_PressTable_fillCarried 53 [o0, o1, o2] [.inl s2, .inl s1, .inr (.inl b0)] (jx (jx_0 L) I) (jx_Q (jx_0 L) Q)
  have hd : jm_dc md_PressTable_fillCarried.2.1 53 [(.goto 4, 3)] = true := by decide +kernel
  exact go_goto (by decide) hd k
theorem b_PressTable_fillCarried_56 {L : Nat} {d : Nat} {I : jm_I} {Q : Option jm_V → jm_I → Prop} {o0 : Option jm_V} {o1 : Option jm_V} {o2 : Option jm_V} {b0 nb0 : Nat} {s1 : Int} (hb0 : (jx_0 L).2.1 b0 = (20, nb0)) (k : Gx (jx_0 L) d md_PressTable_fillCarried 57 [o0, o1, o2] [.inl 0, .inl s1, .inr (.inl b0)] I Q) : Gx (jx_0 L) d md_PressTable_fillCarried 56 [o0, o1, o2] [.inl s1, .inr (.inl b0)] I Q := by
  show jm_Go d 0 0 md_PressTable_fillCarried 56 [o0, o1, o2] [.inl s1, .inr (.inl b0)] (jx (jx_0 L) I) (jx_Q (jx_0 L) Q)
  have hd : jm_dc md_PressTable_fillCarried.2.1 56 [(.iconst 0, 1)] = true := by decide +kernel
  refine go_iconst hd (fun hd => ?_)
  exact k
theorem b_PressTable_fillCarried_57 {L : Nat} {d : Nat} {I : jm_I} {Q : Option jm_V → jm_I → Prop} {o0 : Option jm_V} {o1 : Option jm_V} {x2 : Int} {b0 nb0 : Nat} {s1 : Int} {s2 : Int} (hb0 : (jx_0 L).2.1 b0 = (20, nb0)) (hz : (0 ≤ s1 ∧ s1 < nb0) ∧ (nb0 < 2147483648)) (k : Gx (jx_0 L) d md_PressTable_fillCarried 15 [o0, o1, some (.inl (x2 + 1))] [] (jm_up I b0 (s1.toNat) s2) Q) : Gx (jx_0 L) d md_PressTable_fillCarried 57 [o0, o1, some (.inl x2)] [.inl s2, .inl s1, .inr (.inl b0)] I Q := by
  obtain ⟨hz1, hz2⟩ := hz
  show jm_Go d 0 0 md_PressTable_fillCarried 57 [o0, o1, some (.inl x2)] [.inl s2, .inl s1, .inr (.inl b0)] (jx (jx_0 L) I) (jx_Q (jx_0 L) Q)
  have hd : jm_dc md_PressTable_fillCarried.2.1 57 [(.iastore, 1), (.iinc 2 1, 3), (.goto (-46), 3)] = true := by decide +kernel
  refine go_iastore hb0 hz1.1 hz1.2 hz2 hd (fun hd => ?_)
  refine go_iinc rfl hd (fun hd => ?_)
  exact go_goto (by decide) hd k
theorem b_PressTable_fillCarried_64 {L : Nat} {d : Nat} {I : jm_I} {Q : Option jm_V → jm_I → Prop} {o0 : Option jm_V} {x1 : Int} {o2 : Option jm_V}  (k : Gx (jx_0 L) d md_PressTable_fillCarried 2 [o0, some (.inl (x1 + 1)), o2] [] I Q) : Gx (jx_0 L) d md_PressTable_fillCarried 64 [o0, some (.inl x1), o2] [] I Q := by
  show jm_Go d 0 0 md_PressTable_fillCarried 64 [o0, some (.inl x1), o2] [] (jx (jx_0 L) I) (jx_Q (jx_0 L) Q)
  have hd : jm_dc md_PressTable_fillCarried.2.1 64 [(.iinc 1 1, 3), (.goto (-65), 3)] = true := by decide +kernel
  refine go_iinc rfl hd (fun hd => ?_)
  exact go_goto (by decide) hd k
theorem b_PressTable_fillCarried_70 {L : Nat} {d : Nat} {I : jm_I} {Q : Option jm_V → jm_I → Prop} {o0 : Option jm_V} {o1 : Option jm_V} {o2 : Option jm_V}  (k : Q none I) : Gx (jx_0 L) d md_PressTable_fillCarried 70 [o0, o1, o2] [] I Q := by
  show jm_Go d 0 0 md_PressTable_fillCarried 70 [o0, o1, o2] [] (jx (jx_0 L) I) (jx_Q (jx_0 L) Q)
  have hd : jm_dc md_PressTable_fillCarried.2.1 70 [(.return_, 1)] = true := by decide +kernel
  exact go_vreturn hd rfl ⟨_, rfl, k⟩
theorem b_PressTable_isSpot_0 {L : Nat} {d : Nat} {I : jm_I} {Q : Option jm_V → jm_I → Prop} {x1 : Int}  (hz : (-2147483648 ≤ x1 ∧ x1 < 2147483648)) (kt : 4 ≤ x1 → Gx (jx_0 L) d md_PressTable_isSpot 29 [some (.inr (.inl 107)), some (.inl x1)] [] I Q) (kf : ¬ (4 ≤ x1) → Gx (jx_0 L) d md_PressTable_isSpot 5 [some (.inr (.inl 107)), some (.inl x1)] [] I Q) : Cx (jx_0 L) d md_PressTable_isSpot [.inr (.inl 107), .inl x1] I Q := by
  have hz1 := hz
  show jm_Go d 0 0 md_PressTable_isSpot 0 [some (.inr (.inl 107)), some (.inl x1)] [] (jx (jx_0 L) I) (jx_Q (jx_0 L) Q)
  have hd : jm_dc md_PressTable_isSpot.2.1 0 [(.iload_n 1, 1), (.iconst 4, 1), (.if_icmp .ge 27, 3)] = true := by decide +kernel
  refine go_iload_n rfl hd (fun hd => ?_)
  refine go_iconst hd (fun hd => ?_)
  exact go_icmp_ge (by decide) hz1 ⟨by decide, by decide⟩ hd kt kf
theorem b_PressTable_isSpot_5 {L : Nat} {d : Nat} {I : jm_I} {Q : Option jm_V → jm_I → Prop} {x1 : Int} {c1 : Nat} (hD1 : I 107 0 = (c1 : Int)) (hc1 : jx_City (jx_0 L) c1) (hz : (0 ≤ I 107 2 ∧ I 107 2 < 5) ∧ (-2147483648 ≤ x1 ∧ x1 < 2147483648) ∧ (-2147483648 ≤ I (c1 + 6) (I 107 2).toNat ∧ I (c1 + 6) (I 107 2).toNat < 2147483648)) (kt : (I (c1 + 6) (I 107 2).toNat) ≤ x1 → Gx (jx_0 L) d md_PressTable_isSpot 25 [some (.inr (.inl 107)), some (.inl x1)] [] I Q) (kf : ¬ ((I (c1 + 6) (I 107 2).toNat) ≤ x1) → Gx (jx_0 L) d md_PressTable_isSpot 21 [some (.inr (.inl 107)), some (.inl x1)] [] I Q) : Gx (jx_0 L) d md_PressTable_isSpot 5 [some (.inr (.inl 107)), some (.inl x1)] [] I Q := by
  obtain ⟨hz1, hz2, hz3⟩ := hz
  show jm_Go d 0 0 md_PressTable_isSpot 5 [some (.inr (.inl 107)), some (.inl x1)] [] (jx (jx_0 L) I) (jx_Q (jx_0 L) Q)
  have hd : jm_dc md_PressTable_isSpot.2.1 5 [(.iload_n 1, 1), (.aload_n 0, 1), (.getfield 23, 3), (.getfield 109, 3), (.aload_n 0, 1), (.getfield 31, 3), (.iaload, 1), (.if_icmp .ge 7, 3)] = true := by decide +kernel
  refine go_iload_n rfl hd (fun hd => ?_)
  refine go_aload_n rfl hd (fun hd => ?_)
  refine go_getD co_X6 fl_6_23 (by decide) rfl rfl hD1 (ct_pos hc1) hd (fun hd => ?_)
  refine go_getR co_X0 fl_6_109 (by decide) rfl (ct_K hc1) (ct_R10 hc1) hd (fun hd => ?_)
  refine go_aload_n rfl hd (fun hd => ?_)
  refine go_getI co_X6 fl_6_31 (by decide) (Or.inl rfl) rfl hd (fun hd => ?_)
  refine go_iaload (ct_S6 hc1) hz1.1 hz1.2 (by decide) hd (fun hd => ?_)
  exact go_icmp_ge (by decide) hz2 hz3 hd kt kf
theorem b_PressTable_isSpot_21 {L : Nat} {d : Nat} {I : jm_I} {Q : Option jm_V → jm_I → Prop} {o0 : Option jm_V} {o1 : Option jm_V}  (k : Gx (jx_0 L) d md_PressTable_isSpot 47 [o0, o1] [.inl 1] I Q) : Gx (jx_0 L) d md_PressTable_isSpot 21 [o0, o1] [] I Q := by
  show jm_Go d 0 0 md_PressTable_isSpot 21 [o0, o1] [] (jx (jx_0 L) I) (jx_Q (jx_0 L) Q)
  have hd : jm_dc md_PressTable_isSpot.2.1 21 [(.iconst 1, 1), (.goto 25, 3)] = true := by decide +kernel
  refine go_iconst hd (fun hd => ?_)
  exact go_goto (by decide) hd k
theorem b_PressTable_isSpot_25 {L : Nat} {d : Nat} {I : jm_I} {Q : Option jm_V → jm_I → Prop} {o0 : Option jm_V} {o1 : Option jm_V}  (k : Gx (jx_0 L) d md_PressTable_isSpot 47 [o0, o1] [.inl 0] I Q) : Gx (jx_0 L) d md_PressTable_isSpot 25 [o0, o1] [] I Q := by
  show jm_Go d 0 0 md_PressTable_isSpot 25 [o0, o1] [] (jx (jx_0 L) I) (jx_Q (jx_0 L) Q)
  have hd : jm_dc md_PressTable_isSpot.2.1 25 [(.iconst 0, 1), (.goto 21, 3)] = true := by decide +kernel
  refine go_iconst hd (fun hd => ?_)
  exact go_goto (by decide) hd k
theorem b_PressTable_isSpot_29 {L : Nat} {d : Nat} {I : jm_I} {Q : Option jm_V → jm_I → Prop} {x1 : Int} {c1 : Nat} (hD1 : I 107 0 = (c1 : Int)) (hc1 : jx_City (jx_0 L) c1) (hz : (-2147483648 ≤ x1 ∧ x1 < 2147483648) ∧ (-2147483648 ≤ 4 + (I c1 0) ∧ 4 + (I c1 0) < 2147483648)) (kt : (4 + (I c1 0)) ≤ x1 → Gx (jx_0 L) d md_PressTable_isSpot 46 [some (.inr (.inl 107)), some (.inl x1)] [] I Q) (kf : ¬ ((4 + (I c1 0)) ≤ x1) → Gx (jx_0 L) d md_PressTable_isSpot 42 [some (.inr (.inl 107)), some (.inl x1)] [] I Q) : Gx (jx_0 L) d md_PressTable_isSpot 29 [some (.inr (.inl 107)), some (.inl x1)] [] I Q := by
  obtain ⟨hz1, hz2⟩ := hz
  show jm_Go d 0 0 md_PressTable_isSpot 29 [some (.inr (.inl 107)), some (.inl x1)] [] (jx (jx_0 L) I) (jx_Q (jx_0 L) Q)
  have hd : jm_dc md_PressTable_isSpot.2.1 29 [(.iload_n 1, 1), (.iconst 4, 1), (.aload_n 0, 1), (.getfield 23, 3), (.getfield 94, 3), (.iadd, 1), (.if_icmp .ge 7, 3)] = true := by decide +kernel
  refine go_iload_n rfl hd (fun hd => ?_)
  refine go_iconst hd (fun hd => ?_)
  refine go_aload_n rfl hd (fun hd => ?_)
  refine go_getD co_X6 fl_6_23 (by decide) rfl rfl hD1 (ct_pos hc1) hd (fun hd => ?_)
  refine go_getI co_X0 fl_6_94 (by decide) (Or.inl rfl) (ct_K hc1) hd (fun hd => ?_)
  refine go_iadd hd (fun hd => ?_)
  exact go_icmp_ge (by decide) hz1 hz2 hd kt kf
theorem b_PressTable_isSpot_42 {L : Nat} {d : Nat} {I : jm_I} {Q : Option jm_V → jm_I → Prop} {o0 : Option jm_V} {o1 : Option jm_V}  (k : Gx (jx_0 L) d md_PressTable_isSpot 47 [o0, o1] [.inl 1] I Q) : Gx (jx_0 L) d md_PressTable_isSpot 42 [o0, o1] [] I Q := by
  show jm_Go d 0 0 md_PressTable_isSpot 42 [o0, o1] [] (jx (jx_0 L) I) (jx_Q (jx_0 L) Q)
  have hd : jm_dc md_PressTable_isSpot.2.1 42 [(.iconst 1, 1), (.goto 4, 3)] = true := by decide +kernel
  refine go_iconst hd (fun hd => ?_)
  exact go_goto (by decide) hd k
theorem b_PressTable_isSpot_46 {L : Nat} {d : Nat} {I : jm_I} {Q : Option jm_V → jm_I → Prop} {o0 : Option jm_V} {o1 : Option jm_V}  (k : Gx (jx_0 L) d md_PressTable_isSpot 47 [o0, o1] [.inl 0] I Q) : Gx (jx_0 L) d md_PressTable_isSpot 46 [o0, o1] [] I Q := by
  show jm_Go d 0 0 md_PressTable_isSpot 46 [o0, o1] [] (jx (jx_0 L) I) (jx_Q (jx_0 L) Q)
  have hd : jm_dc md_PressTable_isSpot.2.1 46 [(.iconst 0, 1)] = true := by decide +kernel
  refine go_iconst hd (fun hd => ?_)
  exact k
theorem b_PressTable_isSpot_47 {L : Nat} {d : Nat} {I : jm_I} {Q : Option jm_V → jm_I → Prop} {o0 : Option jm_V} {o1 : Option jm_V} {s0 : Int}  (hz : (s0 = 0 ∨ s0 = 1)) (k : Q (some (.inl s0)) I) : Gx (jx_0 L) d md_PressTable_isSpot 47 [o0, o1] [.inl s0] I Q := by
  have hz1 := hz
  show jm_Go d 0 0 md_PressTable_isSpot 47 [o0, o1] [.inl s0] (jx (jx_0 L) I) (jx_Q (jx_0 L) Q)
  have hd : jm_dc md_PressTable_isSpot.2.1 47 [(.ireturn, 1)] = true := by decide +kernel
  exact go_zreturn hd rfl hz1 ⟨_, rfl, k⟩
theorem b_PressTable_spotsInReach_0 {L : Nat} {d : Nat} {I : jm_I} {Q : Option jm_V → jm_I → Prop} {x1 : Int} {x2 : Int}  (k : Gx (jx_0 L) d md_PressTable_spotsInReach 5 [some (.inr (.inl 107)), some (.inl x1), some (.inl x2), some (.inl 0), some (.inl 0)] [] I Q) : Cx (jx_0 L) d md_PressTable_spotsInReach [.inr (.inl 107), .inl x1, .inl x2] I Q := by
  show jm_Go d 0 0 md_PressTable_spotsInReach 0 [some (.inr (.inl 107)), some (.inl x1), some (.inl x2), none, none] [] (jx (jx_0 L) I) (jx_Q (jx_0 L) Q)
  have hd : jm_dc md_PressTable_spotsInReach.2.1 0 [(.iconst 0, 1), (.istore_n 3, 1), (.iconst 0, 1), (.istore 4, 2)] = true := by decide +kernel
  refine go_iconst hd (fun hd => ?_)
  refine go_istore_n (by decide) hd (fun hd => ?_)
  refine go_iconst hd (fun hd => ?_)
  refine go_istore (by decide) hd (fun hd => ?_)
  exact k
theorem b_PressTable_spotsInReach_5 {L : Nat} {d : Nat} {I : jm_I} {Q : Option jm_V → jm_I → Prop} {o1 : Option jm_V} {o2 : Option jm_V} {o3 : Option jm_V} {x4 : Int} {c1 : Nat} (hD1 : I 107 0 = (c1 : Int)) (hc1 : jx_City (jx_0 L) c1) (hz : (-2147483648 ≤ x4 ∧ x4 < 2147483648) ∧ (-2147483648 ≤ I c1 0 ∧ I c1 0 < 2147483648)) (kt : (I c1 0) ≤ x4 → Gx (jx_0 L) d md_PressTable_spotsInReach 70 [some (.inr (.inl 107)), o1, o2, o3, some (.inl x4)] [] I Q) (kf : ¬ ((I c1 0) ≤ x4) → Gx (jx_0 L) d md_PressTable_spotsInReach 17 [some (.inr (.inl 107)), o1, o2, o3, some (.inl x4)] [] I Q) : Gx (jx_0 L) d md_PressTable_spotsInReach 5 [some (.inr (.inl 107)), o1, o2, o3, some (.inl x4)] [] I Q := by
  obtain ⟨hz1, hz2⟩ := hz
  show jm_Go d 0 0 md_PressTable_spotsInReach 5 [some (.inr (.inl 107)), o1, o2, o3, some (.inl x4)] [] (jx (jx_0 L) I) (jx_Q (jx_0 L) Q)
  have hd : jm_dc md_PressTable_spotsInReach.2.1 5 [(.iload 4, 2), (.aload_n 0, 1), (.getfield 23, 3), (.getfield 94, 3), (.if_icmp .ge 56, 3)] = true := by decide +kernel
  refine go_iload rfl hd (fun hd => ?_)
  refine go_aload_n rfl hd (fun hd => ?_)
  refine go_getD co_X6 fl_6_23 (by decide) rfl rfl hD1 (ct_pos hc1) hd (fun hd => ?_)
  refine go_getI co_X0 fl_6_94 (by decide) (Or.inl rfl) (ct_K hc1) hd (fun hd => ?_)
  exact go_icmp_ge (by decide) hz1 hz2 hd kt kf
theorem b_PressTable_spotsInReach_17 {L : Nat} {d : Nat} {I : jm_I} {Q : Option jm_V → jm_I → Prop} {x1 : Int} {x2 : Int} {o3 : Option jm_V} {x4 : Int} {c1 : Nat} (hD1 : I 107 0 = (c1 : Int)) (hc1 : jx_City (jx_0 L) c1) (hD2 : I 107 1 = ((44 : Nat) : Int)) (hz : (0 ≤ x1 ∧ x1 < 5)) (k : Cx (jx_0 L) d md_City_stepsToCarry [.inr (.inl c1), .inl (I 45 x1.toNat), .inl x2, .inl x4] I (fun v J => Gx (jx_0 L) (d + 1) md_PressTable_spotsInReach 36 [some (.inr (.inl 107)), some (.inl x1), some (.inl x2), o3, some (.inl x4)] (v.toList ++ []) J Q)) : Gx (jx_0 L) (d + 1) md_PressTable_spotsInReach 17 [some (.inr (.inl 107)), some (.inl x1), some (.inl x2), o3, some (.inl x4)] [] I Q := by
  have hz1 := hz
  show jm_Go (d + 1) 0 0 md_PressTable_spotsInReach 17 [some (.inr (.inl 107)), some (.inl x1), some (.inl x2), o3, some (.inl x4)] [] (jx (jx_0 L) I) (jx_Q (jx_0 L) Q)
  have hd : jm_dc md_PressTable_spotsInReach.2.1 17 [(.aload_n 0, 1), (.getfield 23, 3), (.aload_n 0, 1), (.getfield 27, 3), (.getfield 97, 3), (.iload_n 1, 1), (.iaload, 1), (.iload_n 2, 1), (.iload 4, 2), (.invokevirtual 100, 3)] = true := by decide +kernel
  refine go_aload_n rfl hd (fun hd => ?_)
  refine go_getD co_X6 fl_6_23 (by decide) rfl rfl hD1 (ct_pos hc1) hd (fun hd => ?_)
  refine go_aload_n rfl hd (fun hd => ?_)
  refine go_getD co_X6 fl_6_27 (by decide) rfl rfl hD2 (by decide) hd (fun hd => ?_)
  refine go_getR co_X5 fl_6_97 (by decide) rfl rfl rfl hd (fun hd => ?_)
  refine go_iload_n rfl hd (fun hd => ?_)
  refine go_iaload rfl hz1.1 hz1.2 (by decide) hd (fun hd => ?_)
  refine go_iload_n rfl hd (fun hd => ?_)
  refine go_iload rfl hd (fun hd => ?_)
  exact gx_virtual c1 0 [.inl (I 45 x1.toNat), .inl x2, .inl x4] [] mk_City_stepsToCarry co_X0 rfl ml_6_100 in_City_stepsToCarry se_City_stepsToCarry (ct_K hc1) rfl (Nat.le_of_ble_eq_true rfl) rfl (Nat.le_of_ble_eq_true rfl) rfl hd k
theorem b_PressTable_spotsInReach_36 {L : Nat} {d : Nat} {I : jm_I} {Q : Option jm_V → jm_I → Prop} {o1 : Option jm_V} {o2 : Option jm_V} {o3 : Option jm_V} {o4 : Option jm_V} {s0 : Int} {c1 : Nat} (hD1 : I 107 0 = (c1 : Int)) (hc1 : jx_City (jx_0 L) c1) (hz : (-2147483648 ≤ s0 ∧ s0 < 2147483648) ∧ (-2147483648 ≤ I c1 1 ∧ I c1 1 < 2147483648)) (kt : (I c1 1) < s0 → Gx (jx_0 L) d md_PressTable_spotsInReach 64 [some (.inr (.inl 107)), o1, o2, o3, o4] [] I Q) (kf : ¬ ((I c1 1) < s0) → Gx (jx_0 L) d md_PressTable_spotsInReach 46 [some (.inr (.inl 107)), o1, o2, o3, o4] [] I Q) : Gx (jx_0 L) d md_PressTable_spotsInReach 36 [some (.inr (.inl 107)), o1, o2, o3, o4] [.inl s0] I Q := by
  obtain ⟨hz1, hz2⟩ := hz
  show jm_Go d 0 0 md_PressTable_spotsInReach 36 [some (.inr (.inl 107)), o1, o2, o3, o4] [.inl s0] (jx (jx_0 L) I) (jx_Q (jx_0 L) Q)
  have hd : jm_dc md_PressTable_spotsInReach.2.1 36 [(.aload_n 0, 1), (.getfield 23, 3), (.getfield 103, 3), (.if_icmp .gt 21, 3)] = true := by decide +kernel
  refine go_aload_n rfl hd (fun hd => ?_)
  refine go_getD co_X6 fl_6_23 (by decide) rfl rfl hD1 (ct_pos hc1) hd (fun hd => ?_)
  refine go_getI co_X0 fl_6_103 (by decide) (Or.inl rfl) (ct_K hc1) hd (fun hd => ?_)
  exact go_icmp_gt (by decide) hz1 hz2 hd kt kf
theorem b_PressTable_spotsInReach_46 {L : Nat} {d : Nat} {I : jm_I} {Q : Option jm_V → jm_I → Prop} {o1 : Option jm_V} {o2 : Option jm_V} {x3 : Int} {x4 : Int} {c1 : Nat} (hD1 : I 107 0 = (c1 : Int)) (hc1 : jx_City (jx_0 L) c1) (k : Cx (jx_0 L) d md_City_spotOfRoom [.inr (.inl c1), .inl (I 107 2), .inl x4] I (fun v J => Gx (jx_0 L) (d + 1) md_PressTable_spotsInReach 61 [some (.inr (.inl 107)), o1, o2, some (.inl x3), some (.inl x4)] (v.toList ++ [.inl 1, .inl x3]) J Q)) : Gx (jx_0 L) (d + 1) md_PressTable_spotsInReach 46 [some (.inr (.inl 107)), o1, o2, some (.inl x3), some (.inl x4)] [] I Q := by
  show jm_Go (d + 1) 0 0 md_PressTable_spotsInReach 46 [some (.inr (.inl 107)), o1, o2, some (.inl x3), some (.inl x4)] [] (jx (jx_0 L) I) (jx_Q (jx_0 L) Q)
  have hd : jm_dc md_PressTable_spotsInReach.2.1 46 [(.iload_n 3, 1), (.iconst 1, 1), (.aload_n 0, 1), (.getfield 23, 3), (.aload_n 0, 1), (.getfield 31, 3), (.iload 4, 2), (.invokevirtual 106, 3)] = true := by decide +kernel
  refine go_iload_n rfl hd (fun hd => ?_)
  refine go_iconst hd (fun hd => ?_)
  refine go_aload_n rfl hd (fun hd => ?_)
  refine go_getD co_X6 fl_6_23 (by decide) rfl rfl hD1 (ct_pos hc1) hd (fun hd => ?_)
  refine go_aload_n rfl hd (fun hd => ?_)
  refine go_getI co_X6 fl_6_31 (by decide) (Or.inl rfl) rfl hd (fun hd => ?_)
  refine go_iload rfl hd (fun hd => ?_)
  exact gx_virtual c1 0 [.inl (I 107 2), .inl x4] [.inl 1, .inl x3] mk_City_spotOfRoom co_X0 rfl ml_6_106 in_City_spotOfRoom se_City_spotOfRoom (ct_K hc1) rfl (Nat.le_of_ble_eq_true rfl) rfl (Nat.le_of_ble_eq_true rfl) rfl hd k
theorem b_PressTable_spotsInReach_61 {L : Nat} {d : Nat} {I : jm_I} {Q : Option jm_V → jm_I → Prop} {o0 : Option jm_V} {o1 : Option jm_V} {o2 : Option jm_V} {o3 : Option jm_V} {o4 : Option jm_V} {s0 : Int} {s1 : Int} {s2 : Int}  (k : Gx (jx_0 L) d md_PressTable_spotsInReach 64 [o0, o1, o2, some (.inl (jb_or s0 (jb_shl s1 s2))), o4] [] I Q) : Gx (jx_0 L) d md_PressTable_spotsInReach 61 [o0, o1, o2, o3, o4] [.inl s2, .inl s1, .inl s0] I Q := by
  show jm_Go d 0 0 md_PressTable_spotsInReach 61 [o0, o1, o2, o3, o4] [.inl s2, .inl s1, .inl s0] (jx (jx_0 L) I) (jx_Q (jx_0 L) Q)
  have hd : jm_dc md_PressTable_spotsInReach.2.1 61 [(.ishl, 1), (.ior, 1), (.istore_n 3, 1)] = true := by decide +kernel
  refine go_ishl hd (fun hd => ?_)
  refine go_ior hd (fun hd => ?_)
  refine go_istore_n (by decide) hd (fun hd => ?_)
  exact k
theorem b_PressTable_spotsInReach_64 {L : Nat} {d : Nat} {I : jm_I} {Q : Option jm_V → jm_I → Prop} {o0 : Option jm_V} {o1 : Option jm_V} {o2 : Option jm_V} {o3 : Option jm_V} {x4 : Int}  (k : Gx (jx_0 L) d md_PressTable_spotsInReach 5 [o0, o1, o2, o3, some (.inl (x4 + 1))] [] I Q) : Gx (jx_0 L) d md_PressTable_spotsInReach 64 [o0, o1, o2, o3, some (.inl x4)] [] I Q := by
  show jm_Go d 0 0 md_PressTable_spotsInReach 64 [o0, o1, o2, o3, some (.inl x4)] [] (jx (jx_0 L) I) (jx_Q (jx_0 L) Q)
  have hd : jm_dc md_PressTable_spotsInReach.2.1 64 [(.iinc 4 1, 3), (.goto (-62), 3)] = true := by decide +kernel
  refine go_iinc rfl hd (fun hd => ?_)
  exact go_goto (by decide) hd k
theorem b_PressTable_spotsInReach_70 {L : Nat} {d : Nat} {I : jm_I} {Q : Option jm_V → jm_I → Prop} {o0 : Option jm_V} {o1 : Option jm_V} {o2 : Option jm_V} {x3 : Int} {o4 : Option jm_V}  (k : Q (some (.inl x3)) I) : Gx (jx_0 L) d md_PressTable_spotsInReach 70 [o0, o1, o2, some (.inl x3), o4] [] I Q := by
  show jm_Go d 0 0 md_PressTable_spotsInReach 70 [o0, o1, o2, some (.inl x3), o4] [] (jx (jx_0 L) I) (jx_Q (jx_0 L) Q)
  have hd : jm_dc md_PressTable_spotsInReach.2.1 70 [(.iload_n 3, 1), (.ireturn, 1)] = true := by decide +kernel
  refine go_iload_n rfl hd (fun hd => ?_)
  exact go_ireturn hd rfl ⟨_, rfl, k⟩
theorem b_PressTable_spotsInRoom_0 {L : Nat} {d : Nat} {I : jm_I} {Q : Option jm_V → jm_I → Prop} {x1 : Int}  (k : Gx (jx_0 L) d md_PressTable_spotsInRoom 4 [some (.inr (.inl 107)), some (.inl x1), some (.inl 0), some (.inl 0)] [] I Q) : Cx (jx_0 L) d md_PressTable_spotsInRoom [.inr (.inl 107), .inl x1] I Q := by
  show jm_Go d 0 0 md_PressTable_spotsInRoom 0 [some (.inr (.inl 107)), some (.inl x1), none, none] [] (jx (jx_0 L) I) (jx_Q (jx_0 L) Q)
  have hd : jm_dc md_PressTable_spotsInRoom.2.1 0 [(.iconst 0, 1), (.istore_n 2, 1), (.iconst 0, 1), (.istore_n 3, 1)] = true := by decide +kernel
  refine go_iconst hd (fun hd => ?_)
  refine go_istore_n (by decide) hd (fun hd => ?_)
  refine go_iconst hd (fun hd => ?_)
  refine go_istore_n (by decide) hd (fun hd => ?_)
  exact k
theorem b_PressTable_spotsInRoom_4 {L : Nat} {d : Nat} {I : jm_I} {Q : Option jm_V → jm_I → Prop} {o0 : Option jm_V} {o1 : Option jm_V} {o2 : Option jm_V} {x3 : Int}  (hz : (-2147483648 ≤ x3 ∧ x3 < 2147483648)) (kt : 10 ≤ x3 → Gx (jx_0 L) d md_PressTable_spotsInRoom 46 [o0, o1, o2, some (.inl x3)] [] I Q) (kf : ¬ (10 ≤ x3) → Gx (jx_0 L) d md_PressTable_spotsInRoom 10 [o0, o1, o2, some (.inl x3)] [] I Q) : Gx (jx_0 L) d md_PressTable_spotsInRoom 4 [o0, o1, o2, some (.inl x3)] [] I Q := by
  have hz1 := hz
  show jm_Go d 0 0 md_PressTable_spotsInRoom 4 [o0, o1, o2, some (.inl x3)] [] (jx (jx_0 L) I) (jx_Q (jx_0 L) Q)
  have hd : jm_dc md_PressTable_spotsInRoom.2.1 4 [(.iload_n 3, 1), (.bipush 10, 2), (.if_icmp .ge 39, 3)] = true := by decide +kernel
  refine go_iload_n rfl hd (fun hd => ?_)
  refine go_bipush (by decide) hd (fun hd => ?_)
  exact go_icmp_ge (by decide) hz1 ⟨by decide, by decide⟩ hd kt kf
theorem b_PressTable_spotsInRoom_10 {L : Nat} {d : Nat} {I : jm_I} {Q : Option jm_V → jm_I → Prop} {o1 : Option jm_V} {o2 : Option jm_V} {x3 : Int}  (k : Cx (jx_0 L) d md_PressTable_isSpot [.inr (.inl 107), .inl x3] I (fun v J => Gx (jx_0 L) (d + 1) md_PressTable_spotsInRoom 15 [some (.inr (.inl 107)), o1, o2, some (.inl x3)] (v.toList ++ []) J Q)) : Gx (jx_0 L) (d + 1) md_PressTable_spotsInRoom 10 [some (.inr (.inl 107)), o1, o2, some (.inl x3)] [] I Q := by
  show jm_Go (d + 1) 0 0 md_PressTable_spotsInRoom 10 [some (.inr (.inl 107)), o1, o2, some (.inl x3)] [] (jx (jx_0 L) I) (jx_Q (jx_0 L) Q)
  have hd : jm_dc md_PressTable_spotsInRoom.2.1 10 [(.aload_n 0, 1), (.iload_n 3, 1), (.invokevirtual 84, 3)] = true := by decide +kernel
  refine go_aload_n rfl hd (fun hd => ?_)
  refine go_iload_n rfl hd (fun hd => ?_)
  exact gx_virtual 107 6 [.inl x3] [] mk_PressTable_isSpot co_X6 rfl ml_6_84 in_PressTable_isSpot se_PressTable_isSpot rfl rfl (Nat.le_of_ble_eq_true rfl) rfl (Nat.le_of_ble_eq_true rfl) rfl hd k
theorem b_PressTable_spotsInRoom_15 {L : Nat} {d : Nat} {I : jm_I} {Q : Option jm_V → jm_I → Prop} {o0 : Option jm_V} {o1 : Option jm_V} {o2 : Option jm_V} {o3 : Option jm_V} {s0 : Int}  (hz : (-2147483648 ≤ s0 ∧ s0 < 2147483648)) (kt : s0 = 0 → Gx (jx_0 L) d md_PressTable_spotsInRoom 40 [o0, o1, o2, o3] [] I Q) (kf : ¬ s0 = 0 → Gx (jx_0 L) d md_PressTable_spotsInRoom 18 [o0, o1, o2, o3] [] I Q) : Gx (jx_0 L) d md_PressTable_spotsInRoom 15 [o0, o1, o2, o3] [.inl s0] I Q := by
  have hz1 := hz
  show jm_Go d 0 0 md_PressTable_spotsInRoom 15 [o0, o1, o2, o3] [.inl s0] (jx (jx_0 L) I) (jx_Q (jx_0 L) Q)
  have hd : jm_dc md_PressTable_spotsInRoom.2.1 15 [(.ifCond .eq 25, 3)] = true := by decide +kernel
  exact go_if_eq (by decide) hz1 hd kt kf
theorem b_PressTable_spotsInRoom_18 {L : Nat} {d : Nat} {I : jm_I} {Q : Option jm_V → jm_I → Prop} {o1 : Option jm_V} {o2 : Option jm_V} {x3 : Int} {c1 : Nat} (hD1 : I 107 0 = (c1 : Int)) (hc1 : jx_City (jx_0 L) c1) (k : Cx (jx_0 L) d md_City_roomOfSpot [.inr (.inl c1), .inl (I 107 2), .inl x3] I (fun v J => Gx (jx_0 L) (d + 1) md_PressTable_spotsInRoom 30 [some (.inr (.inl 107)), o1, o2, some (.inl x3)] (v.toList ++ []) J Q)) : Gx (jx_0 L) (d + 1) md_PressTable_spotsInRoom 18 [some (.inr (.inl 107)), o1, o2, some (.inl x3)] [] I Q := by
  show jm_Go (d + 1) 0 0 md_PressTable_spotsInRoom 18 [some (.inr (.inl 107)), o1, o2, some (.inl x3)] [] (jx (jx_0 L) I) (jx_Q (jx_0 L) Q)
  have hd : jm_dc md_PressTable_spotsInRoom.2.1 18 [(.aload_n 0, 1), (.getfield 23, 3), (.aload_n 0, 1), (.getfield 31, 3), (.iload_n 3, 1), (.invokevirtual 88, 3)] = true := by decide +kernel
  refine go_aload_n rfl hd (fun hd => ?_)
  refine go_getD co_X6 fl_6_23 (by decide) rfl rfl hD1 (ct_pos hc1) hd (fun hd => ?_)
  refine go_aload_n rfl hd (fun hd => ?_)
  refine go_getI co_X6 fl_6_31 (by decide) (Or.inl rfl) rfl hd (fun hd => ?_)
  refine go_iload_n rfl hd (fun hd => ?_)
  exact gx_virtual c1 0 [.inl (I 107 2), .inl x3] [] mk_City_roomOfSpot co_X0 rfl ml_6_88 in_City_roomOfSpot se_City_roomOfSpot (ct_K hc1) rfl (Nat.le_of_ble_eq_true rfl) rfl (Nat.le_of_ble_eq_true rfl) rfl hd k
theorem b_PressTable_spotsInRoom_30 {L : Nat} {d : Nat} {I : jm_I} {Q : Option jm_V → jm_I → Prop} {o0 : Option jm_V} {x1 : Int} {o2 : Option jm_V} {o3 : Option jm_V} {s0 : Int}  (hz : (-2147483648 ≤ s0 ∧ s0 < 2147483648) ∧ (-2147483648 ≤ x1 ∧ x1 < 2147483648)) (kt : ¬ s0 = x1 → Gx (jx_0 L) d md_PressTable_spotsInRoom 40 [o0, some (.inl x1), o2, o3] [] I Q) (kf : s0 = x1 → Gx (jx_0 L) d md_PressTable_spotsInRoom 34 [o0, some (.inl x1), o2, o3] [] I Q) : Gx (jx_0 L) d md_PressTable_spotsInRoom 30 [o0, some (.inl x1), o2, o3] [.inl s0] I Q := by
  obtain ⟨hz1, hz2⟩ := hz
  show jm_Go d 0 0 md_PressTable_spotsInRoom 30 [o0, some (.inl x1), o2, o3] [.inl s0] (jx (jx_0 L) I) (jx_Q (jx_0 L) Q)
  have hd : jm_dc md_PressTable_spotsInRoom.2.1 30 [(.iload_n 1, 1), (.if_icmp .ne 9, 3)] = true := by decide +kernel
  refine go_iload_n rfl hd (fun hd => ?_)
  exact go_icmp_ne (by decide) hz1 hz2 hd kt kf
theorem b_PressTable_spotsInRoom_34 {L : Nat} {d : Nat} {I : jm_I} {Q : Option jm_V → jm_I → Prop} {o0 : Option jm_V} {o1 : Option jm_V} {x2 : Int} {x3 : Int}  (k : Gx (jx_0 L) d md_PressTable_spotsInRoom 40 [o0, o1, some (.inl (jb_or x2 (jb_shl 1 x3))), some (.inl x3)] [] I Q) : Gx (jx_0 L) d md_PressTable_spotsInRoom 34 [o0, o1, some (.inl x2), some (.inl x3)] [] I Q := by
  show jm_Go d 0 0 md_PressTable_spotsInRoom 34 [o0, o1, some (.inl x2), some (.inl x3)] [] (jx (jx_0 L) I) (jx_Q (jx_0 L) Q)
  have hd : jm_dc md_PressTable_spotsInRoom.2.1 34 [(.iload_n 2, 1), (.iconst 1, 1), (.iload_n 3, 1), (.ishl, 1), (.ior, 1), (.istore_n 2, 1)] = true := by decide +kernel
  refine go_iload_n rfl hd (fun hd => ?_)
  refine go_iconst hd (fun hd => ?_)
  refine go_iload_n rfl hd (fun hd => ?_)
  refine go_ishl hd (fun hd => ?_)
  refine go_ior hd (fun hd => ?_)
  refine go_istore_n (by decide) hd (fun hd => ?_)
  exact k
theorem b_PressTable_spotsInRoom_40 {L : Nat} {d : Nat} {I : jm_I} {Q : Option jm_V → jm_I → Prop} {o0 : Option jm_V} {o1 : Option jm_V} {o2 : Option jm_V} {x3 : Int}  (k : Gx (jx_0 L) d md_PressTable_spotsInRoom 4 [o0, o1, o2, some (.inl (x3 + 1))] [] I Q) : Gx (jx_0 L) d md_PressTable_spotsInRoom 40 [o0, o1, o2, some (.inl x3)] [] I Q := by
  show jm_Go d 0 0 md_PressTable_spotsInRoom 40 [o0, o1, o2, some (.inl x3)] [] (jx (jx_0 L) I) (jx_Q (jx_0 L) Q)
  have hd : jm_dc md_PressTable_spotsInRoom.2.1 40 [(.iinc 3 1, 3), (.goto (-39), 3)] = true := by decide +kernel
  refine go_iinc rfl hd (fun hd => ?_)
  exact go_goto (by decide) hd k
theorem b_PressTable_spotsInRoom_46 {L : Nat} {d : Nat} {I : jm_I} {Q : Option jm_V → jm_I → Prop} {o0 : Option jm_V} {o1 : Option jm_V} {x2 : Int} {o3 : Option jm_V}  (k : Q (some (.inl x2)) I) : Gx (jx_0 L) d md_PressTable_spotsInRoom 46 [o0, o1, some (.inl x2), o3] [] I Q := by
  show jm_Go d 0 0 md_PressTable_spotsInRoom 46 [o0, o1, some (.inl x2), o3] [] (jx (jx_0 L) I) (jx_Q (jx_0 L) Q)
  have hd : jm_dc md_PressTable_spotsInRoom.2.1 46 [(.iload_n 2, 1), (.ireturn, 1)] = true := by decide +kernel
  refine go_iload_n rfl hd (fun hd => ?_)
  exact go_ireturn hd rfl ⟨_, rfl, k⟩
theorem b_PressTable_fillRow_0 {L : Nat} {d : Nat} {I : jm_I} {Q : Option jm_V → jm_I → Prop} {x1 : Int} {x2 : Int} {x3 : Int}  (hz : (-2147483648 ≤ x1 ∧ x1 < 2147483648)) (kt : ¬ x1 = 0 → Gx (jx_0 L) d md_PressTable_fillRow 24 [some (.inr (.inl 107)), some (.inl x1), some (.inl x2), some (.inl x3), some (.inl 0), none, none, none] [] I Q) (kf : x1 = 0 → Gx (jx_0 L) d md_PressTable_fillRow 7 [some (.inr (.inl 107)), some (.inl x1), some (.inl x2), some (.inl x3), some (.inl 0), none, none, none] [] I Q) : Cx (jx_0 L) d md_PressTable_fillRow [.inr (.inl 107), .inl x1, .inl x2, .inl x3] I Q := by
  have hz1 := hz
  show jm_Go d 0 0 md_PressTable_fillRow 0 [some (.inr (.inl 107)), some (.inl x1), some (.inl x2), some (.inl x3), none, none, none, none] [] (jx (jx_0 L) I) (jx_Q (jx_0 L) Q)
  have hd : jm_dc md_PressTable_fillRow.2.1 0 [(.iconst 0, 1), (.istore 4, 2), (.iload_n 1, 1), (.ifCond .ne 20, 3)] = true := by decide +kernel
  refine go_iconst hd (fun hd => ?_)
  refine go_istore (by decide) hd (fun hd => ?_)
  refine go_iload_n rfl hd (fun hd => ?_)
  exact go_if_ne (by decide) hz1 hd kt kf
theorem b_PressTable_fillRow_7 {L : Nat} {d : Nat} {I : jm_I} {Q : Option jm_V → jm_I → Prop} {o1 : Option jm_V} {o2 : Option jm_V} {o3 : Option jm_V} {o4 : Option jm_V} {o5 : Option jm_V} {o6 : Option jm_V} {o7 : Option jm_V} (hD1 : I 107 1 = ((44 : Nat) : Int)) (hz : (0 ≤ I 107 2 ∧ I 107 2 < 5)) (k : Gx (jx_0 L) d md_PressTable_fillRow 25 [some (.inr (.inl 107)), o1, o2, o3, o4, o5, o6, o7] [.inl (jb_shl 1 (I 48 (I 107 2).toNat))] I Q) : Gx (jx_0 L) d md_PressTable_fillRow 7 [some (.inr (.inl 107)), o1, o2, o3, o4, o5, o6, o7] [] I Q := by
  have hz1 := hz
  show jm_Go d 0 0 md_PressTable_fillRow 7 [some (.inr (.inl 107)), o1, o2, o3, o4, o5, o6, o7] [] (jx (jx_0 L) I) (jx_Q (jx_0 L) Q)
  have hd : jm_dc md_PressTable_fillRow.2.1 7 [(.iconst 1, 1), (.aload_n 0, 1), (.getfield 27, 3), (.getfield 65, 3), (.aload_n 0, 1), (.getfield 31, 3), (.iaload, 1), (.ishl, 1), (.goto 4, 3)] = true := by decide +kernel
  refine go_iconst hd (fun hd => ?_)
  refine go_aload_n rfl hd (fun hd => ?_)
  refine go_getD co_X6 fl_6_27 (by decide) rfl rfl hD1 (by decide) hd (fun hd => ?_)
  refine go_getR co_X5 fl_6_65 (by decide) rfl rfl rfl hd (fun hd => ?_)
  refine go_aload_n rfl hd (fun hd => ?_)
  refine go_getI co_X6 fl_6_31 (by decide) (Or.inl rfl) rfl hd (fun hd => ?_)
  refine go_iaload rfl hz1.1 hz1.2 (by decide) hd (fun hd => ?_)
  refine go_ishl hd (fun hd => ?_)
  exact go_goto (by decide) hd k
theorem b_PressTable_fillRow_24 {L : Nat} {d : Nat} {I : jm_I} {Q : Option jm_V → jm_I → Prop} {o0 : Option jm_V} {o1 : Option jm_V} {o2 : Option jm_V} {o3 : Option jm_V} {o4 : Option jm_V} {o5 : Option jm_V} {o6 : Option jm_V} {o7 : Option jm_V}  (k : Gx (jx_0 L) d md_PressTable_fillRow 25 [o0, o1, o2, o3, o4, o5, o6, o7] [.inl 0] I Q) : Gx (jx_0 L) d md_PressTable_fillRow 24 [o0, o1, o2, o3, o4, o5, o6, o7] [] I Q := by
  show jm_Go d 0 0 md_PressTable_fillRow 24 [o0, o1, o2, o3, o4, o5, o6, o7] [] (jx (jx_0 L) I) (jx_Q (jx_0 L) Q)
  have hd : jm_dc md_PressTable_fillRow.2.1 24 [(.iconst 0, 1)] = true := by decide +kernel
  refine go_iconst hd (fun hd => ?_)
  exact k
theorem b_PressTable_fillRow_25 {L : Nat} {d : Nat} {I : jm_I} {Q : Option jm_V → jm_I → Prop} {o0 : Option jm_V} {o1 : Option jm_V} {o2 : Option jm_V} {o3 : Option jm_V} {o4 : Option jm_V} {o5 : Option jm_V} {o6 : Option jm_V} {o7 : Option jm_V} {s0 : Int}  (k : Gx (jx_0 L) d md_PressTable_fillRow 30 [o0, o1, o2, o3, o4, some (.inl s0), some (.inl 0), o7] [] I Q) : Gx (jx_0 L) d md_PressTable_fillRow 25 [o0, o1, o2, o3, o4, o5, o6, o7] [.inl s0] I Q := by
  show jm_Go d 0 0 md_PressTable_fillRow 25 [o0, o1, o2, o3, o4, o5, o6, o7] [.inl s0] (jx (jx_0 L) I) (jx_Q (jx_0 L) Q)
  have hd : jm_dc md_PressTable_fillRow.2.1 25 [(.istore 5, 2), (.iconst 0, 1), (.istore 6, 2)] = true := by decide +kernel
  refine go_istore (by decide) hd (fun hd => ?_)
  refine go_iconst hd (fun hd => ?_)
  refine go_istore (by decide) hd (fun hd => ?_)
  exact k
theorem b_PressTable_fillRow_30 {L : Nat} {d : Nat} {I : jm_I} {Q : Option jm_V → jm_I → Prop} {o0 : Option jm_V} {o1 : Option jm_V} {x2 : Int} {o3 : Option jm_V} {o4 : Option jm_V} {o5 : Option jm_V} {x6 : Int} {o7 : Option jm_V}  (hz : (-2147483648 ≤ x6 ∧ x6 < 2147483648) ∧ (-2147483648 ≤ x2 ∧ x2 < 2147483648)) (kt : x2 < x6 → Gx (jx_0 L) d md_PressTable_fillRow 135 [o0, o1, some (.inl x2), o3, o4, o5, some (.inl x6), o7] [] I Q) (kf : ¬ (x2 < x6) → Gx (jx_0 L) d md_PressTable_fillRow 36 [o0, o1, some (.inl x2), o3, o4, o5, some (.inl x6), o7] [] I Q) : Gx (jx_0 L) d md_PressTable_fillRow 30 [o0, o1, some (.inl x2), o3, o4, o5, some (.inl x6), o7] [] I Q := by
  obtain ⟨hz1, hz2⟩ := hz
  show jm_Go d 0 0 md_PressTable_fillRow 30 [o0, o1, some (.inl x2), o3, o4, o5, some (.inl x6), o7] [] (jx (jx_0 L) I) (jx_Q (jx_0 L) Q)
  have hd : jm_dc md_PressTable_fillRow.2.1 30 [(.iload 6, 2), (.iload_n 2, 1), (.if_icmp .gt 102, 3)] = true := by decide +kernel
  refine go_iload rfl hd (fun hd => ?_)
  refine go_iload_n rfl hd (fun hd => ?_)
  exact go_icmp_gt (by decide) hz1 hz2 hd kt kf
theorem b_PressTable_fillRow_36 {L : Nat} {d : Nat} {I : jm_I} {Q : Option jm_V → jm_I → Prop} {o0 : Option jm_V} {o1 : Option jm_V} {o2 : Option jm_V} {o3 : Option jm_V} {o4 : Option jm_V} {o5 : Option jm_V} {o6 : Option jm_V} {o7 : Option jm_V}  (k : Gx (jx_0 L) d md_PressTable_fillRow 39 [o0, o1, o2, o3, o4, o5, o6, some (.inl 0)] [] I Q) : Gx (jx_0 L) d md_PressTable_fillRow 36 [o0, o1, o2, o3, o4, o5, o6, o7] [] I Q := by
  show jm_Go d 0 0 md_PressTable_fillRow 36 [o0, o1, o2, o3, o4, o5, o6, o7] [] (jx (jx_0 L) I) (jx_Q (jx_0 L) Q)
  have hd : jm_dc md_PressTable_fillRow.2.1 36 [(.iconst 0, 1), (.istore 7, 2)] = true := by decide +kernel
  refine go_iconst hd (fun hd => ?_)
  refine go_istore (by decide) hd (fun hd => ?_)
  exact k
theorem b_PressTable_fillRow_39 {L : Nat} {d : Nat} {I : jm_I} {Q : Option jm_V → jm_I → Prop} {o1 : Option jm_V} {o2 : Option jm_V} {o3 : Option jm_V} {o4 : Option jm_V} {o5 : Option jm_V} {o6 : Option jm_V} {x7 : Int} {c1 : Nat} (hD1 : I 107 0 = (c1 : Int)) (hc1 : jx_City (jx_0 L) c1) (hz : (-2147483648 ≤ x7 ∧ x7 < 2147483648) ∧ (-2147483648 ≤ I c1 3 ∧ I c1 3 < 2147483648)) (kt : (I c1 3) ≤ x7 → Gx (jx_0 L) d md_PressTable_fillRow 91 [some (.inr (.inl 107)), o1, o2, o3, o4, o5, o6, some (.inl x7)] [] I Q) (kf : ¬ ((I c1 3) ≤ x7) → Gx (jx_0 L) d md_PressTable_fillRow 51 [some (.inr (.inl 107)), o1, o2, o3, o4, o5, o6, some (.inl x7)] [] I Q) : Gx (jx_0 L) d md_PressTable_fillRow 39 [some (.inr (.inl 107)), o1, o2, o3, o4, o5, o6, some (.inl x7)] [] I Q := by
  obtain ⟨hz1, hz2⟩ := hz
  show jm_Go d 0 0 md_PressTable_fillRow 39 [some (.inr (.inl 107)), o1, o2, o3, o4, o5, o6, some (.inl x7)] [] (jx (jx_0 L) I) (jx_Q (jx_0 L) Q)
  have hd : jm_dc md_PressTable_fillRow.2.1 39 [(.iload 7, 2), (.aload_n 0, 1), (.getfield 23, 3), (.getfield 69, 3), (.if_icmp .ge 43, 3)] = true := by decide +kernel
  refine go_iload rfl hd (fun hd => ?_)
  refine go_aload_n rfl hd (fun hd => ?_)
  refine go_getD co_X6 fl_6_23 (by decide) rfl rfl hD1 (ct_pos hc1) hd (fun hd => ?_)
  refine go_getI co_X0 fl_6_69 (by decide) (Or.inl rfl) (ct_K hc1) hd (fun hd => ?_)
  exact go_icmp_ge (by decide) hz1 hz2 hd kt kf
theorem b_PressTable_fillRow_51 {L : Nat} {d : Nat} {I : jm_I} {Q : Option jm_V → jm_I → Prop} {o0 : Option jm_V} {x1 : Int} {o2 : Option jm_V} {o3 : Option jm_V} {o4 : Option jm_V} {o5 : Option jm_V} {o6 : Option jm_V} {x7 : Int}  (hz : (-2147483648 ≤ jb_and (jb_shr x1 x7) 1 ∧ jb_and (jb_shr x1 x7) 1 < 2147483648)) (kt : (jb_and (jb_shr x1 x7) 1) = 0 → Gx (jx_0 L) d md_PressTable_fillRow 85 [o0, some (.inl x1), o2, o3, o4, o5, o6, some (.inl x7)] [] I Q) (kf : ¬ (jb_and (jb_shr x1 x7) 1) = 0 → Gx (jx_0 L) d md_PressTable_fillRow 60 [o0, some (.inl x1), o2, o3, o4, o5, o6, some (.inl x7)] [] I Q) : Gx (jx_0 L) d md_PressTable_fillRow 51 [o0, some (.inl x1), o2, o3, o4, o5, o6, some (.inl x7)] [] I Q := by
  have hz1 := hz
  show jm_Go d 0 0 md_PressTable_fillRow 51 [o0, some (.inl x1), o2, o3, o4, o5, o6, some (.inl x7)] [] (jx (jx_0 L) I) (jx_Q (jx_0 L) Q)
  have hd : jm_dc md_PressTable_fillRow.2.1 51 [(.iload_n 1, 1), (.iload 7, 2), (.ishr, 1), (.iconst 1, 1), (.iand, 1), (.ifCond .eq 28, 3)] = true := by decide +kernel
  refine go_iload_n rfl hd (fun hd => ?_)
  refine go_iload rfl hd (fun hd => ?_)
  refine go_ishr hd (fun hd => ?_)
  refine go_iconst hd (fun hd => ?_)
  refine go_iand hd (fun hd => ?_)
  exact go_if_eq (by decide) hz1 hd kt kf
theorem b_PressTable_fillRow_60 {L : Nat} {d : Nat} {I : jm_I} {Q : Option jm_V → jm_I → Prop} {x1 : Int} {o2 : Option jm_V} {o3 : Option jm_V} {o4 : Option jm_V} {x5 : Int} {x6 : Int} {x7 : Int}  (hz : (0 ≤ jb_xor x1 (jb_shl 1 x7) ∧ jb_xor x1 (jb_shl 1 x7) < 32) ∧ (0 ≤ x6 ∧ x6 < 13)) (k : Cx (jx_0 L) d md_PressTable_carriedFrom [.inr (.inl 107), .inl x7, .inl (I (109 + (jb_xor x1 (jb_shl 1 x7)).toNat) x6.toNat)] I (fun v J => Gx (jx_0 L) (d + 1) md_PressTable_fillRow 82 [some (.inr (.inl 107)), some (.inl x1), o2, o3, o4, some (.inl x5), some (.inl x6), some (.inl x7)] (v.toList ++ [.inl x5]) J Q)) : Gx (jx_0 L) (d + 1) md_PressTable_fillRow 60 [some (.inr (.inl 107)), some (.inl x1), o2, o3, o4, some (.inl x5), some (.inl x6), some (.inl x7)] [] I Q := by
  obtain ⟨hz1, hz2⟩ := hz
  show jm_Go (d + 1) 0 0 md_PressTable_fillRow 60 [some (.inr (.inl 107)), some (.inl x1), o2, o3, o4, some (.inl x5), some (.inl x6), some (.inl x7)] [] (jx (jx_0 L) I) (jx_Q (jx_0 L) Q)
  have hd : jm_dc md_PressTable_fillRow.2.1 60 [(.iload 5, 2), (.aload_n 0, 1), (.iload 7, 2), (.aload_n 0, 1), (.getfield 11, 3), (.iload_n 1, 1), (.iconst 1, 1), (.iload 7, 2), (.ishl, 1), (.ixor, 1), (.aaload, 1), (.iload 6, 2), (.iaload, 1), (.invokevirtual 74, 3)] = true := by decide +kernel
  refine go_iload rfl hd (fun hd => ?_)
  refine go_aload_n rfl hd (fun hd => ?_)
  refine go_iload rfl hd (fun hd => ?_)
  refine go_aload_n rfl hd (fun hd => ?_)
  refine go_getR co_X6 fl_6_11 (by decide) rfl rfl rfl hd (fun hd => ?_)
  refine go_iload_n rfl hd (fun hd => ?_)
  refine go_iconst hd (fun hd => ?_)
  refine go_iload rfl hd (fun hd => ?_)
  refine go_ishl hd (fun hd => ?_)
  refine go_ixor hd (fun hd => ?_)
  refine go_aaload (Or.inr rfl) hz1.1 hz1.2 (by decide) (rw_R108 (L := L) hz1.1 hz1.2) hd (fun hd => ?_)
  refine go_iload rfl hd (fun hd => ?_)
  refine go_iaload (rw_S108 (L := L) hz1.1 hz1.2) hz2.1 hz2.2 (by decide) hd (fun hd => ?_)
  exact gx_virtual 107 6 [.inl x7, .inl (I (109 + (jb_xor x1 (jb_shl 1 x7)).toNat) x6.toNat)] [.inl x5] mk_PressTable_carriedFrom co_X6 rfl ml_6_74 in_PressTable_carriedFrom se_PressTable_carriedFrom rfl rfl (Nat.le_of_ble_eq_true rfl) rfl (Nat.le_of_ble_eq_true rfl) rfl hd k
theorem b_PressTable_fillRow_82 {L : Nat} {d : Nat} {I : jm_I} {Q : Option jm_V → jm_I → Prop} {o0 : Option jm_V} {o1 : Option jm_V} {o2 : Option jm_V} {o3 : Option jm_V} {o4 : Option jm_V} {o5 : Option jm_V} {o6 : Option jm_V} {o7 : Option jm_V} {s0 : Int} {s1 : Int}  (k : Gx (jx_0 L) d md_PressTable_fillRow 85 [o0, o1, o2, o3, o4, some (.inl (jb_or s0 s1)), o6, o7] [] I Q) : Gx (jx_0 L) d md_PressTable_fillRow 82 [o0, o1, o2, o3, o4, o5, o6, o7] [.inl s1, .inl s0] I Q := by
  show jm_Go d 0 0 md_PressTable_fillRow 82 [o0, o1, o2, o3, o4, o5, o6, o7] [.inl s1, .inl s0] (jx (jx_0 L) I) (jx_Q (jx_0 L) Q)
  have hd : jm_dc md_PressTable_fillRow.2.1 82 [(.ior, 1), (.istore 5, 2)] = true := by decide +kernel
  refine go_ior hd (fun hd => ?_)
  refine go_istore (by decide) hd (fun hd => ?_)
  exact k
theorem b_PressTable_fillRow_85 {L : Nat} {d : Nat} {I : jm_I} {Q : Option jm_V → jm_I → Prop} {o0 : Option jm_V} {o1 : Option jm_V} {o2 : Option jm_V} {o3 : Option jm_V} {o4 : Option jm_V} {o5 : Option jm_V} {o6 : Option jm_V} {x7 : Int}  (k : Gx (jx_0 L) d md_PressTable_fillRow 39 [o0, o1, o2, o3, o4, o5, o6, some (.inl (x7 + 1))] [] I Q) : Gx (jx_0 L) d md_PressTable_fillRow 85 [o0, o1, o2, o3, o4, o5, o6, some (.inl x7)] [] I Q := by
  show jm_Go d 0 0 md_PressTable_fillRow 85 [o0, o1, o2, o3, o4, o5, o6, some (.inl x7)] [] (jx (jx_0 L) I) (jx_Q (jx_0 L) Q)
  have hd : jm_dc md_PressTable_fillRow.2.1 85 [(.iinc 7 1, 3), (.goto (-49), 3)] = true := by decide +kernel
  refine go_iinc rfl hd (fun hd => ?_)
  exact go_goto (by decide) hd k
theorem b_PressTable_fillRow_91 {L : Nat} {d : Nat} {I : jm_I} {Q : Option jm_V → jm_I → Prop} {x1 : Int} {o2 : Option jm_V} {o3 : Option jm_V} {x4 : Int} {x5 : Int} {x6 : Int} {o7 : Option jm_V}  (hz : (0 ≤ x1 ∧ x1 < 32) ∧ (0 ≤ x6 ∧ x6 < 13) ∧ (-2147483648 ≤ x4 ∧ x4 < 2147483648)) (kt : ¬ x4 = 0 → Gx (jx_0 L) d md_PressTable_fillRow 114 [some (.inr (.inl 107)), some (.inl x1), o2, o3, some (.inl x4), some (.inl x5), some (.inl x6), o7] [] (jm_up I (109 + x1.toNat) (x6.toNat) x5) Q) (kf : x4 = 0 → Gx (jx_0 L) d md_PressTable_fillRow 107 [some (.inr (.inl 107)), some (.inl x1), o2, o3, some (.inl x4), some (.inl x5), some (.inl x6), o7] [] (jm_up I (109 + x1.toNat) (x6.toNat) x5) Q) : Gx (jx_0 L) d md_PressTable_fillRow 91 [some (.inr (.inl 107)), some (.inl x1), o2, o3, some (.inl x4), some (.inl x5), some (.inl x6), o7] [] I Q := by
  obtain ⟨hz1, hz2, hz3⟩ := hz
  show jm_Go d 0 0 md_PressTable_fillRow 91 [some (.inr (.inl 107)), some (.inl x1), o2, o3, some (.inl x4), some (.inl x5), some (.inl x6), o7] [] (jx (jx_0 L) I) (jx_Q (jx_0 L) Q)
  have hd : jm_dc md_PressTable_fillRow.2.1 91 [(.aload_n 0, 1), (.getfield 11, 3), (.iload_n 1, 1), (.aaload, 1), (.iload 6, 2), (.iload 5, 2), (.iastore, 1), (.iload 4, 2), (.ifCond .ne 10, 3)] = true := by decide +kernel
  refine go_aload_n rfl hd (fun hd => ?_)
  refine go_getR co_X6 fl_6_11 (by decide) rfl rfl rfl hd (fun hd => ?_)
  refine go_iload_n rfl hd (fun hd => ?_)
  refine go_aaload (Or.inr rfl) hz1.1 hz1.2 (by decide) (rw_R108 (L := L) hz1.1 hz1.2) hd (fun hd => ?_)
  refine go_iload rfl hd (fun hd => ?_)
  refine go_iload rfl hd (fun hd => ?_)
  refine go_iastore (rw_S108 (L := L) hz1.1 hz1.2) hz2.1 hz2.2 (by decide) hd (fun hd => ?_)
  refine go_iload rfl hd (fun hd => ?_)
  exact go_if_ne (by decide) hz3 hd kt kf
theorem b_PressTable_fillRow_107 {L : Nat} {d : Nat} {I : jm_I} {Q : Option jm_V → jm_I → Prop} {o0 : Option jm_V} {o1 : Option jm_V} {o2 : Option jm_V} {x3 : Int} {o4 : Option jm_V} {x5 : Int} {o6 : Option jm_V} {o7 : Option jm_V}  (hz : (-2147483648 ≤ jb_and x5 x3 ∧ jb_and x5 x3 < 2147483648)) (kt : (jb_and x5 x3) = 0 → Gx (jx_0 L) d md_PressTable_fillRow 118 [o0, o1, o2, some (.inl x3), o4, some (.inl x5), o6, o7] [] I Q) (kf : ¬ (jb_and x5 x3) = 0 → Gx (jx_0 L) d md_PressTable_fillRow 114 [o0, o1, o2, some (.inl x3), o4, some (.inl x5), o6, o7] [] I Q) : Gx (jx_0 L) d md_PressTable_fillRow 107 [o0, o1, o2, some (.inl x3), o4, some (.inl x5), o6, o7] [] I Q := by
  have hz1 := hz
  show jm_Go d 0 0 md_PressTable_fillRow 107 [o0, o1, o2, some (.inl x3), o4, some (.inl x5), o6, o7] [] (jx (jx_0 L) I) (jx_Q (jx_0 L) Q)
  have hd : jm_dc md_PressTable_fillRow.2.1 107 [(.iload 5, 2), (.iload_n 3, 1), (.iand, 1), (.ifCond .eq 7, 3)] = true := by decide +kernel
  refine go_iload rfl hd (fun hd => ?_)
  refine go_iload_n rfl hd (fun hd => ?_)
  refine go_iand hd (fun hd => ?_)
  exact go_if_eq (by decide) hz1 hd kt kf
theorem b_PressTable_fillRow_114 {L : Nat} {d : Nat} {I : jm_I} {Q : Option jm_V → jm_I → Prop} {o0 : Option jm_V} {o1 : Option jm_V} {o2 : Option jm_V} {o3 : Option jm_V} {o4 : Option jm_V} {o5 : Option jm_V} {o6 : Option jm_V} {o7 : Option jm_V}  (k : Gx (jx_0 L) d md_PressTable_fillRow 119 [o0, o1, o2, o3, o4, o5, o6, o7] [.inl 1] I Q) : Gx (jx_0 L) d md_PressTable_fillRow 114 [o0, o1, o2, o3, o4, o5, o6, o7] [] I Q := by
  show jm_Go d 0 0 md_PressTable_fillRow 114 [o0, o1, o2, o3, o4, o5, o6, o7] [] (jx (jx_0 L) I) (jx_Q (jx_0 L) Q)
  have hd : jm_dc md_PressTable_fillRow.2.1 114 [(.iconst 1, 1), (.goto 4, 3)] = true := by decide +kernel
  refine go_iconst hd (fun hd => ?_)
  exact go_goto (by decide) hd k
theorem b_PressTable_fillRow_118 {L : Nat} {d : Nat} {I : jm_I} {Q : Option jm_V → jm_I → Prop} {o0 : Option jm_V} {o1 : Option jm_V} {o2 : Option jm_V} {o3 : Option jm_V} {o4 : Option jm_V} {o5 : Option jm_V} {o6 : Option jm_V} {o7 : Option jm_V}  (k : Gx (jx_0 L) d md_PressTable_fillRow 119 [o0, o1, o2, o3, o4, o5, o6, o7] [.inl 0] I Q) : Gx (jx_0 L) d md_PressTable_fillRow 118 [o0, o1, o2, o3, o4, o5, o6, o7] [] I Q := by
  show jm_Go d 0 0 md_PressTable_fillRow 118 [o0, o1, o2, o3, o4, o5, o6, o7] [] (jx (jx_0 L) I) (jx_Q (jx_0 L) Q)
  have hd : jm_dc md_PressTable_fillRow.2.1 118 [(.iconst 0, 1)] = true := by decide +kernel
  refine go_iconst hd (fun hd => ?_)
  exact k
theorem b_PressTable_fillRow_119 {L : Nat} {d : Nat} {I : jm_I} {Q : Option jm_V → jm_I → Prop} {o1 : Option jm_V} {o2 : Option jm_V} {o3 : Option jm_V} {o4 : Option jm_V} {x5 : Int} {o6 : Option jm_V} {o7 : Option jm_V} {s0 : Int}  (k : Cx (jx_0 L) d md_PressTable_aSecondLater [.inr (.inl 107), .inl x5] I (fun v J => Gx (jx_0 L) (d + 1) md_PressTable_fillRow 127 [some (.inr (.inl 107)), o1, o2, o3, some (.inl s0), some (.inl x5), o6, o7] (v.toList ++ []) J Q)) : Gx (jx_0 L) (d + 1) md_PressTable_fillRow 119 [some (.inr (.inl 107)), o1, o2, o3, o4, some (.inl x5), o6, o7] [.inl s0] I Q := by
  show jm_Go (d + 1) 0 0 md_PressTable_fillRow 119 [some (.inr (.inl 107)), o1, o2, o3, o4, some (.inl x5), o6, o7] [.inl s0] (jx (jx_0 L) I) (jx_Q (jx_0 L) Q)
  have hd : jm_dc md_PressTable_fillRow.2.1 119 [(.istore 4, 2), (.aload_n 0, 1), (.iload 5, 2), (.invokevirtual 77, 3)] = true := by decide +kernel
  refine go_istore (by decide) hd (fun hd => ?_)
  refine go_aload_n rfl hd (fun hd => ?_)
  refine go_iload rfl hd (fun hd => ?_)
  exact gx_virtual 107 6 [.inl x5] [] mk_PressTable_aSecondLater co_X6 rfl ml_6_77 in_PressTable_aSecondLater se_PressTable_aSecondLater rfl rfl (Nat.le_of_ble_eq_true rfl) rfl (Nat.le_of_ble_eq_true rfl) rfl hd k
theorem b_PressTable_fillRow_127 {L : Nat} {d : Nat} {I : jm_I} {Q : Option jm_V → jm_I → Prop} {o0 : Option jm_V} {o1 : Option jm_V} {o2 : Option jm_V} {o3 : Option jm_V} {o4 : Option jm_V} {o5 : Option jm_V} {x6 : Int} {o7 : Option jm_V} {s0 : Int}  (k : Gx (jx_0 L) d md_PressTable_fillRow 30 [o0, o1, o2, o3, o4, some (.inl s0), some (.inl (x6 + 1)), o7] [] I Q) : Gx (jx_0 L) d md_PressTable_fillRow 127 [o0, o1, o2, o3, o4, o5, some (.inl x6), o7] [.inl s0] I Q := by
  show jm_Go d 0 0 md_PressTable_fillRow 127 [o0, o1, o2, o3, o4, o5, some (.inl x6), o7] [.inl s0] (jx (jx_0 L) I) (jx_Q (jx_0 L) Q)
  have hd : jm_dc md_PressTable_fillRow.2.1 127 [(.istore 5, 2), (.iinc 6 1, 3), (.goto (-102), 3)] = true := by decide +kernel
  refine go_istore (by decide) hd (fun hd => ?_)
  refine go_iinc rfl hd (fun hd => ?_)
  exact go_goto (by decide) hd k
theorem b_PressTable_fillRow_135 {L : Nat} {d : Nat} {I : jm_I} {Q : Option jm_V → jm_I → Prop} {o0 : Option jm_V} {o1 : Option jm_V} {o2 : Option jm_V} {o3 : Option jm_V} {x4 : Int} {o5 : Option jm_V} {o6 : Option jm_V} {o7 : Option jm_V}  (hz : (x4 = 0 ∨ x4 = 1)) (k : Q (some (.inl x4)) I) : Gx (jx_0 L) d md_PressTable_fillRow 135 [o0, o1, o2, o3, some (.inl x4), o5, o6, o7] [] I Q := by
  have hz1 := hz
  show jm_Go d 0 0 md_PressTable_fillRow 135 [o0, o1, o2, o3, some (.inl x4), o5, o6, o7] [] (jx (jx_0 L) I) (jx_Q (jx_0 L) Q)
  have hd : jm_dc md_PressTable_fillRow.2.1 135 [(.iload 4, 2), (.ireturn, 1)] = true := by decide +kernel
  refine go_iload rfl hd (fun hd => ?_)
  exact go_zreturn hd rfl hz1 ⟨_, rfl, k⟩
theorem b_PressTable_carriedFrom_0 {L : Nat} {d : Nat} {I : jm_I} {Q : Option jm_V → jm_I → Prop} {x1 : Int} {x2 : Int}  (k : Gx (jx_0 L) d md_PressTable_carriedFrom 5 [some (.inr (.inl 107)), some (.inl x1), some (.inl x2), some (.inl 0), some (.inl 0)] [] I Q) : Cx (jx_0 L) d md_PressTable_carriedFrom [.inr (.inl 107), .inl x1, .inl x2] I Q := by
  show jm_Go d 0 0 md_PressTable_carriedFrom 0 [some (.inr (.inl 107)), some (.inl x1), some (.inl x2), none, none] [] (jx (jx_0 L) I) (jx_Q (jx_0 L) Q)
  have hd : jm_dc md_PressTable_carriedFrom.2.1 0 [(.iconst 0, 1), (.istore_n 3, 1), (.iconst 0, 1), (.istore 4, 2)] = true := by decide +kernel
  refine go_iconst hd (fun hd => ?_)
  refine go_istore_n (by decide) hd (fun hd => ?_)
  refine go_iconst hd (fun hd => ?_)
  refine go_istore (by decide) hd (fun hd => ?_)
  exact k
theorem b_PressTable_carriedFrom_5 {L : Nat} {d : Nat} {I : jm_I} {Q : Option jm_V → jm_I → Prop} {o0 : Option jm_V} {o1 : Option jm_V} {o2 : Option jm_V} {o3 : Option jm_V} {x4 : Int}  (hz : (-2147483648 ≤ x4 ∧ x4 < 2147483648)) (kt : 10 ≤ x4 → Gx (jx_0 L) d md_PressTable_carriedFrom 39 [o0, o1, o2, o3, some (.inl x4)] [] I Q) (kf : ¬ (10 ≤ x4) → Gx (jx_0 L) d md_PressTable_carriedFrom 12 [o0, o1, o2, o3, some (.inl x4)] [] I Q) : Gx (jx_0 L) d md_PressTable_carriedFrom 5 [o0, o1, o2, o3, some (.inl x4)] [] I Q := by
  have hz1 := hz
  show jm_Go d 0 0 md_PressTable_carriedFrom 5 [o0, o1, o2, o3, some (.inl x4)] [] (jx (jx_0 L) I) (jx_Q (jx_0 L) Q)
  have hd : jm_dc md_PressTable_carriedFrom.2.1 5 [(.iload 4, 2), (.bipush 10, 2), (.if_icmp .ge 30, 3)] = true := by decide +kernel
  refine go_iload rfl hd (fun hd => ?_)
  refine go_bipush (by decide) hd (fun hd => ?_)
  exact go_icmp_ge (by decide) hz1 ⟨by decide, by decide⟩ hd kt kf
theorem b_PressTable_carriedFrom_12 {L : Nat} {d : Nat} {I : jm_I} {Q : Option jm_V → jm_I → Prop} {o0 : Option jm_V} {o1 : Option jm_V} {x2 : Int} {o3 : Option jm_V} {x4 : Int}  (hz : (-2147483648 ≤ jb_and (jb_shr x2 x4) 1 ∧ jb_and (jb_shr x2 x4) 1 < 2147483648)) (kt : (jb_and (jb_shr x2 x4) 1) = 0 → Gx (jx_0 L) d md_PressTable_carriedFrom 33 [o0, o1, some (.inl x2), o3, some (.inl x4)] [] I Q) (kf : ¬ (jb_and (jb_shr x2 x4) 1) = 0 → Gx (jx_0 L) d md_PressTable_carriedFrom 21 [o0, o1, some (.inl x2), o3, some (.inl x4)] [] I Q) : Gx (jx_0 L) d md_PressTable_carriedFrom 12 [o0, o1, some (.inl x2), o3, some (.inl x4)] [] I Q := by
  have hz1 := hz
  show jm_Go d 0 0 md_PressTable_carriedFrom 12 [o0, o1, some (.inl x2), o3, some (.inl x4)] [] (jx (jx_0 L) I) (jx_Q (jx_0 L) Q)
  have hd : jm_dc md_PressTable_carriedFrom.2.1 12 [(.iload_n 2, 1), (.iload 4, 2), (.ishr, 1), (.iconst 1, 1), (.iand, 1), (.ifCond .eq 15, 3)] = true := by decide +kernel
  refine go_iload_n rfl hd (fun hd => ?_)
  refine go_iload rfl hd (fun hd => ?_)
  refine go_ishr hd (fun hd => ?_)
  refine go_iconst hd (fun hd => ?_)
  refine go_iand hd (fun hd => ?_)
  exact go_if_eq (by decide) hz1 hd kt kf
theorem b_PressTable_carriedFrom_21 {L : Nat} {d : Nat} {I : jm_I} {Q : Option jm_V → jm_I → Prop} {x1 : Int} {o2 : Option jm_V} {x3 : Int} {x4 : Int}  (hz : (0 ≤ x1 ∧ x1 < 5) ∧ (0 ≤ x4 ∧ x4 < 10)) (k : Gx (jx_0 L) d md_PressTable_carriedFrom 33 [some (.inr (.inl 107)), some (.inl x1), o2, some (.inl (jb_or x3 (I (142 + x1.toNat) x4.toNat))), some (.inl x4)] [] I Q) : Gx (jx_0 L) d md_PressTable_carriedFrom 21 [some (.inr (.inl 107)), some (.inl x1), o2, some (.inl x3), some (.inl x4)] [] I Q := by
  obtain ⟨hz1, hz2⟩ := hz
  show jm_Go d 0 0 md_PressTable_carriedFrom 21 [some (.inr (.inl 107)), some (.inl x1), o2, some (.inl x3), some (.inl x4)] [] (jx (jx_0 L) I) (jx_Q (jx_0 L) Q)
  have hd : jm_dc md_PressTable_carriedFrom.2.1 21 [(.iload_n 3, 1), (.aload_n 0, 1), (.getfield 16, 3), (.iload_n 1, 1), (.aaload, 1), (.iload 4, 2), (.iaload, 1), (.ior, 1), (.istore_n 3, 1)] = true := by decide +kernel
  refine go_iload_n rfl hd (fun hd => ?_)
  refine go_aload_n rfl hd (fun hd => ?_)
  refine go_getR co_X6 fl_6_16 (by decide) rfl rfl rfl hd (fun hd => ?_)
  refine go_iload_n rfl hd (fun hd => ?_)
  refine go_aaload (Or.inr rfl) hz1.1 hz1.2 (by decide) (rw_R141 (L := L) hz1.1 hz1.2) hd (fun hd => ?_)
  refine go_iload rfl hd (fun hd => ?_)
  refine go_iaload (rw_S141 (L := L) hz1.1 hz1.2) hz2.1 hz2.2 (by decide) hd (fun hd => ?_)
  refine go_ior hd (fun hd => ?_)
  refine go_istore_n (by decide) hd (fun hd => ?_)
  exact k
theorem b_PressTable_carriedFrom_33 {L : Nat} {d : Nat} {I : jm_I} {Q : Option jm_V → jm_I → Prop} {o0 : Option jm_V} {o1 : Option jm_V} {o2 : Option jm_V} {o3 : Option jm_V} {x4 : Int}  (k : Gx (jx_0 L) d md_PressTable_carriedFrom 5 [o0, o1, o2, o3, some (.inl (x4 + 1))] [] I Q) : Gx (jx_0 L) d md_PressTable_carriedFrom 33 [o0, o1, o2, o3, some (.inl x4)] [] I Q := by
  show jm_Go d 0 0 md_PressTable_carriedFrom 33 [o0, o1, o2, o3, some (.inl x4)] [] (jx (jx_0 L) I) (jx_Q (jx_0 L) Q)
  have hd : jm_dc md_PressTable_carriedFrom.2.1 33 [(.iinc 4 1, 3), (.goto (-31), 3)] = true := by decide +kernel
  refine go_iinc rfl hd (fun hd => ?_)
  exact go_goto (by decide) hd k
theorem b_PressTable_carriedFrom_39 {L : Nat} {d : Nat} {I : jm_I} {Q : Option jm_V → jm_I → Prop} {o0 : Option jm_V} {o1 : Option jm_V} {o2 : Option jm_V} {x3 : Int} {o4 : Option jm_V}  (k : Q (some (.inl x3)) I) : Gx (jx_0 L) d md_PressTable_carriedFrom 39 [o0, o1, o2, some (.inl x3), o4] [] I Q := by
  show jm_Go d 0 0 md_PressTable_carriedFrom 39 [o0, o1, o2, some (.inl x3), o4] [] (jx (jx_0 L) I) (jx_Q (jx_0 L) Q)
  have hd : jm_dc md_PressTable_carriedFrom.2.1 39 [(.iload_n 3, 1), (.ireturn, 1)] = true := by decide +kernel
  refine go_iload_n rfl hd (fun hd => ?_)
  exact go_ireturn hd rfl ⟨_, rfl, k⟩
theorem b_PressTable_aSecondLater_0 {L : Nat} {d : Nat} {I : jm_I} {Q : Option jm_V → jm_I → Prop} {x1 : Int}  (k : Gx (jx_0 L) d md_PressTable_aSecondLater 4 [some (.inr (.inl 107)), some (.inl x1), some (.inl 0), some (.inl 0)] [] I Q) : Cx (jx_0 L) d md_PressTable_aSecondLater [.inr (.inl 107), .inl x1] I Q := by
  show jm_Go d 0 0 md_PressTable_aSecondLater 0 [some (.inr (.inl 107)), some (.inl x1), none, none] [] (jx (jx_0 L) I) (jx_Q (jx_0 L) Q)
  have hd : jm_dc md_PressTable_aSecondLater.2.1 0 [(.iconst 0, 1), (.istore_n 2, 1), (.iconst 0, 1), (.istore_n 3, 1)] = true := by decide +kernel
  refine go_iconst hd (fun hd => ?_)
  refine go_istore_n (by decide) hd (fun hd => ?_)
  refine go_iconst hd (fun hd => ?_)
  refine go_istore_n (by decide) hd (fun hd => ?_)
  exact k
theorem b_PressTable_aSecondLater_4 {L : Nat} {d : Nat} {I : jm_I} {Q : Option jm_V → jm_I → Prop} {o0 : Option jm_V} {o1 : Option jm_V} {o2 : Option jm_V} {x3 : Int}  (hz : (-2147483648 ≤ x3 ∧ x3 < 2147483648)) (kt : 10 ≤ x3 → Gx (jx_0 L) d md_PressTable_aSecondLater 42 [o0, o1, o2, some (.inl x3)] [] I Q) (kf : ¬ (10 ≤ x3) → Gx (jx_0 L) d md_PressTable_aSecondLater 10 [o0, o1, o2, some (.inl x3)] [] I Q) : Gx (jx_0 L) d md_PressTable_aSecondLater 4 [o0, o1, o2, some (.inl x3)] [] I Q := by
  have hz1 := hz
  show jm_Go d 0 0 md_PressTable_aSecondLater 4 [o0, o1, o2, some (.inl x3)] [] (jx (jx_0 L) I) (jx_Q (jx_0 L) Q)
  have hd : jm_dc md_PressTable_aSecondLater.2.1 4 [(.iload_n 3, 1), (.bipush 10, 2), (.if_icmp .ge 35, 3)] = true := by decide +kernel
  refine go_iload_n rfl hd (fun hd => ?_)
  refine go_bipush (by decide) hd (fun hd => ?_)
  exact go_icmp_ge (by decide) hz1 ⟨by decide, by decide⟩ hd kt kf
theorem b_PressTable_aSecondLater_10 {L : Nat} {d : Nat} {I : jm_I} {Q : Option jm_V → jm_I → Prop} {o0 : Option jm_V} {x1 : Int} {o2 : Option jm_V} {x3 : Int}  (hz : (-2147483648 ≤ jb_and (jb_shr x1 x3) 1 ∧ jb_and (jb_shr x1 x3) 1 < 2147483648)) (kt : (jb_and (jb_shr x1 x3) 1) = 0 → Gx (jx_0 L) d md_PressTable_aSecondLater 36 [o0, some (.inl x1), o2, some (.inl x3)] [] I Q) (kf : ¬ (jb_and (jb_shr x1 x3) 1) = 0 → Gx (jx_0 L) d md_PressTable_aSecondLater 18 [o0, some (.inl x1), o2, some (.inl x3)] [] I Q) : Gx (jx_0 L) d md_PressTable_aSecondLater 10 [o0, some (.inl x1), o2, some (.inl x3)] [] I Q := by
  have hz1 := hz
  show jm_Go d 0 0 md_PressTable_aSecondLater 10 [o0, some (.inl x1), o2, some (.inl x3)] [] (jx (jx_0 L) I) (jx_Q (jx_0 L) Q)
  have hd : jm_dc md_PressTable_aSecondLater.2.1 10 [(.iload_n 1, 1), (.iload_n 3, 1), (.ishr, 1), (.iconst 1, 1), (.iand, 1), (.ifCond .eq 21, 3)] = true := by decide +kernel
  refine go_iload_n rfl hd (fun hd => ?_)
  refine go_iload_n rfl hd (fun hd => ?_)
  refine go_ishr hd (fun hd => ?_)
  refine go_iconst hd (fun hd => ?_)
  refine go_iand hd (fun hd => ?_)
  exact go_if_eq (by decide) hz1 hd kt kf
theorem b_PressTable_aSecondLater_18 {L : Nat} {d : Nat} {I : jm_I} {Q : Option jm_V → jm_I → Prop} {o1 : Option jm_V} {x2 : Int} {x3 : Int} {c1 : Nat} (hD1 : I 107 0 = (c1 : Int)) (hc1 : jx_City (jx_0 L) c1) (k : Cx (jx_0 L) d md_City_spotIn [.inr (.inl c1), .inl (I 107 2), .inl x3, .inl 1] I (fun v J => Gx (jx_0 L) (d + 1) md_PressTable_aSecondLater 33 [some (.inr (.inl 107)), o1, some (.inl x2), some (.inl x3)] (v.toList ++ [.inl 1, .inl x2]) J Q)) : Gx (jx_0 L) (d + 1) md_PressTable_aSecondLater 18 [some (.inr (.inl 107)), o1, some (.inl x2), some (.inl x3)] [] I Q := by
  show jm_Go (d + 1) 0 0 md_PressTable_aSecondLater 18 [some (.inr (.inl 107)), o1, some (.inl x2), some (.inl x3)] [] (jx (jx_0 L) I) (jx_Q (jx_0 L) Q)
  have hd : jm_dc md_PressTable_aSecondLater.2.1 18 [(.iload_n 2, 1), (.iconst 1, 1), (.aload_n 0, 1), (.getfield 23, 3), (.aload_n 0, 1), (.getfield 31, 3), (.iload_n 3, 1), (.iconst 1, 1), (.invokevirtual 80, 3)] = true := by decide +kernel
  refine go_iload_n rfl hd (fun hd => ?_)
  refine go_iconst hd (fun hd => ?_)
  refine go_aload_n rfl hd (fun hd => ?_)
  refine go_getD co_X6 fl_6_23 (by decide) rfl rfl hD1 (ct_pos hc1) hd (fun hd => ?_)
  refine go_aload_n rfl hd (fun hd => ?_)
  refine go_getI co_X6 fl_6_31 (by decide) (Or.inl rfl) rfl hd (fun hd => ?_)
  refine go_iload_n rfl hd (fun hd => ?_)
  refine go_iconst hd (fun hd => ?_)
  exact gx_virtual c1 0 [.inl (I 107 2), .inl x3, .inl 1] [.inl 1, .inl x2] mk_City_spotIn co_X0 rfl ml_6_80 in_City_spotIn se_City_spotIn (ct_K hc1) rfl (Nat.le_of_ble_eq_true rfl) rfl (Nat.le_of_ble_eq_true rfl) rfl hd k
theorem b_PressTable_aSecondLater_33 {L : Nat} {d : Nat} {I : jm_I} {Q : Option jm_V → jm_I → Prop} {o0 : Option jm_V} {o1 : Option jm_V} {o2 : Option jm_V} {o3 : Option jm_V} {s0 : Int} {s1 : Int} {s2 : Int}  (k : Gx (jx_0 L) d md_PressTable_aSecondLater 36 [o0, o1, some (.inl (jb_or s0 (jb_shl s1 s2))), o3] [] I Q) : Gx (jx_0 L) d md_PressTable_aSecondLater 33 [o0, o1, o2, o3] [.inl s2, .inl s1, .inl s0] I Q := by
  show jm_Go d 0 0 md_PressTable_aSecondLater 33 [o0, o1, o2, o3] [.inl s2, .inl s1, .inl s0] (jx (jx_0 L) I) (jx_Q (jx_0 L) Q)
  have hd : jm_dc md_PressTable_aSecondLater.2.1 33 [(.ishl, 1), (.ior, 1), (.istore_n 2, 1)] = true := by decide +kernel
  refine go_ishl hd (fun hd => ?_)
  refine go_ior hd (fun hd => ?_)
  refine go_istore_n (by decide) hd (fun hd => ?_)
  exact k
theorem b_PressTable_aSecondLater_36 {L : Nat} {d : Nat} {I : jm_I} {Q : Option jm_V → jm_I → Prop} {o0 : Option jm_V} {o1 : Option jm_V} {o2 : Option jm_V} {x3 : Int}  (k : Gx (jx_0 L) d md_PressTable_aSecondLater 4 [o0, o1, o2, some (.inl (x3 + 1))] [] I Q) : Gx (jx_0 L) d md_PressTable_aSecondLater 36 [o0, o1, o2, some (.inl x3)] [] I Q := by
  show jm_Go d 0 0 md_PressTable_aSecondLater 36 [o0, o1, o2, some (.inl x3)] [] (jx (jx_0 L) I) (jx_Q (jx_0 L) Q)
  have hd : jm_dc md_PressTable_aSecondLater.2.1 36 [(.iinc 3 1, 3), (.goto (-35), 3)] = true := by decide +kernel
  refine go_iinc rfl hd (fun hd => ?_)
  exact go_goto (by decide) hd k
theorem b_PressTable_aSecondLater_42 {L : Nat} {d : Nat} {I : jm_I} {Q : Option jm_V → jm_I → Prop} {o0 : Option jm_V} {o1 : Option jm_V} {x2 : Int} {o3 : Option jm_V}  (k : Q (some (.inl x2)) I) : Gx (jx_0 L) d md_PressTable_aSecondLater 42 [o0, o1, some (.inl x2), o3] [] I Q := by
  show jm_Go d 0 0 md_PressTable_aSecondLater 42 [o0, o1, some (.inl x2), o3] [] (jx (jx_0 L) I) (jx_Q (jx_0 L) Q)
  have hd : jm_dc md_PressTable_aSecondLater.2.1 42 [(.iload_n 2, 1), (.ireturn, 1)] = true := by decide +kernel
  refine go_iload_n rfl hd (fun hd => ?_)
  exact go_ireturn hd rfl ⟨_, rfl, k⟩
theorem b_PressTable_fewest_0 {L : Nat} {d : Nat} {I : jm_I} {Q : Option jm_V → jm_I → Prop}   (k : Gx (jx_0 L) d md_PressTable_fewest 5 [some (.inr (.inl 107)), some (.inl 6), some (.inl 0)] [] I Q) : Cx (jx_0 L) d md_PressTable_fewest [.inr (.inl 107)] I Q := by
  show jm_Go d 0 0 md_PressTable_fewest 0 [some (.inr (.inl 107)), none, none] [] (jx (jx_0 L) I) (jx_Q (jx_0 L) Q)
  have hd : jm_dc md_PressTable_fewest.2.1 0 [(.bipush 6, 2), (.istore_n 1, 1), (.iconst 0, 1), (.istore_n 2, 1)] = true := by decide +kernel
  refine go_bipush (by decide) hd (fun hd => ?_)
  refine go_istore_n (by decide) hd (fun hd => ?_)
  refine go_iconst hd (fun hd => ?_)
  refine go_istore_n (by decide) hd (fun hd => ?_)
  exact k
theorem b_PressTable_fewest_5 {L : Nat} {d : Nat} {I : jm_I} {Q : Option jm_V → jm_I → Prop} {o0 : Option jm_V} {o1 : Option jm_V} {x2 : Int}  (hz : (-2147483648 ≤ x2 ∧ x2 < 2147483648)) (kt : 32 ≤ x2 → Gx (jx_0 L) d md_PressTable_fewest 35 [o0, o1, some (.inl x2)] [] I Q) (kf : ¬ (32 ≤ x2) → Gx (jx_0 L) d md_PressTable_fewest 11 [o0, o1, some (.inl x2)] [] I Q) : Gx (jx_0 L) d md_PressTable_fewest 5 [o0, o1, some (.inl x2)] [] I Q := by
  have hz1 := hz
  show jm_Go d 0 0 md_PressTable_fewest 5 [o0, o1, some (.inl x2)] [] (jx (jx_0 L) I) (jx_Q (jx_0 L) Q)
  have hd : jm_dc md_PressTable_fewest.2.1 5 [(.iload_n 2, 1), (.bipush 32, 2), (.if_icmp .ge 27, 3)] = true := by decide +kernel
  refine go_iload_n rfl hd (fun hd => ?_)
  refine go_bipush (by decide) hd (fun hd => ?_)
  exact go_icmp_ge (by decide) hz1 ⟨by decide, by decide⟩ hd kt kf
theorem b_PressTable_fewest_11 {L : Nat} {d : Nat} {I : jm_I} {Q : Option jm_V → jm_I → Prop} {o1 : Option jm_V} {x2 : Int}  (hz : (0 ≤ x2 ∧ x2 < 32) ∧ (-2147483648 ≤ I 147 x2.toNat ∧ I 147 x2.toNat < 2147483648)) (kt : (I 147 x2.toNat) = 0 → Gx (jx_0 L) d md_PressTable_fewest 29 [some (.inr (.inl 107)), o1, some (.inl x2)] [] I Q) (kf : ¬ (I 147 x2.toNat) = 0 → Gx (jx_0 L) d md_PressTable_fewest 20 [some (.inr (.inl 107)), o1, some (.inl x2)] [] I Q) : Gx (jx_0 L) d md_PressTable_fewest 11 [some (.inr (.inl 107)), o1, some (.inl x2)] [] I Q := by
  obtain ⟨hz1, hz2⟩ := hz
  show jm_Go d 0 0 md_PressTable_fewest 11 [some (.inr (.inl 107)), o1, some (.inl x2)] [] (jx (jx_0 L) I) (jx_Q (jx_0 L) Q)
  have hd : jm_dc md_PressTable_fewest.2.1 11 [(.aload_n 0, 1), (.getfield 19, 3), (.iload_n 2, 1), (.baload, 1), (.ifCond .eq 12, 3)] = true := by decide +kernel
  refine go_aload_n rfl hd (fun hd => ?_)
  refine go_getR co_X6 fl_6_19 (by decide) rfl rfl rfl hd (fun hd => ?_)
  refine go_iload_n rfl hd (fun hd => ?_)
  refine go_zaload rfl hz1.1 hz1.2 (by decide) hd (fun hd => ?_)
  exact go_if_eq (by decide) hz2 hd kt kf
theorem b_PressTable_fewest_20 {L : Nat} {d : Nat} {I : jm_I} {Q : Option jm_V → jm_I → Prop} {o0 : Option jm_V} {x1 : Int} {x2 : Int}  (k : Cx (jx_0 L) d md_Integer_bitCount [.inl x2] I (fun v J => Gx (jx_0 L) (d + 1) md_PressTable_fewest 25 [o0, some (.inl x1), some (.inl x2)] (v.toList ++ [.inl x1]) J Q)) : Gx (jx_0 L) (d + 1) md_PressTable_fewest 20 [o0, some (.inl x1), some (.inl x2)] [] I Q := by
  show jm_Go (d + 1) 0 0 md_PressTable_fewest 20 [o0, some (.inl x1), some (.inl x2)] [] (jx (jx_0 L) I) (jx_Q (jx_0 L) Q)
  have hd : jm_dc md_PressTable_fewest.2.1 20 [(.iload_n 1, 1), (.iload_n 2, 1), (.invokestatic 54, 3)] = true := by decide +kernel
  refine go_iload_n rfl hd (fun hd => ?_)
  refine go_iload_n rfl hd (fun hd => ?_)
  exact gx_static [.inl x2] [.inl x1] mk_Integer_bitCount ml_6_54 st_Integer_bitCount rfl (Nat.le_of_ble_eq_true rfl) rfl (Nat.le_of_ble_eq_true rfl) rfl hd k
theorem b_PressTable_fewest_25 {L : Nat} {d : Nat} {I : jm_I} {Q : Option jm_V → jm_I → Prop} {o0 : Option jm_V} {o1 : Option jm_V} {o2 : Option jm_V} {s0 : Int} {s1 : Int}  (hz : (-2147483648 ≤ s0 ∧ s0 < 2147483648) ∧ (-2147483648 ≤ s1 ∧ s1 < 2147483648)) (k : Gx (jx_0 L) d md_PressTable_fewest 29 [o0, some (.inl (min s0 s1)), o2] [] I Q) : Gx (jx_0 L) d md_PressTable_fewest 25 [o0, o1, o2] [.inl s1, .inl s0] I Q := by
  obtain ⟨hz1, hz2⟩ := hz
  show jm_Go d 0 0 md_PressTable_fewest 25 [o0, o1, o2] [.inl s1, .inl s0] (jx (jx_0 L) I) (jx_Q (jx_0 L) Q)
  have hd : jm_dc md_PressTable_fewest.2.1 25 [(.invokestatic 59, 3), (.istore_n 1, 1)] = true := by decide +kernel
  refine go_min ml_6_59 hz1 hz2 (Nat.le_of_ble_eq_true rfl) hd (fun hd => ?_)
  refine go_istore_n (by decide) hd (fun hd => ?_)
  exact k
theorem b_PressTable_fewest_29 {L : Nat} {d : Nat} {I : jm_I} {Q : Option jm_V → jm_I → Prop} {o0 : Option jm_V} {o1 : Option jm_V} {x2 : Int}  (k : Gx (jx_0 L) d md_PressTable_fewest 5 [o0, o1, some (.inl (x2 + 1))] [] I Q) : Gx (jx_0 L) d md_PressTable_fewest 29 [o0, o1, some (.inl x2)] [] I Q := by
  show jm_Go d 0 0 md_PressTable_fewest 29 [o0, o1, some (.inl x2)] [] (jx (jx_0 L) I) (jx_Q (jx_0 L) Q)
  have hd : jm_dc md_PressTable_fewest.2.1 29 [(.iinc 2 1, 3), (.goto (-27), 3)] = true := by decide +kernel
  refine go_iinc rfl hd (fun hd => ?_)
  exact go_goto (by decide) hd k
theorem b_PressTable_fewest_35 {L : Nat} {d : Nat} {I : jm_I} {Q : Option jm_V → jm_I → Prop} {o0 : Option jm_V} {x1 : Int} {o2 : Option jm_V}  (hz : (-2147483648 ≤ x1 ∧ x1 < 2147483648)) (kt : x1 ≤ 5 → Gx (jx_0 L) d md_PressTable_fewest 45 [o0, some (.inl x1), o2] [] I Q) (kf : ¬ (x1 ≤ 5) → Gx (jx_0 L) d md_PressTable_fewest 40 [o0, some (.inl x1), o2] [] I Q) : Gx (jx_0 L) d md_PressTable_fewest 35 [o0, some (.inl x1), o2] [] I Q := by
  have hz1 := hz
  show jm_Go d 0 0 md_PressTable_fewest 35 [o0, some (.inl x1), o2] [] (jx (jx_0 L) I) (jx_Q (jx_0 L) Q)
  have hd : jm_dc md_PressTable_fewest.2.1 35 [(.iload_n 1, 1), (.iconst 5, 1), (.if_icmp .le 8, 3)] = true := by decide +kernel
  refine go_iload_n rfl hd (fun hd => ?_)
  refine go_iconst hd (fun hd => ?_)
  exact go_icmp_le (by decide) hz1 ⟨by decide, by decide⟩ hd kt kf
theorem b_PressTable_fewest_40 {L : Nat} {d : Nat} {I : jm_I} {Q : Option jm_V → jm_I → Prop} {o0 : Option jm_V} {o1 : Option jm_V} {o2 : Option jm_V}  (k : Gx (jx_0 L) d md_PressTable_fewest 46 [o0, o1, o2] [.inl (-9)] I Q) : Gx (jx_0 L) d md_PressTable_fewest 40 [o0, o1, o2] [] I Q := by
  show jm_Go d 0 0 md_PressTable_fewest 40 [o0, o1, o2] [] (jx (jx_0 L) I) (jx_Q (jx_0 L) Q)
  have hd : jm_dc md_PressTable_fewest.2.1 40 [(.bipush (-9), 2), (.goto 4, 3)] = true := by decide +kernel
  refine go_bipush (by decide) hd (fun hd => ?_)
  exact go_goto (by decide) hd k
theorem b_PressTable_fewest_45 {L : Nat} {d : Nat} {I : jm_I} {Q : Option jm_V → jm_I → Prop} {o0 : Option jm_V} {x1 : Int} {o2 : Option jm_V}  (k : Gx (jx_0 L) d md_PressTable_fewest 46 [o0, some (.inl x1), o2] [.inl x1] I Q) : Gx (jx_0 L) d md_PressTable_fewest 45 [o0, some (.inl x1), o2] [] I Q := by
  show jm_Go d 0 0 md_PressTable_fewest 45 [o0, some (.inl x1), o2] [] (jx (jx_0 L) I) (jx_Q (jx_0 L) Q)
  have hd : jm_dc md_PressTable_fewest.2.1 45 [(.iload_n 1, 1)] = true := by decide +kernel
  refine go_iload_n rfl hd (fun hd => ?_)
  exact k
theorem b_PressTable_fewest_46 {L : Nat} {d : Nat} {I : jm_I} {Q : Option jm_V → jm_I → Prop} {o0 : Option jm_V} {o1 : Option jm_V} {o2 : Option jm_V} {s0 : Int}  (k : Q (some (.inl s0)) I) : Gx (jx_0 L) d md_PressTable_fewest 46 [o0, o1, o2] [.inl s0] I Q := by
  show jm_Go d 0 0 md_PressTable_fewest 46 [o0, o1, o2] [.inl s0] (jx (jx_0 L) I) (jx_Q (jx_0 L) Q)
  have hd : jm_dc md_PressTable_fewest.2.1 46 [(.ireturn, 1)] = true := by decide +kernel
  exact go_ireturn hd rfl ⟨_, rfl, k⟩
theorem b_PressTable_alone_0 {L : Nat} {d : Nat} {I : jm_I} {Q : Option jm_V → jm_I → Prop}   (hz : (-2147483648 ≤ I 147 0 ∧ I 147 0 < 2147483648)) (kt : (I 147 0) = 0 → Gx (jx_0 L) d md_PressTable_alone 14 [some (.inr (.inl 107)), none, none] [] I Q) (kf : ¬ (I 147 0) = 0 → Gx (jx_0 L) d md_PressTable_alone 9 [some (.inr (.inl 107)), none, none] [] I Q) : Cx (jx_0 L) d md_PressTable_alone [.inr (.inl 107)] I Q := by
  have hz1 := hz
  show jm_Go d 0 0 md_PressTable_alone 0 [some (.inr (.inl 107)), none, none] [] (jx (jx_0 L) I) (jx_Q (jx_0 L) Q)
  have hd : jm_dc md_PressTable_alone.2.1 0 [(.aload_n 0, 1), (.getfield 19, 3), (.iconst 0, 1), (.baload, 1), (.ifCond .eq 8, 3)] = true := by decide +kernel
  refine go_aload_n rfl hd (fun hd => ?_)
  refine go_getR co_X6 fl_6_19 (by decide) rfl rfl rfl hd (fun hd => ?_)
  refine go_iconst hd (fun hd => ?_)
  refine go_zaload rfl (by decide) (by decide) (by decide) hd (fun hd => ?_)
  exact go_if_eq (by decide) hz1 hd kt kf
theorem b_PressTable_alone_9 {L : Nat} {d : Nat} {I : jm_I} {Q : Option jm_V → jm_I → Prop} {o1 : Option jm_V} {o2 : Option jm_V}  (k : Q (some (.inl (I 107 3))) I) : Gx (jx_0 L) d md_PressTable_alone 9 [some (.inr (.inl 107)), o1, o2] [] I Q := by
  show jm_Go d 0 0 md_PressTable_alone 9 [some (.inr (.inl 107)), o1, o2] [] (jx (jx_0 L) I) (jx_Q (jx_0 L) Q)
  have hd : jm_dc md_PressTable_alone.2.1 9 [(.aload_n 0, 1), (.getfield 41, 3), (.ireturn, 1)] = true := by decide +kernel
  refine go_aload_n rfl hd (fun hd => ?_)
  refine go_getI co_X6 fl_6_41 (by decide) (Or.inl rfl) rfl hd (fun hd => ?_)
  exact go_ireturn hd rfl ⟨_, rfl, k⟩
theorem b_PressTable_alone_14 {L : Nat} {d : Nat} {I : jm_I} {Q : Option jm_V → jm_I → Prop} {o0 : Option jm_V} {o1 : Option jm_V} {o2 : Option jm_V}  (k : Gx (jx_0 L) d md_PressTable_alone 18 [o0, some (.inl 0), some (.inl 0)] [] I Q) : Gx (jx_0 L) d md_PressTable_alone 14 [o0, o1, o2] [] I Q := by
  show jm_Go d 0 0 md_PressTable_alone 14 [o0, o1, o2] [] (jx (jx_0 L) I) (jx_Q (jx_0 L) Q)
  have hd : jm_dc md_PressTable_alone.2.1 14 [(.iconst 0, 1), (.istore_n 1, 1), (.iconst 0, 1), (.istore_n 2, 1)] = true := by decide +kernel
  refine go_iconst hd (fun hd => ?_)
  refine go_istore_n (by decide) hd (fun hd => ?_)
  refine go_iconst hd (fun hd => ?_)
  refine go_istore_n (by decide) hd (fun hd => ?_)
  exact k
theorem b_PressTable_alone_18 {L : Nat} {d : Nat} {I : jm_I} {Q : Option jm_V → jm_I → Prop} {o0 : Option jm_V} {o1 : Option jm_V} {x2 : Int}  (hz : (-2147483648 ≤ x2 ∧ x2 < 2147483648)) (kt : 5 ≤ x2 → Gx (jx_0 L) d md_PressTable_alone 46 [o0, o1, some (.inl x2)] [] I Q) (kf : ¬ (5 ≤ x2) → Gx (jx_0 L) d md_PressTable_alone 23 [o0, o1, some (.inl x2)] [] I Q) : Gx (jx_0 L) d md_PressTable_alone 18 [o0, o1, some (.inl x2)] [] I Q := by
  have hz1 := hz
  show jm_Go d 0 0 md_PressTable_alone 18 [o0, o1, some (.inl x2)] [] (jx (jx_0 L) I) (jx_Q (jx_0 L) Q)
  have hd : jm_dc md_PressTable_alone.2.1 18 [(.iload_n 2, 1), (.iconst 5, 1), (.if_icmp .ge 26, 3)] = true := by decide +kernel
  refine go_iload_n rfl hd (fun hd => ?_)
  refine go_iconst hd (fun hd => ?_)
  exact go_icmp_ge (by decide) hz1 ⟨by decide, by decide⟩ hd kt kf
theorem b_PressTable_alone_23 {L : Nat} {d : Nat} {I : jm_I} {Q : Option jm_V → jm_I → Prop} {o1 : Option jm_V} {x2 : Int}  (hz : (0 ≤ jb_shl 1 x2 ∧ jb_shl 1 x2 < 32) ∧ (-2147483648 ≤ I 147 (jb_shl 1 x2).toNat ∧ I 147 (jb_shl 1 x2).toNat < 2147483648)) (kt : (I 147 (jb_shl 1 x2).toNat) = 0 → Gx (jx_0 L) d md_PressTable_alone 40 [some (.inr (.inl 107)), o1, some (.inl x2)] [] I Q) (kf : ¬ (I 147 (jb_shl 1 x2).toNat) = 0 → Gx (jx_0 L) d md_PressTable_alone 34 [some (.inr (.inl 107)), o1, some (.inl x2)] [] I Q) : Gx (jx_0 L) d md_PressTable_alone 23 [some (.inr (.inl 107)), o1, some (.inl x2)] [] I Q := by
  obtain ⟨hz1, hz2⟩ := hz
  show jm_Go d 0 0 md_PressTable_alone 23 [some (.inr (.inl 107)), o1, some (.inl x2)] [] (jx (jx_0 L) I) (jx_Q (jx_0 L) Q)
  have hd : jm_dc md_PressTable_alone.2.1 23 [(.aload_n 0, 1), (.getfield 19, 3), (.iconst 1, 1), (.iload_n 2, 1), (.ishl, 1), (.baload, 1), (.ifCond .eq 9, 3)] = true := by decide +kernel
  refine go_aload_n rfl hd (fun hd => ?_)
  refine go_getR co_X6 fl_6_19 (by decide) rfl rfl rfl hd (fun hd => ?_)
  refine go_iconst hd (fun hd => ?_)
  refine go_iload_n rfl hd (fun hd => ?_)
  refine go_ishl hd (fun hd => ?_)
  refine go_zaload rfl hz1.1 hz1.2 (by decide) hd (fun hd => ?_)
  exact go_if_eq (by decide) hz2 hd kt kf
theorem b_PressTable_alone_34 {L : Nat} {d : Nat} {I : jm_I} {Q : Option jm_V → jm_I → Prop} {o0 : Option jm_V} {x1 : Int} {x2 : Int}  (k : Gx (jx_0 L) d md_PressTable_alone 40 [o0, some (.inl (jb_or x1 (jb_shl 1 x2))), some (.inl x2)] [] I Q) : Gx (jx_0 L) d md_PressTable_alone 34 [o0, some (.inl x1), some (.inl x2)] [] I Q := by
  show jm_Go d 0 0 md_PressTable_alone 34 [o0, some (.inl x1), some (.inl x2)] [] (jx (jx_0 L) I) (jx_Q (jx_0 L) Q)
  have hd : jm_dc md_PressTable_alone.2.1 34 [(.iload_n 1, 1), (.iconst 1, 1), (.iload_n 2, 1), (.ishl, 1), (.ior, 1), (.istore_n 1, 1)] = true := by decide +kernel
  refine go_iload_n rfl hd (fun hd => ?_)
  refine go_iconst hd (fun hd => ?_)
  refine go_iload_n rfl hd (fun hd => ?_)
  refine go_ishl hd (fun hd => ?_)
  refine go_ior hd (fun hd => ?_)
  refine go_istore_n (by decide) hd (fun hd => ?_)
  exact k
theorem b_PressTable_alone_40 {L : Nat} {d : Nat} {I : jm_I} {Q : Option jm_V → jm_I → Prop} {o0 : Option jm_V} {o1 : Option jm_V} {x2 : Int}  (k : Gx (jx_0 L) d md_PressTable_alone 18 [o0, o1, some (.inl (x2 + 1))] [] I Q) : Gx (jx_0 L) d md_PressTable_alone 40 [o0, o1, some (.inl x2)] [] I Q := by
  show jm_Go d 0 0 md_PressTable_alone 40 [o0, o1, some (.inl x2)] [] (jx (jx_0 L) I) (jx_Q (jx_0 L) Q)
  have hd : jm_dc md_PressTable_alone.2.1 40 [(.iinc 2 1, 3), (.goto (-25), 3)] = true := by decide +kernel
  refine go_iinc rfl hd (fun hd => ?_)
  exact go_goto (by decide) hd k
theorem b_PressTable_alone_46 {L : Nat} {d : Nat} {I : jm_I} {Q : Option jm_V → jm_I → Prop} {o0 : Option jm_V} {x1 : Int} {o2 : Option jm_V}  (k : Q (some (.inl x1)) I) : Gx (jx_0 L) d md_PressTable_alone 46 [o0, some (.inl x1), o2] [] I Q := by
  show jm_Go d 0 0 md_PressTable_alone 46 [o0, some (.inl x1), o2] [] (jx (jx_0 L) I) (jx_Q (jx_0 L) Q)
  have hd : jm_dc md_PressTable_alone.2.1 46 [(.iload_n 1, 1), (.ireturn, 1)] = true := by decide +kernel
  refine go_iload_n rfl hd (fun hd => ?_)
  exact go_ireturn hd rfl ⟨_, rfl, k⟩
theorem b_Finds_note_0 {L : Nat} {d : Nat} {I : jm_I} {Q : Option jm_V → jm_I → Prop} {x1 : Int} {x2 : Int} {x3 : Int}  (hz : (0 ≤ I 103 0 ∧ I 103 0 < 4) ∧ (0 ≤ I 103 0 ∧ I 103 0 < 4) ∧ (0 ≤ I 103 0 ∧ I 103 0 < 4)) (k : Q none (jm_up (jm_up (jm_up (jm_up I 104 ((I 103 0).toNat) x1) 105 ((I 103 0).toNat) x2) 106 ((I 103 0).toNat) x3) 103 0 ((I 103 0) + 1))) : Cx (jx_0 L) d md_Finds_note [.inr (.inl 103), .inl x1, .inl x2, .inl x3] I Q := by
  obtain ⟨hz1, hz2, hz3⟩ := hz
  show jm_Go d 0 0 md_Finds_note 0 [some (.inr (.inl 103)), some (.inl x1), some (.inl x2), some (.inl x3)] [] (jx (jx_0 L) I) (jx_Q (jx_0 L) Q)
  have hd : jm_dc md_Finds_note.2.1 0 [(.aload_n 0, 1), (.getfield 9, 3), (.aload_n 0, 1), (.getfield 21, 3), (.iload_n 1, 1), (.iastore, 1), (.aload_n 0, 1), (.getfield 15, 3), (.aload_n 0, 1), (.getfield 21, 3), (.iload_n 2, 1), (.iastore, 1), (.aload_n 0, 1), (.getfield 18, 3), (.aload_n 0, 1), (.getfield 21, 3), (.iload_n 3, 1), (.iastore, 1), (.aload_n 0, 1), (.dup, 1), (.getfield 21, 3), (.iconst 1, 1), (.iadd, 1), (.putfield 21, 3), (.return_, 1)] = true := by decide +kernel
  refine go_aload_n rfl hd (fun hd => ?_)
  refine go_getR co_X3 fl_3_9 (by decide) rfl rfl rfl hd (fun hd => ?_)
  refine go_aload_n rfl hd (fun hd => ?_)
  refine go_getI co_X3 fl_3_21 (by decide) (Or.inl rfl) rfl hd (fun hd => ?_)
  refine go_iload_n rfl hd (fun hd => ?_)
  refine go_iastore rfl hz1.1 hz1.2 (by decide) hd (fun hd => ?_)
  refine go_aload_n rfl hd (fun hd => ?_)
  refine go_getR co_X3 fl_3_15 (by decide) rfl rfl rfl hd (fun hd => ?_)
  refine go_aload_n rfl hd (fun hd => ?_)
  refine go_getI co_X3 fl_3_21 (by decide) (Or.inl rfl) rfl hd (fun hd => ?_)
  refine go_iload_n rfl hd (fun hd => ?_)
  refine go_iastore rfl hz2.1 hz2.2 (by decide) hd (fun hd => ?_)
  refine go_aload_n rfl hd (fun hd => ?_)
  refine go_getR co_X3 fl_3_18 (by decide) rfl rfl rfl hd (fun hd => ?_)
  refine go_aload_n rfl hd (fun hd => ?_)
  refine go_getI co_X3 fl_3_21 (by decide) (Or.inl rfl) rfl hd (fun hd => ?_)
  refine go_iload_n rfl hd (fun hd => ?_)
  refine go_iastore rfl hz3.1 hz3.2 (by decide) hd (fun hd => ?_)
  refine go_aload_n rfl hd (fun hd => ?_)
  refine go_dup rfl hd (fun hd => ?_)
  refine go_getI co_X3 fl_3_21 (by decide) (Or.inl rfl) rfl hd (fun hd => ?_)
  refine go_iconst hd (fun hd => ?_)
  refine go_iadd hd (fun hd => ?_)
  refine go_putI co_X3 fl_3_21 (by decide) rfl rfl hd (fun hd => ?_)
  exact go_vreturn hd rfl ⟨_, rfl, k⟩
theorem b_DoneSearch_couldHave_0 {L : Nat} {d : Nat} {I : jm_I} {Q : Option jm_V → jm_I → Prop} {a1 : Nat} {a2 : Nat} {x4 : Int} (ha1 : jx_City (jx_0 L) a1) (ha2 : jx_Mom (jx_0 L) a2) (k : Cx (jx_0 L) d md_Arrays_fill [.inr (.inl 149), .inl (-1)] I (fun v J => Gx (jx_0 L) (d + 1) md_DoneSearch_couldHave 8 [some (.inr (.inl 148)), some (.inr (.inl a1)), some (.inr (.inl a2)), some (.inr (.inl 103)), some (.inl x4), none] (v.toList ++ []) J Q)) : Cx (jx_0 L) (d + 1) md_DoneSearch_couldHave [.inr (.inl 148), .inr (.inl a1), .inr (.inl a2), .inr (.inl 103), .inl x4] I Q := by
  show jm_Go (d + 1) 0 0 md_DoneSearch_couldHave 0 [some (.inr (.inl 148)), some (.inr (.inl a1)), some (.inr (.inl a2)), some (.inr (.inl 103)), some (.inl x4), none] [] (jx (jx_0 L) I) (jx_Q (jx_0 L) Q)
  have hd : jm_dc md_DoneSearch_couldHave.2.1 0 [(.aload_n 0, 1), (.getfield 9, 3), (.iconst (-1), 1), (.invokestatic 18, 3)] = true := by decide +kernel
  refine go_aload_n rfl hd (fun hd => ?_)
  refine go_getR co_X2 fl_2_9 (by decide) rfl rfl rfl hd (fun hd => ?_)
  refine go_iconst hd (fun hd => ?_)
  exact gx_static [.inr (.inl 149), .inl (-1)] [] mk_Arrays_fill ml_2_18 st_Arrays_fill rfl (Nat.le_of_ble_eq_true rfl) rfl (Nat.le_of_ble_eq_true rfl) rfl hd k
theorem b_DoneSearch_couldHave_8 {L : Nat} {d : Nat} {I : jm_I} {Q : Option jm_V → jm_I → Prop} {a1 : Nat} {a2 : Nat} {o3 : Option jm_V} {x4 : Int} {o5 : Option jm_V} (ha1 : jx_City (jx_0 L) a1) (ha2 : jx_Mom (jx_0 L) a2) (hz : (0 ≤ x4 ∧ x4 < 5) ∧ (0 ≤ I (a2 + 1) x4.toNat ∧ I (a2 + 1) x4.toNat < 6)) (k : Gx (jx_0 L) d md_DoneSearch_couldHave 27 [some (.inr (.inl 148)), some (.inr (.inl a1)), some (.inr (.inl a2)), o3, some (.inl x4), some (.inl 0)] [] (jm_up I 149 ((I (a2 + 1) x4.toNat).toNat) (I a1 1)) Q) : Gx (jx_0 L) d md_DoneSearch_couldHave 8 [some (.inr (.inl 148)), some (.inr (.inl a1)), some (.inr (.inl a2)), o3, some (.inl x4), o5] [] I Q := by
  obtain ⟨hz1, hz2⟩ := hz
  show jm_Go d 0 0 md_DoneSearch_couldHave 8 [some (.inr (.inl 148)), some (.inr (.inl a1)), some (.inr (.inl a2)), o3, some (.inl x4), o5] [] (jx (jx_0 L) I) (jx_Q (jx_0 L) Q)
  have hd : jm_dc md_DoneSearch_couldHave.2.1 8 [(.aload_n 0, 1), (.getfield 9, 3), (.aload_n 2, 1), (.getfield 24, 3), (.iload 4, 2), (.iaload, 1), (.aload_n 1, 1), (.getfield 29, 3), (.iastore, 1), (.iconst 0, 1), (.istore 5, 2)] = true := by decide +kernel
  refine go_aload_n rfl hd (fun hd => ?_)
  refine go_getR co_X2 fl_2_9 (by decide) rfl rfl rfl hd (fun hd => ?_)
  refine go_aload_n rfl hd (fun hd => ?_)
  refine go_getR co_X5 fl_2_24 (by decide) rfl (mo_K ha2) (mo_R2 ha2) hd (fun hd => ?_)
  refine go_iload rfl hd (fun hd => ?_)
  refine go_iaload (mo_S1 ha2) hz1.1 hz1.2 (by decide) hd (fun hd => ?_)
  refine go_aload_n rfl hd (fun hd => ?_)
  refine go_getI co_X0 fl_2_29 (by decide) (Or.inl rfl) (ct_K ha1) hd (fun hd => ?_)
  refine go_iastore rfl hz2.1 hz2.2 (by decide) hd (fun hd => ?_)
  refine go_iconst hd (fun hd => ?_)
  refine go_istore (by decide) hd (fun hd => ?_)
  exact k
theorem b_DoneSearch_couldHave_27 {L : Nat} {d : Nat} {I : jm_I} {Q : Option jm_V → jm_I → Prop} {o0 : Option jm_V} {a1 : Nat} {o2 : Option jm_V} {o3 : Option jm_V} {o4 : Option jm_V} {x5 : Int} (ha1 : jx_City (jx_0 L) a1) (hz : (-2147483648 ≤ x5 ∧ x5 < 2147483648) ∧ (-2147483648 ≤ I a1 4 ∧ I a1 4 < 2147483648)) (kt : (I a1 4) ≤ x5 → Gx (jx_0 L) d md_DoneSearch_couldHave 60 [o0, some (.inr (.inl a1)), o2, o3, o4, some (.inl x5)] [] I Q) (kf : ¬ ((I a1 4) ≤ x5) → Gx (jx_0 L) d md_DoneSearch_couldHave 36 [o0, some (.inr (.inl a1)), o2, o3, o4, some (.inl x5)] [] I Q) : Gx (jx_0 L) d md_DoneSearch_couldHave 27 [o0, some (.inr (.inl a1)), o2, o3, o4, some (.inl x5)] [] I Q := by
  obtain ⟨hz1, hz2⟩ := hz
  show jm_Go d 0 0 md_DoneSearch_couldHave 27 [o0, some (.inr (.inl a1)), o2, o3, o4, some (.inl x5)] [] (jx (jx_0 L) I) (jx_Q (jx_0 L) Q)
  have hd : jm_dc md_DoneSearch_couldHave.2.1 27 [(.iload 5, 2), (.aload_n 1, 1), (.getfield 35, 3), (.if_icmp .ge 27, 3)] = true := by decide +kernel
  refine go_iload rfl hd (fun hd => ?_)
  refine go_aload_n rfl hd (fun hd => ?_)
  refine go_getI co_X0 fl_2_35 (by decide) (Or.inl rfl) (ct_K ha1) hd (fun hd => ?_)
  exact go_icmp_ge (by decide) hz1 hz2 hd kt kf
theorem b_DoneSearch_couldHave_36 {L : Nat} {d : Nat} {I : jm_I} {Q : Option jm_V → jm_I → Prop} {o0 : Option jm_V} {o1 : Option jm_V} {o2 : Option jm_V} {o4 : Option jm_V} {x5 : Int}  (k : Cx (jx_0 L) d md_Finds_tellOf [.inr (.inl 103), .inl x5] I (fun v J => Gx (jx_0 L) (d + 1) md_DoneSearch_couldHave 42 [o0, o1, o2, some (.inr (.inl 103)), o4, some (.inl x5)] (v.toList ++ []) J Q)) : Gx (jx_0 L) (d + 1) md_DoneSearch_couldHave 36 [o0, o1, o2, some (.inr (.inl 103)), o4, some (.inl x5)] [] I Q := by
  show jm_Go (d + 1) 0 0 md_DoneSearch_couldHave 36 [o0, o1, o2, some (.inr (.inl 103)), o4, some (.inl x5)] [] (jx (jx_0 L) I) (jx_Q (jx_0 L) Q)
  have hd : jm_dc md_DoneSearch_couldHave.2.1 36 [(.aload_n 3, 1), (.iload 5, 2), (.invokevirtual 38, 3)] = true := by decide +kernel
  refine go_aload_n rfl hd (fun hd => ?_)
  refine go_iload rfl hd (fun hd => ?_)
  exact gx_virtual 103 3 [.inl x5] [] mk_Finds_tellOf co_X3 rfl ml_2_38 in_Finds_tellOf se_Finds_tellOf rfl rfl (Nat.le_of_ble_eq_true rfl) rfl (Nat.le_of_ble_eq_true rfl) rfl hd k
theorem b_DoneSearch_couldHave_42 {L : Nat} {d : Nat} {I : jm_I} {Q : Option jm_V → jm_I → Prop} {o0 : Option jm_V} {o1 : Option jm_V} {o2 : Option jm_V} {o3 : Option jm_V} {o4 : Option jm_V} {o5 : Option jm_V} {s0 : Int}  (hz : (-2147483648 ≤ s0 ∧ s0 < 2147483648)) (kt : s0 = 0 → Gx (jx_0 L) d md_DoneSearch_couldHave 54 [o0, o1, o2, o3, o4, o5] [] I Q) (kf : ¬ s0 = 0 → Gx (jx_0 L) d md_DoneSearch_couldHave 45 [o0, o1, o2, o3, o4, o5] [] I Q) : Gx (jx_0 L) d md_DoneSearch_couldHave 42 [o0, o1, o2, o3, o4, o5] [.inl s0] I Q := by
  have hz1 := hz
  show jm_Go d 0 0 md_DoneSearch_couldHave 42 [o0, o1, o2, o3, o4, o5] [.inl s0] (jx (jx_0 L) I) (jx_Q (jx_0 L) Q)
  have hd : jm_dc md_DoneSearch_couldHave.2.1 42 [(.ifCond .eq 12, 3)] = true := by decide +kernel
  exact go_if_eq (by decide) hz1 hd kt kf
theorem b_DoneSearch_couldHave_45 {L : Nat} {d : Nat} {I : jm_I} {Q : Option jm_V → jm_I → Prop} {a1 : Nat} {a2 : Nat} {o4 : Option jm_V} {x5 : Int} (ha1 : jx_City (jx_0 L) a1) (ha2 : jx_Mom (jx_0 L) a2) (k : Cx (jx_0 L) d md_DoneSearch_settleThing [.inr (.inl 148), .inr (.inl a1), .inr (.inl a2), .inr (.inl 103), .inl x5] I (fun v J => Gx (jx_0 L) (d + 1) md_DoneSearch_couldHave 54 [some (.inr (.inl 148)), some (.inr (.inl a1)), some (.inr (.inl a2)), some (.inr (.inl 103)), o4, some (.inl x5)] (v.toList ++ []) J Q)) : Gx (jx_0 L) (d + 1) md_DoneSearch_couldHave 45 [some (.inr (.inl 148)), some (.inr (.inl a1)), some (.inr (.inl a2)), some (.inr (.inl 103)), o4, some (.inl x5)] [] I Q := by
  show jm_Go (d + 1) 0 0 md_DoneSearch_couldHave 45 [some (.inr (.inl 148)), some (.inr (.inl a1)), some (.inr (.inl a2)), some (.inr (.inl 103)), o4, some (.inl x5)] [] (jx (jx_0 L) I) (jx_Q (jx_0 L) Q)
  have hd : jm_dc md_DoneSearch_couldHave.2.1 45 [(.aload_n 0, 1), (.aload_n 1, 1), (.aload_n 2, 1), (.aload_n 3, 1), (.iload 5, 2), (.invokevirtual 44, 3)] = true := by decide +kernel
  refine go_aload_n rfl hd (fun hd => ?_)
  refine go_aload_n rfl hd (fun hd => ?_)
  refine go_aload_n rfl hd (fun hd => ?_)
  refine go_aload_n rfl hd (fun hd => ?_)
  refine go_iload rfl hd (fun hd => ?_)
  exact gx_virtual 148 2 [.inr (.inl a1), .inr (.inl a2), .inr (.inl 103), .inl x5] [] mk_DoneSearch_settleThing co_X2 rfl ml_2_44 in_DoneSearch_settleThing se_DoneSearch_settleThing rfl rfl (Nat.le_of_ble_eq_true rfl) rfl (Nat.le_of_ble_eq_true rfl) rfl hd k
theorem b_DoneSearch_couldHave_54 {L : Nat} {d : Nat} {I : jm_I} {Q : Option jm_V → jm_I → Prop} {o0 : Option jm_V} {o1 : Option jm_V} {o2 : Option jm_V} {o3 : Option jm_V} {o4 : Option jm_V} {x5 : Int}  (k : Gx (jx_0 L) d md_DoneSearch_couldHave 27 [o0, o1, o2, o3, o4, some (.inl (x5 + 1))] [] I Q) : Gx (jx_0 L) d md_DoneSearch_couldHave 54 [o0, o1, o2, o3, o4, some (.inl x5)] [] I Q := by
  show jm_Go d 0 0 md_DoneSearch_couldHave 54 [o0, o1, o2, o3, o4, some (.inl x5)] [] (jx (jx_0 L) I) (jx_Q (jx_0 L) Q)
  have hd : jm_dc md_DoneSearch_couldHave.2.1 54 [(.iinc 5 1, 3), (.goto (-30), 3)] = true := by decide +kernel
  refine go_iinc rfl hd (fun hd => ?_)
  exact go_goto (by decide) hd k
theorem b_DoneSearch_couldHave_60 {L : Nat} {d : Nat} {I : jm_I} {Q : Option jm_V → jm_I → Prop} {o0 : Option jm_V} {o1 : Option jm_V} {o2 : Option jm_V} {o3 : Option jm_V} {o4 : Option jm_V} {o5 : Option jm_V}  (k : Gx (jx_0 L) d md_DoneSearch_couldHave 63 [o0, o1, o2, o3, o4, some (.inl 0)] [] I Q) : Gx (jx_0 L) d md_DoneSearch_couldHave 60 [o0, o1, o2, o3, o4, o5] [] I Q := by
  show jm_Go d 0 0 md_DoneSearch_couldHave 60 [o0, o1, o2, o3, o4, o5] [] (jx (jx_0 L) I) (jx_Q (jx_0 L) Q)
  have hd : jm_dc md_DoneSearch_couldHave.2.1 60 [(.iconst 0, 1), (.istore 5, 2)] = true := by decide +kernel
  refine go_iconst hd (fun hd => ?_)
  refine go_istore (by decide) hd (fun hd => ?_)
  exact k
theorem b_DoneSearch_couldHave_63 {L : Nat} {d : Nat} {I : jm_I} {Q : Option jm_V → jm_I → Prop} {o0 : Option jm_V} {a1 : Nat} {o2 : Option jm_V} {o3 : Option jm_V} {o4 : Option jm_V} {x5 : Int} (ha1 : jx_City (jx_0 L) a1) (hz : (-2147483648 ≤ x5 ∧ x5 < 2147483648) ∧ (-2147483648 ≤ I a1 0 ∧ I a1 0 < 2147483648)) (kt : (I a1 0) ≤ x5 → Gx (jx_0 L) d md_DoneSearch_couldHave 91 [o0, some (.inr (.inl a1)), o2, o3, o4, some (.inl x5)] [] I Q) (kf : ¬ ((I a1 0) ≤ x5) → Gx (jx_0 L) d md_DoneSearch_couldHave 72 [o0, some (.inr (.inl a1)), o2, o3, o4, some (.inl x5)] [] I Q) : Gx (jx_0 L) d md_DoneSearch_couldHave 63 [o0, some (.inr (.inl a1)), o2, o3, o4, some (.inl x5)] [] I Q := by
  obtain ⟨hz1, hz2⟩ := hz
  show jm_Go d 0 0 md_DoneSearch_couldHave 63 [o0, some (.inr (.inl a1)), o2, o3, o4, some (.inl x5)] [] (jx (jx_0 L) I) (jx_Q (jx_0 L) Q)
  have hd : jm_dc md_DoneSearch_couldHave.2.1 63 [(.iload 5, 2), (.aload_n 1, 1), (.getfield 48, 3), (.if_icmp .ge 22, 3)] = true := by decide +kernel
  refine go_iload rfl hd (fun hd => ?_)
  refine go_aload_n rfl hd (fun hd => ?_)
  refine go_getI co_X0 fl_2_48 (by decide) (Or.inl rfl) (ct_K ha1) hd (fun hd => ?_)
  exact go_icmp_ge (by decide) hz1 hz2 hd kt kf
theorem b_DoneSearch_couldHave_72 {L : Nat} {d : Nat} {I : jm_I} {Q : Option jm_V → jm_I → Prop} {o1 : Option jm_V} {o2 : Option jm_V} {o3 : Option jm_V} {o4 : Option jm_V} {x5 : Int}  (hz : (0 ≤ x5 ∧ x5 < 6) ∧ (-2147483648 ≤ I 149 x5.toNat ∧ I 149 x5.toNat < 2147483648)) (kt : (I 149 x5.toNat) = (-1) → Gx (jx_0 L) d md_DoneSearch_couldHave 85 [some (.inr (.inl 148)), o1, o2, o3, o4, some (.inl x5)] [] I Q) (kf : ¬ (I 149 x5.toNat) = (-1) → Gx (jx_0 L) d md_DoneSearch_couldHave 83 [some (.inr (.inl 148)), o1, o2, o3, o4, some (.inl x5)] [] I Q) : Gx (jx_0 L) d md_DoneSearch_couldHave 72 [some (.inr (.inl 148)), o1, o2, o3, o4, some (.inl x5)] [] I Q := by
  obtain ⟨hz1, hz2⟩ := hz
  show jm_Go d 0 0 md_DoneSearch_couldHave 72 [some (.inr (.inl 148)), o1, o2, o3, o4, some (.inl x5)] [] (jx (jx_0 L) I) (jx_Q (jx_0 L) Q)
  have hd : jm_dc md_DoneSearch_couldHave.2.1 72 [(.aload_n 0, 1), (.getfield 9, 3), (.iload 5, 2), (.iaload, 1), (.iconst (-1), 1), (.if_icmp .eq 5, 3)] = true := by decide +kernel
  refine go_aload_n rfl hd (fun hd => ?_)
  refine go_getR co_X2 fl_2_9 (by decide) rfl rfl rfl hd (fun hd => ?_)
  refine go_iload rfl hd (fun hd => ?_)
  refine go_iaload rfl hz1.1 hz1.2 (by decide) hd (fun hd => ?_)
  refine go_iconst hd (fun hd => ?_)
  exact go_icmp_eq (by decide) hz2 ⟨by decide, by decide⟩ hd kt kf
theorem b_DoneSearch_couldHave_83 {L : Nat} {d : Nat} {I : jm_I} {Q : Option jm_V → jm_I → Prop} {o0 : Option jm_V} {o1 : Option jm_V} {o2 : Option jm_V} {o3 : Option jm_V} {o4 : Option jm_V} {o5 : Option jm_V}  (k : Q (some (.inl 1)) I) : Gx (jx_0 L) d md_DoneSearch_couldHave 83 [o0, o1, o2, o3, o4, o5] [] I Q := by
  show jm_Go d 0 0 md_DoneSearch_couldHave 83 [o0, o1, o2, o3, o4, o5] [] (jx (jx_0 L) I) (jx_Q (jx_0 L) Q)
  have hd : jm_dc md_DoneSearch_couldHave.2.1 83 [(.iconst 1, 1), (.ireturn, 1)] = true := by decide +kernel
  refine go_iconst hd (fun hd => ?_)
  exact go_zreturn hd rfl (Or.inr rfl) ⟨_, rfl, k⟩
theorem b_DoneSearch_couldHave_85 {L : Nat} {d : Nat} {I : jm_I} {Q : Option jm_V → jm_I → Prop} {o0 : Option jm_V} {o1 : Option jm_V} {o2 : Option jm_V} {o3 : Option jm_V} {o4 : Option jm_V} {x5 : Int}  (k : Gx (jx_0 L) d md_DoneSearch_couldHave 63 [o0, o1, o2, o3, o4, some (.inl (x5 + 1))] [] I Q) : Gx (jx_0 L) d md_DoneSearch_couldHave 85 [o0, o1, o2, o3, o4, some (.inl x5)] [] I Q := by
  show jm_Go d 0 0 md_DoneSearch_couldHave 85 [o0, o1, o2, o3, o4, some (.inl x5)] [] (jx (jx_0 L) I) (jx_Q (jx_0 L) Q)
  have hd : jm_dc md_DoneSearch_couldHave.2.1 85 [(.iinc 5 1, 3), (.goto (-25), 3)] = true := by decide +kernel
  refine go_iinc rfl hd (fun hd => ?_)
  exact go_goto (by decide) hd k
theorem b_DoneSearch_couldHave_91 {L : Nat} {d : Nat} {I : jm_I} {Q : Option jm_V → jm_I → Prop} {o0 : Option jm_V} {o1 : Option jm_V} {o2 : Option jm_V} {o3 : Option jm_V} {o4 : Option jm_V} {o5 : Option jm_V}  (k : Q (some (.inl 0)) I) : Gx (jx_0 L) d md_DoneSearch_couldHave 91 [o0, o1, o2, o3, o4, o5] [] I Q := by
  show jm_Go d 0 0 md_DoneSearch_couldHave 91 [o0, o1, o2, o3, o4, o5] [] (jx (jx_0 L) I) (jx_Q (jx_0 L) Q)
  have hd : jm_dc md_DoneSearch_couldHave.2.1 91 [(.iconst 0, 1), (.ireturn, 1)] = true := by decide +kernel
  refine go_iconst hd (fun hd => ?_)
  exact go_zreturn hd rfl (Or.inl rfl) ⟨_, rfl, k⟩
theorem b_Finds_tellOf_0 {L : Nat} {d : Nat} {I : jm_I} {Q : Option jm_V → jm_I → Prop} {x1 : Int}  (k : Gx (jx_0 L) d md_Finds_tellOf 2 [some (.inr (.inl 103)), some (.inl x1), some (.inl 0)] [] I Q) : Cx (jx_0 L) d md_Finds_tellOf [.inr (.inl 103), .inl x1] I Q := by
  show jm_Go d 0 0 md_Finds_tellOf 0 [some (.inr (.inl 103)), some (.inl x1), none] [] (jx (jx_0 L) I) (jx_Q (jx_0 L) Q)
  have hd : jm_dc md_Finds_tellOf.2.1 0 [(.iconst 0, 1), (.istore_n 2, 1)] = true := by decide +kernel
  refine go_iconst hd (fun hd => ?_)
  refine go_istore_n (by decide) hd (fun hd => ?_)
  exact k
theorem b_Finds_tellOf_2 {L : Nat} {d : Nat} {I : jm_I} {Q : Option jm_V → jm_I → Prop} {o1 : Option jm_V} {x2 : Int}  (hz : (-2147483648 ≤ x2 ∧ x2 < 2147483648) ∧ (-2147483648 ≤ I 103 0 ∧ I 103 0 < 2147483648)) (kt : (I 103 0) ≤ x2 → Gx (jx_0 L) d md_Finds_tellOf 28 [some (.inr (.inl 103)), o1, some (.inl x2)] [] I Q) (kf : ¬ ((I 103 0) ≤ x2) → Gx (jx_0 L) d md_Finds_tellOf 10 [some (.inr (.inl 103)), o1, some (.inl x2)] [] I Q) : Gx (jx_0 L) d md_Finds_tellOf 2 [some (.inr (.inl 103)), o1, some (.inl x2)] [] I Q := by
  obtain ⟨hz1, hz2⟩ := hz
  show jm_Go d 0 0 md_Finds_tellOf 2 [some (.inr (.inl 103)), o1, some (.inl x2)] [] (jx (jx_0 L) I) (jx_Q (jx_0 L) Q)
  have hd : jm_dc md_Finds_tellOf.2.1 2 [(.iload_n 2, 1), (.aload_n 0, 1), (.getfield 21, 3), (.if_icmp .ge 21, 3)] = true := by decide +kernel
  refine go_iload_n rfl hd (fun hd => ?_)
  refine go_aload_n rfl hd (fun hd => ?_)
  refine go_getI co_X3 fl_3_21 (by decide) (Or.inl rfl) rfl hd (fun hd => ?_)
  exact go_icmp_ge (by decide) hz1 hz2 hd kt kf
theorem b_Finds_tellOf_10 {L : Nat} {d : Nat} {I : jm_I} {Q : Option jm_V → jm_I → Prop} {x1 : Int} {x2 : Int}  (hz : (0 ≤ x2 ∧ x2 < 4) ∧ (-2147483648 ≤ I 104 x2.toNat ∧ I 104 x2.toNat < 2147483648) ∧ (-2147483648 ≤ x1 ∧ x1 < 2147483648)) (kt : ¬ (I 104 x2.toNat) = x1 → Gx (jx_0 L) d md_Finds_tellOf 22 [some (.inr (.inl 103)), some (.inl x1), some (.inl x2)] [] I Q) (kf : (I 104 x2.toNat) = x1 → Gx (jx_0 L) d md_Finds_tellOf 20 [some (.inr (.inl 103)), some (.inl x1), some (.inl x2)] [] I Q) : Gx (jx_0 L) d md_Finds_tellOf 10 [some (.inr (.inl 103)), some (.inl x1), some (.inl x2)] [] I Q := by
  obtain ⟨hz1, hz2, hz3⟩ := hz
  show jm_Go d 0 0 md_Finds_tellOf 10 [some (.inr (.inl 103)), some (.inl x1), some (.inl x2)] [] (jx (jx_0 L) I) (jx_Q (jx_0 L) Q)
  have hd : jm_dc md_Finds_tellOf.2.1 10 [(.aload_n 0, 1), (.getfield 9, 3), (.iload_n 2, 1), (.iaload, 1), (.iload_n 1, 1), (.if_icmp .ne 5, 3)] = true := by decide +kernel
  refine go_aload_n rfl hd (fun hd => ?_)
  refine go_getR co_X3 fl_3_9 (by decide) rfl rfl rfl hd (fun hd => ?_)
  refine go_iload_n rfl hd (fun hd => ?_)
  refine go_iaload rfl hz1.1 hz1.2 (by decide) hd (fun hd => ?_)
  refine go_iload_n rfl hd (fun hd => ?_)
  exact go_icmp_ne (by decide) hz2 hz3 hd kt kf
theorem b_Finds_tellOf_20 {L : Nat} {d : Nat} {I : jm_I} {Q : Option jm_V → jm_I → Prop} {o0 : Option jm_V} {o1 : Option jm_V} {o2 : Option jm_V}  (k : Q (some (.inl 1)) I) : Gx (jx_0 L) d md_Finds_tellOf 20 [o0, o1, o2] [] I Q := by
  show jm_Go d 0 0 md_Finds_tellOf 20 [o0, o1, o2] [] (jx (jx_0 L) I) (jx_Q (jx_0 L) Q)
  have hd : jm_dc md_Finds_tellOf.2.1 20 [(.iconst 1, 1), (.ireturn, 1)] = true := by decide +kernel
  refine go_iconst hd (fun hd => ?_)
  exact go_zreturn hd rfl (Or.inr rfl) ⟨_, rfl, k⟩
theorem b_Finds_tellOf_22 {L : Nat} {d : Nat} {I : jm_I} {Q : Option jm_V → jm_I → Prop} {o0 : Option jm_V} {o1 : Option jm_V} {x2 : Int}  (k : Gx (jx_0 L) d md_Finds_tellOf 2 [o0, o1, some (.inl (x2 + 1))] [] I Q) : Gx (jx_0 L) d md_Finds_tellOf 22 [o0, o1, some (.inl x2)] [] I Q := by
  show jm_Go d 0 0 md_Finds_tellOf 22 [o0, o1, some (.inl x2)] [] (jx (jx_0 L) I) (jx_Q (jx_0 L) Q)
  have hd : jm_dc md_Finds_tellOf.2.1 22 [(.iinc 2 1, 3), (.goto (-23), 3)] = true := by decide +kernel
  refine go_iinc rfl hd (fun hd => ?_)
  exact go_goto (by decide) hd k
theorem b_Finds_tellOf_28 {L : Nat} {d : Nat} {I : jm_I} {Q : Option jm_V → jm_I → Prop} {o0 : Option jm_V} {o1 : Option jm_V} {o2 : Option jm_V}  (k : Q (some (.inl 0)) I) : Gx (jx_0 L) d md_Finds_tellOf 28 [o0, o1, o2] [] I Q := by
  show jm_Go d 0 0 md_Finds_tellOf 28 [o0, o1, o2] [] (jx (jx_0 L) I) (jx_Q (jx_0 L) Q)
  have hd : jm_dc md_Finds_tellOf.2.1 28 [(.iconst 0, 1), (.ireturn, 1)] = true := by decide +kernel
  refine go_iconst hd (fun hd => ?_)
  exact go_zreturn hd rfl (Or.inl rfl) ⟨_, rfl, k⟩
theorem b_DoneSearch_settleThing_0 {L : Nat} {d : Nat} {I : jm_I} {Q : Option jm_V → jm_I → Prop} {a1 : Nat} {a2 : Nat} {x4 : Int} (ha1 : jx_City (jx_0 L) a1) (ha2 : jx_Mom (jx_0 L) a2) (k : Cx (jx_0 L) d md_Arrays_fill [.inr (.inl 150), .inl (-1)] I (fun v J => Gx (jx_0 L) (d + 1) md_DoneSearch_settleThing 8 [some (.inr (.inl 148)), some (.inr (.inl a1)), some (.inr (.inl a2)), some (.inr (.inl 103)), some (.inl x4), none, none] (v.toList ++ []) J Q)) : Cx (jx_0 L) (d + 1) md_DoneSearch_settleThing [.inr (.inl 148), .inr (.inl a1), .inr (.inl a2), .inr (.inl 103), .inl x4] I Q := by
  show jm_Go (d + 1) 0 0 md_DoneSearch_settleThing 0 [some (.inr (.inl 148)), some (.inr (.inl a1)), some (.inr (.inl a2)), some (.inr (.inl 103)), some (.inl x4), none, none] [] (jx (jx_0 L) I) (jx_Q (jx_0 L) Q)
  have hd : jm_dc md_DoneSearch_settleThing.2.1 0 [(.aload_n 0, 1), (.getfield 15, 3), (.iconst (-1), 1), (.invokestatic 18, 3)] = true := by decide +kernel
  refine go_aload_n rfl hd (fun hd => ?_)
  refine go_getR co_X2 fl_2_15 (by decide) rfl rfl rfl hd (fun hd => ?_)
  refine go_iconst hd (fun hd => ?_)
  exact gx_static [.inr (.inl 150), .inl (-1)] [] mk_Arrays_fill ml_2_18 st_Arrays_fill rfl (Nat.le_of_ble_eq_true rfl) rfl (Nat.le_of_ble_eq_true rfl) rfl hd k
theorem b_DoneSearch_settleThing_8 {L : Nat} {d : Nat} {I : jm_I} {Q : Option jm_V → jm_I → Prop} {o0 : Option jm_V} {a1 : Nat} {a2 : Nat} {x4 : Int} {o5 : Option jm_V} {o6 : Option jm_V} (ha1 : jx_City (jx_0 L) a1) (ha2 : jx_Mom (jx_0 L) a2) (hz : (0 ≤ x4 ∧ x4 < 5)) (k : Cx (jx_0 L) d md_Finds_holdFrom [.inr (.inl 103), .inr (.inl a1), .inl x4, .inl (I (a2 + 4) x4.toNat)] I (fun v J => Gx (jx_0 L) (d + 1) md_DoneSearch_settleThing 22 [o0, some (.inr (.inl a1)), some (.inr (.inl a2)), some (.inr (.inl 103)), some (.inl x4), o5, o6] (v.toList ++ []) J Q)) : Gx (jx_0 L) (d + 1) md_DoneSearch_settleThing 8 [o0, some (.inr (.inl a1)), some (.inr (.inl a2)), some (.inr (.inl 103)), some (.inl x4), o5, o6] [] I Q := by
  have hz1 := hz
  show jm_Go (d + 1) 0 0 md_DoneSearch_settleThing 8 [o0, some (.inr (.inl a1)), some (.inr (.inl a2)), some (.inr (.inl 103)), some (.inl x4), o5, o6] [] (jx (jx_0 L) I) (jx_Q (jx_0 L) Q)
  have hd : jm_dc md_DoneSearch_settleThing.2.1 8 [(.aload_n 3, 1), (.aload_n 1, 1), (.iload 4, 2), (.aload_n 2, 1), (.getfield 51, 3), (.iload 4, 2), (.iaload, 1), (.invokevirtual 54, 3)] = true := by decide +kernel
  refine go_aload_n rfl hd (fun hd => ?_)
  refine go_aload_n rfl hd (fun hd => ?_)
  refine go_iload rfl hd (fun hd => ?_)
  refine go_aload_n rfl hd (fun hd => ?_)
  refine go_getR co_X5 fl_2_51 (by decide) rfl (mo_K ha2) (mo_R5 ha2) hd (fun hd => ?_)
  refine go_iload rfl hd (fun hd => ?_)
  refine go_iaload (mo_S4 ha2) hz1.1 hz1.2 (by decide) hd (fun hd => ?_)
  exact gx_virtual 103 3 [.inr (.inl a1), .inl x4, .inl (I (a2 + 4) x4.toNat)] [] mk_Finds_holdFrom co_X3 rfl ml_2_54 in_Finds_holdFrom se_Finds_holdFrom rfl rfl (Nat.le_of_ble_eq_true rfl) rfl (Nat.le_of_ble_eq_true rfl) rfl hd k
theorem b_DoneSearch_settleThing_22 {L : Nat} {d : Nat} {I : jm_I} {Q : Option jm_V → jm_I → Prop} {o0 : Option jm_V} {o1 : Option jm_V} {o2 : Option jm_V} {o3 : Option jm_V} {o4 : Option jm_V} {o5 : Option jm_V} {o6 : Option jm_V} {s0 : Int}  (hz : (-2147483648 ≤ s0 ∧ s0 < 2147483648)) (kt : s0 = 0 → Gx (jx_0 L) d md_DoneSearch_settleThing 40 [o0, o1, o2, o3, o4, o5, o6] [] I Q) (kf : ¬ s0 = 0 → Gx (jx_0 L) d md_DoneSearch_settleThing 25 [o0, o1, o2, o3, o4, o5, o6] [] I Q) : Gx (jx_0 L) d md_DoneSearch_settleThing 22 [o0, o1, o2, o3, o4, o5, o6] [.inl s0] I Q := by
  have hz1 := hz
  show jm_Go d 0 0 md_DoneSearch_settleThing 22 [o0, o1, o2, o3, o4, o5, o6] [.inl s0] (jx (jx_0 L) I) (jx_Q (jx_0 L) Q)
  have hd : jm_dc md_DoneSearch_settleThing.2.1 22 [(.ifCond .eq 18, 3)] = true := by decide +kernel
  exact go_if_eq (by decide) hz1 hd kt kf
theorem b_DoneSearch_settleThing_25 {L : Nat} {d : Nat} {I : jm_I} {Q : Option jm_V → jm_I → Prop} {o1 : Option jm_V} {o2 : Option jm_V} {o3 : Option jm_V} {o4 : Option jm_V} {o5 : Option jm_V} {o6 : Option jm_V}  (k : Gx (jx_0 L) d md_DoneSearch_settleThing 40 [some (.inr (.inl 148)), o1, o2, o3, o4, o5, o6] [] (jm_cpy I 149 150 0 0 6) Q) : Gx (jx_0 L) d md_DoneSearch_settleThing 25 [some (.inr (.inl 148)), o1, o2, o3, o4, o5, o6] [] I Q := by
  show jm_Go d 0 0 md_DoneSearch_settleThing 25 [some (.inr (.inl 148)), o1, o2, o3, o4, o5, o6] [] (jx (jx_0 L) I) (jx_Q (jx_0 L) Q)
  have hd : jm_dc md_DoneSearch_settleThing.2.1 25 [(.aload_n 0, 1), (.getfield 9, 3), (.iconst 0, 1), (.aload_n 0, 1), (.getfield 15, 3), (.iconst 0, 1), (.bipush 6, 2), (.invokestatic 58, 3)] = true := by decide +kernel
  refine go_aload_n rfl hd (fun hd => ?_)
  refine go_getR co_X2 fl_2_9 (by decide) rfl rfl rfl hd (fun hd => ?_)
  refine go_iconst hd (fun hd => ?_)
  refine go_aload_n rfl hd (fun hd => ?_)
  refine go_getR co_X2 fl_2_15 (by decide) rfl rfl rfl hd (fun hd => ?_)
  refine go_iconst hd (fun hd => ?_)
  refine go_bipush (by decide) hd (fun hd => ?_)
  refine go_copy ml_2_58 w_ac1 w_ac2 w_ac3 rfl rfl (by decide) (by decide) (by decide) (by decide) (by decide) (by decide) (by decide) (Nat.le_of_ble_eq_true rfl) hd (fun hd => ?_)
  exact k
theorem b_DoneSearch_settleThing_40 {L : Nat} {d : Nat} {I : jm_I} {Q : Option jm_V → jm_I → Prop} {o0 : Option jm_V} {a1 : Nat} {a2 : Nat} {o3 : Option jm_V} {x4 : Int} {o5 : Option jm_V} {o6 : Option jm_V} (ha1 : jx_City (jx_0 L) a1) (ha2 : jx_Mom (jx_0 L) a2) (hz : (0 ≤ x4 ∧ x4 < 5)) (k : Cx (jx_0 L) d md_City_roomOfSpot [.inr (.inl a1), .inl x4, .inl (I (a2 + 4) x4.toNat)] I (fun v J => Gx (jx_0 L) (d + 1) md_DoneSearch_settleThing 53 [o0, some (.inr (.inl a1)), some (.inr (.inl a2)), o3, some (.inl x4), o5, o6] (v.toList ++ []) J Q)) : Gx (jx_0 L) (d + 1) md_DoneSearch_settleThing 40 [o0, some (.inr (.inl a1)), some (.inr (.inl a2)), o3, some (.inl x4), o5, o6] [] I Q := by
  have hz1 := hz
  show jm_Go (d + 1) 0 0 md_DoneSearch_settleThing 40 [o0, some (.inr (.inl a1)), some (.inr (.inl a2)), o3, some (.inl x4), o5, o6] [] (jx (jx_0 L) I) (jx_Q (jx_0 L) Q)
  have hd : jm_dc md_DoneSearch_settleThing.2.1 40 [(.aload_n 1, 1), (.iload 4, 2), (.aload_n 2, 1), (.getfield 51, 3), (.iload 4, 2), (.iaload, 1), (.invokevirtual 64, 3)] = true := by decide +kernel
  refine go_aload_n rfl hd (fun hd => ?_)
  refine go_iload rfl hd (fun hd => ?_)
  refine go_aload_n rfl hd (fun hd => ?_)
  refine go_getR co_X5 fl_2_51 (by decide) rfl (mo_K ha2) (mo_R5 ha2) hd (fun hd => ?_)
  refine go_iload rfl hd (fun hd => ?_)
  refine go_iaload (mo_S4 ha2) hz1.1 hz1.2 (by decide) hd (fun hd => ?_)
  exact gx_virtual a1 0 [.inl x4, .inl (I (a2 + 4) x4.toNat)] [] mk_City_roomOfSpot co_X0 rfl ml_2_64 in_City_roomOfSpot se_City_roomOfSpot (ct_K ha1) rfl (Nat.le_of_ble_eq_true rfl) rfl (Nat.le_of_ble_eq_true rfl) rfl hd k
theorem b_DoneSearch_settleThing_53 {L : Nat} {d : Nat} {I : jm_I} {Q : Option jm_V → jm_I → Prop} {o0 : Option jm_V} {o1 : Option jm_V} {o2 : Option jm_V} {o3 : Option jm_V} {o4 : Option jm_V} {o5 : Option jm_V} {o6 : Option jm_V} {s0 : Int}  (k : Gx (jx_0 L) d md_DoneSearch_settleThing 58 [o0, o1, o2, o3, o4, some (.inl s0), some (.inl 0)] [] I Q) : Gx (jx_0 L) d md_DoneSearch_settleThing 53 [o0, o1, o2, o3, o4, o5, o6] [.inl s0] I Q := by
  show jm_Go d 0 0 md_DoneSearch_settleThing 53 [o0, o1, o2, o3, o4, o5, o6] [.inl s0] (jx (jx_0 L) I) (jx_Q (jx_0 L) Q)
  have hd : jm_dc md_DoneSearch_settleThing.2.1 53 [(.istore 5, 2), (.iconst 0, 1), (.istore 6, 2)] = true := by decide +kernel
  refine go_istore (by decide) hd (fun hd => ?_)
  refine go_iconst hd (fun hd => ?_)
  refine go_istore (by decide) hd (fun hd => ?_)
  exact k
theorem b_DoneSearch_settleThing_58 {L : Nat} {d : Nat} {I : jm_I} {Q : Option jm_V → jm_I → Prop} {o0 : Option jm_V} {a1 : Nat} {o2 : Option jm_V} {o3 : Option jm_V} {o4 : Option jm_V} {o5 : Option jm_V} {x6 : Int} (ha1 : jx_City (jx_0 L) a1) (hz : (-2147483648 ≤ x6 ∧ x6 < 2147483648) ∧ (-2147483648 ≤ I a1 0 ∧ I a1 0 < 2147483648)) (kt : (I a1 0) ≤ x6 → Gx (jx_0 L) d md_DoneSearch_settleThing 117 [o0, some (.inr (.inl a1)), o2, o3, o4, o5, some (.inl x6)] [] I Q) (kf : ¬ ((I a1 0) ≤ x6) → Gx (jx_0 L) d md_DoneSearch_settleThing 67 [o0, some (.inr (.inl a1)), o2, o3, o4, o5, some (.inl x6)] [] I Q) : Gx (jx_0 L) d md_DoneSearch_settleThing 58 [o0, some (.inr (.inl a1)), o2, o3, o4, o5, some (.inl x6)] [] I Q := by
  obtain ⟨hz1, hz2⟩ := hz
  show jm_Go d 0 0 md_DoneSearch_settleThing 58 [o0, some (.inr (.inl a1)), o2, o3, o4, o5, some (.inl x6)] [] (jx (jx_0 L) I) (jx_Q (jx_0 L) Q)
  have hd : jm_dc md_DoneSearch_settleThing.2.1 58 [(.iload 6, 2), (.aload_n 1, 1), (.getfield 48, 3), (.if_icmp .ge 53, 3)] = true := by decide +kernel
  refine go_iload rfl hd (fun hd => ?_)
  refine go_aload_n rfl hd (fun hd => ?_)
  refine go_getI co_X0 fl_2_48 (by decide) (Or.inl rfl) (ct_K ha1) hd (fun hd => ?_)
  exact go_icmp_ge (by decide) hz1 hz2 hd kt kf
theorem b_DoneSearch_settleThing_67 {L : Nat} {d : Nat} {I : jm_I} {Q : Option jm_V → jm_I → Prop} {o0 : Option jm_V} {a1 : Nat} {o2 : Option jm_V} {x4 : Int} {o5 : Option jm_V} {x6 : Int} (ha1 : jx_City (jx_0 L) a1) (k : Cx (jx_0 L) d md_City_spotOfRoom [.inr (.inl a1), .inl x4, .inl x6] I (fun v J => Gx (jx_0 L) (d + 1) md_DoneSearch_settleThing 79 [o0, some (.inr (.inl a1)), o2, some (.inr (.inl 103)), some (.inl x4), o5, some (.inl x6)] (v.toList ++ [.inl x4, .inr (.inl a1), .inr (.inl 103)]) J Q)) : Gx (jx_0 L) (d + 1) md_DoneSearch_settleThing 67 [o0, some (.inr (.inl a1)), o2, some (.inr (.inl 103)), some (.inl x4), o5, some (.inl x6)] [] I Q := by
  show jm_Go (d + 1) 0 0 md_DoneSearch_settleThing 67 [o0, some (.inr (.inl a1)), o2, some (.inr (.inl 103)), some (.inl x4), o5, some (.inl x6)] [] (jx (jx_0 L) I) (jx_Q (jx_0 L) Q)
  have hd : jm_dc md_DoneSearch_settleThing.2.1 67 [(.aload_n 3, 1), (.aload_n 1, 1), (.iload 4, 2), (.aload_n 1, 1), (.iload 4, 2), (.iload 6, 2), (.invokevirtual 68, 3)] = true := by decide +kernel
  refine go_aload_n rfl hd (fun hd => ?_)
  refine go_aload_n rfl hd (fun hd => ?_)
  refine go_iload rfl hd (fun hd => ?_)
  refine go_aload_n rfl hd (fun hd => ?_)
  refine go_iload rfl hd (fun hd => ?_)
  refine go_iload rfl hd (fun hd => ?_)
  exact gx_virtual a1 0 [.inl x4, .inl x6] [.inl x4, .inr (.inl a1), .inr (.inl 103)] mk_City_spotOfRoom co_X0 rfl ml_2_68 in_City_spotOfRoom se_City_spotOfRoom (ct_K ha1) rfl (Nat.le_of_ble_eq_true rfl) rfl (Nat.le_of_ble_eq_true rfl) rfl hd k
theorem b_DoneSearch_settleThing_79 {L : Nat} {d : Nat} {I : jm_I} {Q : Option jm_V → jm_I → Prop} {o0 : Option jm_V} {o1 : Option jm_V} {o2 : Option jm_V} {o3 : Option jm_V} {o4 : Option jm_V} {o5 : Option jm_V} {o6 : Option jm_V} {b1 : Nat} {s2 : Int} {s3 : Int} (hb1 : jx_City (jx_0 L) b1) (k : Cx (jx_0 L) d md_Finds_holdFrom [.inr (.inl 103), .inr (.inl b1), .inl s2, .inl s3] I (fun v J => Gx (jx_0 L) (d + 1) md_DoneSearch_settleThing 82 [o0, o1, o2, o3, o4, o5, o6] (v.toList ++ []) J Q)) : Gx (jx_0 L) (d + 1) md_DoneSearch_settleThing 79 [o0, o1, o2, o3, o4, o5, o6] [.inl s3, .inl s2, .inr (.inl b1), .inr (.inl 103)] I Q := by
  show jm_Go (d + 1) 0 0 md_DoneSearch_settleThing 79 [o0, o1, o2, o3, o4, o5, o6] [.inl s3, .inl s2, .inr (.inl b1), .inr (.inl 103)] (jx (jx_0 L) I) (jx_Q (jx_0 L) Q)
  have hd : jm_dc md_DoneSearch_settleThing.2.1 79 [(.invokevirtual 54, 3)] = true := by decide +kernel
  exact gx_virtual 103 3 [.inr (.inl b1), .inl s2, .inl s3] [] mk_Finds_holdFrom co_X3 rfl ml_2_54 in_Finds_holdFrom se_Finds_holdFrom rfl rfl (Nat.le_of_ble_eq_true rfl) rfl (Nat.le_of_ble_eq_true rfl) rfl hd k
theorem b_DoneSearch_settleThing_82 {L : Nat} {d : Nat} {I : jm_I} {Q : Option jm_V → jm_I → Prop} {o0 : Option jm_V} {o1 : Option jm_V} {o2 : Option jm_V} {o3 : Option jm_V} {o4 : Option jm_V} {o5 : Option jm_V} {o6 : Option jm_V} {s0 : Int}  (hz : (-2147483648 ≤ s0 ∧ s0 < 2147483648)) (kt : s0 = 0 → Gx (jx_0 L) d md_DoneSearch_settleThing 111 [o0, o1, o2, o3, o4, o5, o6] [] I Q) (kf : ¬ s0 = 0 → Gx (jx_0 L) d md_DoneSearch_settleThing 85 [o0, o1, o2, o3, o4, o5, o6] [] I Q) : Gx (jx_0 L) d md_DoneSearch_settleThing 82 [o0, o1, o2, o3, o4, o5, o6] [.inl s0] I Q := by
  have hz1 := hz
  show jm_Go d 0 0 md_DoneSearch_settleThing 82 [o0, o1, o2, o3, o4, o5, o6] [.inl s0] (jx (jx_0 L) I) (jx_Q (jx_0 L) Q)
  have hd : jm_dc md_DoneSearch_settleThing.2.1 82 [(.ifCond .eq 29, 3)] = true := by decide +kernel
  exact go_if_eq (by decide) hz1 hd kt kf
theorem b_DoneSearch_settleThing_85 {L : Nat} {d : Nat} {I : jm_I} {Q : Option jm_V → jm_I → Prop} {a1 : Nat} {o2 : Option jm_V} {o3 : Option jm_V} {o4 : Option jm_V} {x5 : Int} {x6 : Int} (ha1 : jx_City (jx_0 L) a1) (hz : (0 ≤ x6 ∧ x6 < 6)) (k : Cx (jx_0 L) d md_DoneSearch_mostLeft [.inr (.inl 148), .inr (.inl a1), .inl x5, .inl x6] I (fun v J => Gx (jx_0 L) (d + 1) md_DoneSearch_settleThing 107 [some (.inr (.inl 148)), some (.inr (.inl a1)), o2, o3, o4, some (.inl x5), some (.inl x6)] (v.toList ++ [.inl (I 150 x6.toNat), .inl x6, .inr (.inl 150)]) J Q)) : Gx (jx_0 L) (d + 1) md_DoneSearch_settleThing 85 [some (.inr (.inl 148)), some (.inr (.inl a1)), o2, o3, o4, some (.inl x5), some (.inl x6)] [] I Q := by
  have hz1 := hz
  show jm_Go (d + 1) 0 0 md_DoneSearch_settleThing 85 [some (.inr (.inl 148)), some (.inr (.inl a1)), o2, o3, o4, some (.inl x5), some (.inl x6)] [] (jx (jx_0 L) I) (jx_Q (jx_0 L) Q)
  have hd : jm_dc md_DoneSearch_settleThing.2.1 85 [(.aload_n 0, 1), (.getfield 15, 3), (.iload 6, 2), (.aload_n 0, 1), (.getfield 15, 3), (.iload 6, 2), (.iaload, 1), (.aload_n 0, 1), (.aload_n 1, 1), (.iload 5, 2), (.iload 6, 2), (.invokevirtual 71, 3)] = true := by decide +kernel
  refine go_aload_n rfl hd (fun hd => ?_)
  refine go_getR co_X2 fl_2_15 (by decide) rfl rfl rfl hd (fun hd => ?_)
  refine go_iload rfl hd (fun hd => ?_)
  refine go_aload_n rfl hd (fun hd => ?_)
  refine go_getR co_X2 fl_2_15 (by decide) rfl rfl rfl hd (fun hd => ?_)
  refine go_iload rfl hd (fun hd => ?_)
  refine go_iaload rfl hz1.1 hz1.2 (by decide) hd (fun hd => ?_)
  refine go_aload_n rfl hd (fun hd => ?_)
  refine go_aload_n rfl hd (fun hd => ?_)
  refine go_iload rfl hd (fun hd => ?_)
  refine go_iload rfl hd (fun hd => ?_)
  exact gx_virtual 148 2 [.inr (.inl a1), .inl x5, .inl x6] [.inl (I 150 x6.toNat), .inl x6, .inr (.inl 150)] mk_DoneSearch_mostLeft co_X2 rfl ml_2_71 in_DoneSearch_mostLeft se_DoneSearch_mostLeft rfl rfl (Nat.le_of_ble_eq_true rfl) rfl (Nat.le_of_ble_eq_true rfl) rfl hd k
theorem b_DoneSearch_settleThing_107 {L : Nat} {d : Nat} {I : jm_I} {Q : Option jm_V → jm_I → Prop} {o0 : Option jm_V} {o1 : Option jm_V} {o2 : Option jm_V} {o3 : Option jm_V} {o4 : Option jm_V} {o5 : Option jm_V} {o6 : Option jm_V} {s1 : Int} {s2 : Int} {s3 : Int}  (hz : (-2147483648 ≤ s2 ∧ s2 < 2147483648) ∧ (-2147483648 ≤ s3 ∧ s3 < 2147483648) ∧ (0 ≤ s1 ∧ s1 < 6)) (k : Gx (jx_0 L) d md_DoneSearch_settleThing 111 [o0, o1, o2, o3, o4, o5, o6] [] (jm_up I 150 (s1.toNat) (max s2 s3)) Q) : Gx (jx_0 L) d md_DoneSearch_settleThing 107 [o0, o1, o2, o3, o4, o5, o6] [.inl s3, .inl s2, .inl s1, .inr (.inl 150)] I Q := by
  obtain ⟨hz1, hz2, hz3⟩ := hz
  show jm_Go d 0 0 md_DoneSearch_settleThing 107 [o0, o1, o2, o3, o4, o5, o6] [.inl s3, .inl s2, .inl s1, .inr (.inl 150)] (jx (jx_0 L) I) (jx_Q (jx_0 L) Q)
  have hd : jm_dc md_DoneSearch_settleThing.2.1 107 [(.invokestatic 75, 3), (.iastore, 1)] = true := by decide +kernel
  refine go_max ml_2_75 hz1 hz2 (Nat.le_of_ble_eq_true rfl) hd (fun hd => ?_)
  refine go_iastore rfl hz3.1 hz3.2 (by decide) hd (fun hd => ?_)
  exact k
theorem b_DoneSearch_settleThing_111 {L : Nat} {d : Nat} {I : jm_I} {Q : Option jm_V → jm_I → Prop} {o0 : Option jm_V} {o1 : Option jm_V} {o2 : Option jm_V} {o3 : Option jm_V} {o4 : Option jm_V} {o5 : Option jm_V} {x6 : Int}  (k : Gx (jx_0 L) d md_DoneSearch_settleThing 58 [o0, o1, o2, o3, o4, o5, some (.inl (x6 + 1))] [] I Q) : Gx (jx_0 L) d md_DoneSearch_settleThing 111 [o0, o1, o2, o3, o4, o5, some (.inl x6)] [] I Q := by
  show jm_Go d 0 0 md_DoneSearch_settleThing 111 [o0, o1, o2, o3, o4, o5, some (.inl x6)] [] (jx (jx_0 L) I) (jx_Q (jx_0 L) Q)
  have hd : jm_dc md_DoneSearch_settleThing.2.1 111 [(.iinc 6 1, 3), (.goto (-56), 3)] = true := by decide +kernel
  refine go_iinc rfl hd (fun hd => ?_)
  exact go_goto (by decide) hd k
theorem b_DoneSearch_settleThing_117 {L : Nat} {d : Nat} {I : jm_I} {Q : Option jm_V → jm_I → Prop} {o1 : Option jm_V} {o2 : Option jm_V} {o3 : Option jm_V} {o4 : Option jm_V} {o5 : Option jm_V} {o6 : Option jm_V}  (k : Q none (jm_cpy I 150 149 0 0 6)) : Gx (jx_0 L) d md_DoneSearch_settleThing 117 [some (.inr (.inl 148)), o1, o2, o3, o4, o5, o6] [] I Q := by
  show jm_Go d 0 0 md_DoneSearch_settleThing 117 [some (.inr (.inl 148)), o1, o2, o3, o4, o5, o6] [] (jx (jx_0 L) I) (jx_Q (jx_0 L) Q)
  have hd : jm_dc md_DoneSearch_settleThing.2.1 117 [(.aload_n 0, 1), (.getfield 15, 3), (.iconst 0, 1), (.aload_n 0, 1), (.getfield 9, 3), (.iconst 0, 1), (.bipush 6, 2), (.invokestatic 58, 3), (.return_, 1)] = true := by decide +kernel
  refine go_aload_n rfl hd (fun hd => ?_)
  refine go_getR co_X2 fl_2_15 (by decide) rfl rfl rfl hd (fun hd => ?_)
  refine go_iconst hd (fun hd => ?_)
  refine go_aload_n rfl hd (fun hd => ?_)
  refine go_getR co_X2 fl_2_9 (by decide) rfl rfl rfl hd (fun hd => ?_)
  refine go_iconst hd (fun hd => ?_)
  refine go_bipush (by decide) hd (fun hd => ?_)
  refine go_copy ml_2_58 w_ac1 w_ac2 w_ac3 rfl rfl (by decide) (by decide) (by decide) (by decide) (by decide) (by decide) (by decide) (Nat.le_of_ble_eq_true rfl) hd (fun hd => ?_)
  exact go_vreturn hd rfl ⟨_, rfl, k⟩
theorem b_Finds_holdFrom_0 {L : Nat} {d : Nat} {I : jm_I} {Q : Option jm_V → jm_I → Prop} {a1 : Nat} {x2 : Int} {x3 : Int} (ha1 : jx_City (jx_0 L) a1) (k : Gx (jx_0 L) d md_Finds_holdFrom 3 [some (.inr (.inl 103)), some (.inr (.inl a1)), some (.inl x2), some (.inl x3), some (.inl 0)] [] I Q) : Cx (jx_0 L) d md_Finds_holdFrom [.inr (.inl 103), .inr (.inl a1), .inl x2, .inl x3] I Q := by
  show jm_Go d 0 0 md_Finds_holdFrom 0 [some (.inr (.inl 103)), some (.inr (.inl a1)), some (.inl x2), some (.inl x3), none] [] (jx (jx_0 L) I) (jx_Q (jx_0 L) Q)
  have hd : jm_dc md_Finds_holdFrom.2.1 0 [(.iconst 0, 1), (.istore 4, 2)] = true := by decide +kernel
  refine go_iconst hd (fun hd => ?_)
  refine go_istore (by decide) hd (fun hd => ?_)
  exact k
theorem b_Finds_holdFrom_3 {L : Nat} {d : Nat} {I : jm_I} {Q : Option jm_V → jm_I → Prop} {o1 : Option jm_V} {o2 : Option jm_V} {o3 : Option jm_V} {x4 : Int}  (hz : (-2147483648 ≤ x4 ∧ x4 < 2147483648) ∧ (-2147483648 ≤ I 103 0 ∧ I 103 0 < 2147483648)) (kt : (I 103 0) ≤ x4 → Gx (jx_0 L) d md_Finds_holdFrom 54 [some (.inr (.inl 103)), o1, o2, o3, some (.inl x4)] [] I Q) (kf : ¬ ((I 103 0) ≤ x4) → Gx (jx_0 L) d md_Finds_holdFrom 12 [some (.inr (.inl 103)), o1, o2, o3, some (.inl x4)] [] I Q) : Gx (jx_0 L) d md_Finds_holdFrom 3 [some (.inr (.inl 103)), o1, o2, o3, some (.inl x4)] [] I Q := by
  obtain ⟨hz1, hz2⟩ := hz
  show jm_Go d 0 0 md_Finds_holdFrom 3 [some (.inr (.inl 103)), o1, o2, o3, some (.inl x4)] [] (jx (jx_0 L) I) (jx_Q (jx_0 L) Q)
  have hd : jm_dc md_Finds_holdFrom.2.1 3 [(.iload 4, 2), (.aload_n 0, 1), (.getfield 21, 3), (.if_icmp .ge 45, 3)] = true := by decide +kernel
  refine go_iload rfl hd (fun hd => ?_)
  refine go_aload_n rfl hd (fun hd => ?_)
  refine go_getI co_X3 fl_3_21 (by decide) (Or.inl rfl) rfl hd (fun hd => ?_)
  exact go_icmp_ge (by decide) hz1 hz2 hd kt kf
theorem b_Finds_holdFrom_12 {L : Nat} {d : Nat} {I : jm_I} {Q : Option jm_V → jm_I → Prop} {o1 : Option jm_V} {x2 : Int} {o3 : Option jm_V} {x4 : Int}  (hz : (0 ≤ x4 ∧ x4 < 4) ∧ (-2147483648 ≤ I 104 x4.toNat ∧ I 104 x4.toNat < 2147483648) ∧ (-2147483648 ≤ x2 ∧ x2 < 2147483648)) (kt : ¬ (I 104 x4.toNat) = x2 → Gx (jx_0 L) d md_Finds_holdFrom 48 [some (.inr (.inl 103)), o1, some (.inl x2), o3, some (.inl x4)] [] I Q) (kf : (I 104 x4.toNat) = x2 → Gx (jx_0 L) d md_Finds_holdFrom 23 [some (.inr (.inl 103)), o1, some (.inl x2), o3, some (.inl x4)] [] I Q) : Gx (jx_0 L) d md_Finds_holdFrom 12 [some (.inr (.inl 103)), o1, some (.inl x2), o3, some (.inl x4)] [] I Q := by
  obtain ⟨hz1, hz2, hz3⟩ := hz
  show jm_Go d 0 0 md_Finds_holdFrom 12 [some (.inr (.inl 103)), o1, some (.inl x2), o3, some (.inl x4)] [] (jx (jx_0 L) I) (jx_Q (jx_0 L) Q)
  have hd : jm_dc md_Finds_holdFrom.2.1 12 [(.aload_n 0, 1), (.getfield 9, 3), (.iload 4, 2), (.iaload, 1), (.iload_n 2, 1), (.if_icmp .ne 28, 3)] = true := by decide +kernel
  refine go_aload_n rfl hd (fun hd => ?_)
  refine go_getR co_X3 fl_3_9 (by decide) rfl rfl rfl hd (fun hd => ?_)
  refine go_iload rfl hd (fun hd => ?_)
  refine go_iaload rfl hz1.1 hz1.2 (by decide) hd (fun hd => ?_)
  refine go_iload_n rfl hd (fun hd => ?_)
  exact go_icmp_ne (by decide) hz2 hz3 hd kt kf
theorem b_Finds_holdFrom_23 {L : Nat} {d : Nat} {I : jm_I} {Q : Option jm_V → jm_I → Prop} {a1 : Nat} {x2 : Int} {x3 : Int} {x4 : Int} (ha1 : jx_City (jx_0 L) a1) (hz : (0 ≤ x4 ∧ x4 < 4)) (k : Cx (jx_0 L) d md_City_roomIn [.inr (.inl a1), .inl x2, .inl x3, .inl (I 106 x4.toNat)] I (fun v J => Gx (jx_0 L) (d + 1) md_Finds_holdFrom 36 [some (.inr (.inl 103)), some (.inr (.inl a1)), some (.inl x2), some (.inl x3), some (.inl x4)] (v.toList ++ []) J Q)) : Gx (jx_0 L) (d + 1) md_Finds_holdFrom 23 [some (.inr (.inl 103)), some (.inr (.inl a1)), some (.inl x2), some (.inl x3), some (.inl x4)] [] I Q := by
  have hz1 := hz
  show jm_Go (d + 1) 0 0 md_Finds_holdFrom 23 [some (.inr (.inl 103)), some (.inr (.inl a1)), some (.inl x2), some (.inl x3), some (.inl x4)] [] (jx (jx_0 L) I) (jx_Q (jx_0 L) Q)
  have hd : jm_dc md_Finds_holdFrom.2.1 23 [(.aload_n 1, 1), (.iload_n 2, 1), (.iload_n 3, 1), (.aload_n 0, 1), (.getfield 18, 3), (.iload 4, 2), (.iaload, 1), (.invokevirtual 25, 3)] = true := by decide +kernel
  refine go_aload_n rfl hd (fun hd => ?_)
  refine go_iload_n rfl hd (fun hd => ?_)
  refine go_iload_n rfl hd (fun hd => ?_)
  refine go_aload_n rfl hd (fun hd => ?_)
  refine go_getR co_X3 fl_3_18 (by decide) rfl rfl rfl hd (fun hd => ?_)
  refine go_iload rfl hd (fun hd => ?_)
  refine go_iaload rfl hz1.1 hz1.2 (by decide) hd (fun hd => ?_)
  exact gx_virtual a1 0 [.inl x2, .inl x3, .inl (I 106 x4.toNat)] [] mk_City_roomIn co_X0 rfl ml_3_25 in_City_roomIn se_City_roomIn (ct_K ha1) rfl (Nat.le_of_ble_eq_true rfl) rfl (Nat.le_of_ble_eq_true rfl) rfl hd k
theorem b_Finds_holdFrom_36 {L : Nat} {d : Nat} {I : jm_I} {Q : Option jm_V → jm_I → Prop} {o1 : Option jm_V} {o2 : Option jm_V} {o3 : Option jm_V} {x4 : Int} {s0 : Int}  (hz : (0 ≤ x4 ∧ x4 < 4) ∧ (-2147483648 ≤ s0 ∧ s0 < 2147483648) ∧ (-2147483648 ≤ I 105 x4.toNat ∧ I 105 x4.toNat < 2147483648)) (kt : s0 = (I 105 x4.toNat) → Gx (jx_0 L) d md_Finds_holdFrom 48 [some (.inr (.inl 103)), o1, o2, o3, some (.inl x4)] [] I Q) (kf : ¬ s0 = (I 105 x4.toNat) → Gx (jx_0 L) d md_Finds_holdFrom 46 [some (.inr (.inl 103)), o1, o2, o3, some (.inl x4)] [] I Q) : Gx (jx_0 L) d md_Finds_holdFrom 36 [some (.inr (.inl 103)), o1, o2, o3, some (.inl x4)] [.inl s0] I Q := by
  obtain ⟨hz1, hz2, hz3⟩ := hz
  show jm_Go d 0 0 md_Finds_holdFrom 36 [some (.inr (.inl 103)), o1, o2, o3, some (.inl x4)] [.inl s0] (jx (jx_0 L) I) (jx_Q (jx_0 L) Q)
  have hd : jm_dc md_Finds_holdFrom.2.1 36 [(.aload_n 0, 1), (.getfield 15, 3), (.iload 4, 2), (.iaload, 1), (.if_icmp .eq 5, 3)] = true := by decide +kernel
  refine go_aload_n rfl hd (fun hd => ?_)
  refine go_getR co_X3 fl_3_15 (by decide) rfl rfl rfl hd (fun hd => ?_)
  refine go_iload rfl hd (fun hd => ?_)
  refine go_iaload rfl hz1.1 hz1.2 (by decide) hd (fun hd => ?_)
  exact go_icmp_eq (by decide) hz2 hz3 hd kt kf
theorem b_Finds_holdFrom_46 {L : Nat} {d : Nat} {I : jm_I} {Q : Option jm_V → jm_I → Prop} {o0 : Option jm_V} {o1 : Option jm_V} {o2 : Option jm_V} {o3 : Option jm_V} {o4 : Option jm_V}  (k : Q (some (.inl 0)) I) : Gx (jx_0 L) d md_Finds_holdFrom 46 [o0, o1, o2, o3, o4] [] I Q := by
  show jm_Go d 0 0 md_Finds_holdFrom 46 [o0, o1, o2, o3, o4] [] (jx (jx_0 L) I) (jx_Q (jx_0 L) Q)
  have hd : jm_dc md_Finds_holdFrom.2.1 46 [(.iconst 0, 1), (.ireturn, 1)] = true := by decide +kernel
  refine go_iconst hd (fun hd => ?_)
  exact go_zreturn hd rfl (Or.inl rfl) ⟨_, rfl, k⟩
theorem b_Finds_holdFrom_48 {L : Nat} {d : Nat} {I : jm_I} {Q : Option jm_V → jm_I → Prop} {o0 : Option jm_V} {o1 : Option jm_V} {o2 : Option jm_V} {o3 : Option jm_V} {x4 : Int}  (k : Gx (jx_0 L) d md_Finds_holdFrom 3 [o0, o1, o2, o3, some (.inl (x4 + 1))] [] I Q) : Gx (jx_0 L) d md_Finds_holdFrom 48 [o0, o1, o2, o3, some (.inl x4)] [] I Q := by
  show jm_Go d 0 0 md_Finds_holdFrom 48 [o0, o1, o2, o3, some (.inl x4)] [] (jx (jx_0 L) I) (jx_Q (jx_0 L) Q)
  have hd : jm_dc md_Finds_holdFrom.2.1 48 [(.iinc 4 1, 3), (.goto (-48), 3)] = true := by decide +kernel
  refine go_iinc rfl hd (fun hd => ?_)
  exact go_goto (by decide) hd k
theorem b_Finds_holdFrom_54 {L : Nat} {d : Nat} {I : jm_I} {Q : Option jm_V → jm_I → Prop} {o0 : Option jm_V} {o1 : Option jm_V} {o2 : Option jm_V} {o3 : Option jm_V} {o4 : Option jm_V}  (k : Q (some (.inl 1)) I) : Gx (jx_0 L) d md_Finds_holdFrom 54 [o0, o1, o2, o3, o4] [] I Q := by
  show jm_Go d 0 0 md_Finds_holdFrom 54 [o0, o1, o2, o3, o4] [] (jx (jx_0 L) I) (jx_Q (jx_0 L) Q)
  have hd : jm_dc md_Finds_holdFrom.2.1 54 [(.iconst 1, 1), (.ireturn, 1)] = true := by decide +kernel
  refine go_iconst hd (fun hd => ?_)
  exact go_zreturn hd rfl (Or.inr rfl) ⟨_, rfl, k⟩
theorem b_DoneSearch_mostLeft_0 {L : Nat} {d : Nat} {I : jm_I} {Q : Option jm_V → jm_I → Prop} {a1 : Nat} {x2 : Int} {x3 : Int} (ha1 : jx_City (jx_0 L) a1) (k : Gx (jx_0 L) d md_DoneSearch_mostLeft 6 [some (.inr (.inl 148)), some (.inr (.inl a1)), some (.inl x2), some (.inl x3), some (.inl (-1)), some (.inl 0)] [] I Q) : Cx (jx_0 L) d md_DoneSearch_mostLeft [.inr (.inl 148), .inr (.inl a1), .inl x2, .inl x3] I Q := by
  show jm_Go d 0 0 md_DoneSearch_mostLeft 0 [some (.inr (.inl 148)), some (.inr (.inl a1)), some (.inl x2), some (.inl x3), none, none] [] (jx (jx_0 L) I) (jx_Q (jx_0 L) Q)
  have hd : jm_dc md_DoneSearch_mostLeft.2.1 0 [(.iconst (-1), 1), (.istore 4, 2), (.iconst 0, 1), (.istore 5, 2)] = true := by decide +kernel
  refine go_iconst hd (fun hd => ?_)
  refine go_istore (by decide) hd (fun hd => ?_)
  refine go_iconst hd (fun hd => ?_)
  refine go_istore (by decide) hd (fun hd => ?_)
  exact k
theorem b_DoneSearch_mostLeft_6 {L : Nat} {d : Nat} {I : jm_I} {Q : Option jm_V → jm_I → Prop} {o0 : Option jm_V} {a1 : Nat} {o2 : Option jm_V} {o3 : Option jm_V} {o4 : Option jm_V} {x5 : Int} (ha1 : jx_City (jx_0 L) a1) (hz : (-2147483648 ≤ x5 ∧ x5 < 2147483648) ∧ (-2147483648 ≤ I a1 0 ∧ I a1 0 < 2147483648)) (kt : (I a1 0) ≤ x5 → Gx (jx_0 L) d md_DoneSearch_mostLeft 44 [o0, some (.inr (.inl a1)), o2, o3, o4, some (.inl x5)] [] I Q) (kf : ¬ ((I a1 0) ≤ x5) → Gx (jx_0 L) d md_DoneSearch_mostLeft 15 [o0, some (.inr (.inl a1)), o2, o3, o4, some (.inl x5)] [] I Q) : Gx (jx_0 L) d md_DoneSearch_mostLeft 6 [o0, some (.inr (.inl a1)), o2, o3, o4, some (.inl x5)] [] I Q := by
  obtain ⟨hz1, hz2⟩ := hz
  show jm_Go d 0 0 md_DoneSearch_mostLeft 6 [o0, some (.inr (.inl a1)), o2, o3, o4, some (.inl x5)] [] (jx (jx_0 L) I) (jx_Q (jx_0 L) Q)
  have hd : jm_dc md_DoneSearch_mostLeft.2.1 6 [(.iload 5, 2), (.aload_n 1, 1), (.getfield 48, 3), (.if_icmp .ge 32, 3)] = true := by decide +kernel
  refine go_iload rfl hd (fun hd => ?_)
  refine go_aload_n rfl hd (fun hd => ?_)
  refine go_getI co_X0 fl_2_48 (by decide) (Or.inl rfl) (ct_K ha1) hd (fun hd => ?_)
  exact go_icmp_ge (by decide) hz1 hz2 hd kt kf
theorem b_DoneSearch_mostLeft_15 {L : Nat} {d : Nat} {I : jm_I} {Q : Option jm_V → jm_I → Prop} {a1 : Nat} {x2 : Int} {x3 : Int} {x4 : Int} {x5 : Int} (ha1 : jx_City (jx_0 L) a1) (hz : (0 ≤ x5 ∧ x5 < 6)) (k : Cx (jx_0 L) d md_City_stepsToCarry [.inr (.inl a1), .inl x5, .inl x2, .inl x3] I (fun v J => Gx (jx_0 L) (d + 1) md_DoneSearch_mostLeft 32 [some (.inr (.inl 148)), some (.inr (.inl a1)), some (.inl x2), some (.inl x3), some (.inl x4), some (.inl x5)] (v.toList ++ [.inl (I 149 x5.toNat), .inl x4]) J Q)) : Gx (jx_0 L) (d + 1) md_DoneSearch_mostLeft 15 [some (.inr (.inl 148)), some (.inr (.inl a1)), some (.inl x2), some (.inl x3), some (.inl x4), some (.inl x5)] [] I Q := by
  have hz1 := hz
  show jm_Go (d + 1) 0 0 md_DoneSearch_mostLeft 15 [some (.inr (.inl 148)), some (.inr (.inl a1)), some (.inl x2), some (.inl x3), some (.inl x4), some (.inl x5)] [] (jx (jx_0 L) I) (jx_Q (jx_0 L) Q)
  have hd : jm_dc md_DoneSearch_mostLeft.2.1 15 [(.iload 4, 2), (.aload_n 0, 1), (.getfield 9, 3), (.iload 5, 2), (.iaload, 1), (.aload_n 1, 1), (.iload 5, 2), (.iload_n 2, 1), (.iload_n 3, 1), (.invokevirtual 80, 3)] = true := by decide +kernel
  refine go_iload rfl hd (fun hd => ?_)
  refine go_aload_n rfl hd (fun hd => ?_)
  refine go_getR co_X2 fl_2_9 (by decide) rfl rfl rfl hd (fun hd => ?_)
  refine go_iload rfl hd (fun hd => ?_)
  refine go_iaload rfl hz1.1 hz1.2 (by decide) hd (fun hd => ?_)
  refine go_aload_n rfl hd (fun hd => ?_)
  refine go_iload rfl hd (fun hd => ?_)
  refine go_iload_n rfl hd (fun hd => ?_)
  refine go_iload_n rfl hd (fun hd => ?_)
  exact gx_virtual a1 0 [.inl x5, .inl x2, .inl x3] [.inl (I 149 x5.toNat), .inl x4] mk_City_stepsToCarry co_X0 rfl ml_2_80 in_City_stepsToCarry se_City_stepsToCarry (ct_K ha1) rfl (Nat.le_of_ble_eq_true rfl) rfl (Nat.le_of_ble_eq_true rfl) rfl hd k
theorem b_DoneSearch_mostLeft_32 {L : Nat} {d : Nat} {I : jm_I} {Q : Option jm_V → jm_I → Prop} {o0 : Option jm_V} {o1 : Option jm_V} {o2 : Option jm_V} {o3 : Option jm_V} {o4 : Option jm_V} {x5 : Int} {s0 : Int} {s1 : Int} {s2 : Int}  (hz : (-2147483648 ≤ s0 ∧ s0 < 2147483648) ∧ (-2147483648 ≤ s1 - s2 ∧ s1 - s2 < 2147483648)) (k : Gx (jx_0 L) d md_DoneSearch_mostLeft 6 [o0, o1, o2, o3, some (.inl (max s0 (s1 - s2))), some (.inl (x5 + 1))] [] I Q) : Gx (jx_0 L) d md_DoneSearch_mostLeft 32 [o0, o1, o2, o3, o4, some (.inl x5)] [.inl s2, .inl s1, .inl s0] I Q := by
  obtain ⟨hz1, hz2⟩ := hz
  show jm_Go d 0 0 md_DoneSearch_mostLeft 32 [o0, o1, o2, o3, o4, some (.inl x5)] [.inl s2, .inl s1, .inl s0] (jx (jx_0 L) I) (jx_Q (jx_0 L) Q)
  have hd : jm_dc md_DoneSearch_mostLeft.2.1 32 [(.isub, 1), (.invokestatic 75, 3), (.istore 4, 2), (.iinc 5 1, 3), (.goto (-35), 3)] = true := by decide +kernel
  refine go_isub hd (fun hd => ?_)
  refine go_max ml_2_75 hz1 hz2 (Nat.le_of_ble_eq_true rfl) hd (fun hd => ?_)
  refine go_istore (by decide) hd (fun hd => ?_)
  refine go_iinc rfl hd (fun hd => ?_)
  exact go_goto (by decide) hd k
theorem b_DoneSearch_mostLeft_44 {L : Nat} {d : Nat} {I : jm_I} {Q : Option jm_V → jm_I → Prop} {o0 : Option jm_V} {o1 : Option jm_V} {o2 : Option jm_V} {o3 : Option jm_V} {x4 : Int} {o5 : Option jm_V}  (k : Q (some (.inl x4)) I) : Gx (jx_0 L) d md_DoneSearch_mostLeft 44 [o0, o1, o2, o3, some (.inl x4), o5] [] I Q := by
  show jm_Go d 0 0 md_DoneSearch_mostLeft 44 [o0, o1, o2, o3, some (.inl x4), o5] [] (jx (jx_0 L) I) (jx_Q (jx_0 L) Q)
  have hd : jm_dc md_DoneSearch_mostLeft.2.1 44 [(.iload 4, 2), (.ireturn, 1)] = true := by decide +kernel
  refine go_iload rfl hd (fun hd => ?_)
  exact go_ireturn hd rfl ⟨_, rfl, k⟩
theorem b_TakingGame_play_0 {L : Nat} {d : Nat} {I : jm_I} {Q : Option jm_V → jm_I → Prop} {a1 : Nat} {a2 : Nat} {x3 : Int} {x4 : Int} (ha1 : jx_City (jx_0 L) a1) (ha2 : jx_Mom (jx_0 L) a2) (k : Gx (jx_0 L) d md_TakingGame_play 13 [some (.inr (.inl 151)), some (.inr (.inl a1)), some (.inr (.inl a2)), some (.inl x3), some (.inl x4), some (.inl 0)] [] (jm_up (jm_up I 151 0 ((a1 : Nat) : Int)) 151 1 0) Q) : Cx (jx_0 L) d md_TakingGame_play [.inr (.inl 151), .inr (.inl a1), .inr (.inl a2), .inl x3, .inl x4] I Q := by
  show jm_Go d 0 0 md_TakingGame_play 0 [some (.inr (.inl 151)), some (.inr (.inl a1)), some (.inr (.inl a2)), some (.inl x3), some (.inl x4), none] [] (jx (jx_0 L) I) (jx_Q (jx_0 L) Q)
  have hd : jm_dc md_TakingGame_play.2.1 0 [(.aload_n 0, 1), (.aload_n 1, 1), (.putfield 25, 3), (.aload_n 0, 1), (.iconst 0, 1), (.putfield 29, 3), (.iconst 0, 1), (.istore 5, 2)] = true := by decide +kernel
  refine go_aload_n rfl hd (fun hd => ?_)
  refine go_aload_n rfl hd (fun hd => ?_)
  refine go_putD co_X7 fl_7_25 (by decide) rfl rfl (ct_pos ha1) hd (fun hd => ?_)
  refine go_aload_n rfl hd (fun hd => ?_)
  refine go_iconst hd (fun hd => ?_)
  refine go_putI co_X7 fl_7_29 (by decide) rfl rfl hd (fun hd => ?_)
  refine go_iconst hd (fun hd => ?_)
  refine go_istore (by decide) hd (fun hd => ?_)
  exact k
theorem b_TakingGame_play_13 {L : Nat} {d : Nat} {I : jm_I} {Q : Option jm_V → jm_I → Prop} {o1 : Option jm_V} {o2 : Option jm_V} {o3 : Option jm_V} {o4 : Option jm_V} {x5 : Int} {c1 : Nat} (hD1 : I 151 0 = (c1 : Int)) (hc1 : jx_City (jx_0 L) c1) (hz : (-2147483648 ≤ x5 ∧ x5 < 2147483648) ∧ (-2147483648 ≤ I c1 4 ∧ I c1 4 < 2147483648)) (kt : (I c1 4) ≤ x5 → Gx (jx_0 L) d md_TakingGame_play 54 [some (.inr (.inl 151)), o1, o2, o3, o4, some (.inl x5)] [] I Q) (kf : ¬ ((I c1 4) ≤ x5) → Gx (jx_0 L) d md_TakingGame_play 25 [some (.inr (.inl 151)), o1, o2, o3, o4, some (.inl x5)] [] I Q) : Gx (jx_0 L) d md_TakingGame_play 13 [some (.inr (.inl 151)), o1, o2, o3, o4, some (.inl x5)] [] I Q := by
  obtain ⟨hz1, hz2⟩ := hz
  show jm_Go d 0 0 md_TakingGame_play 13 [some (.inr (.inl 151)), o1, o2, o3, o4, some (.inl x5)] [] (jx (jx_0 L) I) (jx_Q (jx_0 L) Q)
  have hd : jm_dc md_TakingGame_play.2.1 13 [(.iload 5, 2), (.aload_n 0, 1), (.getfield 25, 3), (.getfield 33, 3), (.if_icmp .ge 32, 3)] = true := by decide +kernel
  refine go_iload rfl hd (fun hd => ?_)
  refine go_aload_n rfl hd (fun hd => ?_)
  refine go_getD co_X7 fl_7_25 (by decide) rfl rfl hD1 (ct_pos hc1) hd (fun hd => ?_)
  refine go_getI co_X0 fl_7_33 (by decide) (Or.inl rfl) (ct_K hc1) hd (fun hd => ?_)
  exact go_icmp_ge (by decide) hz1 hz2 hd kt kf
theorem b_TakingGame_play_25 {L : Nat} {d : Nat} {I : jm_I} {Q : Option jm_V → jm_I → Prop} {o1 : Option jm_V} {a2 : Nat} {o3 : Option jm_V} {o4 : Option jm_V} {x5 : Int} {c1 : Nat} (ha2 : jx_Mom (jx_0 L) a2) (hD1 : I 151 0 = (c1 : Int)) (hc1 : jx_City (jx_0 L) c1) (hz : (0 ≤ x5 ∧ x5 < 5)) (k : Cx (jx_0 L) d md_City_roomOfSpot [.inr (.inl c1), .inl x5, .inl (I (a2 + 4) x5.toNat)] I (fun v J => Gx (jx_0 L) (d + 1) md_TakingGame_play 47 [some (.inr (.inl 151)), o1, some (.inr (.inl a2)), o3, o4, some (.inl x5)] (v.toList ++ [.inl x5, .inr (.inl 152)]) J Q)) : Gx (jx_0 L) (d + 1) md_TakingGame_play 25 [some (.inr (.inl 151)), o1, some (.inr (.inl a2)), o3, o4, some (.inl x5)] [] I Q := by
  have hz1 := hz
  show jm_Go (d + 1) 0 0 md_TakingGame_play 25 [some (.inr (.inl 151)), o1, some (.inr (.inl a2)), o3, o4, some (.inl x5)] [] (jx (jx_0 L) I) (jx_Q (jx_0 L) Q)
  have hd : jm_dc md_TakingGame_play.2.1 25 [(.aload_n 0, 1), (.getfield 9, 3), (.iload 5, 2), (.aload_n 0, 1), (.getfield 25, 3), (.iload 5, 2), (.aload_n 2, 1), (.getfield 38, 3), (.iload 5, 2), (.iaload, 1), (.invokevirtual 43, 3)] = true := by decide +kernel
  refine go_aload_n rfl hd (fun hd => ?_)
  refine go_getR co_X7 fl_7_9 (by decide) rfl rfl rfl hd (fun hd => ?_)
  refine go_iload rfl hd (fun hd => ?_)
  refine go_aload_n rfl hd (fun hd => ?_)
  refine go_getD co_X7 fl_7_25 (by decide) rfl rfl hD1 (ct_pos hc1) hd (fun hd => ?_)
  refine go_iload rfl hd (fun hd => ?_)
  refine go_aload_n rfl hd (fun hd => ?_)
  refine go_getR co_X5 fl_7_38 (by decide) rfl (mo_K ha2) (mo_R5 ha2) hd (fun hd => ?_)
  refine go_iload rfl hd (fun hd => ?_)
  refine go_iaload (mo_S4 ha2) hz1.1 hz1.2 (by decide) hd (fun hd => ?_)
  exact gx_virtual c1 0 [.inl x5, .inl (I (a2 + 4) x5.toNat)] [.inl x5, .inr (.inl 152)] mk_City_roomOfSpot co_X0 rfl ml_7_43 in_City_roomOfSpot se_City_roomOfSpot (ct_K hc1) rfl (Nat.le_of_ble_eq_true rfl) rfl (Nat.le_of_ble_eq_true rfl) rfl hd k
theorem b_TakingGame_play_47 {L : Nat} {d : Nat} {I : jm_I} {Q : Option jm_V → jm_I → Prop} {o0 : Option jm_V} {o1 : Option jm_V} {o2 : Option jm_V} {o3 : Option jm_V} {o4 : Option jm_V} {x5 : Int} {s1 : Int} {s2 : Int}  (hz : (0 ≤ s1 ∧ s1 < 5)) (k : Gx (jx_0 L) d md_TakingGame_play 13 [o0, o1, o2, o3, o4, some (.inl (x5 + 1))] [] (jm_up I 152 (s1.toNat) s2) Q) : Gx (jx_0 L) d md_TakingGame_play 47 [o0, o1, o2, o3, o4, some (.inl x5)] [.inl s2, .inl s1, .inr (.inl 152)] I Q := by
  have hz1 := hz
  show jm_Go d 0 0 md_TakingGame_play 47 [o0, o1, o2, o3, o4, some (.inl x5)] [.inl s2, .inl s1, .inr (.inl 152)] (jx (jx_0 L) I) (jx_Q (jx_0 L) Q)
  have hd : jm_dc md_TakingGame_play.2.1 47 [(.iastore, 1), (.iinc 5 1, 3), (.goto (-38), 3)] = true := by decide +kernel
  refine go_iastore rfl hz1.1 hz1.2 (by decide) hd (fun hd => ?_)
  refine go_iinc rfl hd (fun hd => ?_)
  exact go_goto (by decide) hd k
theorem b_TakingGame_play_54 {L : Nat} {d : Nat} {I : jm_I} {Q : Option jm_V → jm_I → Prop} {o1 : Option jm_V} {a2 : Nat} {x3 : Int} {x4 : Int} {o5 : Option jm_V} {c1 : Nat} (ha2 : jx_Mom (jx_0 L) a2) (hD1 : I 151 0 = (c1 : Int)) (hc1 : jx_City (jx_0 L) c1) (hz : (0 ≤ x3 ∧ x3 < 5) ∧ (0 ≤ x4 ∧ x4 < 5)) (k : Cx (jx_0 L) d md_Arrays_fill [.inr (.inl 154), .inl ((jm_up (jm_up I 153 0 (I (a2 + 1) x3.toNat)) 153 1 ((jm_up I 153 0 (I (a2 + 1) x3.toNat)) (a2 + 1) x4.toNat)) c1 1)] (jm_up (jm_up I 153 0 (I (a2 + 1) x3.toNat)) 153 1 ((jm_up I 153 0 (I (a2 + 1) x3.toNat)) (a2 + 1) x4.toNat)) (fun v J => Gx (jx_0 L) (d + 1) md_TakingGame_play 93 [some (.inr (.inl 151)), o1, some (.inr (.inl a2)), some (.inl x3), some (.inl x4), o5] (v.toList ++ []) J Q)) : Gx (jx_0 L) (d + 1) md_TakingGame_play 54 [some (.inr (.inl 151)), o1, some (.inr (.inl a2)), some (.inl x3), some (.inl x4), o5] [] I Q := by
  obtain ⟨hz1, hz2⟩ := hz
  show jm_Go (d + 1) 0 0 md_TakingGame_play 54 [some (.inr (.inl 151)), o1, some (.inr (.inl a2)), some (.inl x3), some (.inl x4), o5] [] (jx (jx_0 L) I) (jx_Q (jx_0 L) Q)
  have hd : jm_dc md_TakingGame_play.2.1 54 [(.aload_n 0, 1), (.getfield 15, 3), (.iconst 0, 1), (.aload_n 2, 1), (.getfield 47, 3), (.iload_n 3, 1), (.iaload, 1), (.iastore, 1), (.aload_n 0, 1), (.getfield 15, 3), (.iconst 1, 1), (.aload_n 2, 1), (.getfield 47, 3), (.iload 4, 2), (.iaload, 1), (.iastore, 1), (.aload_n 0, 1), (.getfield 18, 3), (.aload_n 0, 1), (.getfield 25, 3), (.getfield 48, 3), (.invokestatic 51, 3)] = true := by decide +kernel
  refine go_aload_n rfl hd (fun hd => ?_)
  refine go_getR co_X7 fl_7_15 (by decide) rfl rfl rfl hd (fun hd => ?_)
  refine go_iconst hd (fun hd => ?_)
  refine go_aload_n rfl hd (fun hd => ?_)
  refine go_getR co_X5 fl_7_47 (by decide) rfl (mo_K ha2) (mo_R2 ha2) hd (fun hd => ?_)
  refine go_iload_n rfl hd (fun hd => ?_)
  refine go_iaload (mo_S1 ha2) hz1.1 hz1.2 (by decide) hd (fun hd => ?_)
  refine go_iastore rfl (by decide) (by decide) (by decide) hd (fun hd => ?_)
  refine go_aload_n rfl hd (fun hd => ?_)
  refine go_getR co_X7 fl_7_15 (by decide) rfl rfl rfl hd (fun hd => ?_)
  refine go_iconst hd (fun hd => ?_)
  refine go_aload_n rfl hd (fun hd => ?_)
  refine go_getR co_X5 fl_7_47 (by decide) rfl (mo_K ha2) (mo_R2 ha2) hd (fun hd => ?_)
  refine go_iload rfl hd (fun hd => ?_)
  refine go_iaload (mo_S1 ha2) hz2.1 hz2.2 (by decide) hd (fun hd => ?_)
  refine go_iastore rfl (by decide) (by decide) (by decide) hd (fun hd => ?_)
  refine go_aload_n rfl hd (fun hd => ?_)
  refine go_getR co_X7 fl_7_18 (by decide) rfl rfl rfl hd (fun hd => ?_)
  refine go_aload_n rfl hd (fun hd => ?_)
  refine go_getD co_X7 fl_7_25 (by decide) rfl rfl hD1 (ct_pos hc1) hd (fun hd => ?_)
  refine go_getI co_X0 fl_7_48 (by decide) (Or.inl rfl) (ct_K hc1) hd (fun hd => ?_)
  exact gx_static [.inr (.inl 154), .inl ((jm_up (jm_up I 153 0 (I (a2 + 1) x3.toNat)) 153 1 ((jm_up I 153 0 (I (a2 + 1) x3.toNat)) (a2 + 1) x4.toNat)) c1 1)] [] mk_Arrays_fill ml_7_51 st_Arrays_fill rfl (Nat.le_of_ble_eq_true rfl) rfl (Nat.le_of_ble_eq_true rfl) rfl hd k
theorem b_TakingGame_play_93 {L : Nat} {d : Nat} {I : jm_I} {Q : Option jm_V → jm_I → Prop} {o1 : Option jm_V} {o2 : Option jm_V} {o3 : Option jm_V} {o4 : Option jm_V} {o5 : Option jm_V}  (k : Cx (jx_0 L) d md_TakingGame_lead [.inr (.inl 151), .inl 0, .inl 0] (jm_up (jm_up I 155 0 0) 155 1 0) (fun v J => Gx (jx_0 L) (d + 1) md_TakingGame_play 113 [some (.inr (.inl 151)), o1, o2, o3, o4, o5] (v.toList ++ []) J Q)) : Gx (jx_0 L) (d + 1) md_TakingGame_play 93 [some (.inr (.inl 151)), o1, o2, o3, o4, o5] [] I Q := by
  show jm_Go (d + 1) 0 0 md_TakingGame_play 93 [some (.inr (.inl 151)), o1, o2, o3, o4, o5] [] (jx (jx_0 L) I) (jx_Q (jx_0 L) Q)
  have hd : jm_dc md_TakingGame_play.2.1 93 [(.aload_n 0, 1), (.getfield 21, 3), (.iconst 0, 1), (.iconst 0, 1), (.bastore, 1), (.aload_n 0, 1), (.getfield 21, 3), (.iconst 1, 1), (.iconst 0, 1), (.bastore, 1), (.aload_n 0, 1), (.iconst 0, 1), (.iconst 0, 1), (.invokestatic 57, 3)] = true := by decide +kernel
  refine go_aload_n rfl hd (fun hd => ?_)
  refine go_getR co_X7 fl_7_21 (by decide) rfl rfl rfl hd (fun hd => ?_)
  refine go_iconst hd (fun hd => ?_)
  refine go_iconst hd (fun hd => ?_)
  refine go_zastore rfl (by decide) (by decide) (by decide) (Or.inl rfl) hd (fun hd => ?_)
  refine go_aload_n rfl hd (fun hd => ?_)
  refine go_getR co_X7 fl_7_21 (by decide) rfl rfl rfl hd (fun hd => ?_)
  refine go_iconst hd (fun hd => ?_)
  refine go_iconst hd (fun hd => ?_)
  refine go_zastore rfl (by decide) (by decide) (by decide) (Or.inl rfl) hd (fun hd => ?_)
  refine go_aload_n rfl hd (fun hd => ?_)
  refine go_iconst hd (fun hd => ?_)
  refine go_iconst hd (fun hd => ?_)
  exact gx_static [.inr (.inl 151), .inl 0, .inl 0] [] mk_TakingGame_lead ml_7_57 st_TakingGame_lead rfl (Nat.le_of_ble_eq_true rfl) rfl (Nat.le_of_ble_eq_true rfl) rfl hd k
theorem b_TakingGame_play_113 {L : Nat} {d : Nat} {I : jm_I} {Q : Option jm_V → jm_I → Prop} {o0 : Option jm_V} {o1 : Option jm_V} {o2 : Option jm_V} {o3 : Option jm_V} {o4 : Option jm_V} {o5 : Option jm_V} {s0 : Int}  (k : Q (some (.inl s0)) I) : Gx (jx_0 L) d md_TakingGame_play 113 [o0, o1, o2, o3, o4, o5] [.inl s0] I Q := by
  show jm_Go d 0 0 md_TakingGame_play 113 [o0, o1, o2, o3, o4, o5] [.inl s0] (jx (jx_0 L) I) (jx_Q (jx_0 L) Q)
  have hd : jm_dc md_TakingGame_play.2.1 113 [(.ireturn, 1)] = true := by decide +kernel
  exact go_ireturn hd rfl ⟨_, rfl, k⟩
theorem b_TakingGame_lead_0 {L : Nat} {d : Nat} {I : jm_I} {Q : Option jm_V → jm_I → Prop} {x1 : Int} {x2 : Int}  (hz : (-2147483648 ≤ x2 ∧ x2 < 2147483648)) (kt : 20 < x2 → Gx (jx_0 L) d md_TakingGame_lead 24 [some (.inr (.inl 151)), some (.inl x1), some (.inl x2), none, none] [] I Q) (kf : ¬ (20 < x2) → Gx (jx_0 L) d md_TakingGame_lead 6 [some (.inr (.inl 151)), some (.inl x1), some (.inl x2), none, none] [] I Q) : Cx (jx_0 L) d md_TakingGame_lead [.inr (.inl 151), .inl x1, .inl x2] I Q := by
  have hz1 := hz
  show jm_Go d 0 0 md_TakingGame_lead 0 [some (.inr (.inl 151)), some (.inl x1), some (.inl x2), none, none] [] (jx (jx_0 L) I) (jx_Q (jx_0 L) Q)
  have hd : jm_dc md_TakingGame_lead.2.1 0 [(.iload_n 2, 1), (.bipush 20, 2), (.if_icmp .gt 21, 3)] = true := by decide +kernel
  refine go_iload_n rfl hd (fun hd => ?_)
  refine go_bipush (by decide) hd (fun hd => ?_)
  exact go_icmp_gt (by decide) hz1 ⟨by decide, by decide⟩ hd kt kf
theorem b_TakingGame_lead_6 {L : Nat} {d : Nat} {I : jm_I} {Q : Option jm_V → jm_I → Prop} {o1 : Option jm_V} {o2 : Option jm_V} {o3 : Option jm_V} {o4 : Option jm_V}  (hz : (-2147483648 ≤ I 155 0 ∧ I 155 0 < 2147483648)) (kt : (I 155 0) = 0 → Gx (jx_0 L) d md_TakingGame_lead 26 [some (.inr (.inl 151)), o1, o2, o3, o4] [] I Q) (kf : ¬ (I 155 0) = 0 → Gx (jx_0 L) d md_TakingGame_lead 15 [some (.inr (.inl 151)), o1, o2, o3, o4] [] I Q) : Gx (jx_0 L) d md_TakingGame_lead 6 [some (.inr (.inl 151)), o1, o2, o3, o4] [] I Q := by
  have hz1 := hz
  show jm_Go d 0 0 md_TakingGame_lead 6 [some (.inr (.inl 151)), o1, o2, o3, o4] [] (jx (jx_0 L) I) (jx_Q (jx_0 L) Q)
  have hd : jm_dc md_TakingGame_lead.2.1 6 [(.aload_n 0, 1), (.getfield 21, 3), (.iconst 0, 1), (.baload, 1), (.ifCond .eq 14, 3)] = true := by decide +kernel
  refine go_aload_n rfl hd (fun hd => ?_)
  refine go_getR co_X7 fl_7_21 (by decide) rfl rfl rfl hd (fun hd => ?_)
  refine go_iconst hd (fun hd => ?_)
  refine go_zaload rfl (by decide) (by decide) (by decide) hd (fun hd => ?_)
  exact go_if_eq (by decide) hz1 hd kt kf
theorem b_TakingGame_lead_15 {L : Nat} {d : Nat} {I : jm_I} {Q : Option jm_V → jm_I → Prop} {o1 : Option jm_V} {o2 : Option jm_V} {o3 : Option jm_V} {o4 : Option jm_V}  (hz : (-2147483648 ≤ I 155 1 ∧ I 155 1 < 2147483648)) (kt : (I 155 1) = 0 → Gx (jx_0 L) d md_TakingGame_lead 26 [some (.inr (.inl 151)), o1, o2, o3, o4] [] I Q) (kf : ¬ (I 155 1) = 0 → Gx (jx_0 L) d md_TakingGame_lead 24 [some (.inr (.inl 151)), o1, o2, o3, o4] [] I Q) : Gx (jx_0 L) d md_TakingGame_lead 15 [some (.inr (.inl 151)), o1, o2, o3, o4] [] I Q := by
  have hz1 := hz
  show jm_Go d 0 0 md_TakingGame_lead 15 [some (.inr (.inl 151)), o1, o2, o3, o4] [] (jx (jx_0 L) I) (jx_Q (jx_0 L) Q)
  have hd : jm_dc md_TakingGame_lead.2.1 15 [(.aload_n 0, 1), (.getfield 21, 3), (.iconst 1, 1), (.baload, 1), (.ifCond .eq 5, 3)] = true := by decide +kernel
  refine go_aload_n rfl hd (fun hd => ?_)
  refine go_getR co_X7 fl_7_21 (by decide) rfl rfl rfl hd (fun hd => ?_)
  refine go_iconst hd (fun hd => ?_)
  refine go_zaload rfl (by decide) (by decide) (by decide) hd (fun hd => ?_)
  exact go_if_eq (by decide) hz1 hd kt kf
theorem b_TakingGame_lead_24 {L : Nat} {d : Nat} {I : jm_I} {Q : Option jm_V → jm_I → Prop} {o0 : Option jm_V} {o1 : Option jm_V} {o2 : Option jm_V} {o3 : Option jm_V} {o4 : Option jm_V}  (k : Q (some (.inl 0)) I) : Gx (jx_0 L) d md_TakingGame_lead 24 [o0, o1, o2, o3, o4] [] I Q := by
  show jm_Go d 0 0 md_TakingGame_lead 24 [o0, o1, o2, o3, o4] [] (jx (jx_0 L) I) (jx_Q (jx_0 L) Q)
  have hd : jm_dc md_TakingGame_lead.2.1 24 [(.iconst 0, 1), (.ireturn, 1)] = true := by decide +kernel
  refine go_iconst hd (fun hd => ?_)
  exact go_ireturn hd rfl ⟨_, rfl, k⟩
theorem b_TakingGame_lead_26 {L : Nat} {d : Nat} {I : jm_I} {Q : Option jm_V → jm_I → Prop} {x1 : Int} {o2 : Option jm_V} {o3 : Option jm_V} {o4 : Option jm_V}  (hz : (0 ≤ x1 ∧ x1 < 2) ∧ (-2147483648 ≤ I 155 x1.toNat ∧ I 155 x1.toNat < 2147483648)) (kt : (I 155 x1.toNat) = 0 → Gx (jx_0 L) d md_TakingGame_lead 46 [some (.inr (.inl 151)), some (.inl x1), o2, o3, o4] [] I Q) (kf : ¬ (I 155 x1.toNat) = 0 → Gx (jx_0 L) d md_TakingGame_lead 35 [some (.inr (.inl 151)), some (.inl x1), o2, o3, o4] [] I Q) : Gx (jx_0 L) d md_TakingGame_lead 26 [some (.inr (.inl 151)), some (.inl x1), o2, o3, o4] [] I Q := by
  obtain ⟨hz1, hz2⟩ := hz
  show jm_Go d 0 0 md_TakingGame_lead 26 [some (.inr (.inl 151)), some (.inl x1), o2, o3, o4] [] (jx (jx_0 L) I) (jx_Q (jx_0 L) Q)
  have hd : jm_dc md_TakingGame_lead.2.1 26 [(.aload_n 0, 1), (.getfield 21, 3), (.iload_n 1, 1), (.baload, 1), (.ifCond .eq 14, 3)] = true := by decide +kernel
  refine go_aload_n rfl hd (fun hd => ?_)
  refine go_getR co_X7 fl_7_21 (by decide) rfl rfl rfl hd (fun hd => ?_)
  refine go_iload_n rfl hd (fun hd => ?_)
  refine go_zaload rfl hz1.1 hz1.2 (by decide) hd (fun hd => ?_)
  exact go_if_eq (by decide) hz2 hd kt kf
theorem b_TakingGame_lead_35 {L : Nat} {d : Nat} {I : jm_I} {Q : Option jm_V → jm_I → Prop} {x1 : Int} {x2 : Int} {o3 : Option jm_V} {o4 : Option jm_V}  (k : Cx (jx_0 L) d md_TakingGame_lead [.inr (.inl 151), .inl (1 - x1), .inl (x2 + 1)] I (fun v J => Gx (jx_0 L) (d + 1) md_TakingGame_lead 45 [some (.inr (.inl 151)), some (.inl x1), some (.inl x2), o3, o4] (v.toList ++ []) J Q)) : Gx (jx_0 L) (d + 1) md_TakingGame_lead 35 [some (.inr (.inl 151)), some (.inl x1), some (.inl x2), o3, o4] [] I Q := by
  show jm_Go (d + 1) 0 0 md_TakingGame_lead 35 [some (.inr (.inl 151)), some (.inl x1), some (.inl x2), o3, o4] [] (jx (jx_0 L) I) (jx_Q (jx_0 L) Q)
  have hd : jm_dc md_TakingGame_lead.2.1 35 [(.aload_n 0, 1), (.iconst 1, 1), (.iload_n 1, 1), (.isub, 1), (.iload_n 2, 1), (.iconst 1, 1), (.iadd, 1), (.invokestatic 57, 3)] = true := by decide +kernel
  refine go_aload_n rfl hd (fun hd => ?_)
  refine go_iconst hd (fun hd => ?_)
  refine go_iload_n rfl hd (fun hd => ?_)
  refine go_isub hd (fun hd => ?_)
  refine go_iload_n rfl hd (fun hd => ?_)
  refine go_iconst hd (fun hd => ?_)
  refine go_iadd hd (fun hd => ?_)
  exact gx_static [.inr (.inl 151), .inl (1 - x1), .inl (x2 + 1)] [] mk_TakingGame_lead ml_7_57 st_TakingGame_lead rfl (Nat.le_of_ble_eq_true rfl) rfl (Nat.le_of_ble_eq_true rfl) rfl hd k
theorem b_TakingGame_lead_45 {L : Nat} {d : Nat} {I : jm_I} {Q : Option jm_V → jm_I → Prop} {o0 : Option jm_V} {o1 : Option jm_V} {o2 : Option jm_V} {o3 : Option jm_V} {o4 : Option jm_V} {s0 : Int}  (k : Q (some (.inl s0)) I) : Gx (jx_0 L) d md_TakingGame_lead 45 [o0, o1, o2, o3, o4] [.inl s0] I Q := by
  show jm_Go d 0 0 md_TakingGame_lead 45 [o0, o1, o2, o3, o4] [.inl s0] (jx (jx_0 L) I) (jx_Q (jx_0 L) Q)
  have hd : jm_dc md_TakingGame_lead.2.1 45 [(.ireturn, 1)] = true := by decide +kernel
  exact go_ireturn hd rfl ⟨_, rfl, k⟩
theorem b_TakingGame_lead_46 {L : Nat} {d : Nat} {I : jm_I} {Q : Option jm_V → jm_I → Prop} {o0 : Option jm_V} {o1 : Option jm_V} {o2 : Option jm_V} {o3 : Option jm_V} {o4 : Option jm_V}  (k : Gx (jx_0 L) d md_TakingGame_lead 52 [o0, o1, o2, some (.inl (-1000000)), some (.inl 0)] [] I Q) : Gx (jx_0 L) d md_TakingGame_lead 46 [o0, o1, o2, o3, o4] [] I Q := by
  show jm_Go d 0 0 md_TakingGame_lead 46 [o0, o1, o2, o3, o4] [] (jx (jx_0 L) I) (jx_Q (jx_0 L) Q)
  have hd : jm_dc md_TakingGame_lead.2.1 46 [(.ldc 61, 2), (.istore_n 3, 1), (.iconst 0, 1), (.istore 4, 2)] = true := by decide +kernel
  refine go_ldc (-1000000) (-1000000) (by decide) kc_7_61 hd (fun hd => ?_)
  refine go_istore_n (by decide) hd (fun hd => ?_)
  refine go_iconst hd (fun hd => ?_)
  refine go_istore (by decide) hd (fun hd => ?_)
  exact k
theorem b_TakingGame_lead_52 {L : Nat} {d : Nat} {I : jm_I} {Q : Option jm_V → jm_I → Prop} {o1 : Option jm_V} {o2 : Option jm_V} {o3 : Option jm_V} {x4 : Int} {c1 : Nat} (hD1 : I 151 0 = (c1 : Int)) (hc1 : jx_City (jx_0 L) c1) (hz : (-2147483648 ≤ x4 ∧ x4 < 2147483648) ∧ (-2147483648 ≤ I c1 4 ∧ I c1 4 < 2147483648)) (kt : (I c1 4) ≤ x4 → Gx (jx_0 L) d md_TakingGame_lead 94 [some (.inr (.inl 151)), o1, o2, o3, some (.inl x4)] [] I Q) (kf : ¬ ((I c1 4) ≤ x4) → Gx (jx_0 L) d md_TakingGame_lead 64 [some (.inr (.inl 151)), o1, o2, o3, some (.inl x4)] [] I Q) : Gx (jx_0 L) d md_TakingGame_lead 52 [some (.inr (.inl 151)), o1, o2, o3, some (.inl x4)] [] I Q := by
  obtain ⟨hz1, hz2⟩ := hz
  show jm_Go d 0 0 md_TakingGame_lead 52 [some (.inr (.inl 151)), o1, o2, o3, some (.inl x4)] [] (jx (jx_0 L) I) (jx_Q (jx_0 L) Q)
  have hd : jm_dc md_TakingGame_lead.2.1 52 [(.iload 4, 2), (.aload_n 0, 1), (.getfield 25, 3), (.getfield 33, 3), (.if_icmp .ge 33, 3)] = true := by decide +kernel
  refine go_iload rfl hd (fun hd => ?_)
  refine go_aload_n rfl hd (fun hd => ?_)
  refine go_getD co_X7 fl_7_25 (by decide) rfl rfl hD1 (ct_pos hc1) hd (fun hd => ?_)
  refine go_getI co_X0 fl_7_33 (by decide) (Or.inl rfl) (ct_K hc1) hd (fun hd => ?_)
  exact go_icmp_ge (by decide) hz1 hz2 hd kt kf
theorem b_TakingGame_lead_64 {L : Nat} {d : Nat} {I : jm_I} {Q : Option jm_V → jm_I → Prop} {x1 : Int} {o2 : Option jm_V} {o3 : Option jm_V} {x4 : Int}  (k : Cx (jx_0 L) d md_TakingGame_canTake [.inr (.inl 151), .inl x1, .inl x4] I (fun v J => Gx (jx_0 L) (d + 1) md_TakingGame_lead 71 [some (.inr (.inl 151)), some (.inl x1), o2, o3, some (.inl x4)] (v.toList ++ []) J Q)) : Gx (jx_0 L) (d + 1) md_TakingGame_lead 64 [some (.inr (.inl 151)), some (.inl x1), o2, o3, some (.inl x4)] [] I Q := by
  show jm_Go (d + 1) 0 0 md_TakingGame_lead 64 [some (.inr (.inl 151)), some (.inl x1), o2, o3, some (.inl x4)] [] (jx (jx_0 L) I) (jx_Q (jx_0 L) Q)
  have hd : jm_dc md_TakingGame_lead.2.1 64 [(.aload_n 0, 1), (.iload_n 1, 1), (.iload 4, 2), (.invokevirtual 62, 3)] = true := by decide +kernel
  refine go_aload_n rfl hd (fun hd => ?_)
  refine go_iload_n rfl hd (fun hd => ?_)
  refine go_iload rfl hd (fun hd => ?_)
  exact gx_virtual 151 7 [.inl x1, .inl x4] [] mk_TakingGame_canTake co_X7 rfl ml_7_62 in_TakingGame_canTake se_TakingGame_canTake rfl rfl (Nat.le_of_ble_eq_true rfl) rfl (Nat.le_of_ble_eq_true rfl) rfl hd k
theorem b_TakingGame_lead_71 {L : Nat} {d : Nat} {I : jm_I} {Q : Option jm_V → jm_I → Prop} {o0 : Option jm_V} {o1 : Option jm_V} {o2 : Option jm_V} {o3 : Option jm_V} {o4 : Option jm_V} {s0 : Int}  (hz : (-2147483648 ≤ s0 ∧ s0 < 2147483648)) (kt : s0 = 0 → Gx (jx_0 L) d md_TakingGame_lead 88 [o0, o1, o2, o3, o4] [] I Q) (kf : ¬ s0 = 0 → Gx (jx_0 L) d md_TakingGame_lead 74 [o0, o1, o2, o3, o4] [] I Q) : Gx (jx_0 L) d md_TakingGame_lead 71 [o0, o1, o2, o3, o4] [.inl s0] I Q := by
  have hz1 := hz
  show jm_Go d 0 0 md_TakingGame_lead 71 [o0, o1, o2, o3, o4] [.inl s0] (jx (jx_0 L) I) (jx_Q (jx_0 L) Q)
  have hd : jm_dc md_TakingGame_lead.2.1 71 [(.ifCond .eq 17, 3)] = true := by decide +kernel
  exact go_if_eq (by decide) hz1 hd kt kf
theorem b_TakingGame_lead_74 {L : Nat} {d : Nat} {I : jm_I} {Q : Option jm_V → jm_I → Prop} {x1 : Int} {x2 : Int} {x3 : Int} {x4 : Int}  (k : Cx (jx_0 L) d md_TakingGame_leadByTaking [.inr (.inl 151), .inl x1, .inl x4, .inl x2] I (fun v J => Gx (jx_0 L) (d + 1) md_TakingGame_lead 84 [some (.inr (.inl 151)), some (.inl x1), some (.inl x2), some (.inl x3), some (.inl x4)] (v.toList ++ [.inl x3, .inl x1]) J Q)) : Gx (jx_0 L) (d + 1) md_TakingGame_lead 74 [some (.inr (.inl 151)), some (.inl x1), some (.inl x2), some (.inl x3), some (.inl x4)] [] I Q := by
  show jm_Go (d + 1) 0 0 md_TakingGame_lead 74 [some (.inr (.inl 151)), some (.inl x1), some (.inl x2), some (.inl x3), some (.inl x4)] [] (jx (jx_0 L) I) (jx_Q (jx_0 L) Q)
  have hd : jm_dc md_TakingGame_lead.2.1 74 [(.iload_n 1, 1), (.iload_n 3, 1), (.aload_n 0, 1), (.iload_n 1, 1), (.iload 4, 2), (.iload_n 2, 1), (.invokestatic 66, 3)] = true := by decide +kernel
  refine go_iload_n rfl hd (fun hd => ?_)
  refine go_iload_n rfl hd (fun hd => ?_)
  refine go_aload_n rfl hd (fun hd => ?_)
  refine go_iload_n rfl hd (fun hd => ?_)
  refine go_iload rfl hd (fun hd => ?_)
  refine go_iload_n rfl hd (fun hd => ?_)
  exact gx_static [.inr (.inl 151), .inl x1, .inl x4, .inl x2] [.inl x3, .inl x1] mk_TakingGame_leadByTaking ml_7_66 st_TakingGame_leadByTaking rfl (Nat.le_of_ble_eq_true rfl) rfl (Nat.le_of_ble_eq_true rfl) rfl hd k
theorem b_TakingGame_lead_84 {L : Nat} {d : Nat} {I : jm_I} {Q : Option jm_V → jm_I → Prop} {o0 : Option jm_V} {o1 : Option jm_V} {o2 : Option jm_V} {o3 : Option jm_V} {o4 : Option jm_V} {s0 : Int} {s1 : Int} {s2 : Int}  (k : Cx (jx_0 L) d md_TakingGame_better [.inl s0, .inl s1, .inl s2] I (fun v J => Gx (jx_0 L) (d + 1) md_TakingGame_lead 87 [o0, o1, o2, o3, o4] (v.toList ++ []) J Q)) : Gx (jx_0 L) (d + 1) md_TakingGame_lead 84 [o0, o1, o2, o3, o4] [.inl s2, .inl s1, .inl s0] I Q := by
  show jm_Go (d + 1) 0 0 md_TakingGame_lead 84 [o0, o1, o2, o3, o4] [.inl s2, .inl s1, .inl s0] (jx (jx_0 L) I) (jx_Q (jx_0 L) Q)
  have hd : jm_dc md_TakingGame_lead.2.1 84 [(.invokestatic 70, 3)] = true := by decide +kernel
  exact gx_static [.inl s0, .inl s1, .inl s2] [] mk_TakingGame_better ml_7_70 st_TakingGame_better rfl (Nat.le_of_ble_eq_true rfl) rfl (Nat.le_of_ble_eq_true rfl) rfl hd k
theorem b_TakingGame_lead_87 {L : Nat} {d : Nat} {I : jm_I} {Q : Option jm_V → jm_I → Prop} {o0 : Option jm_V} {o1 : Option jm_V} {o2 : Option jm_V} {o3 : Option jm_V} {o4 : Option jm_V} {s0 : Int}  (k : Gx (jx_0 L) d md_TakingGame_lead 88 [o0, o1, o2, some (.inl s0), o4] [] I Q) : Gx (jx_0 L) d md_TakingGame_lead 87 [o0, o1, o2, o3, o4] [.inl s0] I Q := by
  show jm_Go d 0 0 md_TakingGame_lead 87 [o0, o1, o2, o3, o4] [.inl s0] (jx (jx_0 L) I) (jx_Q (jx_0 L) Q)
  have hd : jm_dc md_TakingGame_lead.2.1 87 [(.istore_n 3, 1)] = true := by decide +kernel
  refine go_istore_n (by decide) hd (fun hd => ?_)
  exact k
theorem b_TakingGame_lead_88 {L : Nat} {d : Nat} {I : jm_I} {Q : Option jm_V → jm_I → Prop} {o0 : Option jm_V} {o1 : Option jm_V} {o2 : Option jm_V} {o3 : Option jm_V} {x4 : Int}  (k : Gx (jx_0 L) d md_TakingGame_lead 52 [o0, o1, o2, o3, some (.inl (x4 + 1))] [] I Q) : Gx (jx_0 L) d md_TakingGame_lead 88 [o0, o1, o2, o3, some (.inl x4)] [] I Q := by
  show jm_Go d 0 0 md_TakingGame_lead 88 [o0, o1, o2, o3, some (.inl x4)] [] (jx (jx_0 L) I) (jx_Q (jx_0 L) Q)
  have hd : jm_dc md_TakingGame_lead.2.1 88 [(.iinc 4 1, 3), (.goto (-39), 3)] = true := by decide +kernel
  refine go_iinc rfl hd (fun hd => ?_)
  exact go_goto (by decide) hd k
theorem b_TakingGame_lead_94 {L : Nat} {d : Nat} {I : jm_I} {Q : Option jm_V → jm_I → Prop} {o0 : Option jm_V} {o1 : Option jm_V} {o2 : Option jm_V} {x3 : Int} {o4 : Option jm_V}  (hz : (-2147483648 ≤ x3 ∧ x3 < 2147483648)) (kt : ¬ x3 = (-1000000) → Gx (jx_0 L) d md_TakingGame_lead 109 [o0, o1, o2, some (.inl x3), o4] [] I Q) (kf : x3 = (-1000000) → Gx (jx_0 L) d md_TakingGame_lead 100 [o0, o1, o2, some (.inl x3), o4] [] I Q) : Gx (jx_0 L) d md_TakingGame_lead 94 [o0, o1, o2, some (.inl x3), o4] [] I Q := by
  have hz1 := hz
  show jm_Go d 0 0 md_TakingGame_lead 94 [o0, o1, o2, some (.inl x3), o4] [] (jx (jx_0 L) I) (jx_Q (jx_0 L) Q)
  have hd : jm_dc md_TakingGame_lead.2.1 94 [(.iload_n 3, 1), (.ldc 61, 2), (.if_icmp .ne 12, 3)] = true := by decide +kernel
  refine go_iload_n rfl hd (fun hd => ?_)
  refine go_ldc (-1000000) (-1000000) (by decide) kc_7_61 hd (fun hd => ?_)
  exact go_icmp_ne (by decide) hz1 ⟨by decide, by decide⟩ hd kt kf
theorem b_TakingGame_lead_100 {L : Nat} {d : Nat} {I : jm_I} {Q : Option jm_V → jm_I → Prop} {x1 : Int} {x2 : Int} {o3 : Option jm_V} {o4 : Option jm_V}  (k : Cx (jx_0 L) d md_TakingGame_leadByEnding [.inr (.inl 151), .inl x1, .inl x2] I (fun v J => Gx (jx_0 L) (d + 1) md_TakingGame_lead 106 [some (.inr (.inl 151)), some (.inl x1), some (.inl x2), o3, o4] (v.toList ++ []) J Q)) : Gx (jx_0 L) (d + 1) md_TakingGame_lead 100 [some (.inr (.inl 151)), some (.inl x1), some (.inl x2), o3, o4] [] I Q := by
  show jm_Go (d + 1) 0 0 md_TakingGame_lead 100 [some (.inr (.inl 151)), some (.inl x1), some (.inl x2), o3, o4] [] (jx (jx_0 L) I) (jx_Q (jx_0 L) Q)
  have hd : jm_dc md_TakingGame_lead.2.1 100 [(.aload_n 0, 1), (.iload_n 1, 1), (.iload_n 2, 1), (.invokestatic 74, 3)] = true := by decide +kernel
  refine go_aload_n rfl hd (fun hd => ?_)
  refine go_iload_n rfl hd (fun hd => ?_)
  refine go_iload_n rfl hd (fun hd => ?_)
  exact gx_static [.inr (.inl 151), .inl x1, .inl x2] [] mk_TakingGame_leadByEnding ml_7_74 st_TakingGame_leadByEnding rfl (Nat.le_of_ble_eq_true rfl) rfl (Nat.le_of_ble_eq_true rfl) rfl hd k
theorem b_TakingGame_lead_106 {L : Nat} {d : Nat} {I : jm_I} {Q : Option jm_V → jm_I → Prop} {o0 : Option jm_V} {o1 : Option jm_V} {o2 : Option jm_V} {o3 : Option jm_V} {o4 : Option jm_V} {s0 : Int}  (k : Gx (jx_0 L) d md_TakingGame_lead 110 [o0, o1, o2, o3, o4] [.inl s0] I Q) : Gx (jx_0 L) d md_TakingGame_lead 106 [o0, o1, o2, o3, o4] [.inl s0] I Q := by
  show jm_Go d 0 0 md_TakingGame_lead 106 [o0, o1, o2, o3, o4] [.inl s0] (jx (jx_0 L) I) (jx_Q (jx_0 L) Q)
  have hd : jm_dc md_TakingGame_lead.2.1 106 [(.goto 4, 3)] = true := by decide +kernel
  exact go_goto (by decide) hd k
theorem b_TakingGame_lead_109 {L : Nat} {d : Nat} {I : jm_I} {Q : Option jm_V → jm_I → Prop} {o0 : Option jm_V} {o1 : Option jm_V} {o2 : Option jm_V} {x3 : Int} {o4 : Option jm_V}  (k : Gx (jx_0 L) d md_TakingGame_lead 110 [o0, o1, o2, some (.inl x3), o4] [.inl x3] I Q) : Gx (jx_0 L) d md_TakingGame_lead 109 [o0, o1, o2, some (.inl x3), o4] [] I Q := by
  show jm_Go d 0 0 md_TakingGame_lead 109 [o0, o1, o2, some (.inl x3), o4] [] (jx (jx_0 L) I) (jx_Q (jx_0 L) Q)
  have hd : jm_dc md_TakingGame_lead.2.1 109 [(.iload_n 3, 1)] = true := by decide +kernel
  refine go_iload_n rfl hd (fun hd => ?_)
  exact k
theorem b_TakingGame_lead_110 {L : Nat} {d : Nat} {I : jm_I} {Q : Option jm_V → jm_I → Prop} {o0 : Option jm_V} {o1 : Option jm_V} {o2 : Option jm_V} {o3 : Option jm_V} {o4 : Option jm_V} {s0 : Int}  (k : Q (some (.inl s0)) I) : Gx (jx_0 L) d md_TakingGame_lead 110 [o0, o1, o2, o3, o4] [.inl s0] I Q := by
  show jm_Go d 0 0 md_TakingGame_lead 110 [o0, o1, o2, o3, o4] [.inl s0] (jx (jx_0 L) I) (jx_Q (jx_0 L) Q)
  have hd : jm_dc md_TakingGame_lead.2.1 110 [(.ireturn, 1)] = true := by decide +kernel
  exact go_ireturn hd rfl ⟨_, rfl, k⟩
theorem b_TakingGame_canTake_0 {L : Nat} {d : Nat} {I : jm_I} {Q : Option jm_V → jm_I → Prop} {x1 : Int} {x2 : Int}  (hz : (-2147483648 ≤ jb_and (jb_shr (I 151 1) x2) 1 ∧ jb_and (jb_shr (I 151 1) x2) 1 < 2147483648)) (kt : ¬ (jb_and (jb_shr (I 151 1) x2) 1) = 0 → Gx (jx_0 L) d md_TakingGame_canTake 45 [some (.inr (.inl 151)), some (.inl x1), some (.inl x2)] [] I Q) (kf : (jb_and (jb_shr (I 151 1) x2) 1) = 0 → Gx (jx_0 L) d md_TakingGame_canTake 11 [some (.inr (.inl 151)), some (.inl x1), some (.inl x2)] [] I Q) : Cx (jx_0 L) d md_TakingGame_canTake [.inr (.inl 151), .inl x1, .inl x2] I Q := by
  have hz1 := hz
  show jm_Go d 0 0 md_TakingGame_canTake 0 [some (.inr (.inl 151)), some (.inl x1), some (.inl x2)] [] (jx (jx_0 L) I) (jx_Q (jx_0 L) Q)
  have hd : jm_dc md_TakingGame_canTake.2.1 0 [(.aload_n 0, 1), (.getfield 29, 3), (.iload_n 2, 1), (.ishr, 1), (.iconst 1, 1), (.iand, 1), (.ifCond .ne 37, 3)] = true := by decide +kernel
  refine go_aload_n rfl hd (fun hd => ?_)
  refine go_getI co_X7 fl_7_29 (by decide) (Or.inl rfl) rfl hd (fun hd => ?_)
  refine go_iload_n rfl hd (fun hd => ?_)
  refine go_ishr hd (fun hd => ?_)
  refine go_iconst hd (fun hd => ?_)
  refine go_iand hd (fun hd => ?_)
  exact go_if_ne (by decide) hz1 hd kt kf
theorem b_TakingGame_canTake_11 {L : Nat} {d : Nat} {I : jm_I} {Q : Option jm_V → jm_I → Prop} {x1 : Int} {x2 : Int} {c1 : Nat} (hD1 : I 151 0 = (c1 : Int)) (hc1 : jx_City (jx_0 L) c1) (hz : (0 ≤ x1 ∧ x1 < 2) ∧ (0 ≤ I 153 x1.toNat ∧ I 153 x1.toNat < 6) ∧ (0 ≤ x2 ∧ x2 < 5) ∧ (0 ≤ I 152 x2.toNat ∧ I 152 x2.toNat < 6) ∧ (0 ≤ x1 ∧ x1 < 2) ∧ (-2147483648 ≤ I (c1 + 14 + (I 153 x1.toNat).toNat) (I 152 x2.toNat).toNat ∧ I (c1 + 14 + (I 153 x1.toNat).toNat) (I 152 x2.toNat).toNat < 2147483648) ∧ (-2147483648 ≤ I 154 x1.toNat ∧ I 154 x1.toNat < 2147483648)) (kt : (I 154 x1.toNat) < (I (c1 + 14 + (I 153 x1.toNat).toNat) (I 152 x2.toNat).toNat) → Gx (jx_0 L) d md_TakingGame_canTake 45 [some (.inr (.inl 151)), some (.inl x1), some (.inl x2)] [] I Q) (kf : ¬ ((I 154 x1.toNat) < (I (c1 + 14 + (I 153 x1.toNat).toNat) (I 152 x2.toNat).toNat)) → Gx (jx_0 L) d md_TakingGame_canTake 41 [some (.inr (.inl 151)), some (.inl x1), some (.inl x2)] [] I Q) : Gx (jx_0 L) d md_TakingGame_canTake 11 [some (.inr (.inl 151)), some (.inl x1), some (.inl x2)] [] I Q := by
  obtain ⟨hz1, hz2, hz3, hz4, hz5, hz6, hz7⟩ := hz
  show jm_Go d 0 0 md_TakingGame_canTake 11 [some (.inr (.inl 151)), some (.inl x1), some (.inl x2)] [] (jx (jx_0 L) I) (jx_Q (jx_0 L) Q)
  have hd : jm_dc md_TakingGame_canTake.2.1 11 [(.aload_n 0, 1), (.getfield 25, 3), (.getfield 85, 3), (.aload_n 0, 1), (.getfield 15, 3), (.iload_n 1, 1), (.iaload, 1), (.aaload, 1), (.aload_n 0, 1), (.getfield 9, 3), (.iload_n 2, 1), (.iaload, 1), (.iaload, 1), (.aload_n 0, 1), (.getfield 18, 3), (.iload_n 1, 1), (.iaload, 1), (.if_icmp .gt 7, 3)] = true := by decide +kernel
  refine go_aload_n rfl hd (fun hd => ?_)
  refine go_getD co_X7 fl_7_25 (by decide) rfl rfl hD1 (ct_pos hc1) hd (fun hd => ?_)
  refine go_getR co_X0 fl_7_85 (by decide) rfl (ct_K hc1) (ct_R12 hc1) hd (fun hd => ?_)
  refine go_aload_n rfl hd (fun hd => ?_)
  refine go_getR co_X7 fl_7_15 (by decide) rfl rfl rfl hd (fun hd => ?_)
  refine go_iload_n rfl hd (fun hd => ?_)
  refine go_iaload rfl hz1.1 hz1.2 (by decide) hd (fun hd => ?_)
  refine go_aaload (Or.inr (ct_S13 hc1)) hz2.1 hz2.2 (by decide) (ct_distI hc1 hz2.1 hz2.2) hd (fun hd => ?_)
  refine go_aload_n rfl hd (fun hd => ?_)
  refine go_getR co_X7 fl_7_9 (by decide) rfl rfl rfl hd (fun hd => ?_)
  refine go_iload_n rfl hd (fun hd => ?_)
  refine go_iaload rfl hz3.1 hz3.2 (by decide) hd (fun hd => ?_)
  refine go_iaload (ct_distS hc1 hz2.1 hz2.2) hz4.1 hz4.2 (by decide) hd (fun hd => ?_)
  refine go_aload_n rfl hd (fun hd => ?_)
  refine go_getR co_X7 fl_7_18 (by decide) rfl rfl rfl hd (fun hd => ?_)
  refine go_iload_n rfl hd (fun hd => ?_)
  refine go_iaload rfl hz5.1 hz5.2 (by decide) hd (fun hd => ?_)
  exact go_icmp_gt (by decide) hz6 hz7 hd kt kf
theorem b_TakingGame_canTake_41 {L : Nat} {d : Nat} {I : jm_I} {Q : Option jm_V → jm_I → Prop} {o0 : Option jm_V} {o1 : Option jm_V} {o2 : Option jm_V}  (k : Gx (jx_0 L) d md_TakingGame_canTake 46 [o0, o1, o2] [.inl 1] I Q) : Gx (jx_0 L) d md_TakingGame_canTake 41 [o0, o1, o2] [] I Q := by
  show jm_Go d 0 0 md_TakingGame_canTake 41 [o0, o1, o2] [] (jx (jx_0 L) I) (jx_Q (jx_0 L) Q)
  have hd : jm_dc md_TakingGame_canTake.2.1 41 [(.iconst 1, 1), (.goto 4, 3)] = true := by decide +kernel
  refine go_iconst hd (fun hd => ?_)
  exact go_goto (by decide) hd k
theorem b_TakingGame_canTake_45 {L : Nat} {d : Nat} {I : jm_I} {Q : Option jm_V → jm_I → Prop} {o0 : Option jm_V} {o1 : Option jm_V} {o2 : Option jm_V}  (k : Gx (jx_0 L) d md_TakingGame_canTake 46 [o0, o1, o2] [.inl 0] I Q) : Gx (jx_0 L) d md_TakingGame_canTake 45 [o0, o1, o2] [] I Q := by
  show jm_Go d 0 0 md_TakingGame_canTake 45 [o0, o1, o2] [] (jx (jx_0 L) I) (jx_Q (jx_0 L) Q)
  have hd : jm_dc md_TakingGame_canTake.2.1 45 [(.iconst 0, 1)] = true := by decide +kernel
  refine go_iconst hd (fun hd => ?_)
  exact k
theorem b_TakingGame_canTake_46 {L : Nat} {d : Nat} {I : jm_I} {Q : Option jm_V → jm_I → Prop} {o0 : Option jm_V} {o1 : Option jm_V} {o2 : Option jm_V} {s0 : Int}  (hz : (s0 = 0 ∨ s0 = 1)) (k : Q (some (.inl s0)) I) : Gx (jx_0 L) d md_TakingGame_canTake 46 [o0, o1, o2] [.inl s0] I Q := by
  have hz1 := hz
  show jm_Go d 0 0 md_TakingGame_canTake 46 [o0, o1, o2] [.inl s0] (jx (jx_0 L) I) (jx_Q (jx_0 L) Q)
  have hd : jm_dc md_TakingGame_canTake.2.1 46 [(.ireturn, 1)] = true := by decide +kernel
  exact go_zreturn hd rfl hz1 ⟨_, rfl, k⟩
theorem b_TakingGame_leadByTaking_0 {L : Nat} {d : Nat} {I : jm_I} {Q : Option jm_V → jm_I → Prop} {x1 : Int} {x2 : Int} {x3 : Int} {c1 : Nat} (hD1 : I 151 0 = (c1 : Int)) (hc1 : jx_City (jx_0 L) c1) (hz : (0 ≤ x1 ∧ x1 < 2) ∧ (0 ≤ x1 ∧ x1 < 2) ∧ (0 ≤ x1 ∧ x1 < 2) ∧ (0 ≤ I 153 x1.toNat ∧ I 153 x1.toNat < 6) ∧ (0 ≤ x2 ∧ x2 < 5) ∧ (0 ≤ I 152 x2.toNat ∧ I 152 x2.toNat < 6) ∧ (0 ≤ x1 ∧ x1 < 2) ∧ (0 ≤ x2 ∧ x2 < 5) ∧ (0 ≤ x1 ∧ x1 < 2) ∧ (-2147483648 ≤ x1 ∧ x1 < 2147483648)) (kt : ¬ x1 = 0 → Gx (jx_0 L) d md_TakingGame_leadByTaking 74 [some (.inr (.inl 151)), some (.inl x1), some (.inl x2), some (.inl x3), some (.inl (I 153 x1.toNat)), some (.inl (I 154 x1.toNat)), none] [] (jm_up (jm_up (jm_up I 154 (x1.toNat) ((I 154 x1.toNat) - (I (c1 + 14 + (I 153 x1.toNat).toNat) (I 152 x2.toNat).toNat))) 153 (x1.toNat) (I 152 x2.toNat)) 151 1 (jb_or (I 151 1) (jb_shl 1 x2))) Q) (kf : x1 = 0 → Gx (jx_0 L) d md_TakingGame_leadByTaking 70 [some (.inr (.inl 151)), some (.inl x1), some (.inl x2), some (.inl x3), some (.inl (I 153 x1.toNat)), some (.inl (I 154 x1.toNat)), none] [] (jm_up (jm_up (jm_up I 154 (x1.toNat) ((I 154 x1.toNat) - (I (c1 + 14 + (I 153 x1.toNat).toNat) (I 152 x2.toNat).toNat))) 153 (x1.toNat) (I 152 x2.toNat)) 151 1 (jb_or (I 151 1) (jb_shl 1 x2))) Q) : Cx (jx_0 L) d md_TakingGame_leadByTaking [.inr (.inl 151), .inl x1, .inl x2, .inl x3] I Q := by
  obtain ⟨hz1, hz2, hz3, hz4, hz5, hz6, hz7, hz8, hz9, hz10⟩ := hz
  show jm_Go d 0 0 md_TakingGame_leadByTaking 0 [some (.inr (.inl 151)), some (.inl x1), some (.inl x2), some (.inl x3), none, none, none] [] (jx (jx_0 L) I) (jx_Q (jx_0 L) Q)
  have hd : jm_dc md_TakingGame_leadByTaking.2.1 0 [(.aload_n 0, 1), (.getfield 15, 3), (.iload_n 1, 1), (.iaload, 1), (.istore 4, 2), (.aload_n 0, 1), (.getfield 18, 3), (.iload_n 1, 1), (.iaload, 1), (.istore 5, 2), (.aload_n 0, 1), (.getfield 18, 3), (.iload_n 1, 1), (.dup2, 1), (.iaload, 1), (.aload_n 0, 1), (.getfield 25, 3), (.getfield 85, 3), (.iload 4, 2), (.aaload, 1), (.aload_n 0, 1), (.getfield 9, 3), (.iload_n 2, 1), (.iaload, 1), (.iaload, 1), (.isub, 1), (.iastore, 1), (.aload_n 0, 1), (.getfield 15, 3), (.iload_n 1, 1), (.aload_n 0, 1), (.getfield 9, 3), (.iload_n 2, 1), (.iaload, 1), (.iastore, 1), (.aload_n 0, 1), (.dup, 1), (.getfield 29, 3), (.iconst 1, 1), (.iload_n 2, 1), (.ishl, 1), (.ior, 1), (.putfield 29, 3), (.iload_n 1, 1), (.ifCond .ne 7, 3)] = true := by decide +kernel
  refine go_aload_n rfl hd (fun hd => ?_)
  refine go_getR co_X7 fl_7_15 (by decide) rfl rfl rfl hd (fun hd => ?_)
  refine go_iload_n rfl hd (fun hd => ?_)
  refine go_iaload rfl hz1.1 hz1.2 (by decide) hd (fun hd => ?_)
  refine go_istore (by decide) hd (fun hd => ?_)
  refine go_aload_n rfl hd (fun hd => ?_)
  refine go_getR co_X7 fl_7_18 (by decide) rfl rfl rfl hd (fun hd => ?_)
  refine go_iload_n rfl hd (fun hd => ?_)
  refine go_iaload rfl hz2.1 hz2.2 (by decide) hd (fun hd => ?_)
  refine go_istore (by decide) hd (fun hd => ?_)
  refine go_aload_n rfl hd (fun hd => ?_)
  refine go_getR co_X7 fl_7_18 (by decide) rfl rfl rfl hd (fun hd => ?_)
  refine go_iload_n rfl hd (fun hd => ?_)
  refine go_dup2 rfl rfl hd (fun hd => ?_)
  refine go_iaload rfl hz3.1 hz3.2 (by decide) hd (fun hd => ?_)
  refine go_aload_n rfl hd (fun hd => ?_)
  refine go_getD co_X7 fl_7_25 (by decide) rfl rfl hD1 (ct_pos hc1) hd (fun hd => ?_)
  refine go_getR co_X0 fl_7_85 (by decide) rfl (ct_K hc1) (ct_R12 hc1) hd (fun hd => ?_)
  refine go_iload rfl hd (fun hd => ?_)
  refine go_aaload (Or.inr (ct_S13 hc1)) hz4.1 hz4.2 (by decide) (ct_distI hc1 hz4.1 hz4.2) hd (fun hd => ?_)
  refine go_aload_n rfl hd (fun hd => ?_)
  refine go_getR co_X7 fl_7_9 (by decide) rfl rfl rfl hd (fun hd => ?_)
  refine go_iload_n rfl hd (fun hd => ?_)
  refine go_iaload rfl hz5.1 hz5.2 (by decide) hd (fun hd => ?_)
  refine go_iaload (ct_distS hc1 hz4.1 hz4.2) hz6.1 hz6.2 (by decide) hd (fun hd => ?_)
  refine go_isub hd (fun hd => ?_)
  refine go_iastore rfl hz7.1 hz7.2 (by decide) hd (fun hd => ?_)
  refine go_aload_n rfl hd (fun hd => ?_)
  refine go_getR co_X7 fl_7_15 (by decide) rfl rfl rfl hd (fun hd => ?_)
  refine go_iload_n rfl hd (fun hd => ?_)
  refine go_aload_n rfl hd (fun hd => ?_)
  refine go_getR co_X7 fl_7_9 (by decide) rfl rfl rfl hd (fun hd => ?_)
  refine go_iload_n rfl hd (fun hd => ?_)
  refine go_iaload rfl hz8.1 hz8.2 (by decide) hd (fun hd => ?_)
  refine go_iastore rfl hz9.1 hz9.2 (by decide) hd (fun hd => ?_)
  refine go_aload_n rfl hd (fun hd => ?_)
  refine go_dup rfl hd (fun hd => ?_)
  refine go_getI co_X7 fl_7_29 (by decide) (Or.inl rfl) rfl hd (fun hd => ?_)
  refine go_iconst hd (fun hd => ?_)
  refine go_iload_n rfl hd (fun hd => ?_)
  refine go_ishl hd (fun hd => ?_)
  refine go_ior hd (fun hd => ?_)
  refine go_putI co_X7 fl_7_29 (by decide) rfl rfl hd (fun hd => ?_)
  refine go_iload_n rfl hd (fun hd => ?_)
  exact go_if_ne (by decide) hz10 hd kt kf
theorem b_TakingGame_leadByTaking_70 {L : Nat} {d : Nat} {I : jm_I} {Q : Option jm_V → jm_I → Prop} {o0 : Option jm_V} {o1 : Option jm_V} {o2 : Option jm_V} {o3 : Option jm_V} {o4 : Option jm_V} {o5 : Option jm_V} {o6 : Option jm_V}  (k : Gx (jx_0 L) d md_TakingGame_leadByTaking 75 [o0, o1, o2, o3, o4, o5, o6] [.inl 1] I Q) : Gx (jx_0 L) d md_TakingGame_leadByTaking 70 [o0, o1, o2, o3, o4, o5, o6] [] I Q := by
  show jm_Go d 0 0 md_TakingGame_leadByTaking 70 [o0, o1, o2, o3, o4, o5, o6] [] (jx (jx_0 L) I) (jx_Q (jx_0 L) Q)
  have hd : jm_dc md_TakingGame_leadByTaking.2.1 70 [(.iconst 1, 1), (.goto 4, 3)] = true := by decide +kernel
  refine go_iconst hd (fun hd => ?_)
  exact go_goto (by decide) hd k
theorem b_TakingGame_leadByTaking_74 {L : Nat} {d : Nat} {I : jm_I} {Q : Option jm_V → jm_I → Prop} {o0 : Option jm_V} {o1 : Option jm_V} {o2 : Option jm_V} {o3 : Option jm_V} {o4 : Option jm_V} {o5 : Option jm_V} {o6 : Option jm_V}  (k : Gx (jx_0 L) d md_TakingGame_leadByTaking 75 [o0, o1, o2, o3, o4, o5, o6] [.inl (-1)] I Q) : Gx (jx_0 L) d md_TakingGame_leadByTaking 74 [o0, o1, o2, o3, o4, o5, o6] [] I Q := by
  show jm_Go d 0 0 md_TakingGame_leadByTaking 74 [o0, o1, o2, o3, o4, o5, o6] [] (jx (jx_0 L) I) (jx_Q (jx_0 L) Q)
  have hd : jm_dc md_TakingGame_leadByTaking.2.1 74 [(.iconst (-1), 1)] = true := by decide +kernel
  refine go_iconst hd (fun hd => ?_)
  exact k
theorem b_TakingGame_leadByTaking_75 {L : Nat} {d : Nat} {I : jm_I} {Q : Option jm_V → jm_I → Prop} {x1 : Int} {o2 : Option jm_V} {x3 : Int} {o4 : Option jm_V} {o5 : Option jm_V} {o6 : Option jm_V} {s0 : Int}  (k : Cx (jx_0 L) d md_TakingGame_lead [.inr (.inl 151), .inl (1 - x1), .inl (x3 + 1)] I (fun v J => Gx (jx_0 L) (d + 1) md_TakingGame_leadByTaking 85 [some (.inr (.inl 151)), some (.inl x1), o2, some (.inl x3), o4, o5, o6] (v.toList ++ [.inl s0]) J Q)) : Gx (jx_0 L) (d + 1) md_TakingGame_leadByTaking 75 [some (.inr (.inl 151)), some (.inl x1), o2, some (.inl x3), o4, o5, o6] [.inl s0] I Q := by
  show jm_Go (d + 1) 0 0 md_TakingGame_leadByTaking 75 [some (.inr (.inl 151)), some (.inl x1), o2, some (.inl x3), o4, o5, o6] [.inl s0] (jx (jx_0 L) I) (jx_Q (jx_0 L) Q)
  have hd : jm_dc md_TakingGame_leadByTaking.2.1 75 [(.aload_n 0, 1), (.iconst 1, 1), (.iload_n 1, 1), (.isub, 1), (.iload_n 3, 1), (.iconst 1, 1), (.iadd, 1), (.invokestatic 57, 3)] = true := by decide +kernel
  refine go_aload_n rfl hd (fun hd => ?_)
  refine go_iconst hd (fun hd => ?_)
  refine go_iload_n rfl hd (fun hd => ?_)
  refine go_isub hd (fun hd => ?_)
  refine go_iload_n rfl hd (fun hd => ?_)
  refine go_iconst hd (fun hd => ?_)
  refine go_iadd hd (fun hd => ?_)
  exact gx_static [.inr (.inl 151), .inl (1 - x1), .inl (x3 + 1)] [.inl s0] mk_TakingGame_lead ml_7_57 st_TakingGame_lead rfl (Nat.le_of_ble_eq_true rfl) rfl (Nat.le_of_ble_eq_true rfl) rfl hd k
theorem b_TakingGame_leadByTaking_85 {L : Nat} {d : Nat} {I : jm_I} {Q : Option jm_V → jm_I → Prop} {x1 : Int} {x2 : Int} {o3 : Option jm_V} {x4 : Int} {x5 : Int} {o6 : Option jm_V} {s0 : Int} {s1 : Int}  (hz : (0 ≤ x1 ∧ x1 < 2) ∧ (0 ≤ x1 ∧ x1 < 2)) (k : Q (some (.inl (s0 + s1))) (jm_up (jm_up (jm_up I 151 1 (jb_and (I 151 1) (jb_xor (jb_shl 1 x2) (-1)))) 153 (x1.toNat) x4) 154 (x1.toNat) x5)) : Gx (jx_0 L) d md_TakingGame_leadByTaking 85 [some (.inr (.inl 151)), some (.inl x1), some (.inl x2), o3, some (.inl x4), some (.inl x5), o6] [.inl s1, .inl s0] I Q := by
  obtain ⟨hz1, hz2⟩ := hz
  show jm_Go d 0 0 md_TakingGame_leadByTaking 85 [some (.inr (.inl 151)), some (.inl x1), some (.inl x2), o3, some (.inl x4), some (.inl x5), o6] [.inl s1, .inl s0] (jx (jx_0 L) I) (jx_Q (jx_0 L) Q)
  have hd : jm_dc md_TakingGame_leadByTaking.2.1 85 [(.iadd, 1), (.istore 6, 2), (.aload_n 0, 1), (.dup, 1), (.getfield 29, 3), (.iconst 1, 1), (.iload_n 2, 1), (.ishl, 1), (.iconst (-1), 1), (.ixor, 1), (.iand, 1), (.putfield 29, 3), (.aload_n 0, 1), (.getfield 15, 3), (.iload_n 1, 1), (.iload 4, 2), (.iastore, 1), (.aload_n 0, 1), (.getfield 18, 3), (.iload_n 1, 1), (.iload 5, 2), (.iastore, 1), (.iload 6, 2), (.ireturn, 1)] = true := by decide +kernel
  refine go_iadd hd (fun hd => ?_)
  refine go_istore (by decide) hd (fun hd => ?_)
  refine go_aload_n rfl hd (fun hd => ?_)
  refine go_dup rfl hd (fun hd => ?_)
  refine go_getI co_X7 fl_7_29 (by decide) (Or.inl rfl) rfl hd (fun hd => ?_)
  refine go_iconst hd (fun hd => ?_)
  refine go_iload_n rfl hd (fun hd => ?_)
  refine go_ishl hd (fun hd => ?_)
  refine go_iconst hd (fun hd => ?_)
  refine go_ixor hd (fun hd => ?_)
  refine go_iand hd (fun hd => ?_)
  refine go_putI co_X7 fl_7_29 (by decide) rfl rfl hd (fun hd => ?_)
  refine go_aload_n rfl hd (fun hd => ?_)
  refine go_getR co_X7 fl_7_15 (by decide) rfl rfl rfl hd (fun hd => ?_)
  refine go_iload_n rfl hd (fun hd => ?_)
  refine go_iload rfl hd (fun hd => ?_)
  refine go_iastore rfl hz1.1 hz1.2 (by decide) hd (fun hd => ?_)
  refine go_aload_n rfl hd (fun hd => ?_)
  refine go_getR co_X7 fl_7_18 (by decide) rfl rfl rfl hd (fun hd => ?_)
  refine go_iload_n rfl hd (fun hd => ?_)
  refine go_iload rfl hd (fun hd => ?_)
  refine go_iastore rfl hz2.1 hz2.2 (by decide) hd (fun hd => ?_)
  refine go_iload rfl hd (fun hd => ?_)
  exact go_ireturn hd rfl ⟨_, rfl, k⟩
theorem b_TakingGame_better_0 {L : Nat} {d : Nat} {I : jm_I} {Q : Option jm_V → jm_I → Prop} {x0 : Int} {x1 : Int} {x2 : Int}  (hz : (-2147483648 ≤ x1 ∧ x1 < 2147483648)) (kt : ¬ x1 = (-1000000) → Gx (jx_0 L) d md_TakingGame_better 8 [some (.inl x0), some (.inl x1), some (.inl x2)] [] I Q) (kf : x1 = (-1000000) → Gx (jx_0 L) d md_TakingGame_better 6 [some (.inl x0), some (.inl x1), some (.inl x2)] [] I Q) : Cx (jx_0 L) d md_TakingGame_better [.inl x0, .inl x1, .inl x2] I Q := by
  have hz1 := hz
  show jm_Go d 0 0 md_TakingGame_better 0 [some (.inl x0), some (.inl x1), some (.inl x2)] [] (jx (jx_0 L) I) (jx_Q (jx_0 L) Q)
  have hd : jm_dc md_TakingGame_better.2.1 0 [(.iload_n 1, 1), (.ldc 61, 2), (.if_icmp .ne 5, 3)] = true := by decide +kernel
  refine go_iload_n rfl hd (fun hd => ?_)
  refine go_ldc (-1000000) (-1000000) (by decide) kc_7_61 hd (fun hd => ?_)
  exact go_icmp_ne (by decide) hz1 ⟨by decide, by decide⟩ hd kt kf
theorem b_TakingGame_better_6 {L : Nat} {d : Nat} {I : jm_I} {Q : Option jm_V → jm_I → Prop} {o0 : Option jm_V} {o1 : Option jm_V} {x2 : Int}  (k : Q (some (.inl x2)) I) : Gx (jx_0 L) d md_TakingGame_better 6 [o0, o1, some (.inl x2)] [] I Q := by
  show jm_Go d 0 0 md_TakingGame_better 6 [o0, o1, some (.inl x2)] [] (jx (jx_0 L) I) (jx_Q (jx_0 L) Q)
  have hd : jm_dc md_TakingGame_better.2.1 6 [(.iload_n 2, 1), (.ireturn, 1)] = true := by decide +kernel
  refine go_iload_n rfl hd (fun hd => ?_)
  exact go_ireturn hd rfl ⟨_, rfl, k⟩
theorem b_TakingGame_better_8 {L : Nat} {d : Nat} {I : jm_I} {Q : Option jm_V → jm_I → Prop} {x0 : Int} {o1 : Option jm_V} {o2 : Option jm_V}  (hz : (-2147483648 ≤ x0 ∧ x0 < 2147483648)) (kt : ¬ x0 = 0 → Gx (jx_0 L) d md_TakingGame_better 20 [some (.inl x0), o1, o2] [] I Q) (kf : x0 = 0 → Gx (jx_0 L) d md_TakingGame_better 12 [some (.inl x0), o1, o2] [] I Q) : Gx (jx_0 L) d md_TakingGame_better 8 [some (.inl x0), o1, o2] [] I Q := by
  have hz1 := hz
  show jm_Go d 0 0 md_TakingGame_better 8 [some (.inl x0), o1, o2] [] (jx (jx_0 L) I) (jx_Q (jx_0 L) Q)
  have hd : jm_dc md_TakingGame_better.2.1 8 [(.iload_n 0, 1), (.ifCond .ne 11, 3)] = true := by decide +kernel
  refine go_iload_n rfl hd (fun hd => ?_)
  exact go_if_ne (by decide) hz1 hd kt kf
theorem b_TakingGame_better_12 {L : Nat} {d : Nat} {I : jm_I} {Q : Option jm_V → jm_I → Prop} {o0 : Option jm_V} {x1 : Int} {x2 : Int}  (hz : (-2147483648 ≤ x1 ∧ x1 < 2147483648) ∧ (-2147483648 ≤ x2 ∧ x2 < 2147483648)) (k : Gx (jx_0 L) d md_TakingGame_better 25 [o0, some (.inl x1), some (.inl x2)] [.inl (max x1 x2)] I Q) : Gx (jx_0 L) d md_TakingGame_better 12 [o0, some (.inl x1), some (.inl x2)] [] I Q := by
  obtain ⟨hz1, hz2⟩ := hz
  show jm_Go d 0 0 md_TakingGame_better 12 [o0, some (.inl x1), some (.inl x2)] [] (jx (jx_0 L) I) (jx_Q (jx_0 L) Q)
  have hd : jm_dc md_TakingGame_better.2.1 12 [(.iload_n 1, 1), (.iload_n 2, 1), (.invokestatic 77, 3), (.goto 8, 3)] = true := by decide +kernel
  refine go_iload_n rfl hd (fun hd => ?_)
  refine go_iload_n rfl hd (fun hd => ?_)
  refine go_max ml_7_77 hz1 hz2 (Nat.le_of_ble_eq_true rfl) hd (fun hd => ?_)
  exact go_goto (by decide) hd k
theorem b_TakingGame_better_20 {L : Nat} {d : Nat} {I : jm_I} {Q : Option jm_V → jm_I → Prop} {o0 : Option jm_V} {x1 : Int} {x2 : Int}  (hz : (-2147483648 ≤ x1 ∧ x1 < 2147483648) ∧ (-2147483648 ≤ x2 ∧ x2 < 2147483648)) (k : Gx (jx_0 L) d md_TakingGame_better 25 [o0, some (.inl x1), some (.inl x2)] [.inl (min x1 x2)] I Q) : Gx (jx_0 L) d md_TakingGame_better 20 [o0, some (.inl x1), some (.inl x2)] [] I Q := by
  obtain ⟨hz1, hz2⟩ := hz
  show jm_Go d 0 0 md_TakingGame_better 20 [o0, some (.inl x1), some (.inl x2)] [] (jx (jx_0 L) I) (jx_Q (jx_0 L) Q)
  have hd : jm_dc md_TakingGame_better.2.1 20 [(.iload_n 1, 1), (.iload_n 2, 1), (.invokestatic 82, 3)] = true := by decide +kernel
  refine go_iload_n rfl hd (fun hd => ?_)
  refine go_iload_n rfl hd (fun hd => ?_)
  refine go_min ml_7_82 hz1 hz2 (Nat.le_of_ble_eq_true rfl) hd (fun hd => ?_)
  exact k
theorem b_TakingGame_better_25 {L : Nat} {d : Nat} {I : jm_I} {Q : Option jm_V → jm_I → Prop} {o0 : Option jm_V} {o1 : Option jm_V} {o2 : Option jm_V} {s0 : Int}  (k : Q (some (.inl s0)) I) : Gx (jx_0 L) d md_TakingGame_better 25 [o0, o1, o2] [.inl s0] I Q := by
  show jm_Go d 0 0 md_TakingGame_better 25 [o0, o1, o2] [.inl s0] (jx (jx_0 L) I) (jx_Q (jx_0 L) Q)
  have hd : jm_dc md_TakingGame_better.2.1 25 [(.ireturn, 1)] = true := by decide +kernel
  exact go_ireturn hd rfl ⟨_, rfl, k⟩
theorem b_TakingGame_leadByEnding_0 {L : Nat} {d : Nat} {I : jm_I} {Q : Option jm_V → jm_I → Prop} {x1 : Int} {x2 : Int}  (hz : (0 ≤ x1 ∧ x1 < 2)) (k : Cx (jx_0 L) d md_TakingGame_lead [.inr (.inl 151), .inl (1 - x1), .inl (x2 + 1)] (jm_up I 155 (x1.toNat) 1) (fun v J => Gx (jx_0 L) (d + 1) md_TakingGame_leadByEnding 17 [some (.inr (.inl 151)), some (.inl x1), some (.inl x2), none] (v.toList ++ []) J Q)) : Cx (jx_0 L) (d + 1) md_TakingGame_leadByEnding [.inr (.inl 151), .inl x1, .inl x2] I Q := by
  have hz1 := hz
  show jm_Go (d + 1) 0 0 md_TakingGame_leadByEnding 0 [some (.inr (.inl 151)), some (.inl x1), some (.inl x2), none] [] (jx (jx_0 L) I) (jx_Q (jx_0 L) Q)
  have hd : jm_dc md_TakingGame_leadByEnding.2.1 0 [(.aload_n 0, 1), (.getfield 21, 3), (.iload_n 1, 1), (.iconst 1, 1), (.bastore, 1), (.aload_n 0, 1), (.iconst 1, 1), (.iload_n 1, 1), (.isub, 1), (.iload_n 2, 1), (.iconst 1, 1), (.iadd, 1), (.invokestatic 57, 3)] = true := by decide +kernel
  refine go_aload_n rfl hd (fun hd => ?_)
  refine go_getR co_X7 fl_7_21 (by decide) rfl rfl rfl hd (fun hd => ?_)
  refine go_iload_n rfl hd (fun hd => ?_)
  refine go_iconst hd (fun hd => ?_)
  refine go_zastore rfl hz1.1 hz1.2 (by decide) (Or.inr rfl) hd (fun hd => ?_)
  refine go_aload_n rfl hd (fun hd => ?_)
  refine go_iconst hd (fun hd => ?_)
  refine go_iload_n rfl hd (fun hd => ?_)
  refine go_isub hd (fun hd => ?_)
  refine go_iload_n rfl hd (fun hd => ?_)
  refine go_iconst hd (fun hd => ?_)
  refine go_iadd hd (fun hd => ?_)
  exact gx_static [.inr (.inl 151), .inl (1 - x1), .inl (x2 + 1)] [] mk_TakingGame_lead ml_7_57 st_TakingGame_lead rfl (Nat.le_of_ble_eq_true rfl) rfl (Nat.le_of_ble_eq_true rfl) rfl hd k
theorem b_TakingGame_leadByEnding_17 {L : Nat} {d : Nat} {I : jm_I} {Q : Option jm_V → jm_I → Prop} {x1 : Int} {o2 : Option jm_V} {o3 : Option jm_V} {s0 : Int}  (hz : (0 ≤ x1 ∧ x1 < 2)) (k : Q (some (.inl s0)) (jm_up I 155 (x1.toNat) 0)) : Gx (jx_0 L) d md_TakingGame_leadByEnding 17 [some (.inr (.inl 151)), some (.inl x1), o2, o3] [.inl s0] I Q := by
  have hz1 := hz
  show jm_Go d 0 0 md_TakingGame_leadByEnding 17 [some (.inr (.inl 151)), some (.inl x1), o2, o3] [.inl s0] (jx (jx_0 L) I) (jx_Q (jx_0 L) Q)
  have hd : jm_dc md_TakingGame_leadByEnding.2.1 17 [(.istore_n 3, 1), (.aload_n 0, 1), (.getfield 21, 3), (.iload_n 1, 1), (.iconst 0, 1), (.bastore, 1), (.iload_n 3, 1), (.ireturn, 1)] = true := by decide +kernel
  refine go_istore_n (by decide) hd (fun hd => ?_)
  refine go_aload_n rfl hd (fun hd => ?_)
  refine go_getR co_X7 fl_7_21 (by decide) rfl rfl rfl hd (fun hd => ?_)
  refine go_iload_n rfl hd (fun hd => ?_)
  refine go_iconst hd (fun hd => ?_)
  refine go_zastore rfl hz1.1 hz1.2 (by decide) (Or.inl rfl) hd (fun hd => ?_)
  refine go_iload_n rfl hd (fun hd => ?_)
  exact go_ireturn hd rfl ⟨_, rfl, k⟩
