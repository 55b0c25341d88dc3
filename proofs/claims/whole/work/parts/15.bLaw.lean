/-! ===== a lemma a basic block (by program, wip/gen/gen9.py) ===== -/
theorem b_L_law_16 {L : Nat} {d : Nat} {I : jm_I} {Q : Option jm_V → jm_I → Prop} {o0 : Option jm_V} {o1 : Option jm_V} {o2 : Option jm_V} {o3 : Option jm_V}  (k : Gx (jx_0 L) d md_L_law 18 [o0, o1, o2, some (.inl 0)] [] I Q) : Gx (jx_0 L) d md_L_law 16 [o0, o1, o2, o3] [] I Q := by
  show jm_Go d 0 0 md_L_law 16 [o0, o1, o2, o3] [] (jx (jx_0 L) I) (jx_Q (jx_0 L) Q)
  have hd : jm_dc md_L_law.2.1 16 [(.iconst 0, 1), (.istore_n 3, 1)] = true := by decide +kernel
  refine go_iconst hd (fun hd => ?_)
  refine go_istore_n (by decide) hd (fun hd => ?_)
  exact k
theorem b_L_law_18 {L : Nat} {d : Nat} {I : jm_I} {Q : Option jm_V → jm_I → Prop} {o1 : Option jm_V} {o2 : Option jm_V} {x3 : Int}  (hz : (-2147483648 ≤ x3 ∧ x3 < 2147483648) ∧ (-2147483648 ≤ ((L : Int)) - 5 ∧ ((L : Int)) - 5 < 2147483648)) (kt : (((L : Int)) - 5) < x3 → Gx (jx_0 L) d md_L_law 921 [some (.inr (.inl 0)), o1, o2, some (.inl x3)] [] I Q) (kf : ¬ ((((L : Int)) - 5) < x3) → Gx (jx_0 L) d md_L_law 26 [some (.inr (.inl 0)), o1, o2, some (.inl x3)] [] I Q) : Gx (jx_0 L) d md_L_law 18 [some (.inr (.inl 0)), o1, o2, some (.inl x3)] [] I Q := by
  obtain ⟨hz1, hz2⟩ := hz
  show jm_Go d 0 0 md_L_law 18 [some (.inr (.inl 0)), o1, o2, some (.inl x3)] [] (jx (jx_0 L) I) (jx_Q (jx_0 L) Q)
  have hd : jm_dc md_L_law.2.1 18 [(.iload_n 3, 1), (.aload_n 0, 1), (.arraylength, 1), (.iconst 5, 1), (.isub, 1), (.if_icmp .gt 898, 3)] = true := by decide +kernel
  refine go_iload_n rfl hd (fun hd => ?_)
  refine go_aload_n rfl hd (fun hd => ?_)
  refine go_slen hd (fun hd => ?_)
  refine go_iconst hd (fun hd => ?_)
  refine go_isub hd (fun hd => ?_)
  exact go_icmp_gt (by decide) hz1 hz2 hd kt kf
theorem b_L_law_26 {L : Nat} {d : Nat} {I : jm_I} {Q : Option jm_V → jm_I → Prop} {o1 : Option jm_V} {o2 : Option jm_V} {x3 : Int}  (hz : (0 ≤ x3 ∧ x3 < (L : Int)) ∧ (L < 2147483648) ∧ (-2147483648 ≤ jb_and (I 0 x3.toNat) 31 ∧ jb_and (I 0 x3.toNat) 31 < 2147483648)) (k0 : (jb_and (I 0 x3.toNat) 31) = 0 → Gx (jx_0 L) d md_L_law 160 [some (.inr (.inl 0)), o1, o2, some (.inl x3)] [] I Q) (k1 : (jb_and (I 0 x3.toNat) 31) = 1 → Gx (jx_0 L) d md_L_law 183 [some (.inr (.inl 0)), o1, o2, some (.inl x3)] [] I Q) (k2 : (jb_and (I 0 x3.toNat) 31) = 2 → Gx (jx_0 L) d md_L_law 196 [some (.inr (.inl 0)), o1, o2, some (.inl x3)] [] I Q) (k3 : (jb_and (I 0 x3.toNat) 31) = 3 → Gx (jx_0 L) d md_L_law 209 [some (.inr (.inl 0)), o1, o2, some (.inl x3)] [] I Q) (k4 : (jb_and (I 0 x3.toNat) 31) = 4 → Gx (jx_0 L) d md_L_law 242 [some (.inr (.inl 0)), o1, o2, some (.inl x3)] [] I Q) (k5 : (jb_and (I 0 x3.toNat) 31) = 5 → Gx (jx_0 L) d md_L_law 275 [some (.inr (.inl 0)), o1, o2, some (.inl x3)] [] I Q) (k6 : (jb_and (I 0 x3.toNat) 31) = 6 → Gx (jx_0 L) d md_L_law 308 [some (.inr (.inl 0)), o1, o2, some (.inl x3)] [] I Q) (k7 : (jb_and (I 0 x3.toNat) 31) = 7 → Gx (jx_0 L) d md_L_law 331 [some (.inr (.inl 0)), o1, o2, some (.inl x3)] [] I Q) (k8 : (jb_and (I 0 x3.toNat) 31) = 8 → Gx (jx_0 L) d md_L_law 344 [some (.inr (.inl 0)), o1, o2, some (.inl x3)] [] I Q) (k9 : (jb_and (I 0 x3.toNat) 31) = 9 → Gx (jx_0 L) d md_L_law 367 [some (.inr (.inl 0)), o1, o2, some (.inl x3)] [] I Q) (k10 : (jb_and (I 0 x3.toNat) 31) = 10 → Gx (jx_0 L) d md_L_law 410 [some (.inr (.inl 0)), o1, o2, some (.inl x3)] [] I Q) (k11 : (jb_and (I 0 x3.toNat) 31) = 11 → Gx (jx_0 L) d md_L_law 443 [some (.inr (.inl 0)), o1, o2, some (.inl x3)] [] I Q) (k12 : (jb_and (I 0 x3.toNat) 31) = 12 → Gx (jx_0 L) d md_L_law 456 [some (.inr (.inl 0)), o1, o2, some (.inl x3)] [] I Q) (k13 : (jb_and (I 0 x3.toNat) 31) = 13 → Gx (jx_0 L) d md_L_law 489 [some (.inr (.inl 0)), o1, o2, some (.inl x3)] [] I Q) (k14 : (jb_and (I 0 x3.toNat) 31) = 14 → Gx (jx_0 L) d md_L_law 522 [some (.inr (.inl 0)), o1, o2, some (.inl x3)] [] I Q) (k15 : (jb_and (I 0 x3.toNat) 31) = 15 → Gx (jx_0 L) d md_L_law 545 [some (.inr (.inl 0)), o1, o2, some (.inl x3)] [] I Q) (k16 : (jb_and (I 0 x3.toNat) 31) = 16 → Gx (jx_0 L) d md_L_law 598 [some (.inr (.inl 0)), o1, o2, some (.inl x3)] [] I Q) (k17 : (jb_and (I 0 x3.toNat) 31) = 17 → Gx (jx_0 L) d md_L_law 641 [some (.inr (.inl 0)), o1, o2, some (.inl x3)] [] I Q) (k18 : (jb_and (I 0 x3.toNat) 31) = 18 → Gx (jx_0 L) d md_L_law 654 [some (.inr (.inl 0)), o1, o2, some (.inl x3)] [] I Q) (k19 : (jb_and (I 0 x3.toNat) 31) = 19 → Gx (jx_0 L) d md_L_law 667 [some (.inr (.inl 0)), o1, o2, some (.inl x3)] [] I Q) (k20 : (jb_and (I 0 x3.toNat) 31) = 20 → Gx (jx_0 L) d md_L_law 700 [some (.inr (.inl 0)), o1, o2, some (.inl x3)] [] I Q) (k21 : (jb_and (I 0 x3.toNat) 31) = 21 → Gx (jx_0 L) d md_L_law 733 [some (.inr (.inl 0)), o1, o2, some (.inl x3)] [] I Q) (k22 : (jb_and (I 0 x3.toNat) 31) = 22 → Gx (jx_0 L) d md_L_law 776 [some (.inr (.inl 0)), o1, o2, some (.inl x3)] [] I Q) (k23 : (jb_and (I 0 x3.toNat) 31) = 23 → Gx (jx_0 L) d md_L_law 799 [some (.inr (.inl 0)), o1, o2, some (.inl x3)] [] I Q) (k24 : (jb_and (I 0 x3.toNat) 31) = 24 → Gx (jx_0 L) d md_L_law 832 [some (.inr (.inl 0)), o1, o2, some (.inl x3)] [] I Q) (k25 : (jb_and (I 0 x3.toNat) 31) = 25 → Gx (jx_0 L) d md_L_law 855 [some (.inr (.inl 0)), o1, o2, some (.inl x3)] [] I Q) (k26 : (jb_and (I 0 x3.toNat) 31) = 26 → Gx (jx_0 L) d md_L_law 878 [some (.inr (.inl 0)), o1, o2, some (.inl x3)] [] I Q) (k27 : (jb_and (I 0 x3.toNat) 31) = 27 → Gx (jx_0 L) d md_L_law 901 [some (.inr (.inl 0)), o1, o2, some (.inl x3)] [] I Q) (kd : ((jb_and (I 0 x3.toNat) 31) < 0 ∨ 27 < (jb_and (I 0 x3.toNat) 31)) → Gx (jx_0 L) d md_L_law 915 [some (.inr (.inl 0)), o1, o2, some (.inl x3)] [] I Q) : Gx (jx_0 L) d md_L_law 26 [some (.inr (.inl 0)), o1, o2, some (.inl x3)] [] I Q := by
  obtain ⟨hz1, hz2, hz3⟩ := hz
  show jm_Go d 0 0 md_L_law 26 [some (.inr (.inl 0)), o1, o2, some (.inl x3)] [] (jx (jx_0 L) I) (jx_Q (jx_0 L) Q)
  have hd : jm_dc md_L_law.2.1 26 [(.aload_n 0, 1), (.iload_n 3, 1), (.iaload, 1), (.bipush 31, 2), (.iand, 1), (.tableswitch 883 0 27 #[128, 151, 164, 177, 210, 243, 276, 299, 312, 335, 378, 411, 424, 457, 490, 513, 566, 609, 622, 635, 668, 701, 744, 767, 800, 823, 846, 869], 128)] = true := by decide +kernel
  refine go_aload_n rfl hd (fun hd => ?_)
  refine go_iload_n rfl hd (fun hd => ?_)
  refine go_sload hz1.1 hz1.2 hz2 hd (fun hd => ?_)
  refine go_bipush (by decide) hd (fun hd => ?_)
  refine go_iand hd (fun hd => ?_)
  by_cases hq : (jb_and (I 0 x3.toNat) 31) < 0 ∨ 27 < (jb_and (I 0 x3.toNat) 31)
  · exact go_tableOut (a := jb_and (I 0 x3.toNat) 31) hz3 hq (by decide) hd (kd hq)
  · rcases (show (jb_and (I 0 x3.toNat) 31) = 0 ∨ (jb_and (I 0 x3.toNat) 31) = 1 ∨ (jb_and (I 0 x3.toNat) 31) = 2 ∨ (jb_and (I 0 x3.toNat) 31) = 3 ∨ (jb_and (I 0 x3.toNat) 31) = 4 ∨ (jb_and (I 0 x3.toNat) 31) = 5 ∨ (jb_and (I 0 x3.toNat) 31) = 6 ∨ (jb_and (I 0 x3.toNat) 31) = 7 ∨ (jb_and (I 0 x3.toNat) 31) = 8 ∨ (jb_and (I 0 x3.toNat) 31) = 9 ∨ (jb_and (I 0 x3.toNat) 31) = 10 ∨ (jb_and (I 0 x3.toNat) 31) = 11 ∨ (jb_and (I 0 x3.toNat) 31) = 12 ∨ (jb_and (I 0 x3.toNat) 31) = 13 ∨ (jb_and (I 0 x3.toNat) 31) = 14 ∨ (jb_and (I 0 x3.toNat) 31) = 15 ∨ (jb_and (I 0 x3.toNat) 31) = 16 ∨ (jb_and (I 0 x3.toNat) 31) = 17 ∨ (jb_and (I 0 x3.toNat) 31) = 18 ∨ (jb_and (I 0 x3.toNat) 31) = 19 ∨ (jb_and (I 0 x3.toNat) 31) = 20 ∨ (jb_and (I 0 x3.toNat) 31) = 21 ∨ (jb_and (I 0 x3.toNat) 31) = 22 ∨ (jb_and (I 0 x3.toNat) 31) = 23 ∨ (jb_and (I 0 x3.toNat) 31) = 24 ∨ (jb_and (I 0 x3.toNat) 31) = 25 ∨ (jb_and (I 0 x3.toNat) 31) = 26 ∨ (jb_and (I 0 x3.toNat) 31) = 27 by omega) with hq0 | hq1 | hq2 | hq3 | hq4 | hq5 | hq6 | hq7 | hq8 | hq9 | hq10 | hq11 | hq12 | hq13 | hq14 | hq15 | hq16 | hq17 | hq18 | hq19 | hq20 | hq21 | hq22 | hq23 | hq24 | hq25 | hq26 | hq27
    · exact go_tableIn (a := jb_and (I 0 x3.toNat) 31) (off := 128) (t := 160) hz3 (by omega) (by omega) (by rw [hq0]; rfl) (by decide) hd (k0 hq0)
    · exact go_tableIn (a := jb_and (I 0 x3.toNat) 31) (off := 151) (t := 183) hz3 (by omega) (by omega) (by rw [hq1]; rfl) (by decide) hd (k1 hq1)
    · exact go_tableIn (a := jb_and (I 0 x3.toNat) 31) (off := 164) (t := 196) hz3 (by omega) (by omega) (by rw [hq2]; rfl) (by decide) hd (k2 hq2)
    · exact go_tableIn (a := jb_and (I 0 x3.toNat) 31) (off := 177) (t := 209) hz3 (by omega) (by omega) (by rw [hq3]; rfl) (by decide) hd (k3 hq3)
    · exact go_tableIn (a := jb_and (I 0 x3.toNat) 31) (off := 210) (t := 242) hz3 (by omega) (by omega) (by rw [hq4]; rfl) (by decide) hd (k4 hq4)
    · exact go_tableIn (a := jb_and (I 0 x3.toNat) 31) (off := 243) (t := 275) hz3 (by omega) (by omega) (by rw [hq5]; rfl) (by decide) hd (k5 hq5)
    · exact go_tableIn (a := jb_and (I 0 x3.toNat) 31) (off := 276) (t := 308) hz3 (by omega) (by omega) (by rw [hq6]; rfl) (by decide) hd (k6 hq6)
    · exact go_tableIn (a := jb_and (I 0 x3.toNat) 31) (off := 299) (t := 331) hz3 (by omega) (by omega) (by rw [hq7]; rfl) (by decide) hd (k7 hq7)
    · exact go_tableIn (a := jb_and (I 0 x3.toNat) 31) (off := 312) (t := 344) hz3 (by omega) (by omega) (by rw [hq8]; rfl) (by decide) hd (k8 hq8)
    · exact go_tableIn (a := jb_and (I 0 x3.toNat) 31) (off := 335) (t := 367) hz3 (by omega) (by omega) (by rw [hq9]; rfl) (by decide) hd (k9 hq9)
    · exact go_tableIn (a := jb_and (I 0 x3.toNat) 31) (off := 378) (t := 410) hz3 (by omega) (by omega) (by rw [hq10]; rfl) (by decide) hd (k10 hq10)
    · exact go_tableIn (a := jb_and (I 0 x3.toNat) 31) (off := 411) (t := 443) hz3 (by omega) (by omega) (by rw [hq11]; rfl) (by decide) hd (k11 hq11)
    · exact go_tableIn (a := jb_and (I 0 x3.toNat) 31) (off := 424) (t := 456) hz3 (by omega) (by omega) (by rw [hq12]; rfl) (by decide) hd (k12 hq12)
    · exact go_tableIn (a := jb_and (I 0 x3.toNat) 31) (off := 457) (t := 489) hz3 (by omega) (by omega) (by rw [hq13]; rfl) (by decide) hd (k13 hq13)
    · exact go_tableIn (a := jb_and (I 0 x3.toNat) 31) (off := 490) (t := 522) hz3 (by omega) (by omega) (by rw [hq14]; rfl) (by decide) hd (k14 hq14)
    · exact go_tableIn (a := jb_and (I 0 x3.toNat) 31) (off := 513) (t := 545) hz3 (by omega) (by omega) (by rw [hq15]; rfl) (by decide) hd (k15 hq15)
    · exact go_tableIn (a := jb_and (I 0 x3.toNat) 31) (off := 566) (t := 598) hz3 (by omega) (by omega) (by rw [hq16]; rfl) (by decide) hd (k16 hq16)
    · exact go_tableIn (a := jb_and (I 0 x3.toNat) 31) (off := 609) (t := 641) hz3 (by omega) (by omega) (by rw [hq17]; rfl) (by decide) hd (k17 hq17)
    · exact go_tableIn (a := jb_and (I 0 x3.toNat) 31) (off := 622) (t := 654) hz3 (by omega) (by omega) (by rw [hq18]; rfl) (by decide) hd (k18 hq18)
    · exact go_tableIn (a := jb_and (I 0 x3.toNat) 31) (off := 635) (t := 667) hz3 (by omega) (by omega) (by rw [hq19]; rfl) (by decide) hd (k19 hq19)
    · exact go_tableIn (a := jb_and (I 0 x3.toNat) 31) (off := 668) (t := 700) hz3 (by omega) (by omega) (by rw [hq20]; rfl) (by decide) hd (k20 hq20)
    · exact go_tableIn (a := jb_and (I 0 x3.toNat) 31) (off := 701) (t := 733) hz3 (by omega) (by omega) (by rw [hq21]; rfl) (by decide) hd (k21 hq21)
    · exact go_tableIn (a := jb_and (I 0 x3.toNat) 31) (off := 744) (t := 776) hz3 (by omega) (by omega) (by rw [hq22]; rfl) (by decide) hd (k22 hq22)
    · exact go_tableIn (a := jb_and (I 0 x3.toNat) 31) (off := 767) (t := 799) hz3 (by omega) (by omega) (by rw [hq23]; rfl) (by decide) hd (k23 hq23)
    · exact go_tableIn (a := jb_and (I 0 x3.toNat) 31) (off := 800) (t := 832) hz3 (by omega) (by omega) (by rw [hq24]; rfl) (by decide) hd (k24 hq24)
    · exact go_tableIn (a := jb_and (I 0 x3.toNat) 31) (off := 823) (t := 855) hz3 (by omega) (by omega) (by rw [hq25]; rfl) (by decide) hd (k25 hq25)
    · exact go_tableIn (a := jb_and (I 0 x3.toNat) 31) (off := 846) (t := 878) hz3 (by omega) (by omega) (by rw [hq26]; rfl) (by decide) hd (k26 hq26)
    · exact go_tableIn (a := jb_and (I 0 x3.toNat) 31) (off := 869) (t := 901) hz3 (by omega) (by omega) (by rw [hq27]; rfl) (by decide) hd (k27 hq27)
theorem b_L_law_160 {L : Nat} {d : Nat} {I : jm_I} {Q : Option jm_V → jm_I → Prop} {o2 : Option jm_V} {x3 : Int}  (hz : (0 ≤ x3 + 1 ∧ x3 + 1 < (L : Int)) ∧ (L < 2147483648)) (k : Cx (jx_0 L) d md_X_type [.inr (.inl 1), .inl (I 0 (x3 + 1).toNat)] I (fun v J => Gx (jx_0 L) (d + 1) md_L_law 169 [some (.inr (.inl 0)), some (.inr (.inl 1)), o2, some (.inl x3)] (v.toList ++ []) J Q)) : Gx (jx_0 L) (d + 1) md_L_law 160 [some (.inr (.inl 0)), some (.inr (.inl 1)), o2, some (.inl x3)] [] I Q := by
  obtain ⟨hz1, hz2⟩ := hz
  show jm_Go (d + 1) 0 0 md_L_law 160 [some (.inr (.inl 0)), some (.inr (.inl 1)), o2, some (.inl x3)] [] (jx (jx_0 L) I) (jx_Q (jx_0 L) Q)
  have hd : jm_dc md_L_law.2.1 160 [(.aload_n 1, 1), (.aload_n 0, 1), (.iload_n 3, 1), (.iconst 1, 1), (.iadd, 1), (.iaload, 1), (.invokevirtual 13, 3)] = true := by decide +kernel
  refine go_aload_n rfl hd (fun hd => ?_)
  refine go_aload_n rfl hd (fun hd => ?_)
  refine go_iload_n rfl hd (fun hd => ?_)
  refine go_iconst hd (fun hd => ?_)
  refine go_iadd hd (fun hd => ?_)
  refine go_sload hz1.1 hz1.2 hz2 hd (fun hd => ?_)
  exact gx_virtual 1 8 [.inl (I 0 (x3 + 1).toNat)] [] mk_X_type co_X8 rfl ml_lw_13 in_X_type se_X_type rfl rfl (Nat.le_of_ble_eq_true rfl) rfl (Nat.le_of_ble_eq_true rfl) rfl hd k
theorem b_L_law_169 {L : Nat} {d : Nat} {I : jm_I} {Q : Option jm_V → jm_I → Prop} {o1 : Option jm_V} {x3 : Int} {s0 : Int}  (hz : (0 ≤ x3 + 1 ∧ x3 + 1 < (L : Int)) ∧ (L < 2147483648)) (k : Cx (jx_0 L) d md_M_type [.inr (.inl 167), .inl (I 0 (x3 + 1).toNat)] I (fun v J => Gx (jx_0 L) (d + 1) md_L_law 178 [some (.inr (.inl 0)), o1, some (.inr (.inl 167)), some (.inl x3)] (v.toList ++ [.inl s0]) J Q)) : Gx (jx_0 L) (d + 1) md_L_law 169 [some (.inr (.inl 0)), o1, some (.inr (.inl 167)), some (.inl x3)] [.inl s0] I Q := by
  obtain ⟨hz1, hz2⟩ := hz
  show jm_Go (d + 1) 0 0 md_L_law 169 [some (.inr (.inl 0)), o1, some (.inr (.inl 167)), some (.inl x3)] [.inl s0] (jx (jx_0 L) I) (jx_Q (jx_0 L) Q)
  have hd : jm_dc md_L_law.2.1 169 [(.aload_n 2, 1), (.aload_n 0, 1), (.iload_n 3, 1), (.iconst 1, 1), (.iadd, 1), (.iaload, 1), (.invokevirtual 17, 3)] = true := by decide +kernel
  refine go_aload_n rfl hd (fun hd => ?_)
  refine go_aload_n rfl hd (fun hd => ?_)
  refine go_iload_n rfl hd (fun hd => ?_)
  refine go_iconst hd (fun hd => ?_)
  refine go_iadd hd (fun hd => ?_)
  refine go_sload hz1.1 hz1.2 hz2 hd (fun hd => ?_)
  exact gx_virtual 167 9 [.inl (I 0 (x3 + 1).toNat)] [.inl s0] mk_M_type co_X9 rfl ml_lw_17 in_M_type se_M_type rfl rfl (Nat.le_of_ble_eq_true rfl) rfl (Nat.le_of_ble_eq_true rfl) rfl hd k
theorem b_L_law_178 {L : Nat} {d : Nat} {I : jm_I} {Q : Option jm_V → jm_I → Prop} {o0 : Option jm_V} {o1 : Option jm_V} {o2 : Option jm_V} {o3 : Option jm_V} {s0 : Int} {s1 : Int}  (hz : (s0 = s1)) (kt : Gx (jx_0 L) d md_L_law 915 [o0, o1, o2, o3] [] I Q) : Gx (jx_0 L) d md_L_law 178 [o0, o1, o2, o3] [.inl s1, .inl s0] I Q := by
  have hz1 := hz
  show jm_Go d 0 0 md_L_law 178 [o0, o1, o2, o3] [.inl s1, .inl s0] (jx (jx_0 L) I) (jx_Q (jx_0 L) Q)
  have hd : jm_dc md_L_law.2.1 178 [(.if_icmp .eq 737, 3)] = true := by decide +kernel
  exact go_icmp_eqT (by decide) hz1 hd kt
theorem b_L_law_181 {L : Nat} {d : Nat} {I : jm_I} {Q : Option jm_V → jm_I → Prop} {o0 : Option jm_V} {o1 : Option jm_V} {o2 : Option jm_V} {o3 : Option jm_V}  (k : Q (some (.inl 0)) I) : Gx (jx_0 L) d md_L_law 181 [o0, o1, o2, o3] [] I Q := by
  show jm_Go d 0 0 md_L_law 181 [o0, o1, o2, o3] [] (jx (jx_0 L) I) (jx_Q (jx_0 L) Q)
  have hd : jm_dc md_L_law.2.1 181 [(.iconst 0, 1), (.ireturn, 1)] = true := by decide +kernel
  refine go_iconst hd (fun hd => ?_)
  exact go_zreturn hd rfl (Or.inl rfl) ⟨_, rfl, k⟩
theorem b_L_law_183 {L : Nat} {d : Nat} {I : jm_I} {Q : Option jm_V → jm_I → Prop} {o0 : Option jm_V} {o2 : Option jm_V} {o3 : Option jm_V}  (k : Cx (jx_0 L) d md_X_clear [.inr (.inl 1)] I (fun v J => Gx (jx_0 L) (d + 1) md_L_law 187 [o0, some (.inr (.inl 1)), o2, o3] (v.toList ++ []) J Q)) : Gx (jx_0 L) (d + 1) md_L_law 183 [o0, some (.inr (.inl 1)), o2, o3] [] I Q := by
  show jm_Go (d + 1) 0 0 md_L_law 183 [o0, some (.inr (.inl 1)), o2, o3] [] (jx (jx_0 L) I) (jx_Q (jx_0 L) Q)
  have hd : jm_dc md_L_law.2.1 183 [(.aload_n 1, 1), (.invokevirtual 18, 3)] = true := by decide +kernel
  refine go_aload_n rfl hd (fun hd => ?_)
  exact gx_virtual 1 8 [] [] mk_X_clear co_X8 rfl ml_lw_18 in_X_clear se_X_clear rfl rfl (Nat.le_of_ble_eq_true rfl) rfl (Nat.le_of_ble_eq_true rfl) rfl hd k
theorem b_L_law_187 {L : Nat} {d : Nat} {I : jm_I} {Q : Option jm_V → jm_I → Prop} {o0 : Option jm_V} {o1 : Option jm_V} {o3 : Option jm_V} {s0 : Int}  (k : Cx (jx_0 L) d md_M_clear [.inr (.inl 167)] I (fun v J => Gx (jx_0 L) (d + 1) md_L_law 191 [o0, o1, some (.inr (.inl 167)), o3] (v.toList ++ [.inl s0]) J Q)) : Gx (jx_0 L) (d + 1) md_L_law 187 [o0, o1, some (.inr (.inl 167)), o3] [.inl s0] I Q := by
  show jm_Go (d + 1) 0 0 md_L_law 187 [o0, o1, some (.inr (.inl 167)), o3] [.inl s0] (jx (jx_0 L) I) (jx_Q (jx_0 L) Q)
  have hd : jm_dc md_L_law.2.1 187 [(.aload_n 2, 1), (.invokevirtual 22, 3)] = true := by decide +kernel
  refine go_aload_n rfl hd (fun hd => ?_)
  exact gx_virtual 167 9 [] [.inl s0] mk_M_clear co_X9 rfl ml_lw_22 in_M_clear se_M_clear rfl rfl (Nat.le_of_ble_eq_true rfl) rfl (Nat.le_of_ble_eq_true rfl) rfl hd k
theorem b_L_law_191 {L : Nat} {d : Nat} {I : jm_I} {Q : Option jm_V → jm_I → Prop} {o0 : Option jm_V} {o1 : Option jm_V} {o2 : Option jm_V} {o3 : Option jm_V} {s0 : Int} {s1 : Int}  (hz : (s0 = s1)) (kt : Gx (jx_0 L) d md_L_law 915 [o0, o1, o2, o3] [] I Q) : Gx (jx_0 L) d md_L_law 191 [o0, o1, o2, o3] [.inl s1, .inl s0] I Q := by
  have hz1 := hz
  show jm_Go d 0 0 md_L_law 191 [o0, o1, o2, o3] [.inl s1, .inl s0] (jx (jx_0 L) I) (jx_Q (jx_0 L) Q)
  have hd : jm_dc md_L_law.2.1 191 [(.if_icmp .eq 724, 3)] = true := by decide +kernel
  exact go_icmp_eqT (by decide) hz1 hd kt
theorem b_L_law_194 {L : Nat} {d : Nat} {I : jm_I} {Q : Option jm_V → jm_I → Prop} {o0 : Option jm_V} {o1 : Option jm_V} {o2 : Option jm_V} {o3 : Option jm_V}  (k : Q (some (.inl 0)) I) : Gx (jx_0 L) d md_L_law 194 [o0, o1, o2, o3] [] I Q := by
  show jm_Go d 0 0 md_L_law 194 [o0, o1, o2, o3] [] (jx (jx_0 L) I) (jx_Q (jx_0 L) Q)
  have hd : jm_dc md_L_law.2.1 194 [(.iconst 0, 1), (.ireturn, 1)] = true := by decide +kernel
  refine go_iconst hd (fun hd => ?_)
  exact go_zreturn hd rfl (Or.inl rfl) ⟨_, rfl, k⟩
theorem b_L_law_196 {L : Nat} {d : Nat} {I : jm_I} {Q : Option jm_V → jm_I → Prop} {o0 : Option jm_V} {o2 : Option jm_V} {o3 : Option jm_V}  (k : Cx (jx_0 L) d md_X_city [.inr (.inl 1)] I (fun v J => Gx (jx_0 L) (d + 1) md_L_law 200 [o0, some (.inr (.inl 1)), o2, o3] (v.toList ++ []) J Q)) : Gx (jx_0 L) (d + 1) md_L_law 196 [o0, some (.inr (.inl 1)), o2, o3] [] I Q := by
  show jm_Go (d + 1) 0 0 md_L_law 196 [o0, some (.inr (.inl 1)), o2, o3] [] (jx (jx_0 L) I) (jx_Q (jx_0 L) Q)
  have hd : jm_dc md_L_law.2.1 196 [(.aload_n 1, 1), (.invokevirtual 23, 3)] = true := by decide +kernel
  refine go_aload_n rfl hd (fun hd => ?_)
  exact gx_virtual 1 8 [] [] mk_X_city co_X8 rfl ml_lw_23 in_X_city se_X_city rfl rfl (Nat.le_of_ble_eq_true rfl) rfl (Nat.le_of_ble_eq_true rfl) rfl hd k
theorem b_L_law_200 {L : Nat} {d : Nat} {I : jm_I} {Q : Option jm_V → jm_I → Prop} {o0 : Option jm_V} {o1 : Option jm_V} {o3 : Option jm_V} {s0 : Int}  (k : Cx (jx_0 L) d md_M_city [.inr (.inl 167)] I (fun v J => Gx (jx_0 L) (d + 1) md_L_law 204 [o0, o1, some (.inr (.inl 167)), o3] (v.toList ++ [.inl s0]) J Q)) : Gx (jx_0 L) (d + 1) md_L_law 200 [o0, o1, some (.inr (.inl 167)), o3] [.inl s0] I Q := by
  show jm_Go (d + 1) 0 0 md_L_law 200 [o0, o1, some (.inr (.inl 167)), o3] [.inl s0] (jx (jx_0 L) I) (jx_Q (jx_0 L) Q)
  have hd : jm_dc md_L_law.2.1 200 [(.aload_n 2, 1), (.invokevirtual 26, 3)] = true := by decide +kernel
  refine go_aload_n rfl hd (fun hd => ?_)
  exact gx_virtual 167 9 [] [.inl s0] mk_M_city co_X9 rfl ml_lw_26 in_M_city se_M_city rfl rfl (Nat.le_of_ble_eq_true rfl) rfl (Nat.le_of_ble_eq_true rfl) rfl hd k
theorem b_L_law_204 {L : Nat} {d : Nat} {I : jm_I} {Q : Option jm_V → jm_I → Prop} {o0 : Option jm_V} {o1 : Option jm_V} {o2 : Option jm_V} {o3 : Option jm_V} {s0 : Int} {s1 : Int}  (hz : (s0 = s1)) (kt : Gx (jx_0 L) d md_L_law 915 [o0, o1, o2, o3] [] I Q) : Gx (jx_0 L) d md_L_law 204 [o0, o1, o2, o3] [.inl s1, .inl s0] I Q := by
  have hz1 := hz
  show jm_Go d 0 0 md_L_law 204 [o0, o1, o2, o3] [.inl s1, .inl s0] (jx (jx_0 L) I) (jx_Q (jx_0 L) Q)
  have hd : jm_dc md_L_law.2.1 204 [(.if_icmp .eq 711, 3)] = true := by decide +kernel
  exact go_icmp_eqT (by decide) hz1 hd kt
theorem b_L_law_207 {L : Nat} {d : Nat} {I : jm_I} {Q : Option jm_V → jm_I → Prop} {o0 : Option jm_V} {o1 : Option jm_V} {o2 : Option jm_V} {o3 : Option jm_V}  (k : Q (some (.inl 0)) I) : Gx (jx_0 L) d md_L_law 207 [o0, o1, o2, o3] [] I Q := by
  show jm_Go d 0 0 md_L_law 207 [o0, o1, o2, o3] [] (jx (jx_0 L) I) (jx_Q (jx_0 L) Q)
  have hd : jm_dc md_L_law.2.1 207 [(.iconst 0, 1), (.ireturn, 1)] = true := by decide +kernel
  refine go_iconst hd (fun hd => ?_)
  exact go_zreturn hd rfl (Or.inl rfl) ⟨_, rfl, k⟩
theorem b_L_law_209 {L : Nat} {d : Nat} {I : jm_I} {Q : Option jm_V → jm_I → Prop} {o2 : Option jm_V} {x3 : Int}  (hz : (0 ≤ x3 + 1 ∧ x3 + 1 < (L : Int)) ∧ (L < 2147483648) ∧ (0 ≤ x3 + 2 ∧ x3 + 2 < (L : Int)) ∧ (L < 2147483648)) (k : Cx (jx_0 L) d md_X_door [.inr (.inl 1), .inl (I 0 (x3 + 1).toNat), .inl (I 0 (x3 + 2).toNat)] I (fun v J => Gx (jx_0 L) (d + 1) md_L_law 223 [some (.inr (.inl 0)), some (.inr (.inl 1)), o2, some (.inl x3)] (v.toList ++ []) J Q)) : Gx (jx_0 L) (d + 1) md_L_law 209 [some (.inr (.inl 0)), some (.inr (.inl 1)), o2, some (.inl x3)] [] I Q := by
  obtain ⟨hz1, hz2, hz3, hz4⟩ := hz
  show jm_Go (d + 1) 0 0 md_L_law 209 [some (.inr (.inl 0)), some (.inr (.inl 1)), o2, some (.inl x3)] [] (jx (jx_0 L) I) (jx_Q (jx_0 L) Q)
  have hd : jm_dc md_L_law.2.1 209 [(.aload_n 1, 1), (.aload_n 0, 1), (.iload_n 3, 1), (.iconst 1, 1), (.iadd, 1), (.iaload, 1), (.aload_n 0, 1), (.iload_n 3, 1), (.iconst 2, 1), (.iadd, 1), (.iaload, 1), (.invokevirtual 27, 3)] = true := by decide +kernel
  refine go_aload_n rfl hd (fun hd => ?_)
  refine go_aload_n rfl hd (fun hd => ?_)
  refine go_iload_n rfl hd (fun hd => ?_)
  refine go_iconst hd (fun hd => ?_)
  refine go_iadd hd (fun hd => ?_)
  refine go_sload hz1.1 hz1.2 hz2 hd (fun hd => ?_)
  refine go_aload_n rfl hd (fun hd => ?_)
  refine go_iload_n rfl hd (fun hd => ?_)
  refine go_iconst hd (fun hd => ?_)
  refine go_iadd hd (fun hd => ?_)
  refine go_sload hz3.1 hz3.2 hz4 hd (fun hd => ?_)
  exact gx_virtual 1 8 [.inl (I 0 (x3 + 1).toNat), .inl (I 0 (x3 + 2).toNat)] [] mk_X_door co_X8 rfl ml_lw_27 in_X_door se_X_door rfl rfl (Nat.le_of_ble_eq_true rfl) rfl (Nat.le_of_ble_eq_true rfl) rfl hd k
theorem b_L_law_223 {L : Nat} {d : Nat} {I : jm_I} {Q : Option jm_V → jm_I → Prop} {o1 : Option jm_V} {x3 : Int} {s0 : Int}  (hz : (0 ≤ x3 + 1 ∧ x3 + 1 < (L : Int)) ∧ (L < 2147483648) ∧ (0 ≤ x3 + 2 ∧ x3 + 2 < (L : Int)) ∧ (L < 2147483648)) (k : Cx (jx_0 L) d md_M_door [.inr (.inl 167), .inl (I 0 (x3 + 1).toNat), .inl (I 0 (x3 + 2).toNat)] I (fun v J => Gx (jx_0 L) (d + 1) md_L_law 237 [some (.inr (.inl 0)), o1, some (.inr (.inl 167)), some (.inl x3)] (v.toList ++ [.inl s0]) J Q)) : Gx (jx_0 L) (d + 1) md_L_law 223 [some (.inr (.inl 0)), o1, some (.inr (.inl 167)), some (.inl x3)] [.inl s0] I Q := by
  obtain ⟨hz1, hz2, hz3, hz4⟩ := hz
  show jm_Go (d + 1) 0 0 md_L_law 223 [some (.inr (.inl 0)), o1, some (.inr (.inl 167)), some (.inl x3)] [.inl s0] (jx (jx_0 L) I) (jx_Q (jx_0 L) Q)
  have hd : jm_dc md_L_law.2.1 223 [(.aload_n 2, 1), (.aload_n 0, 1), (.iload_n 3, 1), (.iconst 1, 1), (.iadd, 1), (.iaload, 1), (.aload_n 0, 1), (.iload_n 3, 1), (.iconst 2, 1), (.iadd, 1), (.iaload, 1), (.invokevirtual 31, 3)] = true := by decide +kernel
  refine go_aload_n rfl hd (fun hd => ?_)
  refine go_aload_n rfl hd (fun hd => ?_)
  refine go_iload_n rfl hd (fun hd => ?_)
  refine go_iconst hd (fun hd => ?_)
  refine go_iadd hd (fun hd => ?_)
  refine go_sload hz1.1 hz1.2 hz2 hd (fun hd => ?_)
  refine go_aload_n rfl hd (fun hd => ?_)
  refine go_iload_n rfl hd (fun hd => ?_)
  refine go_iconst hd (fun hd => ?_)
  refine go_iadd hd (fun hd => ?_)
  refine go_sload hz3.1 hz3.2 hz4 hd (fun hd => ?_)
  exact gx_virtual 167 9 [.inl (I 0 (x3 + 1).toNat), .inl (I 0 (x3 + 2).toNat)] [.inl s0] mk_M_door co_X9 rfl ml_lw_31 in_M_door se_M_door rfl rfl (Nat.le_of_ble_eq_true rfl) rfl (Nat.le_of_ble_eq_true rfl) rfl hd k
theorem b_L_law_237 {L : Nat} {d : Nat} {I : jm_I} {Q : Option jm_V → jm_I → Prop} {o0 : Option jm_V} {o1 : Option jm_V} {o2 : Option jm_V} {o3 : Option jm_V} {s0 : Int} {s1 : Int}  (hz : (s0 = s1)) (kt : Gx (jx_0 L) d md_L_law 915 [o0, o1, o2, o3] [] I Q) : Gx (jx_0 L) d md_L_law 237 [o0, o1, o2, o3] [.inl s1, .inl s0] I Q := by
  have hz1 := hz
  show jm_Go d 0 0 md_L_law 237 [o0, o1, o2, o3] [.inl s1, .inl s0] (jx (jx_0 L) I) (jx_Q (jx_0 L) Q)
  have hd : jm_dc md_L_law.2.1 237 [(.if_icmp .eq 678, 3)] = true := by decide +kernel
  exact go_icmp_eqT (by decide) hz1 hd kt
theorem b_L_law_240 {L : Nat} {d : Nat} {I : jm_I} {Q : Option jm_V → jm_I → Prop} {o0 : Option jm_V} {o1 : Option jm_V} {o2 : Option jm_V} {o3 : Option jm_V}  (k : Q (some (.inl 0)) I) : Gx (jx_0 L) d md_L_law 240 [o0, o1, o2, o3] [] I Q := by
  show jm_Go d 0 0 md_L_law 240 [o0, o1, o2, o3] [] (jx (jx_0 L) I) (jx_Q (jx_0 L) Q)
  have hd : jm_dc md_L_law.2.1 240 [(.iconst 0, 1), (.ireturn, 1)] = true := by decide +kernel
  refine go_iconst hd (fun hd => ?_)
  exact go_zreturn hd rfl (Or.inl rfl) ⟨_, rfl, k⟩
theorem b_L_law_242 {L : Nat} {d : Nat} {I : jm_I} {Q : Option jm_V → jm_I → Prop} {o2 : Option jm_V} {x3 : Int}  (hz : (0 ≤ x3 + 1 ∧ x3 + 1 < (L : Int)) ∧ (L < 2147483648) ∧ (0 ≤ x3 + 2 ∧ x3 + 2 < (L : Int)) ∧ (L < 2147483648)) (k : Cx (jx_0 L) d md_X_person [.inr (.inl 1), .inl (I 0 (x3 + 1).toNat), .inl (I 0 (x3 + 2).toNat)] I (fun v J => Gx (jx_0 L) (d + 1) md_L_law 256 [some (.inr (.inl 0)), some (.inr (.inl 1)), o2, some (.inl x3)] (v.toList ++ []) J Q)) : Gx (jx_0 L) (d + 1) md_L_law 242 [some (.inr (.inl 0)), some (.inr (.inl 1)), o2, some (.inl x3)] [] I Q := by
  obtain ⟨hz1, hz2, hz3, hz4⟩ := hz
  show jm_Go (d + 1) 0 0 md_L_law 242 [some (.inr (.inl 0)), some (.inr (.inl 1)), o2, some (.inl x3)] [] (jx (jx_0 L) I) (jx_Q (jx_0 L) Q)
  have hd : jm_dc md_L_law.2.1 242 [(.aload_n 1, 1), (.aload_n 0, 1), (.iload_n 3, 1), (.iconst 1, 1), (.iadd, 1), (.iaload, 1), (.aload_n 0, 1), (.iload_n 3, 1), (.iconst 2, 1), (.iadd, 1), (.iaload, 1), (.invokevirtual 32, 3)] = true := by decide +kernel
  refine go_aload_n rfl hd (fun hd => ?_)
  refine go_aload_n rfl hd (fun hd => ?_)
  refine go_iload_n rfl hd (fun hd => ?_)
  refine go_iconst hd (fun hd => ?_)
  refine go_iadd hd (fun hd => ?_)
  refine go_sload hz1.1 hz1.2 hz2 hd (fun hd => ?_)
  refine go_aload_n rfl hd (fun hd => ?_)
  refine go_iload_n rfl hd (fun hd => ?_)
  refine go_iconst hd (fun hd => ?_)
  refine go_iadd hd (fun hd => ?_)
  refine go_sload hz3.1 hz3.2 hz4 hd (fun hd => ?_)
  exact gx_virtual 1 8 [.inl (I 0 (x3 + 1).toNat), .inl (I 0 (x3 + 2).toNat)] [] mk_X_person co_X8 rfl ml_lw_32 in_X_person se_X_person rfl rfl (Nat.le_of_ble_eq_true rfl) rfl (Nat.le_of_ble_eq_true rfl) rfl hd k
theorem b_L_law_256 {L : Nat} {d : Nat} {I : jm_I} {Q : Option jm_V → jm_I → Prop} {o1 : Option jm_V} {x3 : Int} {s0 : Int}  (hz : (0 ≤ x3 + 1 ∧ x3 + 1 < (L : Int)) ∧ (L < 2147483648) ∧ (0 ≤ x3 + 2 ∧ x3 + 2 < (L : Int)) ∧ (L < 2147483648)) (k : Cx (jx_0 L) d md_M_person [.inr (.inl 167), .inl (I 0 (x3 + 1).toNat), .inl (I 0 (x3 + 2).toNat)] I (fun v J => Gx (jx_0 L) (d + 1) md_L_law 270 [some (.inr (.inl 0)), o1, some (.inr (.inl 167)), some (.inl x3)] (v.toList ++ [.inl s0]) J Q)) : Gx (jx_0 L) (d + 1) md_L_law 256 [some (.inr (.inl 0)), o1, some (.inr (.inl 167)), some (.inl x3)] [.inl s0] I Q := by
  obtain ⟨hz1, hz2, hz3, hz4⟩ := hz
  show jm_Go (d + 1) 0 0 md_L_law 256 [some (.inr (.inl 0)), o1, some (.inr (.inl 167)), some (.inl x3)] [.inl s0] (jx (jx_0 L) I) (jx_Q (jx_0 L) Q)
  have hd : jm_dc md_L_law.2.1 256 [(.aload_n 2, 1), (.aload_n 0, 1), (.iload_n 3, 1), (.iconst 1, 1), (.iadd, 1), (.iaload, 1), (.aload_n 0, 1), (.iload_n 3, 1), (.iconst 2, 1), (.iadd, 1), (.iaload, 1), (.invokevirtual 35, 3)] = true := by decide +kernel
  refine go_aload_n rfl hd (fun hd => ?_)
  refine go_aload_n rfl hd (fun hd => ?_)
  refine go_iload_n rfl hd (fun hd => ?_)
  refine go_iconst hd (fun hd => ?_)
  refine go_iadd hd (fun hd => ?_)
  refine go_sload hz1.1 hz1.2 hz2 hd (fun hd => ?_)
  refine go_aload_n rfl hd (fun hd => ?_)
  refine go_iload_n rfl hd (fun hd => ?_)
  refine go_iconst hd (fun hd => ?_)
  refine go_iadd hd (fun hd => ?_)
  refine go_sload hz3.1 hz3.2 hz4 hd (fun hd => ?_)
  exact gx_virtual 167 9 [.inl (I 0 (x3 + 1).toNat), .inl (I 0 (x3 + 2).toNat)] [.inl s0] mk_M_person co_X9 rfl ml_lw_35 in_M_person se_M_person rfl rfl (Nat.le_of_ble_eq_true rfl) rfl (Nat.le_of_ble_eq_true rfl) rfl hd k
theorem b_L_law_270 {L : Nat} {d : Nat} {I : jm_I} {Q : Option jm_V → jm_I → Prop} {o0 : Option jm_V} {o1 : Option jm_V} {o2 : Option jm_V} {o3 : Option jm_V} {s0 : Int} {s1 : Int}  (hz : (s0 = s1)) (kt : Gx (jx_0 L) d md_L_law 915 [o0, o1, o2, o3] [] I Q) : Gx (jx_0 L) d md_L_law 270 [o0, o1, o2, o3] [.inl s1, .inl s0] I Q := by
  have hz1 := hz
  show jm_Go d 0 0 md_L_law 270 [o0, o1, o2, o3] [.inl s1, .inl s0] (jx (jx_0 L) I) (jx_Q (jx_0 L) Q)
  have hd : jm_dc md_L_law.2.1 270 [(.if_icmp .eq 645, 3)] = true := by decide +kernel
  exact go_icmp_eqT (by decide) hz1 hd kt
theorem b_L_law_273 {L : Nat} {d : Nat} {I : jm_I} {Q : Option jm_V → jm_I → Prop} {o0 : Option jm_V} {o1 : Option jm_V} {o2 : Option jm_V} {o3 : Option jm_V}  (k : Q (some (.inl 0)) I) : Gx (jx_0 L) d md_L_law 273 [o0, o1, o2, o3] [] I Q := by
  show jm_Go d 0 0 md_L_law 273 [o0, o1, o2, o3] [] (jx (jx_0 L) I) (jx_Q (jx_0 L) Q)
  have hd : jm_dc md_L_law.2.1 273 [(.iconst 0, 1), (.ireturn, 1)] = true := by decide +kernel
  refine go_iconst hd (fun hd => ?_)
  exact go_zreturn hd rfl (Or.inl rfl) ⟨_, rfl, k⟩
theorem b_L_law_275 {L : Nat} {d : Nat} {I : jm_I} {Q : Option jm_V → jm_I → Prop} {o2 : Option jm_V} {x3 : Int}  (hz : (0 ≤ x3 + 1 ∧ x3 + 1 < (L : Int)) ∧ (L < 2147483648) ∧ (0 ≤ x3 + 2 ∧ x3 + 2 < (L : Int)) ∧ (L < 2147483648)) (k : Cx (jx_0 L) d md_X_thing [.inr (.inl 1), .inl (I 0 (x3 + 1).toNat), .inl (I 0 (x3 + 2).toNat)] I (fun v J => Gx (jx_0 L) (d + 1) md_L_law 289 [some (.inr (.inl 0)), some (.inr (.inl 1)), o2, some (.inl x3)] (v.toList ++ []) J Q)) : Gx (jx_0 L) (d + 1) md_L_law 275 [some (.inr (.inl 0)), some (.inr (.inl 1)), o2, some (.inl x3)] [] I Q := by
  obtain ⟨hz1, hz2, hz3, hz4⟩ := hz
  show jm_Go (d + 1) 0 0 md_L_law 275 [some (.inr (.inl 0)), some (.inr (.inl 1)), o2, some (.inl x3)] [] (jx (jx_0 L) I) (jx_Q (jx_0 L) Q)
  have hd : jm_dc md_L_law.2.1 275 [(.aload_n 1, 1), (.aload_n 0, 1), (.iload_n 3, 1), (.iconst 1, 1), (.iadd, 1), (.iaload, 1), (.aload_n 0, 1), (.iload_n 3, 1), (.iconst 2, 1), (.iadd, 1), (.iaload, 1), (.invokevirtual 36, 3)] = true := by decide +kernel
  refine go_aload_n rfl hd (fun hd => ?_)
  refine go_aload_n rfl hd (fun hd => ?_)
  refine go_iload_n rfl hd (fun hd => ?_)
  refine go_iconst hd (fun hd => ?_)
  refine go_iadd hd (fun hd => ?_)
  refine go_sload hz1.1 hz1.2 hz2 hd (fun hd => ?_)
  refine go_aload_n rfl hd (fun hd => ?_)
  refine go_iload_n rfl hd (fun hd => ?_)
  refine go_iconst hd (fun hd => ?_)
  refine go_iadd hd (fun hd => ?_)
  refine go_sload hz3.1 hz3.2 hz4 hd (fun hd => ?_)
  exact gx_virtual 1 8 [.inl (I 0 (x3 + 1).toNat), .inl (I 0 (x3 + 2).toNat)] [] mk_X_thing co_X8 rfl ml_lw_36 in_X_thing se_X_thing rfl rfl (Nat.le_of_ble_eq_true rfl) rfl (Nat.le_of_ble_eq_true rfl) rfl hd k
theorem b_L_law_289 {L : Nat} {d : Nat} {I : jm_I} {Q : Option jm_V → jm_I → Prop} {o1 : Option jm_V} {x3 : Int} {s0 : Int}  (hz : (0 ≤ x3 + 1 ∧ x3 + 1 < (L : Int)) ∧ (L < 2147483648) ∧ (0 ≤ x3 + 2 ∧ x3 + 2 < (L : Int)) ∧ (L < 2147483648)) (k : Cx (jx_0 L) d md_M_thing [.inr (.inl 167), .inl (I 0 (x3 + 1).toNat), .inl (I 0 (x3 + 2).toNat)] I (fun v J => Gx (jx_0 L) (d + 1) md_L_law 303 [some (.inr (.inl 0)), o1, some (.inr (.inl 167)), some (.inl x3)] (v.toList ++ [.inl s0]) J Q)) : Gx (jx_0 L) (d + 1) md_L_law 289 [some (.inr (.inl 0)), o1, some (.inr (.inl 167)), some (.inl x3)] [.inl s0] I Q := by
  obtain ⟨hz1, hz2, hz3, hz4⟩ := hz
  show jm_Go (d + 1) 0 0 md_L_law 289 [some (.inr (.inl 0)), o1, some (.inr (.inl 167)), some (.inl x3)] [.inl s0] (jx (jx_0 L) I) (jx_Q (jx_0 L) Q)
  have hd : jm_dc md_L_law.2.1 289 [(.aload_n 2, 1), (.aload_n 0, 1), (.iload_n 3, 1), (.iconst 1, 1), (.iadd, 1), (.iaload, 1), (.aload_n 0, 1), (.iload_n 3, 1), (.iconst 2, 1), (.iadd, 1), (.iaload, 1), (.invokevirtual 39, 3)] = true := by decide +kernel
  refine go_aload_n rfl hd (fun hd => ?_)
  refine go_aload_n rfl hd (fun hd => ?_)
  refine go_iload_n rfl hd (fun hd => ?_)
  refine go_iconst hd (fun hd => ?_)
  refine go_iadd hd (fun hd => ?_)
  refine go_sload hz1.1 hz1.2 hz2 hd (fun hd => ?_)
  refine go_aload_n rfl hd (fun hd => ?_)
  refine go_iload_n rfl hd (fun hd => ?_)
  refine go_iconst hd (fun hd => ?_)
  refine go_iadd hd (fun hd => ?_)
  refine go_sload hz3.1 hz3.2 hz4 hd (fun hd => ?_)
  exact gx_virtual 167 9 [.inl (I 0 (x3 + 1).toNat), .inl (I 0 (x3 + 2).toNat)] [.inl s0] mk_M_thing co_X9 rfl ml_lw_39 in_M_thing se_M_thing rfl rfl (Nat.le_of_ble_eq_true rfl) rfl (Nat.le_of_ble_eq_true rfl) rfl hd k
theorem b_L_law_303 {L : Nat} {d : Nat} {I : jm_I} {Q : Option jm_V → jm_I → Prop} {o0 : Option jm_V} {o1 : Option jm_V} {o2 : Option jm_V} {o3 : Option jm_V} {s0 : Int} {s1 : Int}  (hz : (s0 = s1)) (kt : Gx (jx_0 L) d md_L_law 915 [o0, o1, o2, o3] [] I Q) : Gx (jx_0 L) d md_L_law 303 [o0, o1, o2, o3] [.inl s1, .inl s0] I Q := by
  have hz1 := hz
  show jm_Go d 0 0 md_L_law 303 [o0, o1, o2, o3] [.inl s1, .inl s0] (jx (jx_0 L) I) (jx_Q (jx_0 L) Q)
  have hd : jm_dc md_L_law.2.1 303 [(.if_icmp .eq 612, 3)] = true := by decide +kernel
  exact go_icmp_eqT (by decide) hz1 hd kt
theorem b_L_law_306 {L : Nat} {d : Nat} {I : jm_I} {Q : Option jm_V → jm_I → Prop} {o0 : Option jm_V} {o1 : Option jm_V} {o2 : Option jm_V} {o3 : Option jm_V}  (k : Q (some (.inl 0)) I) : Gx (jx_0 L) d md_L_law 306 [o0, o1, o2, o3] [] I Q := by
  show jm_Go d 0 0 md_L_law 306 [o0, o1, o2, o3] [] (jx (jx_0 L) I) (jx_Q (jx_0 L) Q)
  have hd : jm_dc md_L_law.2.1 306 [(.iconst 0, 1), (.ireturn, 1)] = true := by decide +kernel
  refine go_iconst hd (fun hd => ?_)
  exact go_zreturn hd rfl (Or.inl rfl) ⟨_, rfl, k⟩
theorem b_L_law_308 {L : Nat} {d : Nat} {I : jm_I} {Q : Option jm_V → jm_I → Prop} {o2 : Option jm_V} {x3 : Int}  (hz : (0 ≤ x3 + 1 ∧ x3 + 1 < (L : Int)) ∧ (L < 2147483648)) (k : Cx (jx_0 L) d md_X_now [.inr (.inl 1), .inl (I 0 (x3 + 1).toNat)] I (fun v J => Gx (jx_0 L) (d + 1) md_L_law 317 [some (.inr (.inl 0)), some (.inr (.inl 1)), o2, some (.inl x3)] (v.toList ++ []) J Q)) : Gx (jx_0 L) (d + 1) md_L_law 308 [some (.inr (.inl 0)), some (.inr (.inl 1)), o2, some (.inl x3)] [] I Q := by
  obtain ⟨hz1, hz2⟩ := hz
  show jm_Go (d + 1) 0 0 md_L_law 308 [some (.inr (.inl 0)), some (.inr (.inl 1)), o2, some (.inl x3)] [] (jx (jx_0 L) I) (jx_Q (jx_0 L) Q)
  have hd : jm_dc md_L_law.2.1 308 [(.aload_n 1, 1), (.aload_n 0, 1), (.iload_n 3, 1), (.iconst 1, 1), (.iadd, 1), (.iaload, 1), (.invokevirtual 40, 3)] = true := by decide +kernel
  refine go_aload_n rfl hd (fun hd => ?_)
  refine go_aload_n rfl hd (fun hd => ?_)
  refine go_iload_n rfl hd (fun hd => ?_)
  refine go_iconst hd (fun hd => ?_)
  refine go_iadd hd (fun hd => ?_)
  refine go_sload hz1.1 hz1.2 hz2 hd (fun hd => ?_)
  exact gx_virtual 1 8 [.inl (I 0 (x3 + 1).toNat)] [] mk_X_now co_X8 rfl ml_lw_40 in_X_now se_X_now rfl rfl (Nat.le_of_ble_eq_true rfl) rfl (Nat.le_of_ble_eq_true rfl) rfl hd k
theorem b_L_law_317 {L : Nat} {d : Nat} {I : jm_I} {Q : Option jm_V → jm_I → Prop} {o1 : Option jm_V} {x3 : Int} {s0 : Int}  (hz : (0 ≤ x3 + 1 ∧ x3 + 1 < (L : Int)) ∧ (L < 2147483648)) (k : Cx (jx_0 L) d md_M_now [.inr (.inl 167), .inl (I 0 (x3 + 1).toNat)] I (fun v J => Gx (jx_0 L) (d + 1) md_L_law 326 [some (.inr (.inl 0)), o1, some (.inr (.inl 167)), some (.inl x3)] (v.toList ++ [.inl s0]) J Q)) : Gx (jx_0 L) (d + 1) md_L_law 317 [some (.inr (.inl 0)), o1, some (.inr (.inl 167)), some (.inl x3)] [.inl s0] I Q := by
  obtain ⟨hz1, hz2⟩ := hz
  show jm_Go (d + 1) 0 0 md_L_law 317 [some (.inr (.inl 0)), o1, some (.inr (.inl 167)), some (.inl x3)] [.inl s0] (jx (jx_0 L) I) (jx_Q (jx_0 L) Q)
  have hd : jm_dc md_L_law.2.1 317 [(.aload_n 2, 1), (.aload_n 0, 1), (.iload_n 3, 1), (.iconst 1, 1), (.iadd, 1), (.iaload, 1), (.invokevirtual 43, 3)] = true := by decide +kernel
  refine go_aload_n rfl hd (fun hd => ?_)
  refine go_aload_n rfl hd (fun hd => ?_)
  refine go_iload_n rfl hd (fun hd => ?_)
  refine go_iconst hd (fun hd => ?_)
  refine go_iadd hd (fun hd => ?_)
  refine go_sload hz1.1 hz1.2 hz2 hd (fun hd => ?_)
  exact gx_virtual 167 9 [.inl (I 0 (x3 + 1).toNat)] [.inl s0] mk_M_now co_X9 rfl ml_lw_43 in_M_now se_M_now rfl rfl (Nat.le_of_ble_eq_true rfl) rfl (Nat.le_of_ble_eq_true rfl) rfl hd k
theorem b_L_law_326 {L : Nat} {d : Nat} {I : jm_I} {Q : Option jm_V → jm_I → Prop} {o0 : Option jm_V} {o1 : Option jm_V} {o2 : Option jm_V} {o3 : Option jm_V} {s0 : Int} {s1 : Int}  (hz : (s0 = s1)) (kt : Gx (jx_0 L) d md_L_law 915 [o0, o1, o2, o3] [] I Q) : Gx (jx_0 L) d md_L_law 326 [o0, o1, o2, o3] [.inl s1, .inl s0] I Q := by
  have hz1 := hz
  show jm_Go d 0 0 md_L_law 326 [o0, o1, o2, o3] [.inl s1, .inl s0] (jx (jx_0 L) I) (jx_Q (jx_0 L) Q)
  have hd : jm_dc md_L_law.2.1 326 [(.if_icmp .eq 589, 3)] = true := by decide +kernel
  exact go_icmp_eqT (by decide) hz1 hd kt
theorem b_L_law_329 {L : Nat} {d : Nat} {I : jm_I} {Q : Option jm_V → jm_I → Prop} {o0 : Option jm_V} {o1 : Option jm_V} {o2 : Option jm_V} {o3 : Option jm_V}  (k : Q (some (.inl 0)) I) : Gx (jx_0 L) d md_L_law 329 [o0, o1, o2, o3] [] I Q := by
  show jm_Go d 0 0 md_L_law 329 [o0, o1, o2, o3] [] (jx (jx_0 L) I) (jx_Q (jx_0 L) Q)
  have hd : jm_dc md_L_law.2.1 329 [(.iconst 0, 1), (.ireturn, 1)] = true := by decide +kernel
  refine go_iconst hd (fun hd => ?_)
  exact go_zreturn hd rfl (Or.inl rfl) ⟨_, rfl, k⟩
theorem b_L_law_331 {L : Nat} {d : Nat} {I : jm_I} {Q : Option jm_V → jm_I → Prop} {o0 : Option jm_V} {o2 : Option jm_V} {o3 : Option jm_V}  (k : Cx (jx_0 L) d md_X_second [.inr (.inl 1)] I (fun v J => Gx (jx_0 L) (d + 1) md_L_law 335 [o0, some (.inr (.inl 1)), o2, o3] (v.toList ++ []) J Q)) : Gx (jx_0 L) (d + 1) md_L_law 331 [o0, some (.inr (.inl 1)), o2, o3] [] I Q := by
  show jm_Go (d + 1) 0 0 md_L_law 331 [o0, some (.inr (.inl 1)), o2, o3] [] (jx (jx_0 L) I) (jx_Q (jx_0 L) Q)
  have hd : jm_dc md_L_law.2.1 331 [(.aload_n 1, 1), (.invokevirtual 44, 3)] = true := by decide +kernel
  refine go_aload_n rfl hd (fun hd => ?_)
  exact gx_virtual 1 8 [] [] mk_X_second co_X8 rfl ml_lw_44 in_X_second se_X_second rfl rfl (Nat.le_of_ble_eq_true rfl) rfl (Nat.le_of_ble_eq_true rfl) rfl hd k
theorem b_L_law_335 {L : Nat} {d : Nat} {I : jm_I} {Q : Option jm_V → jm_I → Prop} {o0 : Option jm_V} {o1 : Option jm_V} {o3 : Option jm_V} {s0 : Int}  (k : Cx (jx_0 L) d md_M_second [.inr (.inl 167)] I (fun v J => Gx (jx_0 L) (d + 1) md_L_law 339 [o0, o1, some (.inr (.inl 167)), o3] (v.toList ++ [.inl s0]) J Q)) : Gx (jx_0 L) (d + 1) md_L_law 335 [o0, o1, some (.inr (.inl 167)), o3] [.inl s0] I Q := by
  show jm_Go (d + 1) 0 0 md_L_law 335 [o0, o1, some (.inr (.inl 167)), o3] [.inl s0] (jx (jx_0 L) I) (jx_Q (jx_0 L) Q)
  have hd : jm_dc md_L_law.2.1 335 [(.aload_n 2, 1), (.invokevirtual 47, 3)] = true := by decide +kernel
  refine go_aload_n rfl hd (fun hd => ?_)
  exact gx_virtual 167 9 [] [.inl s0] mk_M_second co_X9 rfl ml_lw_47 in_M_second se_M_second rfl rfl (Nat.le_of_ble_eq_true rfl) rfl (Nat.le_of_ble_eq_true rfl) rfl hd k
theorem b_L_law_339 {L : Nat} {d : Nat} {I : jm_I} {Q : Option jm_V → jm_I → Prop} {o0 : Option jm_V} {o1 : Option jm_V} {o2 : Option jm_V} {o3 : Option jm_V} {s0 : Int} {s1 : Int}  (hz : (s0 = s1)) (kt : Gx (jx_0 L) d md_L_law 915 [o0, o1, o2, o3] [] I Q) : Gx (jx_0 L) d md_L_law 339 [o0, o1, o2, o3] [.inl s1, .inl s0] I Q := by
  have hz1 := hz
  show jm_Go d 0 0 md_L_law 339 [o0, o1, o2, o3] [.inl s1, .inl s0] (jx (jx_0 L) I) (jx_Q (jx_0 L) Q)
  have hd : jm_dc md_L_law.2.1 339 [(.if_icmp .eq 576, 3)] = true := by decide +kernel
  exact go_icmp_eqT (by decide) hz1 hd kt
theorem b_L_law_342 {L : Nat} {d : Nat} {I : jm_I} {Q : Option jm_V → jm_I → Prop} {o0 : Option jm_V} {o1 : Option jm_V} {o2 : Option jm_V} {o3 : Option jm_V}  (k : Q (some (.inl 0)) I) : Gx (jx_0 L) d md_L_law 342 [o0, o1, o2, o3] [] I Q := by
  show jm_Go d 0 0 md_L_law 342 [o0, o1, o2, o3] [] (jx (jx_0 L) I) (jx_Q (jx_0 L) Q)
  have hd : jm_dc md_L_law.2.1 342 [(.iconst 0, 1), (.ireturn, 1)] = true := by decide +kernel
  refine go_iconst hd (fun hd => ?_)
  exact go_zreturn hd rfl (Or.inl rfl) ⟨_, rfl, k⟩
theorem b_L_law_344 {L : Nat} {d : Nat} {I : jm_I} {Q : Option jm_V → jm_I → Prop} {o2 : Option jm_V} {x3 : Int}  (hz : (0 ≤ x3 + 1 ∧ x3 + 1 < (L : Int)) ∧ (L < 2147483648)) (k : Cx (jx_0 L) d md_X_press [.inr (.inl 1), .inl (I 0 (x3 + 1).toNat)] I (fun v J => Gx (jx_0 L) (d + 1) md_L_law 353 [some (.inr (.inl 0)), some (.inr (.inl 1)), o2, some (.inl x3)] (v.toList ++ []) J Q)) : Gx (jx_0 L) (d + 1) md_L_law 344 [some (.inr (.inl 0)), some (.inr (.inl 1)), o2, some (.inl x3)] [] I Q := by
  obtain ⟨hz1, hz2⟩ := hz
  show jm_Go (d + 1) 0 0 md_L_law 344 [some (.inr (.inl 0)), some (.inr (.inl 1)), o2, some (.inl x3)] [] (jx (jx_0 L) I) (jx_Q (jx_0 L) Q)
  have hd : jm_dc md_L_law.2.1 344 [(.aload_n 1, 1), (.aload_n 0, 1), (.iload_n 3, 1), (.iconst 1, 1), (.iadd, 1), (.iaload, 1), (.invokevirtual 48, 3)] = true := by decide +kernel
  refine go_aload_n rfl hd (fun hd => ?_)
  refine go_aload_n rfl hd (fun hd => ?_)
  refine go_iload_n rfl hd (fun hd => ?_)
  refine go_iconst hd (fun hd => ?_)
  refine go_iadd hd (fun hd => ?_)
  refine go_sload hz1.1 hz1.2 hz2 hd (fun hd => ?_)
  exact gx_virtual 1 8 [.inl (I 0 (x3 + 1).toNat)] [] mk_X_press co_X8 rfl ml_lw_48 in_X_press se_X_press rfl rfl (Nat.le_of_ble_eq_true rfl) rfl (Nat.le_of_ble_eq_true rfl) rfl hd k
theorem b_L_law_353 {L : Nat} {d : Nat} {I : jm_I} {Q : Option jm_V → jm_I → Prop} {o1 : Option jm_V} {x3 : Int} {s0 : Int}  (hz : (0 ≤ x3 + 1 ∧ x3 + 1 < (L : Int)) ∧ (L < 2147483648)) (k : Cx (jx_0 L) d md_M_press [.inr (.inl 167), .inl (I 0 (x3 + 1).toNat)] I (fun v J => Gx (jx_0 L) (d + 1) md_L_law 362 [some (.inr (.inl 0)), o1, some (.inr (.inl 167)), some (.inl x3)] (v.toList ++ [.inl s0]) J Q)) : Gx (jx_0 L) (d + 1) md_L_law 353 [some (.inr (.inl 0)), o1, some (.inr (.inl 167)), some (.inl x3)] [.inl s0] I Q := by
  obtain ⟨hz1, hz2⟩ := hz
  show jm_Go (d + 1) 0 0 md_L_law 353 [some (.inr (.inl 0)), o1, some (.inr (.inl 167)), some (.inl x3)] [.inl s0] (jx (jx_0 L) I) (jx_Q (jx_0 L) Q)
  have hd : jm_dc md_L_law.2.1 353 [(.aload_n 2, 1), (.aload_n 0, 1), (.iload_n 3, 1), (.iconst 1, 1), (.iadd, 1), (.iaload, 1), (.invokevirtual 51, 3)] = true := by decide +kernel
  refine go_aload_n rfl hd (fun hd => ?_)
  refine go_aload_n rfl hd (fun hd => ?_)
  refine go_iload_n rfl hd (fun hd => ?_)
  refine go_iconst hd (fun hd => ?_)
  refine go_iadd hd (fun hd => ?_)
  refine go_sload hz1.1 hz1.2 hz2 hd (fun hd => ?_)
  exact gx_virtual 167 9 [.inl (I 0 (x3 + 1).toNat)] [.inl s0] mk_M_press co_X9 rfl ml_lw_51 in_M_press se_M_press rfl rfl (Nat.le_of_ble_eq_true rfl) rfl (Nat.le_of_ble_eq_true rfl) rfl hd k
theorem b_L_law_362 {L : Nat} {d : Nat} {I : jm_I} {Q : Option jm_V → jm_I → Prop} {o0 : Option jm_V} {o1 : Option jm_V} {o2 : Option jm_V} {o3 : Option jm_V} {s0 : Int} {s1 : Int}  (hz : (s0 = s1)) (kt : Gx (jx_0 L) d md_L_law 915 [o0, o1, o2, o3] [] I Q) : Gx (jx_0 L) d md_L_law 362 [o0, o1, o2, o3] [.inl s1, .inl s0] I Q := by
  have hz1 := hz
  show jm_Go d 0 0 md_L_law 362 [o0, o1, o2, o3] [.inl s1, .inl s0] (jx (jx_0 L) I) (jx_Q (jx_0 L) Q)
  have hd : jm_dc md_L_law.2.1 362 [(.if_icmp .eq 553, 3)] = true := by decide +kernel
  exact go_icmp_eqT (by decide) hz1 hd kt
theorem b_L_law_365 {L : Nat} {d : Nat} {I : jm_I} {Q : Option jm_V → jm_I → Prop} {o0 : Option jm_V} {o1 : Option jm_V} {o2 : Option jm_V} {o3 : Option jm_V}  (k : Q (some (.inl 0)) I) : Gx (jx_0 L) d md_L_law 365 [o0, o1, o2, o3] [] I Q := by
  show jm_Go d 0 0 md_L_law 365 [o0, o1, o2, o3] [] (jx (jx_0 L) I) (jx_Q (jx_0 L) Q)
  have hd : jm_dc md_L_law.2.1 365 [(.iconst 0, 1), (.ireturn, 1)] = true := by decide +kernel
  refine go_iconst hd (fun hd => ?_)
  exact go_zreturn hd rfl (Or.inl rfl) ⟨_, rfl, k⟩
theorem b_L_law_367 {L : Nat} {d : Nat} {I : jm_I} {Q : Option jm_V → jm_I → Prop} {o2 : Option jm_V} {x3 : Int}  (hz : (0 ≤ x3 + 1 ∧ x3 + 1 < (L : Int)) ∧ (L < 2147483648) ∧ (0 ≤ x3 + 2 ∧ x3 + 2 < (L : Int)) ∧ (L < 2147483648) ∧ (0 ≤ x3 + 3 ∧ x3 + 3 < (L : Int)) ∧ (L < 2147483648)) (k : Cx (jx_0 L) d md_X_carry [.inr (.inl 1), .inl (I 0 (x3 + 1).toNat), .inl (I 0 (x3 + 2).toNat), .inl (I 0 (x3 + 3).toNat)] I (fun v J => Gx (jx_0 L) (d + 1) md_L_law 386 [some (.inr (.inl 0)), some (.inr (.inl 1)), o2, some (.inl x3)] (v.toList ++ []) J Q)) : Gx (jx_0 L) (d + 1) md_L_law 367 [some (.inr (.inl 0)), some (.inr (.inl 1)), o2, some (.inl x3)] [] I Q := by
  obtain ⟨hz1, hz2, hz3, hz4, hz5, hz6⟩ := hz
  show jm_Go (d + 1) 0 0 md_L_law 367 [some (.inr (.inl 0)), some (.inr (.inl 1)), o2, some (.inl x3)] [] (jx (jx_0 L) I) (jx_Q (jx_0 L) Q)
  have hd : jm_dc md_L_law.2.1 367 [(.aload_n 1, 1), (.aload_n 0, 1), (.iload_n 3, 1), (.iconst 1, 1), (.iadd, 1), (.iaload, 1), (.aload_n 0, 1), (.iload_n 3, 1), (.iconst 2, 1), (.iadd, 1), (.iaload, 1), (.aload_n 0, 1), (.iload_n 3, 1), (.iconst 3, 1), (.iadd, 1), (.iaload, 1), (.invokevirtual 52, 3)] = true := by decide +kernel
  refine go_aload_n rfl hd (fun hd => ?_)
  refine go_aload_n rfl hd (fun hd => ?_)
  refine go_iload_n rfl hd (fun hd => ?_)
  refine go_iconst hd (fun hd => ?_)
  refine go_iadd hd (fun hd => ?_)
  refine go_sload hz1.1 hz1.2 hz2 hd (fun hd => ?_)
  refine go_aload_n rfl hd (fun hd => ?_)
  refine go_iload_n rfl hd (fun hd => ?_)
  refine go_iconst hd (fun hd => ?_)
  refine go_iadd hd (fun hd => ?_)
  refine go_sload hz3.1 hz3.2 hz4 hd (fun hd => ?_)
  refine go_aload_n rfl hd (fun hd => ?_)
  refine go_iload_n rfl hd (fun hd => ?_)
  refine go_iconst hd (fun hd => ?_)
  refine go_iadd hd (fun hd => ?_)
  refine go_sload hz5.1 hz5.2 hz6 hd (fun hd => ?_)
  exact gx_virtual 1 8 [.inl (I 0 (x3 + 1).toNat), .inl (I 0 (x3 + 2).toNat), .inl (I 0 (x3 + 3).toNat)] [] mk_X_carry co_X8 rfl ml_lw_52 in_X_carry se_X_carry rfl rfl (Nat.le_of_ble_eq_true rfl) rfl (Nat.le_of_ble_eq_true rfl) rfl hd k
theorem b_L_law_386 {L : Nat} {d : Nat} {I : jm_I} {Q : Option jm_V → jm_I → Prop} {o1 : Option jm_V} {x3 : Int} {s0 : Int}  (hz : (0 ≤ x3 + 1 ∧ x3 + 1 < (L : Int)) ∧ (L < 2147483648) ∧ (0 ≤ x3 + 2 ∧ x3 + 2 < (L : Int)) ∧ (L < 2147483648) ∧ (0 ≤ x3 + 3 ∧ x3 + 3 < (L : Int)) ∧ (L < 2147483648)) (k : Cx (jx_0 L) d md_M_carry [.inr (.inl 167), .inl (I 0 (x3 + 1).toNat), .inl (I 0 (x3 + 2).toNat), .inl (I 0 (x3 + 3).toNat)] I (fun v J => Gx (jx_0 L) (d + 1) md_L_law 405 [some (.inr (.inl 0)), o1, some (.inr (.inl 167)), some (.inl x3)] (v.toList ++ [.inl s0]) J Q)) : Gx (jx_0 L) (d + 1) md_L_law 386 [some (.inr (.inl 0)), o1, some (.inr (.inl 167)), some (.inl x3)] [.inl s0] I Q := by
  obtain ⟨hz1, hz2, hz3, hz4, hz5, hz6⟩ := hz
  show jm_Go (d + 1) 0 0 md_L_law 386 [some (.inr (.inl 0)), o1, some (.inr (.inl 167)), some (.inl x3)] [.inl s0] (jx (jx_0 L) I) (jx_Q (jx_0 L) Q)
  have hd : jm_dc md_L_law.2.1 386 [(.aload_n 2, 1), (.aload_n 0, 1), (.iload_n 3, 1), (.iconst 1, 1), (.iadd, 1), (.iaload, 1), (.aload_n 0, 1), (.iload_n 3, 1), (.iconst 2, 1), (.iadd, 1), (.iaload, 1), (.aload_n 0, 1), (.iload_n 3, 1), (.iconst 3, 1), (.iadd, 1), (.iaload, 1), (.invokevirtual 56, 3)] = true := by decide +kernel
  refine go_aload_n rfl hd (fun hd => ?_)
  refine go_aload_n rfl hd (fun hd => ?_)
  refine go_iload_n rfl hd (fun hd => ?_)
  refine go_iconst hd (fun hd => ?_)
  refine go_iadd hd (fun hd => ?_)
  refine go_sload hz1.1 hz1.2 hz2 hd (fun hd => ?_)
  refine go_aload_n rfl hd (fun hd => ?_)
  refine go_iload_n rfl hd (fun hd => ?_)
  refine go_iconst hd (fun hd => ?_)
  refine go_iadd hd (fun hd => ?_)
  refine go_sload hz3.1 hz3.2 hz4 hd (fun hd => ?_)
  refine go_aload_n rfl hd (fun hd => ?_)
  refine go_iload_n rfl hd (fun hd => ?_)
  refine go_iconst hd (fun hd => ?_)
  refine go_iadd hd (fun hd => ?_)
  refine go_sload hz5.1 hz5.2 hz6 hd (fun hd => ?_)
  exact gx_virtual 167 9 [.inl (I 0 (x3 + 1).toNat), .inl (I 0 (x3 + 2).toNat), .inl (I 0 (x3 + 3).toNat)] [.inl s0] mk_M_carry co_X9 rfl ml_lw_56 in_M_carry se_M_carry rfl rfl (Nat.le_of_ble_eq_true rfl) rfl (Nat.le_of_ble_eq_true rfl) rfl hd k
theorem b_L_law_405 {L : Nat} {d : Nat} {I : jm_I} {Q : Option jm_V → jm_I → Prop} {o0 : Option jm_V} {o1 : Option jm_V} {o2 : Option jm_V} {o3 : Option jm_V} {s0 : Int} {s1 : Int}  (hz : (s0 = s1)) (kt : Gx (jx_0 L) d md_L_law 915 [o0, o1, o2, o3] [] I Q) : Gx (jx_0 L) d md_L_law 405 [o0, o1, o2, o3] [.inl s1, .inl s0] I Q := by
  have hz1 := hz
  show jm_Go d 0 0 md_L_law 405 [o0, o1, o2, o3] [.inl s1, .inl s0] (jx (jx_0 L) I) (jx_Q (jx_0 L) Q)
  have hd : jm_dc md_L_law.2.1 405 [(.if_icmp .eq 510, 3)] = true := by decide +kernel
  exact go_icmp_eqT (by decide) hz1 hd kt
theorem b_L_law_408 {L : Nat} {d : Nat} {I : jm_I} {Q : Option jm_V → jm_I → Prop} {o0 : Option jm_V} {o1 : Option jm_V} {o2 : Option jm_V} {o3 : Option jm_V}  (k : Q (some (.inl 0)) I) : Gx (jx_0 L) d md_L_law 408 [o0, o1, o2, o3] [] I Q := by
  show jm_Go d 0 0 md_L_law 408 [o0, o1, o2, o3] [] (jx (jx_0 L) I) (jx_Q (jx_0 L) Q)
  have hd : jm_dc md_L_law.2.1 408 [(.iconst 0, 1), (.ireturn, 1)] = true := by decide +kernel
  refine go_iconst hd (fun hd => ?_)
  exact go_zreturn hd rfl (Or.inl rfl) ⟨_, rfl, k⟩
theorem b_L_law_410 {L : Nat} {d : Nat} {I : jm_I} {Q : Option jm_V → jm_I → Prop} {o2 : Option jm_V} {x3 : Int}  (hz : (0 ≤ x3 + 1 ∧ x3 + 1 < (L : Int)) ∧ (L < 2147483648) ∧ (0 ≤ x3 + 2 ∧ x3 + 2 < (L : Int)) ∧ (L < 2147483648)) (k : Cx (jx_0 L) d md_X_walk [.inr (.inl 1), .inl (I 0 (x3 + 1).toNat), .inl (I 0 (x3 + 2).toNat)] I (fun v J => Gx (jx_0 L) (d + 1) md_L_law 424 [some (.inr (.inl 0)), some (.inr (.inl 1)), o2, some (.inl x3)] (v.toList ++ []) J Q)) : Gx (jx_0 L) (d + 1) md_L_law 410 [some (.inr (.inl 0)), some (.inr (.inl 1)), o2, some (.inl x3)] [] I Q := by
  obtain ⟨hz1, hz2, hz3, hz4⟩ := hz
  show jm_Go (d + 1) 0 0 md_L_law 410 [some (.inr (.inl 0)), some (.inr (.inl 1)), o2, some (.inl x3)] [] (jx (jx_0 L) I) (jx_Q (jx_0 L) Q)
  have hd : jm_dc md_L_law.2.1 410 [(.aload_n 1, 1), (.aload_n 0, 1), (.iload_n 3, 1), (.iconst 1, 1), (.iadd, 1), (.iaload, 1), (.aload_n 0, 1), (.iload_n 3, 1), (.iconst 2, 1), (.iadd, 1), (.iaload, 1), (.invokevirtual 57, 3)] = true := by decide +kernel
  refine go_aload_n rfl hd (fun hd => ?_)
  refine go_aload_n rfl hd (fun hd => ?_)
  refine go_iload_n rfl hd (fun hd => ?_)
  refine go_iconst hd (fun hd => ?_)
  refine go_iadd hd (fun hd => ?_)
  refine go_sload hz1.1 hz1.2 hz2 hd (fun hd => ?_)
  refine go_aload_n rfl hd (fun hd => ?_)
  refine go_iload_n rfl hd (fun hd => ?_)
  refine go_iconst hd (fun hd => ?_)
  refine go_iadd hd (fun hd => ?_)
  refine go_sload hz3.1 hz3.2 hz4 hd (fun hd => ?_)
  exact gx_virtual 1 8 [.inl (I 0 (x3 + 1).toNat), .inl (I 0 (x3 + 2).toNat)] [] mk_X_walk co_X8 rfl ml_lw_57 in_X_walk se_X_walk rfl rfl (Nat.le_of_ble_eq_true rfl) rfl (Nat.le_of_ble_eq_true rfl) rfl hd k
theorem b_L_law_424 {L : Nat} {d : Nat} {I : jm_I} {Q : Option jm_V → jm_I → Prop} {o1 : Option jm_V} {x3 : Int} {s0 : Int}  (hz : (0 ≤ x3 + 1 ∧ x3 + 1 < (L : Int)) ∧ (L < 2147483648) ∧ (0 ≤ x3 + 2 ∧ x3 + 2 < (L : Int)) ∧ (L < 2147483648)) (k : Cx (jx_0 L) d md_M_walk [.inr (.inl 167), .inl (I 0 (x3 + 1).toNat), .inl (I 0 (x3 + 2).toNat)] I (fun v J => Gx (jx_0 L) (d + 1) md_L_law 438 [some (.inr (.inl 0)), o1, some (.inr (.inl 167)), some (.inl x3)] (v.toList ++ [.inl s0]) J Q)) : Gx (jx_0 L) (d + 1) md_L_law 424 [some (.inr (.inl 0)), o1, some (.inr (.inl 167)), some (.inl x3)] [.inl s0] I Q := by
  obtain ⟨hz1, hz2, hz3, hz4⟩ := hz
  show jm_Go (d + 1) 0 0 md_L_law 424 [some (.inr (.inl 0)), o1, some (.inr (.inl 167)), some (.inl x3)] [.inl s0] (jx (jx_0 L) I) (jx_Q (jx_0 L) Q)
  have hd : jm_dc md_L_law.2.1 424 [(.aload_n 2, 1), (.aload_n 0, 1), (.iload_n 3, 1), (.iconst 1, 1), (.iadd, 1), (.iaload, 1), (.aload_n 0, 1), (.iload_n 3, 1), (.iconst 2, 1), (.iadd, 1), (.iaload, 1), (.invokevirtual 60, 3)] = true := by decide +kernel
  refine go_aload_n rfl hd (fun hd => ?_)
  refine go_aload_n rfl hd (fun hd => ?_)
  refine go_iload_n rfl hd (fun hd => ?_)
  refine go_iconst hd (fun hd => ?_)
  refine go_iadd hd (fun hd => ?_)
  refine go_sload hz1.1 hz1.2 hz2 hd (fun hd => ?_)
  refine go_aload_n rfl hd (fun hd => ?_)
  refine go_iload_n rfl hd (fun hd => ?_)
  refine go_iconst hd (fun hd => ?_)
  refine go_iadd hd (fun hd => ?_)
  refine go_sload hz3.1 hz3.2 hz4 hd (fun hd => ?_)
  exact gx_virtual 167 9 [.inl (I 0 (x3 + 1).toNat), .inl (I 0 (x3 + 2).toNat)] [.inl s0] mk_M_walk co_X9 rfl ml_lw_60 in_M_walk se_M_walk rfl rfl (Nat.le_of_ble_eq_true rfl) rfl (Nat.le_of_ble_eq_true rfl) rfl hd k
theorem b_L_law_438 {L : Nat} {d : Nat} {I : jm_I} {Q : Option jm_V → jm_I → Prop} {o0 : Option jm_V} {o1 : Option jm_V} {o2 : Option jm_V} {o3 : Option jm_V} {s0 : Int} {s1 : Int}  (hz : (s0 = s1)) (kt : Gx (jx_0 L) d md_L_law 915 [o0, o1, o2, o3] [] I Q) : Gx (jx_0 L) d md_L_law 438 [o0, o1, o2, o3] [.inl s1, .inl s0] I Q := by
  have hz1 := hz
  show jm_Go d 0 0 md_L_law 438 [o0, o1, o2, o3] [.inl s1, .inl s0] (jx (jx_0 L) I) (jx_Q (jx_0 L) Q)
  have hd : jm_dc md_L_law.2.1 438 [(.if_icmp .eq 477, 3)] = true := by decide +kernel
  exact go_icmp_eqT (by decide) hz1 hd kt
theorem b_L_law_441 {L : Nat} {d : Nat} {I : jm_I} {Q : Option jm_V → jm_I → Prop} {o0 : Option jm_V} {o1 : Option jm_V} {o2 : Option jm_V} {o3 : Option jm_V}  (k : Q (some (.inl 0)) I) : Gx (jx_0 L) d md_L_law 441 [o0, o1, o2, o3] [] I Q := by
  show jm_Go d 0 0 md_L_law 441 [o0, o1, o2, o3] [] (jx (jx_0 L) I) (jx_Q (jx_0 L) Q)
  have hd : jm_dc md_L_law.2.1 441 [(.iconst 0, 1), (.ireturn, 1)] = true := by decide +kernel
  refine go_iconst hd (fun hd => ?_)
  exact go_zreturn hd rfl (Or.inl rfl) ⟨_, rfl, k⟩
theorem b_L_law_443 {L : Nat} {d : Nat} {I : jm_I} {Q : Option jm_V → jm_I → Prop} {o0 : Option jm_V} {o2 : Option jm_V} {o3 : Option jm_V}  (k : Cx (jx_0 L) d md_X_undo [.inr (.inl 1)] I (fun v J => Gx (jx_0 L) (d + 1) md_L_law 447 [o0, some (.inr (.inl 1)), o2, o3] (v.toList ++ []) J Q)) : Gx (jx_0 L) (d + 1) md_L_law 443 [o0, some (.inr (.inl 1)), o2, o3] [] I Q := by
  show jm_Go (d + 1) 0 0 md_L_law 443 [o0, some (.inr (.inl 1)), o2, o3] [] (jx (jx_0 L) I) (jx_Q (jx_0 L) Q)
  have hd : jm_dc md_L_law.2.1 443 [(.aload_n 1, 1), (.invokevirtual 61, 3)] = true := by decide +kernel
  refine go_aload_n rfl hd (fun hd => ?_)
  exact gx_virtual 1 8 [] [] mk_X_undo co_X8 rfl ml_lw_61 in_X_undo se_X_undo rfl rfl (Nat.le_of_ble_eq_true rfl) rfl (Nat.le_of_ble_eq_true rfl) rfl hd k
theorem b_L_law_447 {L : Nat} {d : Nat} {I : jm_I} {Q : Option jm_V → jm_I → Prop} {o0 : Option jm_V} {o1 : Option jm_V} {o3 : Option jm_V} {s0 : Int}  (k : Cx (jx_0 L) d md_M_undo [.inr (.inl 167)] I (fun v J => Gx (jx_0 L) (d + 1) md_L_law 451 [o0, o1, some (.inr (.inl 167)), o3] (v.toList ++ [.inl s0]) J Q)) : Gx (jx_0 L) (d + 1) md_L_law 447 [o0, o1, some (.inr (.inl 167)), o3] [.inl s0] I Q := by
  show jm_Go (d + 1) 0 0 md_L_law 447 [o0, o1, some (.inr (.inl 167)), o3] [.inl s0] (jx (jx_0 L) I) (jx_Q (jx_0 L) Q)
  have hd : jm_dc md_L_law.2.1 447 [(.aload_n 2, 1), (.invokevirtual 64, 3)] = true := by decide +kernel
  refine go_aload_n rfl hd (fun hd => ?_)
  exact gx_virtual 167 9 [] [.inl s0] mk_M_undo co_X9 rfl ml_lw_64 in_M_undo se_M_undo rfl rfl (Nat.le_of_ble_eq_true rfl) rfl (Nat.le_of_ble_eq_true rfl) rfl hd k
theorem b_L_law_451 {L : Nat} {d : Nat} {I : jm_I} {Q : Option jm_V → jm_I → Prop} {o0 : Option jm_V} {o1 : Option jm_V} {o2 : Option jm_V} {o3 : Option jm_V} {s0 : Int} {s1 : Int}  (hz : (s0 = s1)) (kt : Gx (jx_0 L) d md_L_law 915 [o0, o1, o2, o3] [] I Q) : Gx (jx_0 L) d md_L_law 451 [o0, o1, o2, o3] [.inl s1, .inl s0] I Q := by
  have hz1 := hz
  show jm_Go d 0 0 md_L_law 451 [o0, o1, o2, o3] [.inl s1, .inl s0] (jx (jx_0 L) I) (jx_Q (jx_0 L) Q)
  have hd : jm_dc md_L_law.2.1 451 [(.if_icmp .eq 464, 3)] = true := by decide +kernel
  exact go_icmp_eqT (by decide) hz1 hd kt
theorem b_L_law_454 {L : Nat} {d : Nat} {I : jm_I} {Q : Option jm_V → jm_I → Prop} {o0 : Option jm_V} {o1 : Option jm_V} {o2 : Option jm_V} {o3 : Option jm_V}  (k : Q (some (.inl 0)) I) : Gx (jx_0 L) d md_L_law 454 [o0, o1, o2, o3] [] I Q := by
  show jm_Go d 0 0 md_L_law 454 [o0, o1, o2, o3] [] (jx (jx_0 L) I) (jx_Q (jx_0 L) Q)
  have hd : jm_dc md_L_law.2.1 454 [(.iconst 0, 1), (.ireturn, 1)] = true := by decide +kernel
  refine go_iconst hd (fun hd => ?_)
  exact go_zreturn hd rfl (Or.inl rfl) ⟨_, rfl, k⟩
theorem b_L_law_456 {L : Nat} {d : Nat} {I : jm_I} {Q : Option jm_V → jm_I → Prop} {o2 : Option jm_V} {x3 : Int}  (hz : (0 ≤ x3 + 1 ∧ x3 + 1 < (L : Int)) ∧ (L < 2147483648) ∧ (0 ≤ x3 + 2 ∧ x3 + 2 < (L : Int)) ∧ (L < 2147483648)) (k : Cx (jx_0 L) d md_X_where [.inr (.inl 1), .inl (I 0 (x3 + 1).toNat), .inl (I 0 (x3 + 2).toNat)] I (fun v J => Gx (jx_0 L) (d + 1) md_L_law 470 [some (.inr (.inl 0)), some (.inr (.inl 1)), o2, some (.inl x3)] (v.toList ++ []) J Q)) : Gx (jx_0 L) (d + 1) md_L_law 456 [some (.inr (.inl 0)), some (.inr (.inl 1)), o2, some (.inl x3)] [] I Q := by
  obtain ⟨hz1, hz2, hz3, hz4⟩ := hz
  show jm_Go (d + 1) 0 0 md_L_law 456 [some (.inr (.inl 0)), some (.inr (.inl 1)), o2, some (.inl x3)] [] (jx (jx_0 L) I) (jx_Q (jx_0 L) Q)
  have hd : jm_dc md_L_law.2.1 456 [(.aload_n 1, 1), (.aload_n 0, 1), (.iload_n 3, 1), (.iconst 1, 1), (.iadd, 1), (.iaload, 1), (.aload_n 0, 1), (.iload_n 3, 1), (.iconst 2, 1), (.iadd, 1), (.iaload, 1), (.invokevirtual 65, 3)] = true := by decide +kernel
  refine go_aload_n rfl hd (fun hd => ?_)
  refine go_aload_n rfl hd (fun hd => ?_)
  refine go_iload_n rfl hd (fun hd => ?_)
  refine go_iconst hd (fun hd => ?_)
  refine go_iadd hd (fun hd => ?_)
  refine go_sload hz1.1 hz1.2 hz2 hd (fun hd => ?_)
  refine go_aload_n rfl hd (fun hd => ?_)
  refine go_iload_n rfl hd (fun hd => ?_)
  refine go_iconst hd (fun hd => ?_)
  refine go_iadd hd (fun hd => ?_)
  refine go_sload hz3.1 hz3.2 hz4 hd (fun hd => ?_)
  exact gx_virtual 1 8 [.inl (I 0 (x3 + 1).toNat), .inl (I 0 (x3 + 2).toNat)] [] mk_X_where co_X8 rfl ml_lw_65 in_X_where se_X_where rfl rfl (Nat.le_of_ble_eq_true rfl) rfl (Nat.le_of_ble_eq_true rfl) rfl hd k
theorem b_L_law_470 {L : Nat} {d : Nat} {I : jm_I} {Q : Option jm_V → jm_I → Prop} {o1 : Option jm_V} {x3 : Int} {s0 : Int}  (hz : (0 ≤ x3 + 1 ∧ x3 + 1 < (L : Int)) ∧ (L < 2147483648) ∧ (0 ≤ x3 + 2 ∧ x3 + 2 < (L : Int)) ∧ (L < 2147483648)) (k : Cx (jx_0 L) d md_M_where [.inr (.inl 167), .inl (I 0 (x3 + 1).toNat), .inl (I 0 (x3 + 2).toNat)] I (fun v J => Gx (jx_0 L) (d + 1) md_L_law 484 [some (.inr (.inl 0)), o1, some (.inr (.inl 167)), some (.inl x3)] (v.toList ++ [.inl s0]) J Q)) : Gx (jx_0 L) (d + 1) md_L_law 470 [some (.inr (.inl 0)), o1, some (.inr (.inl 167)), some (.inl x3)] [.inl s0] I Q := by
  obtain ⟨hz1, hz2, hz3, hz4⟩ := hz
  show jm_Go (d + 1) 0 0 md_L_law 470 [some (.inr (.inl 0)), o1, some (.inr (.inl 167)), some (.inl x3)] [.inl s0] (jx (jx_0 L) I) (jx_Q (jx_0 L) Q)
  have hd : jm_dc md_L_law.2.1 470 [(.aload_n 2, 1), (.aload_n 0, 1), (.iload_n 3, 1), (.iconst 1, 1), (.iadd, 1), (.iaload, 1), (.aload_n 0, 1), (.iload_n 3, 1), (.iconst 2, 1), (.iadd, 1), (.iaload, 1), (.invokevirtual 68, 3)] = true := by decide +kernel
  refine go_aload_n rfl hd (fun hd => ?_)
  refine go_aload_n rfl hd (fun hd => ?_)
  refine go_iload_n rfl hd (fun hd => ?_)
  refine go_iconst hd (fun hd => ?_)
  refine go_iadd hd (fun hd => ?_)
  refine go_sload hz1.1 hz1.2 hz2 hd (fun hd => ?_)
  refine go_aload_n rfl hd (fun hd => ?_)
  refine go_iload_n rfl hd (fun hd => ?_)
  refine go_iconst hd (fun hd => ?_)
  refine go_iadd hd (fun hd => ?_)
  refine go_sload hz3.1 hz3.2 hz4 hd (fun hd => ?_)
  exact gx_virtual 167 9 [.inl (I 0 (x3 + 1).toNat), .inl (I 0 (x3 + 2).toNat)] [.inl s0] mk_M_where co_X9 rfl ml_lw_68 in_M_where se_M_where rfl rfl (Nat.le_of_ble_eq_true rfl) rfl (Nat.le_of_ble_eq_true rfl) rfl hd k
theorem b_L_law_484 {L : Nat} {d : Nat} {I : jm_I} {Q : Option jm_V → jm_I → Prop} {o0 : Option jm_V} {o1 : Option jm_V} {o2 : Option jm_V} {o3 : Option jm_V} {s0 : Int} {s1 : Int}  (hz : (s0 = s1)) (kt : Gx (jx_0 L) d md_L_law 915 [o0, o1, o2, o3] [] I Q) : Gx (jx_0 L) d md_L_law 484 [o0, o1, o2, o3] [.inl s1, .inl s0] I Q := by
  have hz1 := hz
  show jm_Go d 0 0 md_L_law 484 [o0, o1, o2, o3] [.inl s1, .inl s0] (jx (jx_0 L) I) (jx_Q (jx_0 L) Q)
  have hd : jm_dc md_L_law.2.1 484 [(.if_icmp .eq 431, 3)] = true := by decide +kernel
  exact go_icmp_eqT (by decide) hz1 hd kt
theorem b_L_law_487 {L : Nat} {d : Nat} {I : jm_I} {Q : Option jm_V → jm_I → Prop} {o0 : Option jm_V} {o1 : Option jm_V} {o2 : Option jm_V} {o3 : Option jm_V}  (k : Q (some (.inl 0)) I) : Gx (jx_0 L) d md_L_law 487 [o0, o1, o2, o3] [] I Q := by
  show jm_Go d 0 0 md_L_law 487 [o0, o1, o2, o3] [] (jx (jx_0 L) I) (jx_Q (jx_0 L) Q)
  have hd : jm_dc md_L_law.2.1 487 [(.iconst 0, 1), (.ireturn, 1)] = true := by decide +kernel
  refine go_iconst hd (fun hd => ?_)
  exact go_zreturn hd rfl (Or.inl rfl) ⟨_, rfl, k⟩
theorem b_L_law_489 {L : Nat} {d : Nat} {I : jm_I} {Q : Option jm_V → jm_I → Prop} {o2 : Option jm_V} {x3 : Int}  (hz : (0 ≤ x3 + 1 ∧ x3 + 1 < (L : Int)) ∧ (L < 2147483648) ∧ (0 ≤ x3 + 2 ∧ x3 + 2 < (L : Int)) ∧ (L < 2147483648)) (k : Cx (jx_0 L) d md_X_upon [.inr (.inl 1), .inl (I 0 (x3 + 1).toNat), .inl (I 0 (x3 + 2).toNat)] I (fun v J => Gx (jx_0 L) (d + 1) md_L_law 503 [some (.inr (.inl 0)), some (.inr (.inl 1)), o2, some (.inl x3)] (v.toList ++ []) J Q)) : Gx (jx_0 L) (d + 1) md_L_law 489 [some (.inr (.inl 0)), some (.inr (.inl 1)), o2, some (.inl x3)] [] I Q := by
  obtain ⟨hz1, hz2, hz3, hz4⟩ := hz
  show jm_Go (d + 1) 0 0 md_L_law 489 [some (.inr (.inl 0)), some (.inr (.inl 1)), o2, some (.inl x3)] [] (jx (jx_0 L) I) (jx_Q (jx_0 L) Q)
  have hd : jm_dc md_L_law.2.1 489 [(.aload_n 1, 1), (.aload_n 0, 1), (.iload_n 3, 1), (.iconst 1, 1), (.iadd, 1), (.iaload, 1), (.aload_n 0, 1), (.iload_n 3, 1), (.iconst 2, 1), (.iadd, 1), (.iaload, 1), (.invokevirtual 69, 3)] = true := by decide +kernel
  refine go_aload_n rfl hd (fun hd => ?_)
  refine go_aload_n rfl hd (fun hd => ?_)
  refine go_iload_n rfl hd (fun hd => ?_)
  refine go_iconst hd (fun hd => ?_)
  refine go_iadd hd (fun hd => ?_)
  refine go_sload hz1.1 hz1.2 hz2 hd (fun hd => ?_)
  refine go_aload_n rfl hd (fun hd => ?_)
  refine go_iload_n rfl hd (fun hd => ?_)
  refine go_iconst hd (fun hd => ?_)
  refine go_iadd hd (fun hd => ?_)
  refine go_sload hz3.1 hz3.2 hz4 hd (fun hd => ?_)
  exact gx_virtual 1 8 [.inl (I 0 (x3 + 1).toNat), .inl (I 0 (x3 + 2).toNat)] [] mk_X_upon co_X8 rfl ml_lw_69 in_X_upon se_X_upon rfl rfl (Nat.le_of_ble_eq_true rfl) rfl (Nat.le_of_ble_eq_true rfl) rfl hd k
theorem b_L_law_503 {L : Nat} {d : Nat} {I : jm_I} {Q : Option jm_V → jm_I → Prop} {o1 : Option jm_V} {x3 : Int} {s0 : Int}  (hz : (0 ≤ x3 + 1 ∧ x3 + 1 < (L : Int)) ∧ (L < 2147483648) ∧ (0 ≤ x3 + 2 ∧ x3 + 2 < (L : Int)) ∧ (L < 2147483648)) (k : Cx (jx_0 L) d md_M_upon [.inr (.inl 167), .inl (I 0 (x3 + 1).toNat), .inl (I 0 (x3 + 2).toNat)] I (fun v J => Gx (jx_0 L) (d + 1) md_L_law 517 [some (.inr (.inl 0)), o1, some (.inr (.inl 167)), some (.inl x3)] (v.toList ++ [.inl s0]) J Q)) : Gx (jx_0 L) (d + 1) md_L_law 503 [some (.inr (.inl 0)), o1, some (.inr (.inl 167)), some (.inl x3)] [.inl s0] I Q := by
  obtain ⟨hz1, hz2, hz3, hz4⟩ := hz
  show jm_Go (d + 1) 0 0 md_L_law 503 [some (.inr (.inl 0)), o1, some (.inr (.inl 167)), some (.inl x3)] [.inl s0] (jx (jx_0 L) I) (jx_Q (jx_0 L) Q)
  have hd : jm_dc md_L_law.2.1 503 [(.aload_n 2, 1), (.aload_n 0, 1), (.iload_n 3, 1), (.iconst 1, 1), (.iadd, 1), (.iaload, 1), (.aload_n 0, 1), (.iload_n 3, 1), (.iconst 2, 1), (.iadd, 1), (.iaload, 1), (.invokevirtual 72, 3)] = true := by decide +kernel
  refine go_aload_n rfl hd (fun hd => ?_)
  refine go_aload_n rfl hd (fun hd => ?_)
  refine go_iload_n rfl hd (fun hd => ?_)
  refine go_iconst hd (fun hd => ?_)
  refine go_iadd hd (fun hd => ?_)
  refine go_sload hz1.1 hz1.2 hz2 hd (fun hd => ?_)
  refine go_aload_n rfl hd (fun hd => ?_)
  refine go_iload_n rfl hd (fun hd => ?_)
  refine go_iconst hd (fun hd => ?_)
  refine go_iadd hd (fun hd => ?_)
  refine go_sload hz3.1 hz3.2 hz4 hd (fun hd => ?_)
  exact gx_virtual 167 9 [.inl (I 0 (x3 + 1).toNat), .inl (I 0 (x3 + 2).toNat)] [.inl s0] mk_M_upon co_X9 rfl ml_lw_72 in_M_upon se_M_upon rfl rfl (Nat.le_of_ble_eq_true rfl) rfl (Nat.le_of_ble_eq_true rfl) rfl hd k
theorem b_L_law_517 {L : Nat} {d : Nat} {I : jm_I} {Q : Option jm_V → jm_I → Prop} {o0 : Option jm_V} {o1 : Option jm_V} {o2 : Option jm_V} {o3 : Option jm_V} {s0 : Int} {s1 : Int}  (hz : (s0 = s1)) (kt : Gx (jx_0 L) d md_L_law 915 [o0, o1, o2, o3] [] I Q) : Gx (jx_0 L) d md_L_law 517 [o0, o1, o2, o3] [.inl s1, .inl s0] I Q := by
  have hz1 := hz
  show jm_Go d 0 0 md_L_law 517 [o0, o1, o2, o3] [.inl s1, .inl s0] (jx (jx_0 L) I) (jx_Q (jx_0 L) Q)
  have hd : jm_dc md_L_law.2.1 517 [(.if_icmp .eq 398, 3)] = true := by decide +kernel
  exact go_icmp_eqT (by decide) hz1 hd kt
theorem b_L_law_520 {L : Nat} {d : Nat} {I : jm_I} {Q : Option jm_V → jm_I → Prop} {o0 : Option jm_V} {o1 : Option jm_V} {o2 : Option jm_V} {o3 : Option jm_V}  (k : Q (some (.inl 0)) I) : Gx (jx_0 L) d md_L_law 520 [o0, o1, o2, o3] [] I Q := by
  show jm_Go d 0 0 md_L_law 520 [o0, o1, o2, o3] [] (jx (jx_0 L) I) (jx_Q (jx_0 L) Q)
  have hd : jm_dc md_L_law.2.1 520 [(.iconst 0, 1), (.ireturn, 1)] = true := by decide +kernel
  refine go_iconst hd (fun hd => ?_)
  exact go_zreturn hd rfl (Or.inl rfl) ⟨_, rfl, k⟩
theorem b_L_law_522 {L : Nat} {d : Nat} {I : jm_I} {Q : Option jm_V → jm_I → Prop} {o2 : Option jm_V} {x3 : Int}  (hz : (0 ≤ x3 + 1 ∧ x3 + 1 < (L : Int)) ∧ (L < 2147483648)) (k : Cx (jx_0 L) d md_X_reach [.inr (.inl 1), .inl (I 0 (x3 + 1).toNat)] I (fun v J => Gx (jx_0 L) (d + 1) md_L_law 531 [some (.inr (.inl 0)), some (.inr (.inl 1)), o2, some (.inl x3)] (v.toList ++ []) J Q)) : Gx (jx_0 L) (d + 1) md_L_law 522 [some (.inr (.inl 0)), some (.inr (.inl 1)), o2, some (.inl x3)] [] I Q := by
  obtain ⟨hz1, hz2⟩ := hz
  show jm_Go (d + 1) 0 0 md_L_law 522 [some (.inr (.inl 0)), some (.inr (.inl 1)), o2, some (.inl x3)] [] (jx (jx_0 L) I) (jx_Q (jx_0 L) Q)
  have hd : jm_dc md_L_law.2.1 522 [(.aload_n 1, 1), (.aload_n 0, 1), (.iload_n 3, 1), (.iconst 1, 1), (.iadd, 1), (.iaload, 1), (.invokevirtual 73, 3)] = true := by decide +kernel
  refine go_aload_n rfl hd (fun hd => ?_)
  refine go_aload_n rfl hd (fun hd => ?_)
  refine go_iload_n rfl hd (fun hd => ?_)
  refine go_iconst hd (fun hd => ?_)
  refine go_iadd hd (fun hd => ?_)
  refine go_sload hz1.1 hz1.2 hz2 hd (fun hd => ?_)
  exact gx_virtual 1 8 [.inl (I 0 (x3 + 1).toNat)] [] mk_X_reach co_X8 rfl ml_lw_73 in_X_reach se_X_reach rfl rfl (Nat.le_of_ble_eq_true rfl) rfl (Nat.le_of_ble_eq_true rfl) rfl hd k
theorem b_L_law_531 {L : Nat} {d : Nat} {I : jm_I} {Q : Option jm_V → jm_I → Prop} {o1 : Option jm_V} {x3 : Int} {s0 : Int}  (hz : (0 ≤ x3 + 1 ∧ x3 + 1 < (L : Int)) ∧ (L < 2147483648)) (k : Cx (jx_0 L) d md_M_reach [.inr (.inl 167), .inl (I 0 (x3 + 1).toNat)] I (fun v J => Gx (jx_0 L) (d + 1) md_L_law 540 [some (.inr (.inl 0)), o1, some (.inr (.inl 167)), some (.inl x3)] (v.toList ++ [.inl s0]) J Q)) : Gx (jx_0 L) (d + 1) md_L_law 531 [some (.inr (.inl 0)), o1, some (.inr (.inl 167)), some (.inl x3)] [.inl s0] I Q := by
  obtain ⟨hz1, hz2⟩ := hz
  show jm_Go (d + 1) 0 0 md_L_law 531 [some (.inr (.inl 0)), o1, some (.inr (.inl 167)), some (.inl x3)] [.inl s0] (jx (jx_0 L) I) (jx_Q (jx_0 L) Q)
  have hd : jm_dc md_L_law.2.1 531 [(.aload_n 2, 1), (.aload_n 0, 1), (.iload_n 3, 1), (.iconst 1, 1), (.iadd, 1), (.iaload, 1), (.invokevirtual 76, 3)] = true := by decide +kernel
  refine go_aload_n rfl hd (fun hd => ?_)
  refine go_aload_n rfl hd (fun hd => ?_)
  refine go_iload_n rfl hd (fun hd => ?_)
  refine go_iconst hd (fun hd => ?_)
  refine go_iadd hd (fun hd => ?_)
  refine go_sload hz1.1 hz1.2 hz2 hd (fun hd => ?_)
  exact gx_virtual 167 9 [.inl (I 0 (x3 + 1).toNat)] [.inl s0] mk_M_reach co_X9 rfl ml_lw_76 in_M_reach se_M_reach rfl rfl (Nat.le_of_ble_eq_true rfl) rfl (Nat.le_of_ble_eq_true rfl) rfl hd k
theorem b_L_law_540 {L : Nat} {d : Nat} {I : jm_I} {Q : Option jm_V → jm_I → Prop} {o0 : Option jm_V} {o1 : Option jm_V} {o2 : Option jm_V} {o3 : Option jm_V} {s0 : Int} {s1 : Int}  (hz : (s0 = s1)) (kt : Gx (jx_0 L) d md_L_law 915 [o0, o1, o2, o3] [] I Q) : Gx (jx_0 L) d md_L_law 540 [o0, o1, o2, o3] [.inl s1, .inl s0] I Q := by
  have hz1 := hz
  show jm_Go d 0 0 md_L_law 540 [o0, o1, o2, o3] [.inl s1, .inl s0] (jx (jx_0 L) I) (jx_Q (jx_0 L) Q)
  have hd : jm_dc md_L_law.2.1 540 [(.if_icmp .eq 375, 3)] = true := by decide +kernel
  exact go_icmp_eqT (by decide) hz1 hd kt
theorem b_L_law_543 {L : Nat} {d : Nat} {I : jm_I} {Q : Option jm_V → jm_I → Prop} {o0 : Option jm_V} {o1 : Option jm_V} {o2 : Option jm_V} {o3 : Option jm_V}  (k : Q (some (.inl 0)) I) : Gx (jx_0 L) d md_L_law 543 [o0, o1, o2, o3] [] I Q := by
  show jm_Go d 0 0 md_L_law 543 [o0, o1, o2, o3] [] (jx (jx_0 L) I) (jx_Q (jx_0 L) Q)
  have hd : jm_dc md_L_law.2.1 543 [(.iconst 0, 1), (.ireturn, 1)] = true := by decide +kernel
  refine go_iconst hd (fun hd => ?_)
  exact go_zreturn hd rfl (Or.inl rfl) ⟨_, rfl, k⟩
theorem b_L_law_545 {L : Nat} {d : Nat} {I : jm_I} {Q : Option jm_V → jm_I → Prop} {o2 : Option jm_V} {x3 : Int}  (hz : (0 ≤ x3 + 1 ∧ x3 + 1 < (L : Int)) ∧ (L < 2147483648) ∧ (0 ≤ x3 + 2 ∧ x3 + 2 < (L : Int)) ∧ (L < 2147483648) ∧ (0 ≤ x3 + 3 ∧ x3 + 3 < (L : Int)) ∧ (L < 2147483648) ∧ (0 ≤ x3 + 4 ∧ x3 + 4 < (L : Int)) ∧ (L < 2147483648)) (k : Cx (jx_0 L) d md_X_presses [.inr (.inl 1), .inl (I 0 (x3 + 1).toNat), .inl (I 0 (x3 + 2).toNat), .inl (I 0 (x3 + 3).toNat), .inl (I 0 (x3 + 4).toNat)] I (fun v J => Gx (jx_0 L) (d + 1) md_L_law 569 [some (.inr (.inl 0)), some (.inr (.inl 1)), o2, some (.inl x3)] (v.toList ++ []) J Q)) : Gx (jx_0 L) (d + 1) md_L_law 545 [some (.inr (.inl 0)), some (.inr (.inl 1)), o2, some (.inl x3)] [] I Q := by
  obtain ⟨hz1, hz2, hz3, hz4, hz5, hz6, hz7, hz8⟩ := hz
  show jm_Go (d + 1) 0 0 md_L_law 545 [some (.inr (.inl 0)), some (.inr (.inl 1)), o2, some (.inl x3)] [] (jx (jx_0 L) I) (jx_Q (jx_0 L) Q)
  have hd : jm_dc md_L_law.2.1 545 [(.aload_n 1, 1), (.aload_n 0, 1), (.iload_n 3, 1), (.iconst 1, 1), (.iadd, 1), (.iaload, 1), (.aload_n 0, 1), (.iload_n 3, 1), (.iconst 2, 1), (.iadd, 1), (.iaload, 1), (.aload_n 0, 1), (.iload_n 3, 1), (.iconst 3, 1), (.iadd, 1), (.iaload, 1), (.aload_n 0, 1), (.iload_n 3, 1), (.iconst 4, 1), (.iadd, 1), (.iaload, 1), (.invokevirtual 77, 3)] = true := by decide +kernel
  refine go_aload_n rfl hd (fun hd => ?_)
  refine go_aload_n rfl hd (fun hd => ?_)
  refine go_iload_n rfl hd (fun hd => ?_)
  refine go_iconst hd (fun hd => ?_)
  refine go_iadd hd (fun hd => ?_)
  refine go_sload hz1.1 hz1.2 hz2 hd (fun hd => ?_)
  refine go_aload_n rfl hd (fun hd => ?_)
  refine go_iload_n rfl hd (fun hd => ?_)
  refine go_iconst hd (fun hd => ?_)
  refine go_iadd hd (fun hd => ?_)
  refine go_sload hz3.1 hz3.2 hz4 hd (fun hd => ?_)
  refine go_aload_n rfl hd (fun hd => ?_)
  refine go_iload_n rfl hd (fun hd => ?_)
  refine go_iconst hd (fun hd => ?_)
  refine go_iadd hd (fun hd => ?_)
  refine go_sload hz5.1 hz5.2 hz6 hd (fun hd => ?_)
  refine go_aload_n rfl hd (fun hd => ?_)
  refine go_iload_n rfl hd (fun hd => ?_)
  refine go_iconst hd (fun hd => ?_)
  refine go_iadd hd (fun hd => ?_)
  refine go_sload hz7.1 hz7.2 hz8 hd (fun hd => ?_)
  exact gx_virtual 1 8 [.inl (I 0 (x3 + 1).toNat), .inl (I 0 (x3 + 2).toNat), .inl (I 0 (x3 + 3).toNat), .inl (I 0 (x3 + 4).toNat)] [] mk_X_presses co_X8 rfl ml_lw_77 in_X_presses se_X_presses rfl rfl (Nat.le_of_ble_eq_true rfl) rfl (Nat.le_of_ble_eq_true rfl) rfl hd k
theorem b_L_law_569 {L : Nat} {d : Nat} {I : jm_I} {Q : Option jm_V → jm_I → Prop} {o1 : Option jm_V} {x3 : Int} {s0 : Int}  (hz : (0 ≤ x3 + 1 ∧ x3 + 1 < (L : Int)) ∧ (L < 2147483648) ∧ (0 ≤ x3 + 2 ∧ x3 + 2 < (L : Int)) ∧ (L < 2147483648) ∧ (0 ≤ x3 + 3 ∧ x3 + 3 < (L : Int)) ∧ (L < 2147483648) ∧ (0 ≤ x3 + 4 ∧ x3 + 4 < (L : Int)) ∧ (L < 2147483648)) (k : Cx (jx_0 L) d md_M_presses [.inr (.inl 167), .inl (I 0 (x3 + 1).toNat), .inl (I 0 (x3 + 2).toNat), .inl (I 0 (x3 + 3).toNat), .inl (I 0 (x3 + 4).toNat)] I (fun v J => Gx (jx_0 L) (d + 1) md_L_law 593 [some (.inr (.inl 0)), o1, some (.inr (.inl 167)), some (.inl x3)] (v.toList ++ [.inl s0]) J Q)) : Gx (jx_0 L) (d + 1) md_L_law 569 [some (.inr (.inl 0)), o1, some (.inr (.inl 167)), some (.inl x3)] [.inl s0] I Q := by
  obtain ⟨hz1, hz2, hz3, hz4, hz5, hz6, hz7, hz8⟩ := hz
  show jm_Go (d + 1) 0 0 md_L_law 569 [some (.inr (.inl 0)), o1, some (.inr (.inl 167)), some (.inl x3)] [.inl s0] (jx (jx_0 L) I) (jx_Q (jx_0 L) Q)
  have hd : jm_dc md_L_law.2.1 569 [(.aload_n 2, 1), (.aload_n 0, 1), (.iload_n 3, 1), (.iconst 1, 1), (.iadd, 1), (.iaload, 1), (.aload_n 0, 1), (.iload_n 3, 1), (.iconst 2, 1), (.iadd, 1), (.iaload, 1), (.aload_n 0, 1), (.iload_n 3, 1), (.iconst 3, 1), (.iadd, 1), (.iaload, 1), (.aload_n 0, 1), (.iload_n 3, 1), (.iconst 4, 1), (.iadd, 1), (.iaload, 1), (.invokevirtual 81, 3)] = true := by decide +kernel
  refine go_aload_n rfl hd (fun hd => ?_)
  refine go_aload_n rfl hd (fun hd => ?_)
  refine go_iload_n rfl hd (fun hd => ?_)
  refine go_iconst hd (fun hd => ?_)
  refine go_iadd hd (fun hd => ?_)
  refine go_sload hz1.1 hz1.2 hz2 hd (fun hd => ?_)
  refine go_aload_n rfl hd (fun hd => ?_)
  refine go_iload_n rfl hd (fun hd => ?_)
  refine go_iconst hd (fun hd => ?_)
  refine go_iadd hd (fun hd => ?_)
  refine go_sload hz3.1 hz3.2 hz4 hd (fun hd => ?_)
  refine go_aload_n rfl hd (fun hd => ?_)
  refine go_iload_n rfl hd (fun hd => ?_)
  refine go_iconst hd (fun hd => ?_)
  refine go_iadd hd (fun hd => ?_)
  refine go_sload hz5.1 hz5.2 hz6 hd (fun hd => ?_)
  refine go_aload_n rfl hd (fun hd => ?_)
  refine go_iload_n rfl hd (fun hd => ?_)
  refine go_iconst hd (fun hd => ?_)
  refine go_iadd hd (fun hd => ?_)
  refine go_sload hz7.1 hz7.2 hz8 hd (fun hd => ?_)
  exact gx_virtual 167 9 [.inl (I 0 (x3 + 1).toNat), .inl (I 0 (x3 + 2).toNat), .inl (I 0 (x3 + 3).toNat), .inl (I 0 (x3 + 4).toNat)] [.inl s0] mk_M_presses co_X9 rfl ml_lw_81 in_M_presses se_M_presses rfl rfl (Nat.le_of_ble_eq_true rfl) rfl (Nat.le_of_ble_eq_true rfl) rfl hd k
theorem b_L_law_593 {L : Nat} {d : Nat} {I : jm_I} {Q : Option jm_V → jm_I → Prop} {o0 : Option jm_V} {o1 : Option jm_V} {o2 : Option jm_V} {o3 : Option jm_V} {s0 : Int} {s1 : Int}  (hz : (s0 = s1)) (kt : Gx (jx_0 L) d md_L_law 915 [o0, o1, o2, o3] [] I Q) : Gx (jx_0 L) d md_L_law 593 [o0, o1, o2, o3] [.inl s1, .inl s0] I Q := by
  have hz1 := hz
  show jm_Go d 0 0 md_L_law 593 [o0, o1, o2, o3] [.inl s1, .inl s0] (jx (jx_0 L) I) (jx_Q (jx_0 L) Q)
  have hd : jm_dc md_L_law.2.1 593 [(.if_icmp .eq 322, 3)] = true := by decide +kernel
  exact go_icmp_eqT (by decide) hz1 hd kt
theorem b_L_law_596 {L : Nat} {d : Nat} {I : jm_I} {Q : Option jm_V → jm_I → Prop} {o0 : Option jm_V} {o1 : Option jm_V} {o2 : Option jm_V} {o3 : Option jm_V}  (k : Q (some (.inl 0)) I) : Gx (jx_0 L) d md_L_law 596 [o0, o1, o2, o3] [] I Q := by
  show jm_Go d 0 0 md_L_law 596 [o0, o1, o2, o3] [] (jx (jx_0 L) I) (jx_Q (jx_0 L) Q)
  have hd : jm_dc md_L_law.2.1 596 [(.iconst 0, 1), (.ireturn, 1)] = true := by decide +kernel
  refine go_iconst hd (fun hd => ?_)
  exact go_zreturn hd rfl (Or.inl rfl) ⟨_, rfl, k⟩
theorem b_L_law_598 {L : Nat} {d : Nat} {I : jm_I} {Q : Option jm_V → jm_I → Prop} {o2 : Option jm_V} {x3 : Int}  (hz : (0 ≤ x3 + 1 ∧ x3 + 1 < (L : Int)) ∧ (L < 2147483648) ∧ (0 ≤ x3 + 2 ∧ x3 + 2 < (L : Int)) ∧ (L < 2147483648) ∧ (0 ≤ x3 + 3 ∧ x3 + 3 < (L : Int)) ∧ (L < 2147483648)) (k : Cx (jx_0 L) d md_X_found [.inr (.inl 1), .inl (I 0 (x3 + 1).toNat), .inl (I 0 (x3 + 2).toNat), .inl (I 0 (x3 + 3).toNat)] I (fun v J => Gx (jx_0 L) (d + 1) md_L_law 617 [some (.inr (.inl 0)), some (.inr (.inl 1)), o2, some (.inl x3)] (v.toList ++ []) J Q)) : Gx (jx_0 L) (d + 1) md_L_law 598 [some (.inr (.inl 0)), some (.inr (.inl 1)), o2, some (.inl x3)] [] I Q := by
  obtain ⟨hz1, hz2, hz3, hz4, hz5, hz6⟩ := hz
  show jm_Go (d + 1) 0 0 md_L_law 598 [some (.inr (.inl 0)), some (.inr (.inl 1)), o2, some (.inl x3)] [] (jx (jx_0 L) I) (jx_Q (jx_0 L) Q)
  have hd : jm_dc md_L_law.2.1 598 [(.aload_n 1, 1), (.aload_n 0, 1), (.iload_n 3, 1), (.iconst 1, 1), (.iadd, 1), (.iaload, 1), (.aload_n 0, 1), (.iload_n 3, 1), (.iconst 2, 1), (.iadd, 1), (.iaload, 1), (.aload_n 0, 1), (.iload_n 3, 1), (.iconst 3, 1), (.iadd, 1), (.iaload, 1), (.invokevirtual 82, 3)] = true := by decide +kernel
  refine go_aload_n rfl hd (fun hd => ?_)
  refine go_aload_n rfl hd (fun hd => ?_)
  refine go_iload_n rfl hd (fun hd => ?_)
  refine go_iconst hd (fun hd => ?_)
  refine go_iadd hd (fun hd => ?_)
  refine go_sload hz1.1 hz1.2 hz2 hd (fun hd => ?_)
  refine go_aload_n rfl hd (fun hd => ?_)
  refine go_iload_n rfl hd (fun hd => ?_)
  refine go_iconst hd (fun hd => ?_)
  refine go_iadd hd (fun hd => ?_)
  refine go_sload hz3.1 hz3.2 hz4 hd (fun hd => ?_)
  refine go_aload_n rfl hd (fun hd => ?_)
  refine go_iload_n rfl hd (fun hd => ?_)
  refine go_iconst hd (fun hd => ?_)
  refine go_iadd hd (fun hd => ?_)
  refine go_sload hz5.1 hz5.2 hz6 hd (fun hd => ?_)
  exact gx_virtual 1 8 [.inl (I 0 (x3 + 1).toNat), .inl (I 0 (x3 + 2).toNat), .inl (I 0 (x3 + 3).toNat)] [] mk_X_found co_X8 rfl ml_lw_82 in_X_found se_X_found rfl rfl (Nat.le_of_ble_eq_true rfl) rfl (Nat.le_of_ble_eq_true rfl) rfl hd k
theorem b_L_law_617 {L : Nat} {d : Nat} {I : jm_I} {Q : Option jm_V → jm_I → Prop} {o1 : Option jm_V} {x3 : Int} {s0 : Int}  (hz : (0 ≤ x3 + 1 ∧ x3 + 1 < (L : Int)) ∧ (L < 2147483648) ∧ (0 ≤ x3 + 2 ∧ x3 + 2 < (L : Int)) ∧ (L < 2147483648) ∧ (0 ≤ x3 + 3 ∧ x3 + 3 < (L : Int)) ∧ (L < 2147483648)) (k : Cx (jx_0 L) d md_M_found [.inr (.inl 167), .inl (I 0 (x3 + 1).toNat), .inl (I 0 (x3 + 2).toNat), .inl (I 0 (x3 + 3).toNat)] I (fun v J => Gx (jx_0 L) (d + 1) md_L_law 636 [some (.inr (.inl 0)), o1, some (.inr (.inl 167)), some (.inl x3)] (v.toList ++ [.inl s0]) J Q)) : Gx (jx_0 L) (d + 1) md_L_law 617 [some (.inr (.inl 0)), o1, some (.inr (.inl 167)), some (.inl x3)] [.inl s0] I Q := by
  obtain ⟨hz1, hz2, hz3, hz4, hz5, hz6⟩ := hz
  show jm_Go (d + 1) 0 0 md_L_law 617 [some (.inr (.inl 0)), o1, some (.inr (.inl 167)), some (.inl x3)] [.inl s0] (jx (jx_0 L) I) (jx_Q (jx_0 L) Q)
  have hd : jm_dc md_L_law.2.1 617 [(.aload_n 2, 1), (.aload_n 0, 1), (.iload_n 3, 1), (.iconst 1, 1), (.iadd, 1), (.iaload, 1), (.aload_n 0, 1), (.iload_n 3, 1), (.iconst 2, 1), (.iadd, 1), (.iaload, 1), (.aload_n 0, 1), (.iload_n 3, 1), (.iconst 3, 1), (.iadd, 1), (.iaload, 1), (.invokevirtual 85, 3)] = true := by decide +kernel
  refine go_aload_n rfl hd (fun hd => ?_)
  refine go_aload_n rfl hd (fun hd => ?_)
  refine go_iload_n rfl hd (fun hd => ?_)
  refine go_iconst hd (fun hd => ?_)
  refine go_iadd hd (fun hd => ?_)
  refine go_sload hz1.1 hz1.2 hz2 hd (fun hd => ?_)
  refine go_aload_n rfl hd (fun hd => ?_)
  refine go_iload_n rfl hd (fun hd => ?_)
  refine go_iconst hd (fun hd => ?_)
  refine go_iadd hd (fun hd => ?_)
  refine go_sload hz3.1 hz3.2 hz4 hd (fun hd => ?_)
  refine go_aload_n rfl hd (fun hd => ?_)
  refine go_iload_n rfl hd (fun hd => ?_)
  refine go_iconst hd (fun hd => ?_)
  refine go_iadd hd (fun hd => ?_)
  refine go_sload hz5.1 hz5.2 hz6 hd (fun hd => ?_)
  exact gx_virtual 167 9 [.inl (I 0 (x3 + 1).toNat), .inl (I 0 (x3 + 2).toNat), .inl (I 0 (x3 + 3).toNat)] [.inl s0] mk_M_found co_X9 rfl ml_lw_85 in_M_found se_M_found rfl rfl (Nat.le_of_ble_eq_true rfl) rfl (Nat.le_of_ble_eq_true rfl) rfl hd k
theorem b_L_law_636 {L : Nat} {d : Nat} {I : jm_I} {Q : Option jm_V → jm_I → Prop} {o0 : Option jm_V} {o1 : Option jm_V} {o2 : Option jm_V} {o3 : Option jm_V} {s0 : Int} {s1 : Int}  (hz : (s0 = s1)) (kt : Gx (jx_0 L) d md_L_law 915 [o0, o1, o2, o3] [] I Q) : Gx (jx_0 L) d md_L_law 636 [o0, o1, o2, o3] [.inl s1, .inl s0] I Q := by
  have hz1 := hz
  show jm_Go d 0 0 md_L_law 636 [o0, o1, o2, o3] [.inl s1, .inl s0] (jx (jx_0 L) I) (jx_Q (jx_0 L) Q)
  have hd : jm_dc md_L_law.2.1 636 [(.if_icmp .eq 279, 3)] = true := by decide +kernel
  exact go_icmp_eqT (by decide) hz1 hd kt
theorem b_L_law_639 {L : Nat} {d : Nat} {I : jm_I} {Q : Option jm_V → jm_I → Prop} {o0 : Option jm_V} {o1 : Option jm_V} {o2 : Option jm_V} {o3 : Option jm_V}  (k : Q (some (.inl 0)) I) : Gx (jx_0 L) d md_L_law 639 [o0, o1, o2, o3] [] I Q := by
  show jm_Go d 0 0 md_L_law 639 [o0, o1, o2, o3] [] (jx (jx_0 L) I) (jx_Q (jx_0 L) Q)
  have hd : jm_dc md_L_law.2.1 639 [(.iconst 0, 1), (.ireturn, 1)] = true := by decide +kernel
  refine go_iconst hd (fun hd => ?_)
  exact go_zreturn hd rfl (Or.inl rfl) ⟨_, rfl, k⟩
theorem b_L_law_641 {L : Nat} {d : Nat} {I : jm_I} {Q : Option jm_V → jm_I → Prop} {o0 : Option jm_V} {o2 : Option jm_V} {o3 : Option jm_V}  (k : Cx (jx_0 L) d md_X_forget [.inr (.inl 1)] I (fun v J => Gx (jx_0 L) (d + 1) md_L_law 645 [o0, some (.inr (.inl 1)), o2, o3] (v.toList ++ []) J Q)) : Gx (jx_0 L) (d + 1) md_L_law 641 [o0, some (.inr (.inl 1)), o2, o3] [] I Q := by
  show jm_Go (d + 1) 0 0 md_L_law 641 [o0, some (.inr (.inl 1)), o2, o3] [] (jx (jx_0 L) I) (jx_Q (jx_0 L) Q)
  have hd : jm_dc md_L_law.2.1 641 [(.aload_n 1, 1), (.invokevirtual 86, 3)] = true := by decide +kernel
  refine go_aload_n rfl hd (fun hd => ?_)
  exact gx_virtual 1 8 [] [] mk_X_forget co_X8 rfl ml_lw_86 in_X_forget se_X_forget rfl rfl (Nat.le_of_ble_eq_true rfl) rfl (Nat.le_of_ble_eq_true rfl) rfl hd k
theorem b_L_law_645 {L : Nat} {d : Nat} {I : jm_I} {Q : Option jm_V → jm_I → Prop} {o0 : Option jm_V} {o1 : Option jm_V} {o3 : Option jm_V} {s0 : Int}  (k : Cx (jx_0 L) d md_M_forget [.inr (.inl 167)] I (fun v J => Gx (jx_0 L) (d + 1) md_L_law 649 [o0, o1, some (.inr (.inl 167)), o3] (v.toList ++ [.inl s0]) J Q)) : Gx (jx_0 L) (d + 1) md_L_law 645 [o0, o1, some (.inr (.inl 167)), o3] [.inl s0] I Q := by
  show jm_Go (d + 1) 0 0 md_L_law 645 [o0, o1, some (.inr (.inl 167)), o3] [.inl s0] (jx (jx_0 L) I) (jx_Q (jx_0 L) Q)
  have hd : jm_dc md_L_law.2.1 645 [(.aload_n 2, 1), (.invokevirtual 89, 3)] = true := by decide +kernel
  refine go_aload_n rfl hd (fun hd => ?_)
  exact gx_virtual 167 9 [] [.inl s0] mk_M_forget co_X9 rfl ml_lw_89 in_M_forget se_M_forget rfl rfl (Nat.le_of_ble_eq_true rfl) rfl (Nat.le_of_ble_eq_true rfl) rfl hd k
theorem b_L_law_649 {L : Nat} {d : Nat} {I : jm_I} {Q : Option jm_V → jm_I → Prop} {o0 : Option jm_V} {o1 : Option jm_V} {o2 : Option jm_V} {o3 : Option jm_V} {s0 : Int} {s1 : Int}  (hz : (s0 = s1)) (kt : Gx (jx_0 L) d md_L_law 915 [o0, o1, o2, o3] [] I Q) : Gx (jx_0 L) d md_L_law 649 [o0, o1, o2, o3] [.inl s1, .inl s0] I Q := by
  have hz1 := hz
  show jm_Go d 0 0 md_L_law 649 [o0, o1, o2, o3] [.inl s1, .inl s0] (jx (jx_0 L) I) (jx_Q (jx_0 L) Q)
  have hd : jm_dc md_L_law.2.1 649 [(.if_icmp .eq 266, 3)] = true := by decide +kernel
  exact go_icmp_eqT (by decide) hz1 hd kt
theorem b_L_law_652 {L : Nat} {d : Nat} {I : jm_I} {Q : Option jm_V → jm_I → Prop} {o0 : Option jm_V} {o1 : Option jm_V} {o2 : Option jm_V} {o3 : Option jm_V}  (k : Q (some (.inl 0)) I) : Gx (jx_0 L) d md_L_law 652 [o0, o1, o2, o3] [] I Q := by
  show jm_Go d 0 0 md_L_law 652 [o0, o1, o2, o3] [] (jx (jx_0 L) I) (jx_Q (jx_0 L) Q)
  have hd : jm_dc md_L_law.2.1 652 [(.iconst 0, 1), (.ireturn, 1)] = true := by decide +kernel
  refine go_iconst hd (fun hd => ?_)
  exact go_zreturn hd rfl (Or.inl rfl) ⟨_, rfl, k⟩
theorem b_L_law_654 {L : Nat} {d : Nat} {I : jm_I} {Q : Option jm_V → jm_I → Prop} {o0 : Option jm_V} {o2 : Option jm_V} {o3 : Option jm_V}  (k : Cx (jx_0 L) d md_X_doneBy [.inr (.inl 1)] I (fun v J => Gx (jx_0 L) (d + 1) md_L_law 658 [o0, some (.inr (.inl 1)), o2, o3] (v.toList ++ []) J Q)) : Gx (jx_0 L) (d + 1) md_L_law 654 [o0, some (.inr (.inl 1)), o2, o3] [] I Q := by
  show jm_Go (d + 1) 0 0 md_L_law 654 [o0, some (.inr (.inl 1)), o2, o3] [] (jx (jx_0 L) I) (jx_Q (jx_0 L) Q)
  have hd : jm_dc md_L_law.2.1 654 [(.aload_n 1, 1), (.invokevirtual 90, 3)] = true := by decide +kernel
  refine go_aload_n rfl hd (fun hd => ?_)
  exact gx_virtual 1 8 [] [] mk_X_doneBy co_X8 rfl ml_lw_90 in_X_doneBy se_X_doneBy rfl rfl (Nat.le_of_ble_eq_true rfl) rfl (Nat.le_of_ble_eq_true rfl) rfl hd k
theorem b_L_law_658 {L : Nat} {d : Nat} {I : jm_I} {Q : Option jm_V → jm_I → Prop} {o0 : Option jm_V} {o1 : Option jm_V} {o3 : Option jm_V} {s0 : Int}  (k : Cx (jx_0 L) d md_M_doneBy [.inr (.inl 167)] I (fun v J => Gx (jx_0 L) (d + 1) md_L_law 662 [o0, o1, some (.inr (.inl 167)), o3] (v.toList ++ [.inl s0]) J Q)) : Gx (jx_0 L) (d + 1) md_L_law 658 [o0, o1, some (.inr (.inl 167)), o3] [.inl s0] I Q := by
  show jm_Go (d + 1) 0 0 md_L_law 658 [o0, o1, some (.inr (.inl 167)), o3] [.inl s0] (jx (jx_0 L) I) (jx_Q (jx_0 L) Q)
  have hd : jm_dc md_L_law.2.1 658 [(.aload_n 2, 1), (.invokevirtual 93, 3)] = true := by decide +kernel
  refine go_aload_n rfl hd (fun hd => ?_)
  exact gx_virtual 167 9 [] [.inl s0] mk_M_doneBy co_X9 rfl ml_lw_93 in_M_doneBy se_M_doneBy rfl rfl (Nat.le_of_ble_eq_true rfl) rfl (Nat.le_of_ble_eq_true rfl) rfl hd k
theorem b_L_law_662 {L : Nat} {d : Nat} {I : jm_I} {Q : Option jm_V → jm_I → Prop} {o0 : Option jm_V} {o1 : Option jm_V} {o2 : Option jm_V} {o3 : Option jm_V} {s0 : Int} {s1 : Int}  (hz : (s0 = s1)) (kt : Gx (jx_0 L) d md_L_law 915 [o0, o1, o2, o3] [] I Q) : Gx (jx_0 L) d md_L_law 662 [o0, o1, o2, o3] [.inl s1, .inl s0] I Q := by
  have hz1 := hz
  show jm_Go d 0 0 md_L_law 662 [o0, o1, o2, o3] [.inl s1, .inl s0] (jx (jx_0 L) I) (jx_Q (jx_0 L) Q)
  have hd : jm_dc md_L_law.2.1 662 [(.if_icmp .eq 253, 3)] = true := by decide +kernel
  exact go_icmp_eqT (by decide) hz1 hd kt
theorem b_L_law_665 {L : Nat} {d : Nat} {I : jm_I} {Q : Option jm_V → jm_I → Prop} {o0 : Option jm_V} {o1 : Option jm_V} {o2 : Option jm_V} {o3 : Option jm_V}  (k : Q (some (.inl 0)) I) : Gx (jx_0 L) d md_L_law 665 [o0, o1, o2, o3] [] I Q := by
  show jm_Go d 0 0 md_L_law 665 [o0, o1, o2, o3] [] (jx (jx_0 L) I) (jx_Q (jx_0 L) Q)
  have hd : jm_dc md_L_law.2.1 665 [(.iconst 0, 1), (.ireturn, 1)] = true := by decide +kernel
  refine go_iconst hd (fun hd => ?_)
  exact go_zreturn hd rfl (Or.inl rfl) ⟨_, rfl, k⟩
theorem b_L_law_667 {L : Nat} {d : Nat} {I : jm_I} {Q : Option jm_V → jm_I → Prop} {o2 : Option jm_V} {x3 : Int}  (hz : (0 ≤ x3 + 1 ∧ x3 + 1 < (L : Int)) ∧ (L < 2147483648) ∧ (0 ≤ x3 + 2 ∧ x3 + 2 < (L : Int)) ∧ (L < 2147483648)) (k : Cx (jx_0 L) d md_X_guard [.inr (.inl 1), .inl (I 0 (x3 + 1).toNat), .inl (I 0 (x3 + 2).toNat)] I (fun v J => Gx (jx_0 L) (d + 1) md_L_law 681 [some (.inr (.inl 0)), some (.inr (.inl 1)), o2, some (.inl x3)] (v.toList ++ []) J Q)) : Gx (jx_0 L) (d + 1) md_L_law 667 [some (.inr (.inl 0)), some (.inr (.inl 1)), o2, some (.inl x3)] [] I Q := by
  obtain ⟨hz1, hz2, hz3, hz4⟩ := hz
  show jm_Go (d + 1) 0 0 md_L_law 667 [some (.inr (.inl 0)), some (.inr (.inl 1)), o2, some (.inl x3)] [] (jx (jx_0 L) I) (jx_Q (jx_0 L) Q)
  have hd : jm_dc md_L_law.2.1 667 [(.aload_n 1, 1), (.aload_n 0, 1), (.iload_n 3, 1), (.iconst 1, 1), (.iadd, 1), (.iaload, 1), (.aload_n 0, 1), (.iload_n 3, 1), (.iconst 2, 1), (.iadd, 1), (.iaload, 1), (.invokevirtual 94, 3)] = true := by decide +kernel
  refine go_aload_n rfl hd (fun hd => ?_)
  refine go_aload_n rfl hd (fun hd => ?_)
  refine go_iload_n rfl hd (fun hd => ?_)
  refine go_iconst hd (fun hd => ?_)
  refine go_iadd hd (fun hd => ?_)
  refine go_sload hz1.1 hz1.2 hz2 hd (fun hd => ?_)
  refine go_aload_n rfl hd (fun hd => ?_)
  refine go_iload_n rfl hd (fun hd => ?_)
  refine go_iconst hd (fun hd => ?_)
  refine go_iadd hd (fun hd => ?_)
  refine go_sload hz3.1 hz3.2 hz4 hd (fun hd => ?_)
  exact gx_virtual 1 8 [.inl (I 0 (x3 + 1).toNat), .inl (I 0 (x3 + 2).toNat)] [] mk_X_guard co_X8 rfl ml_lw_94 in_X_guard se_X_guard rfl rfl (Nat.le_of_ble_eq_true rfl) rfl (Nat.le_of_ble_eq_true rfl) rfl hd k
theorem b_L_law_681 {L : Nat} {d : Nat} {I : jm_I} {Q : Option jm_V → jm_I → Prop} {o1 : Option jm_V} {x3 : Int} {s0 : Int}  (hz : (0 ≤ x3 + 1 ∧ x3 + 1 < (L : Int)) ∧ (L < 2147483648) ∧ (0 ≤ x3 + 2 ∧ x3 + 2 < (L : Int)) ∧ (L < 2147483648)) (k : Cx (jx_0 L) d md_M_guard [.inr (.inl 167), .inl (I 0 (x3 + 1).toNat), .inl (I 0 (x3 + 2).toNat)] I (fun v J => Gx (jx_0 L) (d + 1) md_L_law 695 [some (.inr (.inl 0)), o1, some (.inr (.inl 167)), some (.inl x3)] (v.toList ++ [.inl s0]) J Q)) : Gx (jx_0 L) (d + 1) md_L_law 681 [some (.inr (.inl 0)), o1, some (.inr (.inl 167)), some (.inl x3)] [.inl s0] I Q := by
  obtain ⟨hz1, hz2, hz3, hz4⟩ := hz
  show jm_Go (d + 1) 0 0 md_L_law 681 [some (.inr (.inl 0)), o1, some (.inr (.inl 167)), some (.inl x3)] [.inl s0] (jx (jx_0 L) I) (jx_Q (jx_0 L) Q)
  have hd : jm_dc md_L_law.2.1 681 [(.aload_n 2, 1), (.aload_n 0, 1), (.iload_n 3, 1), (.iconst 1, 1), (.iadd, 1), (.iaload, 1), (.aload_n 0, 1), (.iload_n 3, 1), (.iconst 2, 1), (.iadd, 1), (.iaload, 1), (.invokevirtual 97, 3)] = true := by decide +kernel
  refine go_aload_n rfl hd (fun hd => ?_)
  refine go_aload_n rfl hd (fun hd => ?_)
  refine go_iload_n rfl hd (fun hd => ?_)
  refine go_iconst hd (fun hd => ?_)
  refine go_iadd hd (fun hd => ?_)
  refine go_sload hz1.1 hz1.2 hz2 hd (fun hd => ?_)
  refine go_aload_n rfl hd (fun hd => ?_)
  refine go_iload_n rfl hd (fun hd => ?_)
  refine go_iconst hd (fun hd => ?_)
  refine go_iadd hd (fun hd => ?_)
  refine go_sload hz3.1 hz3.2 hz4 hd (fun hd => ?_)
  exact gx_virtual 167 9 [.inl (I 0 (x3 + 1).toNat), .inl (I 0 (x3 + 2).toNat)] [.inl s0] mk_M_guard co_X9 rfl ml_lw_97 in_M_guard se_M_guard rfl rfl (Nat.le_of_ble_eq_true rfl) rfl (Nat.le_of_ble_eq_true rfl) rfl hd k
theorem b_L_law_695 {L : Nat} {d : Nat} {I : jm_I} {Q : Option jm_V → jm_I → Prop} {o0 : Option jm_V} {o1 : Option jm_V} {o2 : Option jm_V} {o3 : Option jm_V} {s0 : Int} {s1 : Int}  (hz : (s0 = s1)) (kt : Gx (jx_0 L) d md_L_law 915 [o0, o1, o2, o3] [] I Q) : Gx (jx_0 L) d md_L_law 695 [o0, o1, o2, o3] [.inl s1, .inl s0] I Q := by
  have hz1 := hz
  show jm_Go d 0 0 md_L_law 695 [o0, o1, o2, o3] [.inl s1, .inl s0] (jx (jx_0 L) I) (jx_Q (jx_0 L) Q)
  have hd : jm_dc md_L_law.2.1 695 [(.if_icmp .eq 220, 3)] = true := by decide +kernel
  exact go_icmp_eqT (by decide) hz1 hd kt
theorem b_L_law_698 {L : Nat} {d : Nat} {I : jm_I} {Q : Option jm_V → jm_I → Prop} {o0 : Option jm_V} {o1 : Option jm_V} {o2 : Option jm_V} {o3 : Option jm_V}  (k : Q (some (.inl 0)) I) : Gx (jx_0 L) d md_L_law 698 [o0, o1, o2, o3] [] I Q := by
  show jm_Go d 0 0 md_L_law 698 [o0, o1, o2, o3] [] (jx (jx_0 L) I) (jx_Q (jx_0 L) Q)
  have hd : jm_dc md_L_law.2.1 698 [(.iconst 0, 1), (.ireturn, 1)] = true := by decide +kernel
  refine go_iconst hd (fun hd => ?_)
  exact go_zreturn hd rfl (Or.inl rfl) ⟨_, rfl, k⟩
theorem b_L_law_700 {L : Nat} {d : Nat} {I : jm_I} {Q : Option jm_V → jm_I → Prop} {o2 : Option jm_V} {x3 : Int}  (hz : (0 ≤ x3 + 1 ∧ x3 + 1 < (L : Int)) ∧ (L < 2147483648) ∧ (0 ≤ x3 + 2 ∧ x3 + 2 < (L : Int)) ∧ (L < 2147483648)) (k : Cx (jx_0 L) d md_X_taking [.inr (.inl 1), .inl (I 0 (x3 + 1).toNat), .inl (I 0 (x3 + 2).toNat)] I (fun v J => Gx (jx_0 L) (d + 1) md_L_law 714 [some (.inr (.inl 0)), some (.inr (.inl 1)), o2, some (.inl x3)] (v.toList ++ []) J Q)) : Gx (jx_0 L) (d + 1) md_L_law 700 [some (.inr (.inl 0)), some (.inr (.inl 1)), o2, some (.inl x3)] [] I Q := by
  obtain ⟨hz1, hz2, hz3, hz4⟩ := hz
  show jm_Go (d + 1) 0 0 md_L_law 700 [some (.inr (.inl 0)), some (.inr (.inl 1)), o2, some (.inl x3)] [] (jx (jx_0 L) I) (jx_Q (jx_0 L) Q)
  have hd : jm_dc md_L_law.2.1 700 [(.aload_n 1, 1), (.aload_n 0, 1), (.iload_n 3, 1), (.iconst 1, 1), (.iadd, 1), (.iaload, 1), (.aload_n 0, 1), (.iload_n 3, 1), (.iconst 2, 1), (.iadd, 1), (.iaload, 1), (.invokevirtual 98, 3)] = true := by decide +kernel
  refine go_aload_n rfl hd (fun hd => ?_)
  refine go_aload_n rfl hd (fun hd => ?_)
  refine go_iload_n rfl hd (fun hd => ?_)
  refine go_iconst hd (fun hd => ?_)
  refine go_iadd hd (fun hd => ?_)
  refine go_sload hz1.1 hz1.2 hz2 hd (fun hd => ?_)
  refine go_aload_n rfl hd (fun hd => ?_)
  refine go_iload_n rfl hd (fun hd => ?_)
  refine go_iconst hd (fun hd => ?_)
  refine go_iadd hd (fun hd => ?_)
  refine go_sload hz3.1 hz3.2 hz4 hd (fun hd => ?_)
  exact gx_virtual 1 8 [.inl (I 0 (x3 + 1).toNat), .inl (I 0 (x3 + 2).toNat)] [] mk_X_taking co_X8 rfl ml_lw_98 in_X_taking se_X_taking rfl rfl (Nat.le_of_ble_eq_true rfl) rfl (Nat.le_of_ble_eq_true rfl) rfl hd k
theorem b_L_law_714 {L : Nat} {d : Nat} {I : jm_I} {Q : Option jm_V → jm_I → Prop} {o1 : Option jm_V} {x3 : Int} {s0 : Int}  (hz : (0 ≤ x3 + 1 ∧ x3 + 1 < (L : Int)) ∧ (L < 2147483648) ∧ (0 ≤ x3 + 2 ∧ x3 + 2 < (L : Int)) ∧ (L < 2147483648)) (k : Cx (jx_0 L) d md_M_taking [.inr (.inl 167), .inl (I 0 (x3 + 1).toNat), .inl (I 0 (x3 + 2).toNat)] I (fun v J => Gx (jx_0 L) (d + 1) md_L_law 728 [some (.inr (.inl 0)), o1, some (.inr (.inl 167)), some (.inl x3)] (v.toList ++ [.inl s0]) J Q)) : Gx (jx_0 L) (d + 1) md_L_law 714 [some (.inr (.inl 0)), o1, some (.inr (.inl 167)), some (.inl x3)] [.inl s0] I Q := by
  obtain ⟨hz1, hz2, hz3, hz4⟩ := hz
  show jm_Go (d + 1) 0 0 md_L_law 714 [some (.inr (.inl 0)), o1, some (.inr (.inl 167)), some (.inl x3)] [.inl s0] (jx (jx_0 L) I) (jx_Q (jx_0 L) Q)
  have hd : jm_dc md_L_law.2.1 714 [(.aload_n 2, 1), (.aload_n 0, 1), (.iload_n 3, 1), (.iconst 1, 1), (.iadd, 1), (.iaload, 1), (.aload_n 0, 1), (.iload_n 3, 1), (.iconst 2, 1), (.iadd, 1), (.iaload, 1), (.invokevirtual 101, 3)] = true := by decide +kernel
  refine go_aload_n rfl hd (fun hd => ?_)
  refine go_aload_n rfl hd (fun hd => ?_)
  refine go_iload_n rfl hd (fun hd => ?_)
  refine go_iconst hd (fun hd => ?_)
  refine go_iadd hd (fun hd => ?_)
  refine go_sload hz1.1 hz1.2 hz2 hd (fun hd => ?_)
  refine go_aload_n rfl hd (fun hd => ?_)
  refine go_iload_n rfl hd (fun hd => ?_)
  refine go_iconst hd (fun hd => ?_)
  refine go_iadd hd (fun hd => ?_)
  refine go_sload hz3.1 hz3.2 hz4 hd (fun hd => ?_)
  exact gx_virtual 167 9 [.inl (I 0 (x3 + 1).toNat), .inl (I 0 (x3 + 2).toNat)] [.inl s0] mk_M_taking co_X9 rfl ml_lw_101 in_M_taking se_M_taking rfl rfl (Nat.le_of_ble_eq_true rfl) rfl (Nat.le_of_ble_eq_true rfl) rfl hd k
theorem b_L_law_728 {L : Nat} {d : Nat} {I : jm_I} {Q : Option jm_V → jm_I → Prop} {o0 : Option jm_V} {o1 : Option jm_V} {o2 : Option jm_V} {o3 : Option jm_V} {s0 : Int} {s1 : Int}  (hz : (s0 = s1)) (kt : Gx (jx_0 L) d md_L_law 915 [o0, o1, o2, o3] [] I Q) : Gx (jx_0 L) d md_L_law 728 [o0, o1, o2, o3] [.inl s1, .inl s0] I Q := by
  have hz1 := hz
  show jm_Go d 0 0 md_L_law 728 [o0, o1, o2, o3] [.inl s1, .inl s0] (jx (jx_0 L) I) (jx_Q (jx_0 L) Q)
  have hd : jm_dc md_L_law.2.1 728 [(.if_icmp .eq 187, 3)] = true := by decide +kernel
  exact go_icmp_eqT (by decide) hz1 hd kt
theorem b_L_law_731 {L : Nat} {d : Nat} {I : jm_I} {Q : Option jm_V → jm_I → Prop} {o0 : Option jm_V} {o1 : Option jm_V} {o2 : Option jm_V} {o3 : Option jm_V}  (k : Q (some (.inl 0)) I) : Gx (jx_0 L) d md_L_law 731 [o0, o1, o2, o3] [] I Q := by
  show jm_Go d 0 0 md_L_law 731 [o0, o1, o2, o3] [] (jx (jx_0 L) I) (jx_Q (jx_0 L) Q)
  have hd : jm_dc md_L_law.2.1 731 [(.iconst 0, 1), (.ireturn, 1)] = true := by decide +kernel
  refine go_iconst hd (fun hd => ?_)
  exact go_zreturn hd rfl (Or.inl rfl) ⟨_, rfl, k⟩
theorem b_L_law_733 {L : Nat} {d : Nat} {I : jm_I} {Q : Option jm_V → jm_I → Prop} {o2 : Option jm_V} {x3 : Int}  (hz : (0 ≤ x3 + 1 ∧ x3 + 1 < (L : Int)) ∧ (L < 2147483648) ∧ (0 ≤ x3 + 2 ∧ x3 + 2 < (L : Int)) ∧ (L < 2147483648) ∧ (0 ≤ x3 + 3 ∧ x3 + 3 < (L : Int)) ∧ (L < 2147483648)) (k : Cx (jx_0 L) d md_X_odds [.inr (.inl 1), .inl (I 0 (x3 + 1).toNat), .inl (I 0 (x3 + 2).toNat), .inl (I 0 (x3 + 3).toNat)] I (fun v J => Gx (jx_0 L) (d + 1) md_L_law 752 [some (.inr (.inl 0)), some (.inr (.inl 1)), o2, some (.inl x3)] (v.toList ++ []) J Q)) : Gx (jx_0 L) (d + 1) md_L_law 733 [some (.inr (.inl 0)), some (.inr (.inl 1)), o2, some (.inl x3)] [] I Q := by
  obtain ⟨hz1, hz2, hz3, hz4, hz5, hz6⟩ := hz
  show jm_Go (d + 1) 0 0 md_L_law 733 [some (.inr (.inl 0)), some (.inr (.inl 1)), o2, some (.inl x3)] [] (jx (jx_0 L) I) (jx_Q (jx_0 L) Q)
  have hd : jm_dc md_L_law.2.1 733 [(.aload_n 1, 1), (.aload_n 0, 1), (.iload_n 3, 1), (.iconst 1, 1), (.iadd, 1), (.iaload, 1), (.aload_n 0, 1), (.iload_n 3, 1), (.iconst 2, 1), (.iadd, 1), (.iaload, 1), (.aload_n 0, 1), (.iload_n 3, 1), (.iconst 3, 1), (.iadd, 1), (.iaload, 1), (.invokevirtual 102, 3)] = true := by decide +kernel
  refine go_aload_n rfl hd (fun hd => ?_)
  refine go_aload_n rfl hd (fun hd => ?_)
  refine go_iload_n rfl hd (fun hd => ?_)
  refine go_iconst hd (fun hd => ?_)
  refine go_iadd hd (fun hd => ?_)
  refine go_sload hz1.1 hz1.2 hz2 hd (fun hd => ?_)
  refine go_aload_n rfl hd (fun hd => ?_)
  refine go_iload_n rfl hd (fun hd => ?_)
  refine go_iconst hd (fun hd => ?_)
  refine go_iadd hd (fun hd => ?_)
  refine go_sload hz3.1 hz3.2 hz4 hd (fun hd => ?_)
  refine go_aload_n rfl hd (fun hd => ?_)
  refine go_iload_n rfl hd (fun hd => ?_)
  refine go_iconst hd (fun hd => ?_)
  refine go_iadd hd (fun hd => ?_)
  refine go_sload hz5.1 hz5.2 hz6 hd (fun hd => ?_)
  exact gx_virtual 1 8 [.inl (I 0 (x3 + 1).toNat), .inl (I 0 (x3 + 2).toNat), .inl (I 0 (x3 + 3).toNat)] [] mk_X_odds co_X8 rfl ml_lw_102 in_X_odds se_X_odds rfl rfl (Nat.le_of_ble_eq_true rfl) rfl (Nat.le_of_ble_eq_true rfl) rfl hd k
theorem b_L_law_752 {L : Nat} {d : Nat} {I : jm_I} {Q : Option jm_V → jm_I → Prop} {o1 : Option jm_V} {x3 : Int} {s0 : Int}  (hz : (0 ≤ x3 + 1 ∧ x3 + 1 < (L : Int)) ∧ (L < 2147483648) ∧ (0 ≤ x3 + 2 ∧ x3 + 2 < (L : Int)) ∧ (L < 2147483648) ∧ (0 ≤ x3 + 3 ∧ x3 + 3 < (L : Int)) ∧ (L < 2147483648)) (k : Cx (jx_0 L) d md_M_odds [.inr (.inl 167), .inl (I 0 (x3 + 1).toNat), .inl (I 0 (x3 + 2).toNat), .inl (I 0 (x3 + 3).toNat)] I (fun v J => Gx (jx_0 L) (d + 1) md_L_law 771 [some (.inr (.inl 0)), o1, some (.inr (.inl 167)), some (.inl x3)] (v.toList ++ [.inl s0]) J Q)) : Gx (jx_0 L) (d + 1) md_L_law 752 [some (.inr (.inl 0)), o1, some (.inr (.inl 167)), some (.inl x3)] [.inl s0] I Q := by
  obtain ⟨hz1, hz2, hz3, hz4, hz5, hz6⟩ := hz
  show jm_Go (d + 1) 0 0 md_L_law 752 [some (.inr (.inl 0)), o1, some (.inr (.inl 167)), some (.inl x3)] [.inl s0] (jx (jx_0 L) I) (jx_Q (jx_0 L) Q)
  have hd : jm_dc md_L_law.2.1 752 [(.aload_n 2, 1), (.aload_n 0, 1), (.iload_n 3, 1), (.iconst 1, 1), (.iadd, 1), (.iaload, 1), (.aload_n 0, 1), (.iload_n 3, 1), (.iconst 2, 1), (.iadd, 1), (.iaload, 1), (.aload_n 0, 1), (.iload_n 3, 1), (.iconst 3, 1), (.iadd, 1), (.iaload, 1), (.invokevirtual 105, 3)] = true := by decide +kernel
  refine go_aload_n rfl hd (fun hd => ?_)
  refine go_aload_n rfl hd (fun hd => ?_)
  refine go_iload_n rfl hd (fun hd => ?_)
  refine go_iconst hd (fun hd => ?_)
  refine go_iadd hd (fun hd => ?_)
  refine go_sload hz1.1 hz1.2 hz2 hd (fun hd => ?_)
  refine go_aload_n rfl hd (fun hd => ?_)
  refine go_iload_n rfl hd (fun hd => ?_)
  refine go_iconst hd (fun hd => ?_)
  refine go_iadd hd (fun hd => ?_)
  refine go_sload hz3.1 hz3.2 hz4 hd (fun hd => ?_)
  refine go_aload_n rfl hd (fun hd => ?_)
  refine go_iload_n rfl hd (fun hd => ?_)
  refine go_iconst hd (fun hd => ?_)
  refine go_iadd hd (fun hd => ?_)
  refine go_sload hz5.1 hz5.2 hz6 hd (fun hd => ?_)
  exact gx_virtual 167 9 [.inl (I 0 (x3 + 1).toNat), .inl (I 0 (x3 + 2).toNat), .inl (I 0 (x3 + 3).toNat)] [.inl s0] mk_M_odds co_X9 rfl ml_lw_105 in_M_odds se_M_odds rfl rfl (Nat.le_of_ble_eq_true rfl) rfl (Nat.le_of_ble_eq_true rfl) rfl hd k
theorem b_L_law_771 {L : Nat} {d : Nat} {I : jm_I} {Q : Option jm_V → jm_I → Prop} {o0 : Option jm_V} {o1 : Option jm_V} {o2 : Option jm_V} {o3 : Option jm_V} {s0 : Int} {s1 : Int}  (hz : (s0 = s1)) (kt : Gx (jx_0 L) d md_L_law 915 [o0, o1, o2, o3] [] I Q) : Gx (jx_0 L) d md_L_law 771 [o0, o1, o2, o3] [.inl s1, .inl s0] I Q := by
  have hz1 := hz
  show jm_Go d 0 0 md_L_law 771 [o0, o1, o2, o3] [.inl s1, .inl s0] (jx (jx_0 L) I) (jx_Q (jx_0 L) Q)
  have hd : jm_dc md_L_law.2.1 771 [(.if_icmp .eq 144, 3)] = true := by decide +kernel
  exact go_icmp_eqT (by decide) hz1 hd kt
theorem b_L_law_774 {L : Nat} {d : Nat} {I : jm_I} {Q : Option jm_V → jm_I → Prop} {o0 : Option jm_V} {o1 : Option jm_V} {o2 : Option jm_V} {o3 : Option jm_V}  (k : Q (some (.inl 0)) I) : Gx (jx_0 L) d md_L_law 774 [o0, o1, o2, o3] [] I Q := by
  show jm_Go d 0 0 md_L_law 774 [o0, o1, o2, o3] [] (jx (jx_0 L) I) (jx_Q (jx_0 L) Q)
  have hd : jm_dc md_L_law.2.1 774 [(.iconst 0, 1), (.ireturn, 1)] = true := by decide +kernel
  refine go_iconst hd (fun hd => ?_)
  exact go_zreturn hd rfl (Or.inl rfl) ⟨_, rfl, k⟩
theorem b_L_law_776 {L : Nat} {d : Nat} {I : jm_I} {Q : Option jm_V → jm_I → Prop} {o2 : Option jm_V} {x3 : Int}  (hz : (0 ≤ x3 + 1 ∧ x3 + 1 < (L : Int)) ∧ (L < 2147483648)) (k : Cx (jx_0 L) d md_X_worth [.inr (.inl 1), .inl (I 0 (x3 + 1).toNat)] I (fun v J => Gx (jx_0 L) (d + 1) md_L_law 785 [some (.inr (.inl 0)), some (.inr (.inl 1)), o2, some (.inl x3)] (v.toList ++ []) J Q)) : Gx (jx_0 L) (d + 1) md_L_law 776 [some (.inr (.inl 0)), some (.inr (.inl 1)), o2, some (.inl x3)] [] I Q := by
  obtain ⟨hz1, hz2⟩ := hz
  show jm_Go (d + 1) 0 0 md_L_law 776 [some (.inr (.inl 0)), some (.inr (.inl 1)), o2, some (.inl x3)] [] (jx (jx_0 L) I) (jx_Q (jx_0 L) Q)
  have hd : jm_dc md_L_law.2.1 776 [(.aload_n 1, 1), (.aload_n 0, 1), (.iload_n 3, 1), (.iconst 1, 1), (.iadd, 1), (.iaload, 1), (.invokevirtual 106, 3)] = true := by decide +kernel
  refine go_aload_n rfl hd (fun hd => ?_)
  refine go_aload_n rfl hd (fun hd => ?_)
  refine go_iload_n rfl hd (fun hd => ?_)
  refine go_iconst hd (fun hd => ?_)
  refine go_iadd hd (fun hd => ?_)
  refine go_sload hz1.1 hz1.2 hz2 hd (fun hd => ?_)
  exact gx_virtual 1 8 [.inl (I 0 (x3 + 1).toNat)] [] mk_X_worth co_X8 rfl ml_lw_106 in_X_worth se_X_worth rfl rfl (Nat.le_of_ble_eq_true rfl) rfl (Nat.le_of_ble_eq_true rfl) rfl hd k
theorem b_L_law_785 {L : Nat} {d : Nat} {I : jm_I} {Q : Option jm_V → jm_I → Prop} {o1 : Option jm_V} {x3 : Int} {s0 : Int}  (hz : (0 ≤ x3 + 1 ∧ x3 + 1 < (L : Int)) ∧ (L < 2147483648)) (k : Cx (jx_0 L) d md_M_worth [.inr (.inl 167), .inl (I 0 (x3 + 1).toNat)] I (fun v J => Gx (jx_0 L) (d + 1) md_L_law 794 [some (.inr (.inl 0)), o1, some (.inr (.inl 167)), some (.inl x3)] (v.toList ++ [.inl s0]) J Q)) : Gx (jx_0 L) (d + 1) md_L_law 785 [some (.inr (.inl 0)), o1, some (.inr (.inl 167)), some (.inl x3)] [.inl s0] I Q := by
  obtain ⟨hz1, hz2⟩ := hz
  show jm_Go (d + 1) 0 0 md_L_law 785 [some (.inr (.inl 0)), o1, some (.inr (.inl 167)), some (.inl x3)] [.inl s0] (jx (jx_0 L) I) (jx_Q (jx_0 L) Q)
  have hd : jm_dc md_L_law.2.1 785 [(.aload_n 2, 1), (.aload_n 0, 1), (.iload_n 3, 1), (.iconst 1, 1), (.iadd, 1), (.iaload, 1), (.invokevirtual 109, 3)] = true := by decide +kernel
  refine go_aload_n rfl hd (fun hd => ?_)
  refine go_aload_n rfl hd (fun hd => ?_)
  refine go_iload_n rfl hd (fun hd => ?_)
  refine go_iconst hd (fun hd => ?_)
  refine go_iadd hd (fun hd => ?_)
  refine go_sload hz1.1 hz1.2 hz2 hd (fun hd => ?_)
  exact gx_virtual 167 9 [.inl (I 0 (x3 + 1).toNat)] [.inl s0] mk_M_worth co_X9 rfl ml_lw_109 in_M_worth se_M_worth rfl rfl (Nat.le_of_ble_eq_true rfl) rfl (Nat.le_of_ble_eq_true rfl) rfl hd k
theorem b_L_law_794 {L : Nat} {d : Nat} {I : jm_I} {Q : Option jm_V → jm_I → Prop} {o0 : Option jm_V} {o1 : Option jm_V} {o2 : Option jm_V} {o3 : Option jm_V} {s0 : Int} {s1 : Int}  (hz : (s0 = s1)) (kt : Gx (jx_0 L) d md_L_law 915 [o0, o1, o2, o3] [] I Q) : Gx (jx_0 L) d md_L_law 794 [o0, o1, o2, o3] [.inl s1, .inl s0] I Q := by
  have hz1 := hz
  show jm_Go d 0 0 md_L_law 794 [o0, o1, o2, o3] [.inl s1, .inl s0] (jx (jx_0 L) I) (jx_Q (jx_0 L) Q)
  have hd : jm_dc md_L_law.2.1 794 [(.if_icmp .eq 121, 3)] = true := by decide +kernel
  exact go_icmp_eqT (by decide) hz1 hd kt
theorem b_L_law_797 {L : Nat} {d : Nat} {I : jm_I} {Q : Option jm_V → jm_I → Prop} {o0 : Option jm_V} {o1 : Option jm_V} {o2 : Option jm_V} {o3 : Option jm_V}  (k : Q (some (.inl 0)) I) : Gx (jx_0 L) d md_L_law 797 [o0, o1, o2, o3] [] I Q := by
  show jm_Go d 0 0 md_L_law 797 [o0, o1, o2, o3] [] (jx (jx_0 L) I) (jx_Q (jx_0 L) Q)
  have hd : jm_dc md_L_law.2.1 797 [(.iconst 0, 1), (.ireturn, 1)] = true := by decide +kernel
  refine go_iconst hd (fun hd => ?_)
  exact go_zreturn hd rfl (Or.inl rfl) ⟨_, rfl, k⟩
theorem b_L_law_799 {L : Nat} {d : Nat} {I : jm_I} {Q : Option jm_V → jm_I → Prop} {o2 : Option jm_V} {x3 : Int}  (hz : (0 ≤ x3 + 1 ∧ x3 + 1 < (L : Int)) ∧ (L < 2147483648) ∧ (0 ≤ x3 + 2 ∧ x3 + 2 < (L : Int)) ∧ (L < 2147483648)) (k : Cx (jx_0 L) d md_X_rate [.inr (.inl 1), .inl (I 0 (x3 + 1).toNat), .inl (I 0 (x3 + 2).toNat)] I (fun v J => Gx (jx_0 L) (d + 1) md_L_law 813 [some (.inr (.inl 0)), some (.inr (.inl 1)), o2, some (.inl x3)] (v.toList ++ []) J Q)) : Gx (jx_0 L) (d + 1) md_L_law 799 [some (.inr (.inl 0)), some (.inr (.inl 1)), o2, some (.inl x3)] [] I Q := by
  obtain ⟨hz1, hz2, hz3, hz4⟩ := hz
  show jm_Go (d + 1) 0 0 md_L_law 799 [some (.inr (.inl 0)), some (.inr (.inl 1)), o2, some (.inl x3)] [] (jx (jx_0 L) I) (jx_Q (jx_0 L) Q)
  have hd : jm_dc md_L_law.2.1 799 [(.aload_n 1, 1), (.aload_n 0, 1), (.iload_n 3, 1), (.iconst 1, 1), (.iadd, 1), (.iaload, 1), (.aload_n 0, 1), (.iload_n 3, 1), (.iconst 2, 1), (.iadd, 1), (.iaload, 1), (.invokevirtual 110, 3)] = true := by decide +kernel
  refine go_aload_n rfl hd (fun hd => ?_)
  refine go_aload_n rfl hd (fun hd => ?_)
  refine go_iload_n rfl hd (fun hd => ?_)
  refine go_iconst hd (fun hd => ?_)
  refine go_iadd hd (fun hd => ?_)
  refine go_sload hz1.1 hz1.2 hz2 hd (fun hd => ?_)
  refine go_aload_n rfl hd (fun hd => ?_)
  refine go_iload_n rfl hd (fun hd => ?_)
  refine go_iconst hd (fun hd => ?_)
  refine go_iadd hd (fun hd => ?_)
  refine go_sload hz3.1 hz3.2 hz4 hd (fun hd => ?_)
  exact gx_virtual 1 8 [.inl (I 0 (x3 + 1).toNat), .inl (I 0 (x3 + 2).toNat)] [] mk_X_rate co_X8 rfl ml_lw_110 in_X_rate se_X_rate rfl rfl (Nat.le_of_ble_eq_true rfl) rfl (Nat.le_of_ble_eq_true rfl) rfl hd k
theorem b_L_law_813 {L : Nat} {d : Nat} {I : jm_I} {Q : Option jm_V → jm_I → Prop} {o1 : Option jm_V} {x3 : Int} {s0 : Int}  (hz : (0 ≤ x3 + 1 ∧ x3 + 1 < (L : Int)) ∧ (L < 2147483648) ∧ (0 ≤ x3 + 2 ∧ x3 + 2 < (L : Int)) ∧ (L < 2147483648)) (k : Cx (jx_0 L) d md_M_rate [.inr (.inl 167), .inl (I 0 (x3 + 1).toNat), .inl (I 0 (x3 + 2).toNat)] I (fun v J => Gx (jx_0 L) (d + 1) md_L_law 827 [some (.inr (.inl 0)), o1, some (.inr (.inl 167)), some (.inl x3)] (v.toList ++ [.inl s0]) J Q)) : Gx (jx_0 L) (d + 1) md_L_law 813 [some (.inr (.inl 0)), o1, some (.inr (.inl 167)), some (.inl x3)] [.inl s0] I Q := by
  obtain ⟨hz1, hz2, hz3, hz4⟩ := hz
  show jm_Go (d + 1) 0 0 md_L_law 813 [some (.inr (.inl 0)), o1, some (.inr (.inl 167)), some (.inl x3)] [.inl s0] (jx (jx_0 L) I) (jx_Q (jx_0 L) Q)
  have hd : jm_dc md_L_law.2.1 813 [(.aload_n 2, 1), (.aload_n 0, 1), (.iload_n 3, 1), (.iconst 1, 1), (.iadd, 1), (.iaload, 1), (.aload_n 0, 1), (.iload_n 3, 1), (.iconst 2, 1), (.iadd, 1), (.iaload, 1), (.invokevirtual 113, 3)] = true := by decide +kernel
  refine go_aload_n rfl hd (fun hd => ?_)
  refine go_aload_n rfl hd (fun hd => ?_)
  refine go_iload_n rfl hd (fun hd => ?_)
  refine go_iconst hd (fun hd => ?_)
  refine go_iadd hd (fun hd => ?_)
  refine go_sload hz1.1 hz1.2 hz2 hd (fun hd => ?_)
  refine go_aload_n rfl hd (fun hd => ?_)
  refine go_iload_n rfl hd (fun hd => ?_)
  refine go_iconst hd (fun hd => ?_)
  refine go_iadd hd (fun hd => ?_)
  refine go_sload hz3.1 hz3.2 hz4 hd (fun hd => ?_)
  exact gx_virtual 167 9 [.inl (I 0 (x3 + 1).toNat), .inl (I 0 (x3 + 2).toNat)] [.inl s0] mk_M_rate co_X9 rfl ml_lw_113 in_M_rate se_M_rate rfl rfl (Nat.le_of_ble_eq_true rfl) rfl (Nat.le_of_ble_eq_true rfl) rfl hd k
theorem b_L_law_827 {L : Nat} {d : Nat} {I : jm_I} {Q : Option jm_V → jm_I → Prop} {o0 : Option jm_V} {o1 : Option jm_V} {o2 : Option jm_V} {o3 : Option jm_V} {s0 : Int} {s1 : Int}  (hz : (s0 = s1)) (kt : Gx (jx_0 L) d md_L_law 915 [o0, o1, o2, o3] [] I Q) : Gx (jx_0 L) d md_L_law 827 [o0, o1, o2, o3] [.inl s1, .inl s0] I Q := by
  have hz1 := hz
  show jm_Go d 0 0 md_L_law 827 [o0, o1, o2, o3] [.inl s1, .inl s0] (jx (jx_0 L) I) (jx_Q (jx_0 L) Q)
  have hd : jm_dc md_L_law.2.1 827 [(.if_icmp .eq 88, 3)] = true := by decide +kernel
  exact go_icmp_eqT (by decide) hz1 hd kt
theorem b_L_law_830 {L : Nat} {d : Nat} {I : jm_I} {Q : Option jm_V → jm_I → Prop} {o0 : Option jm_V} {o1 : Option jm_V} {o2 : Option jm_V} {o3 : Option jm_V}  (k : Q (some (.inl 0)) I) : Gx (jx_0 L) d md_L_law 830 [o0, o1, o2, o3] [] I Q := by
  show jm_Go d 0 0 md_L_law 830 [o0, o1, o2, o3] [] (jx (jx_0 L) I) (jx_Q (jx_0 L) Q)
  have hd : jm_dc md_L_law.2.1 830 [(.iconst 0, 1), (.ireturn, 1)] = true := by decide +kernel
  refine go_iconst hd (fun hd => ?_)
  exact go_zreturn hd rfl (Or.inl rfl) ⟨_, rfl, k⟩
theorem b_L_law_832 {L : Nat} {d : Nat} {I : jm_I} {Q : Option jm_V → jm_I → Prop} {o2 : Option jm_V} {x3 : Int}  (hz : (0 ≤ x3 + 1 ∧ x3 + 1 < (L : Int)) ∧ (L < 2147483648)) (k : Cx (jx_0 L) d md_X_keep [.inr (.inl 1), .inl (I 0 (x3 + 1).toNat)] I (fun v J => Gx (jx_0 L) (d + 1) md_L_law 841 [some (.inr (.inl 0)), some (.inr (.inl 1)), o2, some (.inl x3)] (v.toList ++ []) J Q)) : Gx (jx_0 L) (d + 1) md_L_law 832 [some (.inr (.inl 0)), some (.inr (.inl 1)), o2, some (.inl x3)] [] I Q := by
  obtain ⟨hz1, hz2⟩ := hz
  show jm_Go (d + 1) 0 0 md_L_law 832 [some (.inr (.inl 0)), some (.inr (.inl 1)), o2, some (.inl x3)] [] (jx (jx_0 L) I) (jx_Q (jx_0 L) Q)
  have hd : jm_dc md_L_law.2.1 832 [(.aload_n 1, 1), (.aload_n 0, 1), (.iload_n 3, 1), (.iconst 1, 1), (.iadd, 1), (.iaload, 1), (.invokevirtual 114, 3)] = true := by decide +kernel
  refine go_aload_n rfl hd (fun hd => ?_)
  refine go_aload_n rfl hd (fun hd => ?_)
  refine go_iload_n rfl hd (fun hd => ?_)
  refine go_iconst hd (fun hd => ?_)
  refine go_iadd hd (fun hd => ?_)
  refine go_sload hz1.1 hz1.2 hz2 hd (fun hd => ?_)
  exact gx_virtual 1 8 [.inl (I 0 (x3 + 1).toNat)] [] mk_X_keep co_X8 rfl ml_lw_114 in_X_keep se_X_keep rfl rfl (Nat.le_of_ble_eq_true rfl) rfl (Nat.le_of_ble_eq_true rfl) rfl hd k
theorem b_L_law_841 {L : Nat} {d : Nat} {I : jm_I} {Q : Option jm_V → jm_I → Prop} {o1 : Option jm_V} {x3 : Int} {s0 : Int}  (hz : (0 ≤ x3 + 1 ∧ x3 + 1 < (L : Int)) ∧ (L < 2147483648)) (k : Cx (jx_0 L) d md_M_keep [.inr (.inl 167), .inl (I 0 (x3 + 1).toNat)] I (fun v J => Gx (jx_0 L) (d + 1) md_L_law 850 [some (.inr (.inl 0)), o1, some (.inr (.inl 167)), some (.inl x3)] (v.toList ++ [.inl s0]) J Q)) : Gx (jx_0 L) (d + 1) md_L_law 841 [some (.inr (.inl 0)), o1, some (.inr (.inl 167)), some (.inl x3)] [.inl s0] I Q := by
  obtain ⟨hz1, hz2⟩ := hz
  show jm_Go (d + 1) 0 0 md_L_law 841 [some (.inr (.inl 0)), o1, some (.inr (.inl 167)), some (.inl x3)] [.inl s0] (jx (jx_0 L) I) (jx_Q (jx_0 L) Q)
  have hd : jm_dc md_L_law.2.1 841 [(.aload_n 2, 1), (.aload_n 0, 1), (.iload_n 3, 1), (.iconst 1, 1), (.iadd, 1), (.iaload, 1), (.invokevirtual 117, 3)] = true := by decide +kernel
  refine go_aload_n rfl hd (fun hd => ?_)
  refine go_aload_n rfl hd (fun hd => ?_)
  refine go_iload_n rfl hd (fun hd => ?_)
  refine go_iconst hd (fun hd => ?_)
  refine go_iadd hd (fun hd => ?_)
  refine go_sload hz1.1 hz1.2 hz2 hd (fun hd => ?_)
  exact gx_virtual 167 9 [.inl (I 0 (x3 + 1).toNat)] [.inl s0] mk_M_keep co_X9 rfl ml_lw_117 in_M_keep se_M_keep rfl rfl (Nat.le_of_ble_eq_true rfl) rfl (Nat.le_of_ble_eq_true rfl) rfl hd k
theorem b_L_law_850 {L : Nat} {d : Nat} {I : jm_I} {Q : Option jm_V → jm_I → Prop} {o0 : Option jm_V} {o1 : Option jm_V} {o2 : Option jm_V} {o3 : Option jm_V} {s0 : Int} {s1 : Int}  (hz : (s0 = s1)) (kt : Gx (jx_0 L) d md_L_law 915 [o0, o1, o2, o3] [] I Q) : Gx (jx_0 L) d md_L_law 850 [o0, o1, o2, o3] [.inl s1, .inl s0] I Q := by
  have hz1 := hz
  show jm_Go d 0 0 md_L_law 850 [o0, o1, o2, o3] [.inl s1, .inl s0] (jx (jx_0 L) I) (jx_Q (jx_0 L) Q)
  have hd : jm_dc md_L_law.2.1 850 [(.if_icmp .eq 65, 3)] = true := by decide +kernel
  exact go_icmp_eqT (by decide) hz1 hd kt
theorem b_L_law_853 {L : Nat} {d : Nat} {I : jm_I} {Q : Option jm_V → jm_I → Prop} {o0 : Option jm_V} {o1 : Option jm_V} {o2 : Option jm_V} {o3 : Option jm_V}  (k : Q (some (.inl 0)) I) : Gx (jx_0 L) d md_L_law 853 [o0, o1, o2, o3] [] I Q := by
  show jm_Go d 0 0 md_L_law 853 [o0, o1, o2, o3] [] (jx (jx_0 L) I) (jx_Q (jx_0 L) Q)
  have hd : jm_dc md_L_law.2.1 853 [(.iconst 0, 1), (.ireturn, 1)] = true := by decide +kernel
  refine go_iconst hd (fun hd => ?_)
  exact go_zreturn hd rfl (Or.inl rfl) ⟨_, rfl, k⟩
theorem b_L_law_855 {L : Nat} {d : Nat} {I : jm_I} {Q : Option jm_V → jm_I → Prop} {o2 : Option jm_V} {x3 : Int}  (hz : (0 ≤ x3 + 1 ∧ x3 + 1 < (L : Int)) ∧ (L < 2147483648)) (k : Cx (jx_0 L) d md_X_back [.inr (.inl 1), .inl (I 0 (x3 + 1).toNat)] I (fun v J => Gx (jx_0 L) (d + 1) md_L_law 864 [some (.inr (.inl 0)), some (.inr (.inl 1)), o2, some (.inl x3)] (v.toList ++ []) J Q)) : Gx (jx_0 L) (d + 1) md_L_law 855 [some (.inr (.inl 0)), some (.inr (.inl 1)), o2, some (.inl x3)] [] I Q := by
  obtain ⟨hz1, hz2⟩ := hz
  show jm_Go (d + 1) 0 0 md_L_law 855 [some (.inr (.inl 0)), some (.inr (.inl 1)), o2, some (.inl x3)] [] (jx (jx_0 L) I) (jx_Q (jx_0 L) Q)
  have hd : jm_dc md_L_law.2.1 855 [(.aload_n 1, 1), (.aload_n 0, 1), (.iload_n 3, 1), (.iconst 1, 1), (.iadd, 1), (.iaload, 1), (.invokevirtual 118, 3)] = true := by decide +kernel
  refine go_aload_n rfl hd (fun hd => ?_)
  refine go_aload_n rfl hd (fun hd => ?_)
  refine go_iload_n rfl hd (fun hd => ?_)
  refine go_iconst hd (fun hd => ?_)
  refine go_iadd hd (fun hd => ?_)
  refine go_sload hz1.1 hz1.2 hz2 hd (fun hd => ?_)
  exact gx_virtual 1 8 [.inl (I 0 (x3 + 1).toNat)] [] mk_X_back co_X8 rfl ml_lw_118 in_X_back se_X_back rfl rfl (Nat.le_of_ble_eq_true rfl) rfl (Nat.le_of_ble_eq_true rfl) rfl hd k
theorem b_L_law_864 {L : Nat} {d : Nat} {I : jm_I} {Q : Option jm_V → jm_I → Prop} {o1 : Option jm_V} {x3 : Int} {s0 : Int}  (hz : (0 ≤ x3 + 1 ∧ x3 + 1 < (L : Int)) ∧ (L < 2147483648)) (k : Cx (jx_0 L) d md_M_back [.inr (.inl 167), .inl (I 0 (x3 + 1).toNat)] I (fun v J => Gx (jx_0 L) (d + 1) md_L_law 873 [some (.inr (.inl 0)), o1, some (.inr (.inl 167)), some (.inl x3)] (v.toList ++ [.inl s0]) J Q)) : Gx (jx_0 L) (d + 1) md_L_law 864 [some (.inr (.inl 0)), o1, some (.inr (.inl 167)), some (.inl x3)] [.inl s0] I Q := by
  obtain ⟨hz1, hz2⟩ := hz
  show jm_Go (d + 1) 0 0 md_L_law 864 [some (.inr (.inl 0)), o1, some (.inr (.inl 167)), some (.inl x3)] [.inl s0] (jx (jx_0 L) I) (jx_Q (jx_0 L) Q)
  have hd : jm_dc md_L_law.2.1 864 [(.aload_n 2, 1), (.aload_n 0, 1), (.iload_n 3, 1), (.iconst 1, 1), (.iadd, 1), (.iaload, 1), (.invokevirtual 121, 3)] = true := by decide +kernel
  refine go_aload_n rfl hd (fun hd => ?_)
  refine go_aload_n rfl hd (fun hd => ?_)
  refine go_iload_n rfl hd (fun hd => ?_)
  refine go_iconst hd (fun hd => ?_)
  refine go_iadd hd (fun hd => ?_)
  refine go_sload hz1.1 hz1.2 hz2 hd (fun hd => ?_)
  exact gx_virtual 167 9 [.inl (I 0 (x3 + 1).toNat)] [.inl s0] mk_M_back co_X9 rfl ml_lw_121 in_M_back se_M_back rfl rfl (Nat.le_of_ble_eq_true rfl) rfl (Nat.le_of_ble_eq_true rfl) rfl hd k
theorem b_L_law_873 {L : Nat} {d : Nat} {I : jm_I} {Q : Option jm_V → jm_I → Prop} {o0 : Option jm_V} {o1 : Option jm_V} {o2 : Option jm_V} {o3 : Option jm_V} {s0 : Int} {s1 : Int}  (hz : (s0 = s1)) (kt : Gx (jx_0 L) d md_L_law 915 [o0, o1, o2, o3] [] I Q) : Gx (jx_0 L) d md_L_law 873 [o0, o1, o2, o3] [.inl s1, .inl s0] I Q := by
  have hz1 := hz
  show jm_Go d 0 0 md_L_law 873 [o0, o1, o2, o3] [.inl s1, .inl s0] (jx (jx_0 L) I) (jx_Q (jx_0 L) Q)
  have hd : jm_dc md_L_law.2.1 873 [(.if_icmp .eq 42, 3)] = true := by decide +kernel
  exact go_icmp_eqT (by decide) hz1 hd kt
theorem b_L_law_876 {L : Nat} {d : Nat} {I : jm_I} {Q : Option jm_V → jm_I → Prop} {o0 : Option jm_V} {o1 : Option jm_V} {o2 : Option jm_V} {o3 : Option jm_V}  (k : Q (some (.inl 0)) I) : Gx (jx_0 L) d md_L_law 876 [o0, o1, o2, o3] [] I Q := by
  show jm_Go d 0 0 md_L_law 876 [o0, o1, o2, o3] [] (jx (jx_0 L) I) (jx_Q (jx_0 L) Q)
  have hd : jm_dc md_L_law.2.1 876 [(.iconst 0, 1), (.ireturn, 1)] = true := by decide +kernel
  refine go_iconst hd (fun hd => ?_)
  exact go_zreturn hd rfl (Or.inl rfl) ⟨_, rfl, k⟩
theorem b_L_law_878 {L : Nat} {d : Nat} {I : jm_I} {Q : Option jm_V → jm_I → Prop} {o2 : Option jm_V} {x3 : Int}  (hz : (0 ≤ x3 + 1 ∧ x3 + 1 < (L : Int)) ∧ (L < 2147483648)) (k : Cx (jx_0 L) d md_X_count [.inr (.inl 1), .inl (I 0 (x3 + 1).toNat)] I (fun v J => Gx (jx_0 L) (d + 1) md_L_law 887 [some (.inr (.inl 0)), some (.inr (.inl 1)), o2, some (.inl x3)] (v.toList ++ []) J Q)) : Gx (jx_0 L) (d + 1) md_L_law 878 [some (.inr (.inl 0)), some (.inr (.inl 1)), o2, some (.inl x3)] [] I Q := by
  obtain ⟨hz1, hz2⟩ := hz
  show jm_Go (d + 1) 0 0 md_L_law 878 [some (.inr (.inl 0)), some (.inr (.inl 1)), o2, some (.inl x3)] [] (jx (jx_0 L) I) (jx_Q (jx_0 L) Q)
  have hd : jm_dc md_L_law.2.1 878 [(.aload_n 1, 1), (.aload_n 0, 1), (.iload_n 3, 1), (.iconst 1, 1), (.iadd, 1), (.iaload, 1), (.invokevirtual 122, 3)] = true := by decide +kernel
  refine go_aload_n rfl hd (fun hd => ?_)
  refine go_aload_n rfl hd (fun hd => ?_)
  refine go_iload_n rfl hd (fun hd => ?_)
  refine go_iconst hd (fun hd => ?_)
  refine go_iadd hd (fun hd => ?_)
  refine go_sload hz1.1 hz1.2 hz2 hd (fun hd => ?_)
  exact gx_virtual 1 8 [.inl (I 0 (x3 + 1).toNat)] [] mk_X_count co_X8 rfl ml_lw_122 in_X_count se_X_count rfl rfl (Nat.le_of_ble_eq_true rfl) rfl (Nat.le_of_ble_eq_true rfl) rfl hd k
theorem b_L_law_887 {L : Nat} {d : Nat} {I : jm_I} {Q : Option jm_V → jm_I → Prop} {o1 : Option jm_V} {x3 : Int} {s0 : Int}  (hz : (0 ≤ x3 + 1 ∧ x3 + 1 < (L : Int)) ∧ (L < 2147483648)) (k : Cx (jx_0 L) d md_M_count [.inr (.inl 167), .inl (I 0 (x3 + 1).toNat)] I (fun v J => Gx (jx_0 L) (d + 1) md_L_law 896 [some (.inr (.inl 0)), o1, some (.inr (.inl 167)), some (.inl x3)] (v.toList ++ [.inl s0]) J Q)) : Gx (jx_0 L) (d + 1) md_L_law 887 [some (.inr (.inl 0)), o1, some (.inr (.inl 167)), some (.inl x3)] [.inl s0] I Q := by
  obtain ⟨hz1, hz2⟩ := hz
  show jm_Go (d + 1) 0 0 md_L_law 887 [some (.inr (.inl 0)), o1, some (.inr (.inl 167)), some (.inl x3)] [.inl s0] (jx (jx_0 L) I) (jx_Q (jx_0 L) Q)
  have hd : jm_dc md_L_law.2.1 887 [(.aload_n 2, 1), (.aload_n 0, 1), (.iload_n 3, 1), (.iconst 1, 1), (.iadd, 1), (.iaload, 1), (.invokevirtual 125, 3)] = true := by decide +kernel
  refine go_aload_n rfl hd (fun hd => ?_)
  refine go_aload_n rfl hd (fun hd => ?_)
  refine go_iload_n rfl hd (fun hd => ?_)
  refine go_iconst hd (fun hd => ?_)
  refine go_iadd hd (fun hd => ?_)
  refine go_sload hz1.1 hz1.2 hz2 hd (fun hd => ?_)
  exact gx_virtual 167 9 [.inl (I 0 (x3 + 1).toNat)] [.inl s0] mk_M_count co_X9 rfl ml_lw_125 in_M_count se_M_count rfl rfl (Nat.le_of_ble_eq_true rfl) rfl (Nat.le_of_ble_eq_true rfl) rfl hd k
theorem b_L_law_896 {L : Nat} {d : Nat} {I : jm_I} {Q : Option jm_V → jm_I → Prop} {o0 : Option jm_V} {o1 : Option jm_V} {o2 : Option jm_V} {o3 : Option jm_V} {s0 : Int} {s1 : Int}  (hz : (s0 = s1)) (kt : Gx (jx_0 L) d md_L_law 915 [o0, o1, o2, o3] [] I Q) : Gx (jx_0 L) d md_L_law 896 [o0, o1, o2, o3] [.inl s1, .inl s0] I Q := by
  have hz1 := hz
  show jm_Go d 0 0 md_L_law 896 [o0, o1, o2, o3] [.inl s1, .inl s0] (jx (jx_0 L) I) (jx_Q (jx_0 L) Q)
  have hd : jm_dc md_L_law.2.1 896 [(.if_icmp .eq 19, 3)] = true := by decide +kernel
  exact go_icmp_eqT (by decide) hz1 hd kt
theorem b_L_law_899 {L : Nat} {d : Nat} {I : jm_I} {Q : Option jm_V → jm_I → Prop} {o0 : Option jm_V} {o1 : Option jm_V} {o2 : Option jm_V} {o3 : Option jm_V}  (k : Q (some (.inl 0)) I) : Gx (jx_0 L) d md_L_law 899 [o0, o1, o2, o3] [] I Q := by
  show jm_Go d 0 0 md_L_law 899 [o0, o1, o2, o3] [] (jx (jx_0 L) I) (jx_Q (jx_0 L) Q)
  have hd : jm_dc md_L_law.2.1 899 [(.iconst 0, 1), (.ireturn, 1)] = true := by decide +kernel
  refine go_iconst hd (fun hd => ?_)
  exact go_zreturn hd rfl (Or.inl rfl) ⟨_, rfl, k⟩
theorem b_L_law_901 {L : Nat} {d : Nat} {I : jm_I} {Q : Option jm_V → jm_I → Prop} {o0 : Option jm_V} {o2 : Option jm_V} {o3 : Option jm_V}  (k : Cx (jx_0 L) d md_X_trace [.inr (.inl 1)] I (fun v J => Gx (jx_0 L) (d + 1) md_L_law 905 [o0, some (.inr (.inl 1)), o2, o3] (v.toList ++ []) J Q)) : Gx (jx_0 L) (d + 1) md_L_law 901 [o0, some (.inr (.inl 1)), o2, o3] [] I Q := by
  show jm_Go (d + 1) 0 0 md_L_law 901 [o0, some (.inr (.inl 1)), o2, o3] [] (jx (jx_0 L) I) (jx_Q (jx_0 L) Q)
  have hd : jm_dc md_L_law.2.1 901 [(.aload_n 1, 1), (.invokevirtual 126, 3)] = true := by decide +kernel
  refine go_aload_n rfl hd (fun hd => ?_)
  exact gx_virtual 1 8 [] [] mk_X_trace co_X8 rfl ml_lw_126 in_X_trace se_X_trace rfl rfl (Nat.le_of_ble_eq_true rfl) rfl (Nat.le_of_ble_eq_true rfl) rfl hd k
theorem b_L_law_905 {L : Nat} {d : Nat} {I : jm_I} {Q : Option jm_V → jm_I → Prop} {o0 : Option jm_V} {o1 : Option jm_V} {o3 : Option jm_V} {b0 : Int}  (k : Cx (jx_0 L) d md_M_trace [.inr (.inl 167)] I (fun v J => Gx (jx_0 L) (d + 1) md_L_law 909 [o0, o1, some (.inr (.inl 167)), o3] (v.toList ++ [.inr (.inr (b0))]) J Q)) : Gx (jx_0 L) (d + 1) md_L_law 905 [o0, o1, some (.inr (.inl 167)), o3] [.inr (.inr (b0))] I Q := by
  show jm_Go (d + 1) 0 0 md_L_law 905 [o0, o1, some (.inr (.inl 167)), o3] [.inr (.inr (b0))] (jx (jx_0 L) I) (jx_Q (jx_0 L) Q)
  have hd : jm_dc md_L_law.2.1 905 [(.aload_n 2, 1), (.invokevirtual 130, 3)] = true := by decide +kernel
  refine go_aload_n rfl hd (fun hd => ?_)
  exact gx_virtual 167 9 [] [.inr (.inr (b0))] mk_M_trace co_X9 rfl ml_lw_130 in_M_trace se_M_trace rfl rfl (Nat.le_of_ble_eq_true rfl) rfl (Nat.le_of_ble_eq_true rfl) rfl hd k
theorem b_L_law_909 {L : Nat} {d : Nat} {I : jm_I} {Q : Option jm_V → jm_I → Prop} {o0 : Option jm_V} {o1 : Option jm_V} {o2 : Option jm_V} {o3 : Option jm_V} {b0 : Int} {b1 : Int}  (hz : (b0 = b1)) (kt : (0 : Int) = 0 → Gx (jx_0 L) d md_L_law 915 [o0, o1, o2, o3] [] I Q) (kf : ¬ (0 : Int) = 0 → Gx (jx_0 L) d md_L_law 913 [o0, o1, o2, o3] [] I Q) : Gx (jx_0 L) d md_L_law 909 [o0, o1, o2, o3] [.inr (.inr (b1)), .inr (.inr (b0))] I Q := by
  have hz1 := hz
  show jm_Go d 0 0 md_L_law 909 [o0, o1, o2, o3] [.inr (.inr (b1)), .inr (.inr (b0))] (jx (jx_0 L) I) (jx_Q (jx_0 L) Q)
  have hd : jm_dc md_L_law.2.1 909 [(.lcmp, 1), (.ifCond .eq 5, 3)] = true := by decide +kernel
  refine go_lcmp hz1 hd (fun hd => ?_)
  exact go_if_eq (by decide) ⟨by decide, by decide⟩ hd kt kf
theorem b_L_law_913 {L : Nat} {d : Nat} {I : jm_I} {Q : Option jm_V → jm_I → Prop} {o0 : Option jm_V} {o1 : Option jm_V} {o2 : Option jm_V} {o3 : Option jm_V}  (k : Q (some (.inl 0)) I) : Gx (jx_0 L) d md_L_law 913 [o0, o1, o2, o3] [] I Q := by
  show jm_Go d 0 0 md_L_law 913 [o0, o1, o2, o3] [] (jx (jx_0 L) I) (jx_Q (jx_0 L) Q)
  have hd : jm_dc md_L_law.2.1 913 [(.iconst 0, 1), (.ireturn, 1)] = true := by decide +kernel
  refine go_iconst hd (fun hd => ?_)
  exact go_zreturn hd rfl (Or.inl rfl) ⟨_, rfl, k⟩
theorem b_L_law_915 {L : Nat} {d : Nat} {I : jm_I} {Q : Option jm_V → jm_I → Prop} {o0 : Option jm_V} {o1 : Option jm_V} {o2 : Option jm_V} {x3 : Int}  (k : Gx (jx_0 L) d md_L_law 18 [o0, o1, o2, some (.inl (x3 + 5))] [] I Q) : Gx (jx_0 L) d md_L_law 915 [o0, o1, o2, some (.inl x3)] [] I Q := by
  show jm_Go d 0 0 md_L_law 915 [o0, o1, o2, some (.inl x3)] [] (jx (jx_0 L) I) (jx_Q (jx_0 L) Q)
  have hd : jm_dc md_L_law.2.1 915 [(.iinc 3 5, 3), (.goto (-900), 3)] = true := by decide +kernel
  refine go_iinc rfl hd (fun hd => ?_)
  exact go_goto (by decide) hd k
theorem b_L_law_921 {L : Nat} {d : Nat} {I : jm_I} {Q : Option jm_V → jm_I → Prop} {o0 : Option jm_V} {o1 : Option jm_V} {o2 : Option jm_V} {o3 : Option jm_V}  (k : Q (some (.inl 1)) I) : Gx (jx_0 L) d md_L_law 921 [o0, o1, o2, o3] [] I Q := by
  show jm_Go d 0 0 md_L_law 921 [o0, o1, o2, o3] [] (jx (jx_0 L) I) (jx_Q (jx_0 L) Q)
  have hd : jm_dc md_L_law.2.1 921 [(.iconst 1, 1), (.ireturn, 1)] = true := by decide +kernel
  refine go_iconst hd (fun hd => ?_)
  exact go_zreturn hd rfl (Or.inr rfl) ⟨_, rfl, k⟩
