/-! ===== the city is settled: the class ===== -/
section SETTLEIN
variable {P : jm_P} {d : Nat} {I J : jm_I} {K Q : Option jm_V → jm_I → Prop} {c : Nat}
theorem b_X_settleIn_0 (hK : (P.2.1 1).1 = 8) (hD1 : I 1 0 = (c : Int)) (hc : jx_City P c) (k : Cx P d md_City_measure [.inr (.inl c)] I (fun v J => Gx P (d + 1) md_X_settleIn 7 [some (.inr (.inl 1))] (v.toList ++ []) J Q)) : Cx P (d + 1) md_X_settleIn [.inr (.inl 1)] I Q := by
  show jm_Go (d + 1) 0 0 md_X_settleIn 0 [some (.inr (.inl 1))] [] (jx P I) (jx_Q P Q)
  have hd : jm_dc md_X_settleIn.2.1 0 [(.aload_n 0, 1), (.getfield 12, 3), (.invokevirtual 271, 3)] = true := by decide +kernel
  refine go_aload_n rfl hd (fun hd => ?_)
  refine go_getD co_X8 fl_8_12 (by decide) rfl hK hD1 (ct_pos hc) hd (fun hd => ?_)
  exact gx_virtual c 0 [] [] mk_City_measure co_X0 rfl ml_8_271 in_City_measure se_City_measure (ct_K hc) rfl (Nat.le_of_ble_eq_true rfl) rfl (Nat.le_of_ble_eq_true rfl) rfl hd k
theorem b_X_settleIn_7 (hK : (P.2.1 1).1 = 8) (hR : P.2.2 1 5 = some 44) (hm : jx_Mom P 44) (hD1 : I 1 0 = (c : Int)) (hc : jx_City P c) (k : Cx P d md_Moment_begin [.inr (.inl 44), .inr (.inl c)] I (fun v J => Gx P (d + 1) md_X_settleIn 18 [some (.inr (.inl 1))] (v.toList ++ []) J Q)) : Gx P (d + 1) md_X_settleIn 7 [some (.inr (.inl 1))] [] I Q := by
  show jm_Go (d + 1) 0 0 md_X_settleIn 7 [some (.inr (.inl 1))] [] (jx P I) (jx_Q P Q)
  have hd : jm_dc md_X_settleIn.2.1 7 [(.aload_n 0, 1), (.getfield 33, 3), (.aload_n 0, 1), (.getfield 12, 3), (.invokevirtual 274, 3)] = true := by decide +kernel
  refine go_aload_n rfl hd (fun hd => ?_)
  refine go_getR co_X8 fl_8_33 (by decide) rfl hK hR hd (fun hd => ?_)
  refine go_aload_n rfl hd (fun hd => ?_)
  refine go_getD co_X8 fl_8_12 (by decide) rfl hK hD1 (ct_pos hc) hd (fun hd => ?_)
  exact gx_virtual 44 5 [.inr (.inl c)] [] mk_Moment_begin co_X5 rfl ml_8_274 in_Moment_begin se_Moment_begin (mo_K hm) rfl (Nat.le_of_ble_eq_true rfl) rfl (Nat.le_of_ble_eq_true rfl) rfl hd k
theorem b_X_settleIn_18 {o0 : Option jm_V} (k : Q none I) : Gx P d md_X_settleIn 18 [o0] [] I Q := by
  show jm_Go d 0 0 md_X_settleIn 18 [o0] [] (jx P I) (jx_Q P Q)
  have hd : jm_dc md_X_settleIn.2.1 18 [(.return_, 1)] = true := by decide +kernel
  exact go_vreturn hd rfl ⟨_, rfl, k⟩
theorem c_City_measure (hc : jx_City P c) (hco : coOk I c) (hr : 0 ≤ I c 0 ∧ I c 0 ≤ 6) (k : ∀ J : jm_I, (∀ a, ¬ (c + 14 ≤ a ∧ a ≤ c + 19) → J a = I a) → (∀ r s : Nat, (r : Int) < I c 0 → s < 6 → isD (adjC I c 0) 1000 r s (J (c + 14 + r) s)) → K none J) : Cx P (d + 2) md_City_measure [.inr (.inl c)] I K := by
  refine b_City_measure_0 hc ?_
  refine lp_up (σ := jm_I) (Inv := fun x J => 0 ≤ x ∧ (∀ a, ¬ (c + 14 ≤ a ∧ a ≤ c + 19) → J a = I a) ∧ ∀ r s : Nat, (r : Int) < x → s < 6 → isD (adjC I c 0) 1000 r s (J (c + 14 + r) s)) (G := fun x J => Gx P (d + 2) md_City_measure 2 [some (.inr (.inl c)), some (.inl x)] [] J K) (I c 0) ?_ ?_ 0 I (by omega) ⟨by omega, fun a _ => rfl, fun r s h => by omega⟩
  · intro x J hx hi ih
    obtain ⟨h0, o, hi⟩ := hi
    obtain ⟨r, rfl⟩ : ∃ r : Nat, x = r := ⟨x.toNat, by omega⟩
    have ec := o c (by omega)
    have hcoJ : coOk J c := by
      unfold coOk at *
      rw [ec, o (c + 1) (by omega), o (c + 2) (by omega), o (c + 3) (by omega)]
      exact hco
    have hadj : adjC J c 0 = adjC I c 0 := by
      unfold adjC
      rw [ec, o (c + 1) (by omega), o (c + 2) (by omega), o (c + 3) (by omega)]
    refine b_City_measure_2 hc (by rw [ec]; omega) (fun h => by rw [ec] at h; omega) (fun _ => ?_)
    refine b_City_measure_10 hc (by omega) ?_
    have hP : P.2.1 (c + 14 + r) = (20, 6) := by
      have := ct_distS (i := (r : Int)) hc (by omega) (by omega)
      rwa [Int.toNat_natCast] at this
    rw [Int.toNat_natCast]
    refine c_City_measureFrom hc hP hcoJ (by omega) (by omega) (fun g hg => ?_)
    rw [hadj] at hg
    refine b_City_measure_22 ?_
    refine ih _ ⟨by omega, fun a ha => by rw [st_a (by omega), o a ha], fun r' s hr' hs => ?_⟩
    by_cases er : r' = r
    · subst er; rw [st_s]; exact hg s hs
    · rw [st_a (by omega)]; exact hi r' s (by omega) hs
  · intro J hi
    obtain ⟨-, o, hi⟩ := hi
    have ec := o c (by omega)
    refine b_City_measure_2 hc (by rw [ec]; omega) (fun _ => ?_) (fun h => by rw [ec] at h; omega)
    exact b_City_measure_28 (k J o hi)
theorem c_X_settleIn (hK : (P.2.1 1).1 = 8) (hR : P.2.2 1 5 = some 44) (hm : jx_Mom P 44) (hc : jx_City P c) (hcl : 2 ≤ c ∧ c ≤ 22) (hD1 : I 1 0 = (c : Int)) (hco : coOk I c) (hr : 0 ≤ I c 0 ∧ I c 0 ≤ 6) (k : ∀ J : jm_I, (∀ a, ¬ (c + 14 ≤ a ∧ a ≤ c + 19) → ¬ (44 ≤ a ∧ a ≤ 48) → J a = I a) → (∀ r s : Nat, (r : Int) < I c 0 → s < 6 → isD (adjC I c 0) 1000 r s (J (c + 14 + r) s)) → J 44 0 = 0 → J 44 1 = 0 → (∀ p : Nat, p < 5 → J 45 p = I (c + 4) p ∧ J 46 p = I (c + 5) p ∧ J 47 p = -9 ∧ J 48 p = 0) → K none J) : Cx P (d + 3) md_X_settleIn [.inr (.inl 1)] I K := by
  refine b_X_settleIn_0 hK hD1 hc (c_City_measure hc hco hr (fun J o hd => ?_))
  refine b_X_settleIn_7 hK hR hm (by rw [o 1 (by omega)]; exact hD1) hc ?_
  refine b_Moment_begin_0 hm hc (c_Arrays_fill (n := 5) (mo_S3 hm) (by decide) (fun g hg => ?_))
  refine b_Moment_begin_47 hm (c_Arrays_fill (n := 5) (mo_S4 hm) (by decide) (fun g2 hg2 => ?_))
  refine b_Moment_begin_55 ?_
  refine b_X_settleIn_18 (k _ (fun a a1 a2 => ?_) (fun r s h1 h2 => ?_) ?_ ?_ (fun p hp => ⟨?_, ?_, ?_, ?_⟩))
  · rw [st_a (by omega), st_a (by omega), cpy_o (by omega), cpy_o (by omega), jm_up_o (by omega), jm_up_o (by omega), o a a1]
  · rw [st_a (by omega), st_a (by omega), cpy_o (by omega), cpy_o (by omega), jm_up_o (by omega), jm_up_o (by omega)]
    exact hd r s h1 h2
  · rw [st_a (by decide), st_a (by decide), cpy_o (by decide), cpy_o (by decide), up_k (by decide), up_s]
  · rw [st_a (by decide), st_a (by decide), cpy_o (by decide), cpy_o (by decide), up_s]
  · rw [st_a (by decide), st_a (by decide), cpy_o (by decide), cpy_s hp, jm_up_o (by omega), jm_up_o (by omega), o (c + 4) (by omega)]
  · rw [st_a (by decide), st_a (by decide), cpy_s hp, cpy_o (by omega), jm_up_o (by omega), jm_up_o (by omega), o (c + 5) (by omega)]
  · rw [st_a (by decide), st_s]; exact hg p hp
  · rw [st_s]; exact hg2 p hp
end SETTLEIN
section SETTLES
variable {L d : Nat} {I J : jm_I} {K : Option jm_V → jm_I → Prop}
theorem c_M_settles (k : ∀ A : jm_I, (∀ a, a ≠ 167 → a ≠ 168 → a ≠ 169 → a ≠ 170 → a ≠ 171 → a ≠ 174 → A a = J a) → (∀ j, j ≠ 0 → j ≠ 1 → j ≠ 3 → j ≠ 4 → j ≠ 5 → j ≠ 10 → j ≠ 13 → j ≠ 17 → A 167 j = J 167 j) → (A 167 0 = J 177 0 ∧ A 167 3 = J 177 1 ∧ A 167 1 = J 167 25 ∧ A 167 4 = J 167 27 ∧ A 167 5 = J 167 29 ∧ A 167 10 = 0 ∧ A 167 13 = 0 ∧ A 167 17 = 0) → (∀ q, q < 24 → A 168 q = J 178 q) → (∀ q, q < 20 → A 170 q = J 181 q) → (A 171 0 = 0 ∧ A 171 16 = 0) → (∀ p : Nat, p < 5 → A 171 (1 + p) = J 179 (2 * p) ∧ A 171 (6 + p) = J 179 (2 * p + 1) ∧ A 171 (11 + p) = -9) → (∀ t : Nat, t < 5 → A 169 t = J 180 t ∧ A 171 (17 + t) = J 181 (4 * t) ∧ A 171 (22 + t) = 0) → (A 174 0 = 0 ∧ A 174 1 = 0) → K none A) : Cx (jx_0 L) d md_M_settles [.inr (.inl 167)] J K := by
  refine b_M_settles_0 ?_
  generalize hJ1 : jm_up (jm_up (jm_up (jm_up (jm_up J 167 0 (J 177 0)) 167 3 (J 177 1)) 167 1 (J 167 25)) 167 4 (J 167 27)) 167 5 (J 167 29) = J1
  -- the first row reads what the later ones have written in the same cell
  have o1 : ∀ a, a ≠ 167 → J1 a = J a := fun a ha => by rw [← hJ1, jm_up_o ha, jm_up_o ha, jm_up_o ha, jm_up_o ha, jm_up_o ha]
  have p1 : ∀ j, j ≠ 0 → j ≠ 1 → j ≠ 3 → j ≠ 4 → j ≠ 5 → J1 167 j = J 167 j := fun j j0 j1 j3 j4 j5 => by rw [← hJ1, up_k j5, up_k j4, up_k j1, up_k j3, up_k j0]
  have v5 : J1 167 5 = J 167 29 := by rw [← hJ1, up_s]
  have v4 : J1 167 4 = J 167 27 := by rw [← hJ1, up_k (by decide), up_s]
  have v1 : J1 167 1 = J 167 25 := by rw [← hJ1, up_k (by decide), up_k (by decide), up_s]
  have v3 : J1 167 3 = J 177 1 := by rw [← hJ1, up_k (by decide), up_k (by decide), up_k (by decide), up_s]
  have v0 : J1 167 0 = J 177 0 := by rw [← hJ1, up_k (by decide), up_k (by decide), up_k (by decide), up_k (by decide), up_s]
  refine lp_up (σ := jm_I) (Inv := fun x A => 0 ≤ x ∧ (∀ a, a ≠ 168 → A a = J1 a) ∧ ∀ q : Nat, (q : Int) < x → A 168 q = J 178 q) (G := fun x A => Gx (jx_0 L) d md_M_settles 46 [some (.inr (.inl 167)), some (.inl x)] [] A K) 24 ?_ ?_ 0 J1 (by omega) ⟨by omega, fun a _ => rfl, fun q h => by omega⟩
  · intro x A hx hi ih
    obtain ⟨h0, o, hi⟩ := hi
    refine b_M_settles_46 (by omega) (fun h => by omega) (fun _ => ?_)
    refine b_M_settles_52 (by omega) ?_
    refine ih _ ⟨by omega, fun a ha => by rw [jm_up_o ha, o a ha], fun q hq => ?_⟩
    by_cases e : q = x.toNat
    · rw [e, up_s, o 178 (by decide), o1 178 (by decide)]
    · rw [up_k e]; exact hi q (by omega)
  intro J2 hi
  obtain ⟨-, o2, w168⟩ := hi
  refine b_M_settles_46 (by omega) (fun _ => ?_) (fun h => by omega)
  refine b_M_settles_70 ?_
  refine lp_up (σ := jm_I) (Inv := fun x A => 0 ≤ x ∧ (∀ a, a ≠ 170 → A a = J2 a) ∧ ∀ q : Nat, (q : Int) < x → A 170 q = J 181 q) (G := fun x A => Gx (jx_0 L) d md_M_settles 72 [some (.inr (.inl 167)), some (.inl x)] [] A K) 20 ?_ ?_ 0 J2 (by omega) ⟨by omega, fun a _ => rfl, fun q h => by omega⟩
  · intro x A hx hi ih
    obtain ⟨h0, o, hi⟩ := hi
    refine b_M_settles_72 (by omega) (fun h => by omega) (fun _ => ?_)
    refine b_M_settles_78 (by omega) ?_
    refine ih _ ⟨by omega, fun a ha => by rw [jm_up_o ha, o a ha], fun q hq => ?_⟩
    by_cases e : q = x.toNat
    · rw [e, up_s, o 181 (by decide), o2 181 (by decide), o1 181 (by decide)]
    · rw [up_k e]; exact hi q (by omega)
  intro J3 hi
  obtain ⟨-, o3, w170⟩ := hi
  refine b_M_settles_72 (by omega) (fun _ => ?_) (fun h => by omega)
  refine b_M_settles_96 ?_
  refine lp_up (σ := jm_I) (Inv := fun x A => 0 ≤ x ∧ (∀ a, a ≠ 171 → A a = J3 a) ∧ ∀ q : Nat, (q : Int) < x → A 171 q = 0) (G := fun x A => Gx (jx_0 L) d md_M_settles 98 [some (.inr (.inl 167)), some (.inl x)] [] A K) 27 ?_ ?_ 0 J3 (by omega) ⟨by omega, fun a _ => rfl, fun q h => by omega⟩
  · intro x A hx hi ih
    obtain ⟨h0, o, hi⟩ := hi
    refine b_M_settles_98 (by omega) (fun h => by omega) (fun _ => ?_)
    refine b_M_settles_104 (by omega) ?_
    refine ih _ ⟨by omega, fun a ha => by rw [jm_up_o ha, o a ha], fun q hq => ?_⟩
    by_cases e : q = x.toNat
    · rw [e, up_s]
    · rw [up_k e]; exact hi q (by omega)
  intro J4 hi
  obtain ⟨-, o4, w171⟩ := hi
  refine b_M_settles_98 (by omega) (fun _ => ?_) (fun h => by omega)
  refine b_M_settles_117 ?_
  refine lp_up (σ := jm_I) (Inv := fun x A => 0 ≤ x ∧ (∀ a, a ≠ 171 → A a = J3 a) ∧ (A 171 0 = 0 ∧ A 171 16 = 0) ∧ (∀ q, 17 ≤ q → q < 27 → A 171 q = 0) ∧ ∀ p : Nat, (p : Int) < x → A 171 (1 + p) = J 179 (2 * p) ∧ A 171 (6 + p) = J 179 (2 * p + 1) ∧ A 171 (11 + p) = -9) (G := fun x A => Gx (jx_0 L) d md_M_settles 119 [some (.inr (.inl 167)), some (.inl x)] [] A K) 5 ?_ ?_ 0 J4 (by omega) ⟨by omega, o4, ⟨w171 0 (by omega), w171 16 (by omega)⟩, fun q h1 h2 => w171 q (by omega), fun p h => by omega⟩
  · intro x A hx hi ih
    obtain ⟨h0, o, hz, hzt, hi⟩ := hi
    obtain ⟨p, rfl⟩ : ∃ p : Nat, x = p := ⟨x.toNat, by omega⟩
    have e179 : ∀ j, A 179 j = J 179 j := fun j => by rw [o 179 (by decide), o3 179 (by decide), o2 179 (by decide), o1 179 (by decide)]
    refine b_M_settles_119 (by omega) (fun h => by omega) (fun _ => ?_)
    refine b_M_settles_124 (by omega) ?_
    rw [e179, e179, show (1 + (p : Int)).toNat = 1 + p by omega, show (6 + (p : Int)).toNat = 6 + p by omega, show (11 + (p : Int)).toNat = 11 + p by omega, show (2 * (p : Int)).toNat = 2 * p by omega, show (2 * (p : Int) + 1).toNat = 2 * p + 1 by omega]
    refine ih _ ⟨by omega, fun a ha => by rw [jm_up_o ha, jm_up_o ha, jm_up_o ha, o a ha], ⟨by rw [up_k (by omega), up_k (by omega), up_k (by omega)]; exact hz.1, by rw [up_k (by omega), up_k (by omega), up_k (by omega)]; exact hz.2⟩, fun q h1 h2 => by rw [up_k (by omega), up_k (by omega), up_k (by omega)]; exact hzt q h1 h2, fun p' hp' => ?_⟩
    by_cases e : p' = p
    · subst e
      exact ⟨by rw [up_k (by omega), up_k (by omega), up_s], by rw [up_k (by omega), up_s], by rw [up_s]⟩
    · have := hi p' (by omega)
      exact ⟨by rw [up_k (by omega), up_k (by omega), up_k (by omega)]; exact this.1, by rw [up_k (by omega), up_k (by omega), up_k (by omega)]; exact this.2.1, by rw [up_k (by omega), up_k (by omega), up_k (by omega)]; exact this.2.2⟩
  intro J5 hi
  obtain ⟨-, o5, z5, zt5, w5⟩ := hi
  refine b_M_settles_119 (by omega) (fun _ => ?_) (fun h => by omega)
  refine b_M_settles_176 ?_
  refine lp_up (σ := jm_I) (Inv := fun x A => 0 ≤ x ∧ (∀ a, a ≠ 171 → a ≠ 169 → A a = J3 a) ∧ (∀ q, q < 17 → A 171 q = J5 171 q) ∧ (∀ q, 22 ≤ q → q < 27 → A 171 q = 0) ∧ ∀ t : Nat, (t : Int) < x → A 169 t = J 180 t ∧ A 171 (17 + t) = J 181 (4 * t)) (G := fun x A => Gx (jx_0 L) d md_M_settles 178 [some (.inr (.inl 167)), some (.inl x)] [] A K) 5 ?_ ?_ 0 J5 (by omega) ⟨by omega, fun a a1 _ => o5 a a1, fun q _ => rfl, fun q h1 h2 => zt5 q (by omega) h2, fun t h => by omega⟩
  · intro x A hx hi ih
    obtain ⟨h0, o, hz, hzt, hi⟩ := hi
    obtain ⟨t, rfl⟩ : ∃ t : Nat, x = t := ⟨x.toNat, by omega⟩
    have e180 : ∀ j, A 180 j = J 180 j := fun j => by rw [o 180 (by decide) (by decide), o3 180 (by decide), o2 180 (by decide), o1 180 (by decide)]
    have e181 : ∀ j, A 181 j = J 181 j := fun j => by rw [o 181 (by decide) (by decide), o3 181 (by decide), o2 181 (by decide), o1 181 (by decide)]
    refine b_M_settles_178 (by omega) (fun h => by omega) (fun _ => ?_)
    refine b_M_settles_183 (by omega) ?_
    rw [e180, e181, show (17 + (t : Int)).toNat = 17 + t by omega, show (4 * (t : Int)).toNat = 4 * t by omega, Int.toNat_natCast]
    refine ih _ ⟨by omega, fun a a1 a2 => by rw [jm_up_o a1, jm_up_o a2, o a a1 a2], fun q hq => by rw [up_k (by omega), up_a (by decide)]; exact hz q hq, fun q h1 h2 => by rw [up_k (by omega), up_a (by decide)]; exact hzt q h1 h2, fun t' ht' => ?_⟩
    by_cases e : t' = t
    · subst e
      exact ⟨by rw [up_a (by decide), up_s], by rw [up_s]⟩
    · have := hi t' (by omega)
      exact ⟨by rw [up_a (by decide), up_k e]; exact this.1, by rw [up_k (by omega), up_a (by decide)]; exact this.2⟩
  intro J6 hi
  obtain ⟨-, o6, z6, zt6, w6⟩ := hi
  refine b_M_settles_178 (by omega) (fun _ => ?_) (fun h => by omega)
  refine b_M_settles_218 ?_
  generalize hA : jm_up (jm_up (jm_up (jm_up (jm_up J6 167 10 0) 167 13 0) 174 0 0) 174 1 0) 167 17 0 = A
  have oA : ∀ a, a ≠ 167 → a ≠ 174 → A a = J6 a := fun a a1 a2 => by rw [← hA, jm_up_o a1, jm_up_o a2, jm_up_o a2, jm_up_o a1, jm_up_o a1]
  have e167 : ∀ j, j ≠ 10 → j ≠ 13 → j ≠ 17 → A 167 j = J1 167 j := fun j j1 j2 j3 => by rw [← hA, up_k j3, up_a (by decide), up_a (by decide), up_k j2, up_k j1, o6 167 (by decide) (by decide), o3 167 (by decide), o2 167 (by decide)]
  refine k A (fun a a1 a2 a3 a4 a5 a6 => by rw [oA a a1 a6, o6 a a5 a3, o3 a a4, o2 a a2, o1 a a1]) (fun j j0 j1 j3 j4 j5 j10 j13 j17 => by rw [e167 j j10 j13 j17, p1 j j0 j1 j3 j4 j5]) ⟨by rw [e167 0 (by decide) (by decide) (by decide)]; exact v0, by rw [e167 3 (by decide) (by decide) (by decide)]; exact v3, by rw [e167 1 (by decide) (by decide) (by decide)]; exact v1, by rw [e167 4 (by decide) (by decide) (by decide)]; exact v4, by rw [e167 5 (by decide) (by decide) (by decide)]; exact v5, ?_, ?_, ?_⟩ (fun q hq => ?_) (fun q hq => ?_) ⟨?_, ?_⟩ (fun p hp => ?_) (fun t ht => ?_) ⟨?_, ?_⟩
  · rw [← hA, up_k (by decide), up_a (by decide), up_a (by decide), up_k (by decide), up_s]
  · rw [← hA, up_k (by decide), up_a (by decide), up_a (by decide), up_s]
  · rw [← hA, up_s]
  · rw [oA 168 (by decide) (by decide), o6 168 (by decide) (by decide), o3 168 (by decide)]; exact w168 q (by omega)
  · rw [oA 170 (by decide) (by decide), o6 170 (by decide) (by decide)]; exact w170 q (by omega)
  · rw [oA 171 (by decide) (by decide), z6 0 (by decide)]; exact z5.1
  · rw [oA 171 (by decide) (by decide), z6 16 (by decide)]; exact z5.2
  · rw [oA 171 (by decide) (by decide), z6 (1 + p) (by omega), z6 (6 + p) (by omega), z6 (11 + p) (by omega)]
    exact w5 p (by omega)
  · have := w6 t (by omega)
    rw [oA 169 (by decide) (by decide), oA 171 (by decide) (by decide)]
    exact ⟨this.1, this.2, zt6 (22 + t) (by omega) (by omega)⟩
  · rw [← hA, up_a (by decide), up_k (by decide), up_s]
  · rw [← hA, up_a (by decide), up_s]
end SETTLES
