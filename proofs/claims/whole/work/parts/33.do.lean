/-! ===== what is done: found, keep, back, undo ===== -/
theorem hcit_of {I A : jm_I} {c e : Nat} (h : cits c e) (o : ∀ a, 2 ≤ a → a ≤ 41 → A a = I a) : ∀ a, c ≤ a → a < c + 20 → A a = I a := fun a a1 a2 => by
  rcases h with ⟨rfl, -⟩ | ⟨rfl, -⟩ <;> exact o a (by omega) (by omega)
/-- only what is now and what is remembered has changed -/
theorem rel_nh {I A : jm_I} {c e : Nat} (hm : mOk I) (hx : xRel I c e) (o : ∀ a, a ≠ 167 → a ≠ 171 → a ≠ 172 → (a < 44 ∨ 100 < a) → A a = I a) (o167 : ∀ k, k ≠ 10 → A 167 k = I 167 k) (hk : 0 ≤ A 167 10 ∧ A 167 10 ≤ 10) (hn : base I A → NW A) (hh : base I A → HI A) : Rel A := by
  obtain ⟨hr, ht, hi, hf, -, -⟩ := rel_parts hm hx
  unfold mRng at hr
  have hb : base I A := base_of (fun k hk => o167 k (by omega)) (o _ (by decide) (by decide) (by decide) (by decide)) (o _ (by decide) (by decide) (by decide) (by decide)) (o _ (by decide) (by decide) (by decide) (by decide))
  have e1 : A 1 = I 1 := o 1 (by decide) (by decide) (by decide) (by decide)
  refine rel_mk hm hx hb ⟨by rw [e1], by rw [e1]⟩ (hcit_of hx.1 (fun a a1 a2 => o a (by omega) (by omega) (by omega) (by omega))) ?_ (TX_k (by rw [e1]) (o167 17 (by decide)) (o _ (by decide) (by decide) (by decide) (by decide)) (o _ (by decide) (by decide) (by decide) (by decide)) ht) (IM_k hb (o _ (by decide) (by decide) (by decide) (by decide)) (o _ (by decide) (by decide) (by decide) (by decide)) (o _ (by decide) (by decide) (by decide) (by decide)) (fun a a1 a2 => o a (by omega) (by omega) (by omega) (by omega)) hi) (FD_k hb (o167 13 (by decide)) (o _ (by decide) (by decide) (by decide) (by decide)) (fun a a1 a2 => o a (by omega) (by omega) (by omega) (by omega)) hf) (hn hb) (hh hb) ?_
  · unfold mRng
    rw [o167 0 (by decide), o167 1 (by decide), o167 3 (by decide), o167 4 (by decide), o167 5 (by decide), o167 13 (by decide), o167 17 (by decide)]
    omega
  · rw [e1, o167 15 (by decide)]
    exact hx.2.2.2.2.2.2.2.2.2
section STATE2
variable {L d : Nat} {I : jm_I} {K : Option jm_V → jm_I → Prop} {x0 x1 x2 x3 : Int} {c e : Nat}
def fnC (I : jm_I) (t r n : Int) : jm_I := jm_up (jm_up (jm_up (jm_up I 104 (I 103 0).toNat t) 105 (I 103 0).toNat r) 106 (I 103 0).toNat n) 103 0 (I 103 0 + 1)
theorem c_X_found (hm : mOk I) (hx : xRel I c e) (hz : (-2147483648 ≤ x1 ∧ x1 < 2147483648) ∧ (-2147483648 ≤ x2 ∧ x2 < 2147483648) ∧ (-2147483648 ≤ x3 ∧ x3 < 2147483648)) (k0 : ¬ fouOk I x1 x2 x3 → K (some (.inl (-1))) I) (k1 : fouOk I x1 x2 x3 → I 103 0 = 4 → K (some (.inl (-3))) I) (k2 : fouOk I x1 x2 x3 → ¬ I 103 0 = 4 → K (some (.inl (I 103 0 + 1))) (fnC I x1 x2 x3)) : Cx (jx_0 L) (d + 2) md_X_found [.inr (.inl 1), .inl x1, .inl x2, .inl x3] I K := by
  obtain ⟨h1, h2, h3, ⟨⟨c0, c1, c2, c3, c4⟩, -⟩, -, -, -, -, ⟨hf, -⟩, -⟩ := hx
  obtain ⟨hc, -⟩ := ct_of (L := L) h1
  have hr := hm.1
  unfold mRng at hr
  have u : fouOk I x1 x2 x3 ↔ (0 ≤ x1 ∧ x1 < I 167 5) ∧ (0 ≤ x2 ∧ x2 < I 167 0) ∧ (0 ≤ x3 ∧ x3 ≤ 20) := Iff.rfl
  refine b_X_found_0 (c_X_isThing hc h2 (by omega) (fun v1 hv1 => ?_))
  refine b_X_found_5 (by omega) (fun hb2 => ?_) (fun hb2 => ?_)
  · refine b_X_found_26 ?_
    exact k0 (by rw [u]; omega)
  · refine b_X_found_8 (c_X_isRoom hc h2 (by omega) (fun v3 hv3 => ?_))
    refine b_X_found_13 (by omega) (fun hb4 => ?_) (fun hb4 => ?_)
    · refine b_X_found_26 ?_
      exact k0 (by rw [u]; omega)
    · refine b_X_found_16 (c_X_within (by omega) (fun v5 hv5 => ?_))
      refine b_X_found_23 (by omega) (fun hb6 => ?_) (fun hb6 => ?_)
      · refine b_X_found_28 (by omega) (fun hb7 => ?_) (fun hb7 => ?_)
        · refine b_X_found_42 (b_Finds_note_0 (by omega) ?_)
          refine b_X_found_52 ?_
          exact cv_ (by rw [up_s]) (k2 (by rw [u]; omega) (by omega))
        · refine b_X_found_39 ?_
          exact k1 (by rw [u]; omega) (by omega)
      · refine b_X_found_26 ?_
        exact k0 (by rw [u]; omega)
theorem g_found (h : Rel I) (hz : (-2147483648 ≤ x1 ∧ x1 < 2147483648) ∧ (-2147483648 ≤ x2 ∧ x2 < 2147483648) ∧ (-2147483648 ≤ x3 ∧ x3 < 2147483648)) : Two L d md_X_found md_M_found [.inl x1, .inl x2, .inl x3] I := by
  obtain ⟨hm, c, e, hx⟩ := id h
  obtain ⟨hr, ht, hi, hf, hn, hh⟩ := rel_parts hm hx
  have hr0 := hr
  unfold mRng at hr
  have hf0 := hf.2.1
  refine c_X_found hm hx hz (fun q => ?_) (fun q q2 => ?_) (fun q q2 => ?_)
  · exact ⟨_, rfl, c_M_found (by omega) (fun p => ⟨rfl, h, rfl⟩) (fun p => absurd p q) (fun p => absurd p q)⟩
  · exact ⟨_, rfl, c_M_found (by omega) (fun p => absurd q p) (fun p p2 => ⟨rfl, h, rfl⟩) (fun p p2 => by omega)⟩
  · have o2 : fnC I x1 x2 x3 167 = I 167 := by unfold fnC; rw [jm_up_o (by decide), jm_up_o (by decide), jm_up_o (by decide), jm_up_o (by decide)]
    have ou : fouOk (fnC I x1 x2 x3) x1 x2 x3 ↔ fouOk I x1 x2 x3 := by unfold fouOk; rw [o2]
    refine ⟨_, rfl, c_M_found (by rw [o2]; omega) (fun p => absurd (ou.2 q) p) (fun p p2 => by rw [o2] at p2; omega) (fun p p2 => ?_)⟩
    unfold fouF
    rw [o2, hf0]
    unfold fnC
    rw [hf0]
    generalize hA : jm_up (jm_up (jm_up (jm_up (jm_up (jm_up (jm_up (jm_up I 104 (I 167 13).toNat x1) 105 (I 167 13).toNat x2) 106 (I 167 13).toNat x3) 103 0 (I 167 13 + 1)) 175 (3 * I 167 13).toNat x1) 175 (3 * I 167 13 + 1).toNat x2) 175 (3 * I 167 13 + 2).toNat x3) 167 13 (I 167 13 + 1) = A
    have o : ∀ a, a ≠ 167 → a ≠ 175 → (a < 103 ∨ 106 < a) → A a = I a := fun a a1 a2 a3 => by rw [← hA, jm_up_o a1, jm_up_o a2, jm_up_o a2, jm_up_o a2, jm_up_o (by omega), jm_up_o (by omega), jm_up_o (by omega), jm_up_o (by omega)]
    have o167 : ∀ k, k ≠ 13 → A 167 k = I 167 k := fun k hk => by rw [← hA, up_k hk]; simp [jm_up]
    have n13 : A 167 13 = I 167 13 + 1 := by rw [← hA, up_s]
    have n103 : A 103 0 = I 167 13 + 1 := by rw [← hA]; simp [jm_up]
    have n104 : ∀ k, A 104 k = if k = (I 167 13).toNat then x1 else I 104 k := fun k => by rw [← hA]; simp [jm_up]
    have n105 : ∀ k, A 105 k = if k = (I 167 13).toNat then x2 else I 105 k := fun k => by rw [← hA]; simp [jm_up]
    have n106 : ∀ k, A 106 k = if k = (I 167 13).toNat then x3 else I 106 k := fun k => by rw [← hA]; simp [jm_up]
    have n175 : ∀ k, A 175 k = if k = (3 * I 167 13 + 2).toNat then x3 else if k = (3 * I 167 13 + 1).toNat then x2 else if k = (3 * I 167 13).toNat then x1 else I 175 k := fun k => by rw [← hA]; simp [jm_up]
    have hb : base I A := base_of (fun k hk => o167 k (by omega)) (o _ (by decide) (by decide) (by decide)) (o _ (by decide) (by decide) (by decide)) (o _ (by decide) (by decide) (by decide))
    have e1 : A 1 = I 1 := o 1 (by decide) (by decide) (by decide)
    have ov : (0 ≤ x1 ∧ x1 < I 167 5) ∧ (0 ≤ x2 ∧ x2 < I 167 0) ∧ (0 ≤ x3 ∧ x3 ≤ 20) := q
    refine ⟨rfl, ?_, o 0 (by decide) (by decide) (by decide)⟩
    refine rel_mk hm hx hb ⟨by rw [e1], by rw [e1]⟩ (hcit_of hx.1 (fun a a1 a2 => o a (by omega) (by omega) (by omega))) ?_ (TX_k (by rw [e1]) (o167 17 (by decide)) (o _ (by decide) (by decide) (by decide)) (o _ (by decide) (by decide) (by decide)) ht) (IM_k hb (o _ (by decide) (by decide) (by decide)) (o _ (by decide) (by decide) (by decide)) (o _ (by decide) (by decide) (by decide)) (fun a a1 a2 => o a (by omega) (by omega) (by omega)) hi) ?_ (NW_k hb (o _ (by decide) (by decide) (by decide)) (fun a a1 a2 => o a (by omega) (by omega) (by omega)) hn) (HI_k hr0 hb (o167 10 (by decide)) (o _ (by decide) (by decide) (by decide)) (fun a a1 a2 => o a (by omega) (by omega) (by omega)) hh) ?_
    · unfold mRng
      rw [o167 0 (by decide), o167 1 (by decide), o167 3 (by decide), o167 4 (by decide), o167 5 (by decide), o167 10 (by decide), o167 17 (by decide), n13]
      omega
    · have r0 : ∀ i : Nat, A 175 (3 * i) = if (i : Int) = I 167 13 then x1 else I 175 (3 * i) := fun i => by
        rw [n175, if_neg (by omega), if_neg (by omega)]
        by_cases ei : (i : Int) = I 167 13
        · rw [if_pos (by omega), if_pos ei]
        · rw [if_neg (by omega), if_neg ei]
      have r1 : ∀ i : Nat, A 175 (3 * i + 1) = if (i : Int) = I 167 13 then x2 else I 175 (3 * i + 1) := fun i => by
        rw [n175, if_neg (by omega)]
        by_cases ei : (i : Int) = I 167 13
        · rw [if_pos (by omega), if_pos ei]
        · rw [if_neg (by omega), if_neg (by omega), if_neg ei]
      have r2 : ∀ i : Nat, A 175 (3 * i + 2) = if (i : Int) = I 167 13 then x3 else I 175 (3 * i + 2) := fun i => by
        rw [n175]
        by_cases ei : (i : Int) = I 167 13
        · rw [if_pos (by omega), if_pos ei]
        · rw [if_neg (by omega), if_neg (by omega), if_neg (by omega), if_neg ei]
      have nn : ∀ i : Nat, (i = (I 167 13).toNat) = ((i : Int) = I 167 13) := fun i => propext (by omega)
      refine ⟨fun i hi => ?_, by rw [n103, n13], fun i hi => ?_⟩
      · rw [n13] at hi
        rw [hb.1.1, hb.1.2.2.2.2, r0, r1, r2]
        by_cases ei : (i : Int) = I 167 13
        · simp only [if_pos ei]
          exact ov
        · simp only [if_neg ei]
          exact hf.1 i (by omega)
      · rw [n13] at hi
        rw [r0, r1, r2, n104, n105, n106]
        simp only [nn]
        by_cases ei : (i : Int) = I 167 13
        · simp only [if_pos ei]
          exact ⟨trivial, trivial, trivial⟩
        · simp only [if_neg ei]
          exact hf.2.2 i (by omega)
    · rw [e1, o167 15 (by decide)]
      exact hx.2.2.2.2.2.2.2.2.2
theorem c_X_keep (hz : -2147483648 ≤ x1 ∧ x1 < 2147483648) (k0 : ¬ (0 ≤ x1 ∧ x1 ≤ 1) → K (some (.inl (-1))) I) (k : 0 ≤ x1 ∧ x1 ≤ 1 → ∀ J, cpM I J (157 + 5 * x1.toNat) 44 → K (some (.inl (I 44 0))) (jm_up J 102 x1.toNat 1)) : Cx (jx_0 L) (d + 1) md_X_keep [.inr (.inl 1), .inl x1] I K := by
  refine b_X_keep_0 (c_X_within (by omega) (fun v1 hv1 => ?_))
  refine b_X_keep_6 (by omega) (fun hb2 => ?_) (fun hb2 => ?_)
  · refine b_X_keep_11 (by omega) (c_Moment_copyFrom (rw_M101 (by omega) (by omega)) jx_m44 (by omega) (fun J hJ => ?_))
    refine b_X_keep_24 (by omega) ?_
    exact cv_ (by rw [hJ.1 44 (by omega)]) (k (by omega) J hJ)
  · refine b_X_keep_9 ?_
    exact k0 (by omega)
theorem g_keep (h : Rel I) (hz : -2147483648 ≤ x1 ∧ x1 < 2147483648) : Two L d md_X_keep md_M_keep [.inl x1] I := by
  obtain ⟨hm, c, e, hx⟩ := id h
  obtain ⟨hr, ht, hi, hf, hn, hh⟩ := rel_parts hm hx
  have hr0 := hr
  unfold mRng at hr
  have hn5 : I 167 4 ≤ 5 ∧ I 167 5 ≤ 5 := by omega
  refine c_X_keep hz (fun q => ?_) (fun q J hJ => ?_)
  · exact ⟨_, rfl, c_M_keep hz (fun p => ⟨rfl, h, rfl⟩) (fun p => absurd p q)⟩
  · have j := hJ.1
    have oJ : ∀ a, a ≠ 102 → (a < 157 ∨ 166 < a) → jm_up J 102 x1.toNat 1 a = I a := fun a a1 a2 => by rw [jm_up_o a1, j a (by omega)]
    refine ⟨_, rfl, c_M_keep hz (fun p => absurd q p) (fun p => ⟨by rw [oJ 171 (by decide) (by decide)]; exact congrArg (fun z => some (Sum.inl z)) hn.1.1.symm, ?_, ?_⟩)⟩
    · generalize hA : kepF (jm_up J 102 x1.toNat 1) x1 = A
      have o : ∀ a, a ≠ 102 → a ≠ 173 → a ≠ 174 → (a < 157 ∨ 166 < a) → A a = I a := fun a a1 a2 a3 a4 => by rw [← hA]; unfold kepF; rw [jm_up_o a3, st_a a2, oJ a a1 a4]
      have oM : ∀ a, 157 ≤ a → a ≤ 166 → A a = J a := fun a a1 a2 => by rw [← hA]; unfold kepF; rw [jm_up_o (by omega), st_a (by omega), jm_up_o (by omega)]
      have n102 : ∀ k, A 102 k = if k = x1.toNat then 1 else I 102 k := fun k => by rw [← hA]; unfold kepF; rw [jm_up_o (by decide), st_a (by decide)]; simp only [jm_up, true_and]; rw [j 102 (by omega)]
      have n174 : ∀ k, A 174 k = if k = x1.toNat then 1 else I 174 k := fun k => by rw [← hA]; unfold kepF; simp only [jm_up, true_and, st_, if_neg (show ¬ (174 : Nat) = 173 by decide), if_neg (show ¬ ((174 : Nat) = 102 ∧ k = x1.toNat) by simp), j 174 (by omega)]
      have n173 : ∀ k, A 173 k = if 27 * x1 ≤ (k : Int) ∧ (k : Int) < 27 * x1 + 27 then I 171 (k - 27 * x1.toNat) else I 173 k := fun k => by rw [← hA]; unfold kepF; rw [jm_up_o (by decide), st_s, oJ 171 (by decide) (by decide), oJ 173 (by decide) (by decide)]
      have e167 : A 167 = I 167 := o _ (by decide) (by decide) (by decide) (by decide)
      have hb : base I A := base_of (fun k hk => by rw [e167]) (o _ (by decide) (by decide) (by decide) (by decide)) (o _ (by decide) (by decide) (by decide) (by decide)) (o _ (by decide) (by decide) (by decide) (by decide))
      have e1 : A 1 = I 1 := o 1 (by decide) (by decide) (by decide) (by decide)
      refine rel_mk hm hx hb ⟨by rw [e1], by rw [e1]⟩ (hcit_of hx.1 (fun a a1 a2 => o a (by omega) (by omega) (by omega) (by omega))) (by unfold mRng; rw [e167]; exact hr) (TX_k (by rw [e1]) (by rw [e167]) (o _ (by decide) (by decide) (by decide) (by decide)) (o _ (by decide) (by decide) (by decide) (by decide)) ht) ?_ (FD_k hb (by rw [e167]) (o _ (by decide) (by decide) (by decide) (by decide)) (fun a a1 a2 => o a (by omega) (by omega) (by omega) (by omega)) hf) (NW_k hb (o _ (by decide) (by decide) (by decide) (by decide)) (fun a a1 a2 => o a (by omega) (by omega) (by omega) (by omega)) hn) (HI_k hr0 hb (by rw [e167]) (o _ (by decide) (by decide) (by decide) (by decide)) (fun a a1 a2 => o a (by omega) (by omega) (by omega) (by omega)) hh) (by rw [e1, e167]; exact hx.2.2.2.2.2.2.2.2.2)
      have row1 : ∀ i : Nat, (i : Int) = x1 → ∀ k, k < 27 → A 173 (27 * i + k) = I 171 k := fun i ei k hk => by
        rw [n173, if_pos (by omega), show 27 * i + k - 27 * x1.toNat = k by omega]
      have row0 : ∀ i : Nat, ¬ (i : Int) = x1 → ∀ k, k < 27 → A 173 (27 * i + k) = I 173 (27 * i + k) := fun i ei k hk => by
        rw [n173, if_neg (by omega)]
      refine ⟨fun i hi2 => ?_, fun i hi2 => ?_⟩
      · rw [n174]
        by_cases ei : (i : Int) = x1
        · rw [if_pos (by omega)]
          exact Or.inr ⟨rfl, stOk_f (by rw [e167]; exact hn5) (row1 i ei) (stI_b hb hn.2)⟩
        · rw [if_neg (by omega)]
          rcases hi.1 i hi2 with q0 | ⟨q0, q1⟩
          · exact Or.inl q0
          · exact Or.inr ⟨q0, stOk_f (by rw [e167]; exact hn5) (row0 i ei) (stI_b hb q1)⟩
      · rw [n102, n174]
        by_cases ei : (i : Int) = x1
        · rw [if_pos (by omega), if_pos (by omega)]
          refine ⟨rfl, fun _ => ?_⟩
          have hxm := xMm_cp hn5 hJ hn.1
          rw [show x1.toNat = i by omega] at hxm
          unfold xMom
          rw [e167, oM _ (by omega) (by omega), oM _ (by omega) (by omega), oM _ (by omega) (by omega), oM _ (by omega) (by omega), oM _ (by omega) (by omega)]
          exact xMm_f hn5 (row1 i ei) hxm
        · rw [if_neg (by omega), if_neg (by omega)]
          obtain ⟨q1, q2⟩ := hi.2 i hi2
          refine ⟨q1, fun q3 => ?_⟩
          have q4 := q2 q3
          unfold xMom at *
          have oo : ∀ w, w ≤ 4 → A (157 + 5 * i + w) = I (157 + 5 * i + w) := fun w hw => by rw [oM _ (by omega) (by omega), j _ (by omega)]
          have o0 := oo 0 (by omega)
          rw [Nat.add_zero] at o0
          rw [e167, o0, oo 1 (by omega), oo 2 (by omega), oo 3 (by omega), oo 4 (by omega)]
          exact xMm_f hn5 (row0 i ei) q4
    · unfold kepF
      rw [jm_up_o (by decide), st_a (by decide), oJ 0 (by decide) (by decide)]
end STATE2
