/-! ===== the relation, put together from its parts ===== -/
def TX (I : jm_I) : Prop := (I 1 4 = I 167 17 ∧ ∀ k : Nat, k < 200 → I 43 k = I 176 k) ∧ ∀ k : Nat, k < 200 → 0 ≤ I 176 k ∧ I 176 k ≤ 255
def IM (I : jm_I) : Prop := (∀ i : Nat, i < 2 → I 174 i = 0 ∨ (I 174 i = 1 ∧ stI I (fun k => I 173 (27 * i + k)))) ∧ ∀ i : Nat, i < 2 → I 102 i = I 174 i ∧ (I 174 i = 1 → xMom I (157 + 5 * i) (fun k => I 173 (27 * i + k)))
def FD (I : jm_I) : Prop := foOk (I 167 0) (I 167 5) (I 167 13) (I 175) ∧ I 103 0 = I 167 13 ∧ ∀ i : Nat, (i : Int) < I 167 13 → I 104 i = I 175 (3 * i) ∧ I 105 i = I 175 (3 * i + 1) ∧ I 106 i = I 175 (3 * i + 2)
def NW (I : jm_I) : Prop := xMom I 44 (I 171) ∧ stI I (I 171)
def HI (I : jm_I) : Prop := xHist I ∧ mHist I
theorem rel_parts {I : jm_I} {c e : Nat} (hm : mOk I) (hx : xRel I c e) : mRng I ∧ TX I ∧ IM I ∧ FD I ∧ NW I ∧ HI I := by
  obtain ⟨m1, m2, m3, m4, m5, m6, m7, m8⟩ := hm
  obtain ⟨x1, x2, x3, x4, x5, x6, x7, x8, x9, x10⟩ := hx
  exact ⟨m1, ⟨x5, m8⟩, ⟨m6, x8⟩, ⟨m7, x9⟩, ⟨x6, m4⟩, ⟨x7, m5⟩⟩
theorem rel_mk {I A : jm_I} {c e : Nat} (hm : mOk I) (hx : xRel I c e) (hb : base I A) (h1 : A 1 0 = I 1 0 ∧ A 1 1 = I 1 1) (hcc : ∀ a, c ≤ a → a < c + 20 → A a = I a) (hr : mRng A) (ht : TX A) (hi : IM A) (hf : FD A) (hn : NW A) (hh : HI A) (htr : A 1 14 = A 167 15) : Rel A := by
  obtain ⟨m1, m2, m3, m4, m5, m6, m7, m8⟩ := hm
  obtain ⟨x1, x2, x3, ⟨c1, c2, c3, c4⟩, -⟩ := hx
  obtain ⟨⟨b0, b1, b3, b4, b5⟩, b8, b9, b10⟩ := hb
  unfold mRng at m1
  refine ⟨⟨hr, ?_, ?_, hn.2, hh.2, hi.1, hf.1, ht.2⟩, c, e, x1, by rw [h1.1]; exact x2, by rw [h1.2]; exact x3, ⟨?_, fun i hi => ?_, fun t ht => ?_, fun r s hr hs => ?_⟩, ht.1, hn.1, hh.1, hi.2, hf.2, htr⟩
  · unfold doOk at *
    rw [b0, b1, b8]
    exact m2
  · rw [b0, b5, b9, b10]
    exact m3
  · rw [hcc c (by omega) (by omega), b0, b1, b3, b4, b5]; exact c1
  · rw [b1] at hi
    rw [hcc (c + 1) (by omega) (by omega), hcc (c + 2) (by omega) (by omega), hcc (c + 3) (by omega) (by omega), b8]
    exact c2 i hi
  · rw [b5] at ht
    rw [hcc (c + 6) (by omega) (by omega), hcc (c + 8 + t) (by omega) (by omega), b9, b10]
    exact c3 t ht
  · rw [b0] at hr hs
    have ha : adjM A 0 = adjM I 0 := by unfold adjM; rw [b1, b8]
    rw [ha, hcc (c + 14 + r) (by omega) (by omega)]
    exact c4 r s hr hs
theorem xMom_b {I A : jm_I} {m : Nat} {f : Nat → Int} (hb : base I A) (hc : ∀ a, m ≤ a → a ≤ m + 4 → A a = I a) (h : xMom I m f) : xMom A m f := by
  unfold xMom at *
  rw [hb.1.2.2.2.1, hb.1.2.2.2.2, hc m (by omega) (by omega), hc (m + 1) (by omega) (by omega), hc (m + 2) (by omega) (by omega), hc (m + 3) (by omega) (by omega), hc (m + 4) (by omega) (by omega)]
  exact h
theorem TX_k {I A : jm_I} (h1 : A 1 4 = I 1 4) (h2 : A 167 17 = I 167 17) (h3 : A 43 = I 43) (h4 : A 176 = I 176) (h : TX I) : TX A := by
  unfold TX at *
  rw [h1, h2, h3, h4]
  exact h
theorem IM_k {I A : jm_I} (hb : base I A) (h1 : A 102 = I 102) (h2 : A 173 = I 173) (h3 : A 174 = I 174) (hc : ∀ a, 157 ≤ a → a ≤ 166 → A a = I a) (h : IM I) : IM A := by
  obtain ⟨i1, i2⟩ := h
  refine ⟨fun i hi => ?_, fun i hi => ?_⟩
  · rw [h2, h3]
    rcases i1 i hi with q | ⟨q1, q2⟩
    · exact Or.inl q
    · exact Or.inr ⟨q1, stI_b hb q2⟩
  · rw [h1, h2, h3]
    obtain ⟨q1, q2⟩ := i2 i hi
    exact ⟨q1, fun q => xMom_b hb (fun a ha1 ha2 => hc a (by omega) (by omega)) (q2 q)⟩
theorem FD_k {I A : jm_I} (hb : base I A) (h1 : A 167 13 = I 167 13) (h2 : A 175 = I 175) (hc : ∀ a, 103 ≤ a → a ≤ 106 → A a = I a) (h : FD I) : FD A := by
  unfold FD at *
  rw [hb.1.1, hb.1.2.2.2.2, h1, h2, hc 103 (by omega) (by omega), hc 104 (by omega) (by omega), hc 105 (by omega) (by omega), hc 106 (by omega) (by omega)]
  exact h
theorem NW_k {I A : jm_I} (hb : base I A) (h1 : A 171 = I 171) (hc : ∀ a, 44 ≤ a → a ≤ 48 → A a = I a) (h : NW I) : NW A := by
  obtain ⟨n1, n2⟩ := h
  unfold NW
  rw [h1]
  exact ⟨xMom_b hb (fun a q1 q2 => hc a (by omega) (by omega)) n1, stI_b hb n2⟩
theorem HI_k {I A : jm_I} (hr : mRng I) (hb : base I A) (h1 : A 167 10 = I 167 10) (h2 : A 172 = I 172) (hc : ∀ a, 49 ≤ a → a ≤ 100 → A a = I a) (h : HI I) : HI A := by
  obtain ⟨⟨q1, q2, q3⟩, q4⟩ := h
  unfold mRng at hr
  have e49 := hc 49 (by omega) (by omega)
  have hh : ∀ i, hix A i = hix I i := fun i => by unfold hix; rw [e49, h1]
  refine ⟨⟨by rw [e49, h1]; exact q1, by rw [e49]; exact q2, fun i hi => ?_⟩, fun i hi => ?_⟩
  · rw [h1] at hi
    have hb10 : hix I i < 10 := by unfold hix; omega
    rw [hh, h2]
    exact xMom_b hb (fun a a1 a2 => hc a (by omega) (by omega)) (q3 i hi)
  · rw [h1] at hi
    rw [h2]
    exact stI_b hb (q4 i hi)
theorem base_of {I A : jm_I} (h : ∀ k, k ≤ 5 → A 167 k = I 167 k) (h1 : A 168 = I 168) (h2 : A 169 = I 169) (h3 : A 170 = I 170) : base I A := ⟨⟨h 0 (by omega), h 1 (by omega), h 3 (by omega), h 4 (by omega), h 5 (by omega)⟩, h1, h2, h3⟩
section STATE1
variable {L d : Nat} {I : jm_I} {K : Option jm_V → jm_I → Prop} {x0 x1 x2 x3 : Int} {c e : Nat}
theorem c_X_type (hz : (0 ≤ I 1 4 ∧ I 1 4 ≤ 200) ∧ (-2147483648 ≤ x1 ∧ x1 < 2147483648)) (k0 : ¬ (0 ≤ x1 ∧ x1 ≤ 255) → K (some (.inl (-1))) I) (k1 : 0 ≤ x1 ∧ x1 ≤ 255 → I 1 4 = 200 → K (some (.inl (-3))) I) (k2 : 0 ≤ x1 ∧ x1 ≤ 255 → ¬ I 1 4 = 200 → K (some (.inl (I 1 4 + 1))) (jm_up (jm_up I 43 (I 1 4).toNat x1) 1 4 (I 1 4 + 1))) : Cx (jx_0 L) (d + 1) md_X_type [.inr (.inl 1), .inl x1] I K := by
  refine b_X_type_0 (c_X_within (by omega) (fun v1 hv1 => ?_))
  refine b_X_type_8 (by omega) (fun hb2 => ?_) (fun hb2 => ?_)
  · refine b_X_type_13 (by omega) (fun hb3 => ?_) (fun hb3 => ?_)
    · refine b_X_type_26 (by omega) ?_
      exact k2 (by omega) (by omega)
    · refine b_X_type_23 ?_
      exact k1 (by omega) (by omega)
  · refine b_X_type_11 ?_
    exact k0 (by omega)
theorem g_type (h : Rel I) (hz : -2147483648 ≤ x1 ∧ x1 < 2147483648) : Two L d md_X_type md_M_type [.inl x1] I := by
  obtain ⟨hm, c, e, hx⟩ := id h
  obtain ⟨hr, ht, hi, hf, hn, hh⟩ := rel_parts hm hx
  have hr0 := hr
  unfold mRng at hr
  have ht0 := ht.1.1
  refine c_X_type (by omega) (fun q => ?_) (fun q q2 => ?_) (fun q q2 => ?_)
  · refine ⟨_, rfl, c_M_type (by omega) (fun p => ⟨rfl, h, rfl⟩) (fun p => absurd p q) (fun p => absurd p q)⟩
  · refine ⟨_, rfl, c_M_type (by omega) (fun p => absurd q p) (fun p p2 => ⟨rfl, h, rfl⟩) (fun p p2 => by omega)⟩
  · refine ⟨_, rfl, ?_⟩
    have e17 : jm_up (jm_up I 43 (I 1 4).toNat x1) 1 4 (I 1 4 + 1) 167 17 = I 167 17 := by rw [up_a (by decide), up_a (by decide)]
    refine c_M_type (by rw [e17]; omega) (fun p => absurd q p) (fun p p2 => by rw [e17] at p2; omega) (fun p p2 => ?_)
    rw [e17]
    refine ⟨by rw [ht0], ?_, ?_⟩
    · unfold typF
      rw [e17, ht0]
      generalize hA : jm_up (jm_up (jm_up (jm_up I 43 (I 167 17).toNat x1) 1 4 (I 167 17 + 1)) 176 (I 167 17).toNat x1) 167 17 (I 167 17 + 1) = A
      have o : ∀ a, a ≠ 167 → a ≠ 176 → a ≠ 1 → a ≠ 43 → A a = I a := fun a a1 a2 a3 a4 => by rw [← hA, jm_up_o a1, jm_up_o a2, jm_up_o a3, jm_up_o a4]
      have o1 : ∀ k, k ≠ 4 → A 1 k = I 1 k := fun k hk => by rw [← hA, up_a (by decide), up_a (by decide), up_k hk, up_a (by decide)]
      have o167 : ∀ k, k ≠ 17 → A 167 k = I 167 k := fun k hk => by rw [← hA, up_k hk, up_a (by decide), up_a (by decide), up_a (by decide)]
      have n17 : A 167 17 = I 167 17 + 1 := by rw [← hA, up_s]
      have n4 : A 1 4 = I 167 17 + 1 := by rw [← hA, up_a (by decide), up_a (by decide), up_s]
      have n43 : ∀ k, A 43 k = if k = (I 167 17).toNat then x1 else I 43 k := fun k => by rw [← hA, up_a (by decide), up_a (by decide), up_a (by decide)]; simp [jm_up]
      have n176 : ∀ k, A 176 k = if k = (I 167 17).toNat then x1 else I 176 k := fun k => by rw [← hA, up_a (by decide)]; simp [jm_up]
      have hb : base I A := base_of (fun k hk => o167 k (by omega)) (o _ (by decide) (by decide) (by decide) (by decide)) (o _ (by decide) (by decide) (by decide) (by decide)) (o _ (by decide) (by decide) (by decide) (by decide))
      have hcit : ∀ a, c ≤ a → a < c + 20 → A a = I a := fun a a1 a2 => by rcases hx.1 with ⟨rfl, -⟩ | ⟨rfl, -⟩ <;> exact o a (by omega) (by omega) (by omega) (by omega)
      refine rel_mk hm hx hb ⟨o1 0 (by decide), o1 1 (by decide)⟩ hcit ?_ ?_ (IM_k hb (o _ (by decide) (by decide) (by decide) (by decide)) (o _ (by decide) (by decide) (by decide) (by decide)) (o _ (by decide) (by decide) (by decide) (by decide)) (fun a a1 a2 => o a (by omega) (by omega) (by omega) (by omega)) hi) (FD_k hb (o167 13 (by decide)) (o _ (by decide) (by decide) (by decide) (by decide)) (fun a a1 a2 => o a (by omega) (by omega) (by omega) (by omega)) hf) (NW_k hb (o _ (by decide) (by decide) (by decide) (by decide)) (fun a a1 a2 => o a (by omega) (by omega) (by omega) (by omega)) hn) (HI_k hr0 hb (o167 10 (by decide)) (o _ (by decide) (by decide) (by decide) (by decide)) (fun a a1 a2 => o a (by omega) (by omega) (by omega) (by omega)) hh) ?_
      · unfold mRng
        rw [o167 0 (by decide), o167 1 (by decide), o167 3 (by decide), o167 4 (by decide), o167 5 (by decide), o167 10 (by decide), o167 13 (by decide), n17]
        omega
      · refine ⟨⟨by rw [n4, n17], fun k hk => ?_⟩, fun k hk => ?_⟩
        · rw [n43, n176, ht.1.2 k hk]
        · rw [n176]
          split
          · omega
          · exact ht.2 k hk
      · rw [o1 14 (by decide), o167 15 (by decide)]
        exact hx.2.2.2.2.2.2.2.2.2
    · unfold typF
      rw [jm_up_o (by decide), jm_up_o (by decide), jm_up_o (by decide), jm_up_o (by decide)]
theorem c_X_clear (k : K (some (.inl (I 1 4))) (jm_up I 1 4 0)) : Cx (jx_0 L) d md_X_clear [.inr (.inl 1)] I K := by
  refine b_X_clear_0 ?_
  exact k
theorem g_clear (h : Rel I) : Two L d md_X_clear md_M_clear [] I := by
  obtain ⟨hm, c, e, hx⟩ := id h
  obtain ⟨hr, ht, hi, hf, hn, hh⟩ := rel_parts hm hx
  have hr0 := hr
  unfold mRng at hr
  refine c_X_clear ⟨_, rfl, c_M_clear ⟨?_, ?_, ?_⟩⟩
  · rw [up_a (by decide), ht.1.1]
  · generalize hA : jm_up (jm_up I 1 4 0) 167 17 0 = A
    have o : ∀ a, a ≠ 167 → a ≠ 1 → A a = I a := fun a a1 a2 => by rw [← hA, jm_up_o a1, jm_up_o a2]
    have o1 : ∀ k, k ≠ 4 → A 1 k = I 1 k := fun k hk => by rw [← hA, up_a (by decide), up_k hk]
    have o167 : ∀ k, k ≠ 17 → A 167 k = I 167 k := fun k hk => by rw [← hA, up_k hk, up_a (by decide)]
    have n17 : A 167 17 = 0 := by rw [← hA, up_s]
    have n4 : A 1 4 = 0 := by rw [← hA, up_a (by decide), up_s]
    have hb : base I A := base_of (fun k hk => o167 k (by omega)) (o _ (by decide) (by decide)) (o _ (by decide) (by decide)) (o _ (by decide) (by decide))
    have hcit : ∀ a, c ≤ a → a < c + 20 → A a = I a := fun a a1 a2 => by rcases hx.1 with ⟨rfl, -⟩ | ⟨rfl, -⟩ <;> exact o a (by omega) (by omega)
    refine rel_mk hm hx hb ⟨o1 0 (by decide), o1 1 (by decide)⟩ hcit ?_ ?_ (IM_k hb (o _ (by decide) (by decide)) (o _ (by decide) (by decide)) (o _ (by decide) (by decide)) (fun a a1 a2 => o a (by omega) (by omega)) hi) (FD_k hb (o167 13 (by decide)) (o _ (by decide) (by decide)) (fun a a1 a2 => o a (by omega) (by omega)) hf) (NW_k hb (o _ (by decide) (by decide)) (fun a a1 a2 => o a (by omega) (by omega)) hn) (HI_k hr0 hb (o167 10 (by decide)) (o _ (by decide) (by decide)) (fun a a1 a2 => o a (by omega) (by omega)) hh) ?_
    · unfold mRng
      rw [o167 0 (by decide), o167 1 (by decide), o167 3 (by decide), o167 4 (by decide), o167 5 (by decide), o167 10 (by decide), o167 13 (by decide), n17]
      omega
    · refine ⟨⟨by rw [n4, n17], fun k hk => ?_⟩, fun k hk => ?_⟩
      · rw [o 43 (by decide) (by decide), o 176 (by decide) (by decide)]; exact ht.1.2 k hk
      · rw [o 176 (by decide) (by decide)]; exact ht.2 k hk
    · rw [o1 14 (by decide), o167 15 (by decide)]
      exact hx.2.2.2.2.2.2.2.2.2
  · rw [jm_up_o (by decide), jm_up_o (by decide)]
theorem c_X_forget (k : K (some (.inl (I 103 0))) (jm_up I 103 0 0)) : Cx (jx_0 L) d md_X_forget [.inr (.inl 1)] I K := by
  refine b_X_forget_0 ?_
  exact k
theorem g_forget (h : Rel I) : Two L d md_X_forget md_M_forget [] I := by
  obtain ⟨hm, c, e, hx⟩ := id h
  obtain ⟨hr, ht, hi, hf, hn, hh⟩ := rel_parts hm hx
  have hr0 := hr
  unfold mRng at hr
  refine c_X_forget ⟨_, rfl, c_M_forget ⟨?_, ?_, ?_⟩⟩
  · rw [up_a (by decide), hf.2.1]
  · generalize hA : jm_up (jm_up I 103 0 0) 167 13 0 = A
    have o : ∀ a, a ≠ 167 → a ≠ 103 → A a = I a := fun a a1 a2 => by rw [← hA, jm_up_o a1, jm_up_o a2]
    have o167 : ∀ k, k ≠ 13 → A 167 k = I 167 k := fun k hk => by rw [← hA, up_k hk, up_a (by decide)]
    have n13 : A 167 13 = 0 := by rw [← hA, up_s]
    have n0 : A 103 0 = 0 := by rw [← hA, up_a (by decide), up_s]
    have hb : base I A := base_of (fun k hk => o167 k (by omega)) (o _ (by decide) (by decide)) (o _ (by decide) (by decide)) (o _ (by decide) (by decide))
    have hcit : ∀ a, c ≤ a → a < c + 20 → A a = I a := fun a a1 a2 => by rcases hx.1 with ⟨rfl, -⟩ | ⟨rfl, -⟩ <;> exact o a (by omega) (by omega)
    have e1 : A 1 = I 1 := o 1 (by decide) (by decide)
    refine rel_mk hm hx hb ⟨by rw [e1], by rw [e1]⟩ hcit ?_ (TX_k (by rw [e1]) (o167 17 (by decide)) (o _ (by decide) (by decide)) (o _ (by decide) (by decide)) ht) (IM_k hb (o _ (by decide) (by decide)) (o _ (by decide) (by decide)) (o _ (by decide) (by decide)) (fun a a1 a2 => o a (by omega) (by omega)) hi) ⟨fun i hi2 => by rw [n13] at hi2; omega, by rw [n0, n13], fun i hi2 => by rw [n13] at hi2; omega⟩ (NW_k hb (o _ (by decide) (by decide)) (fun a a1 a2 => o a (by omega) (by omega)) hn) (HI_k hr0 hb (o167 10 (by decide)) (o _ (by decide) (by decide)) (fun a a1 a2 => o a (by omega) (by omega)) hh) ?_
    · unfold mRng
      rw [o167 0 (by decide), o167 1 (by decide), o167 3 (by decide), o167 4 (by decide), o167 5 (by decide), o167 10 (by decide), o167 17 (by decide), n13]
      omega
    · rw [e1, o167 15 (by decide)]
      exact hx.2.2.2.2.2.2.2.2.2
  · rw [jm_up_o (by decide), jm_up_o (by decide)]
end STATE1
