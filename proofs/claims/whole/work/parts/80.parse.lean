/-! ===== what the text tells: all of it ===== -/
def psO (f : Nat → Int) (n : Nat) : Nat → Nat → Nat → jm_I → jm_Out
  | 0, _, _, _ => .inr 0
  | m + 1, k, a, D => if tkK f n a = 0 then .inl (k, D) else match itO f n k a D with
    | .inl p => psO f n m (k + 1) p.1 p.2
    | .inr s => .inr s
def dOk (k : Nat) (D : jm_I) : Prop := dcOk D ∧ (1 ≤ D 0 1 ∧ D 0 1 ≤ 20) ∧ (k = 0 → D 0 2 = 0 ∧ D 0 3 = 0 ∧ D 0 4 = 0) ∧ (∀ i : Nat, (i : Int) < D 0 2 → (0 ≤ D 1 i ∧ D 1 i < D 0 0) ∧ (0 ≤ D 2 i ∧ D 2 i < D 0 0) ∧ (D 3 i = 0 ∨ D 3 i = 1) ∧ ¬ D 1 i = D 2 i) ∧ (∀ p : Nat, (p : Int) < D 0 3 → 0 ≤ D 4 p ∧ D 4 p < D 0 0) ∧ ∀ t : Nat, (t : Int) < D 0 4 → (1 ≤ D 6 t ∧ D 6 t ≤ 4) ∧ ∀ j : Nat, (j : Int) < D 6 t → 0 ≤ D (8 + t) j ∧ D (8 + t) j < D 0 0
section PARSE
variable {f : Nat → Int} {n : Nat}
theorem en_i {q a' : Nat} {D D' : jm_I} (hq : q ≤ n) (h : enO f n q D = .inl (a', D')) : D' = D ∧ q + 1 ≤ a' ∧ a' ≤ n := by
  unfold enO at h
  have ht := tk_r (f := f) hq
  by_cases hk : tkK f n q = 59
  · rw [if_pos hk] at h
    have h2 : (tkE f n q, D) = (a', D') := Sum.inl.inj h
    have h3 : tkE f n q = a' := congrArg Prod.fst h2
    have h4 : D = D' := congrArg Prod.snd h2
    have := ht.2.2.2.2.1 (by omega)
    exact ⟨h4.symm, by omega, by omega⟩
  · rw [if_neg hk] at h; cases h
theorem nm_i {q : Nat} {lo hi : Int} (h : nmB f n q lo hi = true) : tkK f n q = 1 ∧ lo ≤ tkV f n q ∧ tkV f n q ≤ hi := by
  unfold nmB at h
  exact decide_eq_true_iff.1 h
theorem rd_ok {t : Nat} (ht : t < 5) : ∀ (m j q a' : Nat) (D D' : jm_I), q ≤ n → dOk 1 D → D 0 4 = (t : Int) → D 6 t = ((j + m : Nat) : Int) → (1 ≤ D 6 t ∧ D 6 t ≤ 4) → (∀ i, i < j → 0 ≤ D (8 + t) i ∧ D (8 + t) i < D 0 0) → rdO f n t m j q D = .inl (a', D') → dOk 1 D' ∧ q + 1 ≤ a' ∧ a' ≤ n := by
  intro m
  induction m with
  | zero =>
    intro j q a' D D' hq hD h4 h6 hL hj h
    obtain ⟨z1, z2, z3⟩ := en_i hq h
    refine ⟨?_, z2, z3⟩
    obtain ⟨d1, d2, d3, d4, d5, d6⟩ := hD
    unfold dcOk at d1
    subst z1
    have u4 : jm_up D 0 4 (D 0 4 + 1) 0 4 = D 0 4 + 1 := up_s
    have uo : ∀ j, j ≠ 4 → jm_up D 0 4 (D 0 4 + 1) 0 j = D 0 j := fun j hj => up_k hj
    have ur : ∀ i, i ≠ 0 → jm_up D 0 4 (D 0 4 + 1) i = D i := fun i hi => jm_up_o hi
    refine ⟨?_, by rw [uo 1 (by decide)]; exact d2, fun h => by omega, ?_, ?_, ?_⟩
    · unfold dcOk
      rw [u4, uo 0 (by decide), uo 2 (by decide), uo 3 (by decide), ur 20 (by decide)]
      omega
    · rw [uo 2 (by decide), uo 0 (by decide), ur 1 (by decide), ur 2 (by decide), ur 3 (by decide)]; exact d4
    · rw [uo 3 (by decide), uo 0 (by decide), ur 4 (by decide)]; exact d5
    · rw [u4, uo 0 (by decide), ur 6 (by decide)]
      intro t' ht'
      rw [ur (8 + t') (by omega)]
      by_cases et : t' = t
      · subst et
        exact ⟨hL, fun i hi => hj i (by omega)⟩
      · exact d6 t' (by omega)
  | succ m ih =>
    intro j q a' D D' hq hD h4 h6 hL hj h
    have h : (if nmB f n q 0 (D 0 0 - 1) = true then rdO f n t m (j + 1) (tkE f n q) (jm_up D (8 + t) j (tkV f n q)) else Sum.inr (tkS f n q)) = Sum.inl (a', D') := h
    by_cases hn : nmB f n q 0 (D 0 0 - 1) = true
    · rw [if_pos hn] at h
      obtain ⟨v1, v2, v3⟩ := nm_i hn
      have htk := tk_r (f := f) hq
      have hEq := htk.2.2.2.2.1 (by omega)
      have ur : ∀ i, i ≠ 8 + t → jm_up D (8 + t) j (tkV f n q) i = D i := fun i hi => jm_up_o hi
      obtain ⟨d1, d2, d3, d4, d5, d6⟩ := hD
      have hD2 : dOk 1 (jm_up D (8 + t) j (tkV f n q)) := by
        refine ⟨?_, by rw [ur 0 (by omega)]; exact d2, fun h => by omega, ?_, ?_, ?_⟩
        · unfold dcOk at *
          rw [ur 0 (by omega), ur 20 (by omega)]; exact d1
        · rw [ur 0 (by omega), ur 1 (by omega), ur 2 (by omega), ur 3 (by omega)]; exact d4
        · rw [ur 0 (by omega), ur 4 (by omega)]; exact d5
        · rw [ur 0 (by omega), ur 6 (by omega)]
          intro t' ht'
          rw [ur (8 + t') (by omega)]
          exact d6 t' ht'
      have := ih (j + 1) (tkE f n q) a' _ D' htk.2.2.2.1 hD2 (by rw [ur 0 (by omega)]; exact h4) (by rw [ur 6 (by omega), h6]; omega) (by rw [ur 6 (by omega)]; exact hL) (fun i hi => ?_) h
      · exact ⟨this.1, by omega, this.2.2⟩
      · rw [ur 0 (by omega)]
        by_cases ei : i = j
        · subst ei; rw [up_s]; omega
        · rw [up_k ei]; exact hj i (by omega)
    · rw [if_neg hn] at h; cases h
theorem dOk_1 {k : Nat} {D : jm_I} (h : dOk k D) : dOk 1 D := ⟨h.1, h.2.1, fun q => by omega, h.2.2.2⟩
theorem it_ok {k a a' : Nat} {D D' : jm_I} (ha : a ≤ n) (hD : dOk k D) (h : itO f n k a D = .inl (a', D')) : dOk (k + 1) D' ∧ a + 2 ≤ a' ∧ a' ≤ n := by
  have ht1 := tk_r (f := f) ha
  have ht2 := tk_r (f := f) ht1.2.2.2.1
  have ht3 := tk_r (f := f) ht2.2.2.2.1
  have ht4 := tk_r (f := f) ht3.2.2.2.1
  obtain ⟨d1, d2, d3, d4, d5, d6⟩ := id hD
  unfold dcOk at d1
  have weak : ∀ D'', dOk 1 D'' → dOk (k + 1) D'' := fun D'' z => ⟨z.1, z.2.1, fun q => by omega, z.2.2.2⟩
  unfold itO at h
  by_cases c1 : tkK f n a = 114
  · rw [if_pos c1] at h
    have e1 := ht1.2.2.2.2.1 (by omega)
    unfold itR at h
    by_cases hk : k = 0
    · rw [if_pos hk] at h
      by_cases hn : nmB f n (tkE f n a) 2 6 = true
      · rw [if_pos hn] at h
        obtain ⟨v1, v2, v3⟩ := nm_i hn
        obtain ⟨z1, z2, z3⟩ := en_i ht2.2.2.2.1 h
        have e2 := ht2.2.2.2.2.1 (by omega)
        obtain ⟨c2, c3, c4⟩ := d3 hk
        refine ⟨?_, by omega, z3⟩
        subst z1
        have u0 : jm_up D 0 0 (tkV f n (tkE f n a)) 0 0 = tkV f n (tkE f n a) := up_s
        have uo : ∀ j, j ≠ 0 → jm_up D 0 0 (tkV f n (tkE f n a)) 0 j = D 0 j := fun j hj => up_k hj
        have ur : ∀ i, i ≠ 0 → jm_up D 0 0 (tkV f n (tkE f n a)) i = D i := fun i hi => jm_up_o hi
        refine ⟨?_, by rw [uo 1 (by decide)]; exact d2, fun q => by omega, fun i hi => ?_, fun p hp => ?_, fun t ht => ?_⟩
        · unfold dcOk
          rw [u0, uo 2 (by decide), uo 3 (by decide), uo 4 (by decide), ur 20 (by decide)]
          omega
        · rw [uo 2 (by decide)] at hi; omega
        · rw [uo 3 (by decide)] at hp; omega
        · rw [uo 4 (by decide)] at ht; omega
      · rw [if_neg hn] at h; cases h
    · rw [if_neg hk] at h; cases h
  · rw [if_neg c1] at h
    by_cases c2 : tkK f n a = 115
    · rw [if_pos c2] at h
      have e1 := ht1.2.2.2.2.1 (by omega)
      unfold itS at h
      by_cases hs : D 20 0 = 0
      · rw [if_pos hs] at h
        by_cases hn : nmB f n (tkE f n a) 1 20 = true
        · rw [if_pos hn] at h
          obtain ⟨v1, v2, v3⟩ := nm_i hn
          obtain ⟨z1, z2, z3⟩ := en_i ht2.2.2.2.1 h
          have e2 := ht2.2.2.2.2.1 (by omega)
          refine ⟨weak _ ?_, by omega, z3⟩
          subst z1
          generalize hE : jm_up (jm_up D 20 0 1) 0 1 (tkV f n (tkE f n a)) = E
          have u1 : E 0 1 = tkV f n (tkE f n a) := by rw [← hE, up_s]
          have uo : ∀ j, j ≠ 1 → E 0 j = D 0 j := fun j hj => by rw [← hE, up_k hj, up_a (by decide)]
          have ur : ∀ i, i ≠ 0 → i ≠ 20 → E i = D i := fun i hi h2 => by rw [← hE, jm_up_o hi, jm_up_o h2]
          have u20 : E 20 0 = 1 := by rw [← hE, up_a (by decide), up_s]
          refine ⟨?_, by rw [u1]; omega, fun q => by omega, ?_, ?_, fun t ht => ?_⟩
          · unfold dcOk
            rw [uo 0 (by decide), uo 2 (by decide), uo 3 (by decide), uo 4 (by decide), u20]
            omega
          · rw [uo 2 (by decide), uo 0 (by decide), ur 1 (by decide) (by decide), ur 2 (by decide) (by decide), ur 3 (by decide) (by decide)]; exact d4
          · rw [uo 3 (by decide), uo 0 (by decide), ur 4 (by decide) (by decide)]; exact d5
          · rw [uo 4 (by decide)] at ht
            rw [uo 0 (by decide), ur 6 (by decide) (by decide), ur (8 + t) (by omega) (by omega)]; exact d6 t ht
        · rw [if_neg hn] at h; cases h
      · rw [if_neg hs] at h; cases h
    · rw [if_neg c2] at h
      by_cases c3 : tkK f n a = 100
      · rw [if_pos c3] at h
        have e1 := ht1.2.2.2.2.1 (by omega)
        unfold itD at h
        by_cases h8 : D 0 2 < 8
        · rw [if_pos h8] at h
          by_cases hn : nmB f n (tkE f n a) 0 (D 0 0 - 1) = true
          · rw [if_pos hn] at h
            obtain ⟨v1, v2, v3⟩ := nm_i hn
            have e2 := ht2.2.2.2.2.1 (by omega)
            unfold itD2 at h
            by_cases hn2 : nmB f n (tkE f n (tkE f n a)) 0 (D 0 0 - 1) = true ∧ ¬ tkV f n (tkE f n (tkE f n a)) = tkV f n (tkE f n a)
            · rw [if_pos hn2] at h
              obtain ⟨w1, w2, w3⟩ := nm_i hn2.1
              have e3 := ht3.2.2.2.2.1 (by omega)
              unfold itD3 at h
              by_cases hn3 : nmB f n (tkE f n (tkE f n (tkE f n a))) 0 1 = true
              · rw [if_pos hn3] at h
                obtain ⟨y1, y2, y3⟩ := nm_i hn3
                have e4 := ht4.2.2.2.2.1 (by omega)
                obtain ⟨z1, z2, z3⟩ := en_i ht4.2.2.2.1 h
                refine ⟨weak _ ?_, by omega, z3⟩
                subst z1
                obtain ⟨nd, hnd⟩ : ∃ nd : Nat, D 0 2 = nd := ⟨(D 0 2).toNat, by omega⟩
                rw [hnd, Int.toNat_natCast]
                generalize hE : jm_up (jm_up (jm_up (jm_up D 1 nd (tkV f n (tkE f n a))) 2 nd (tkV f n (tkE f n (tkE f n a)))) 3 nd (tkV f n (tkE f n (tkE f n (tkE f n a))))) 0 2 ((nd : Int) + 1) = E
                have u2 : E 0 2 = (nd : Int) + 1 := by rw [← hE, up_s]
                have uo : ∀ j, j ≠ 2 → E 0 j = D 0 j := fun j hj => by rw [← hE, up_k hj, up_a (by decide), up_a (by decide), up_a (by decide)]
                have ur : ∀ i, i ≠ 0 → i ≠ 1 → i ≠ 2 → i ≠ 3 → E i = D i := fun i i0 i1 i2 i3 => by rw [← hE, jm_up_o i0, jm_up_o i3, jm_up_o i2, jm_up_o i1]
                have r1 : ∀ j, E 1 j = if j = nd then tkV f n (tkE f n a) else D 1 j := fun j => by
                  rw [← hE, up_a (by decide), up_a (by decide), up_a (by decide)]
                  by_cases ej : j = nd
                  · rw [if_pos ej, ej, up_s]
                  · rw [if_neg ej, up_k ej]
                have r2 : ∀ j, E 2 j = if j = nd then tkV f n (tkE f n (tkE f n a)) else D 2 j := fun j => by
                  rw [← hE, up_a (by decide), up_a (by decide)]
                  by_cases ej : j = nd
                  · rw [if_pos ej, ej, up_s]
                  · rw [if_neg ej, up_k ej, up_a (by decide)]
                have r3 : ∀ j, E 3 j = if j = nd then tkV f n (tkE f n (tkE f n (tkE f n a))) else D 3 j := fun j => by
                  rw [← hE, up_a (by decide)]
                  by_cases ej : j = nd
                  · rw [if_pos ej, ej, up_s]
                  · rw [if_neg ej, up_k ej, up_a (by decide), up_a (by decide)]
                refine ⟨?_, by rw [uo 1 (by decide)]; exact d2, fun q => by omega, fun i hi => ?_, ?_, fun t ht => ?_⟩
                · unfold dcOk
                  rw [uo 0 (by decide), u2, uo 3 (by decide), uo 4 (by decide), ur 20 (by decide) (by decide) (by decide) (by decide)]
                  omega
                · rw [u2] at hi
                  rw [uo 0 (by decide), r1, r2, r3]
                  by_cases ei : i = nd
                  · rw [if_pos ei, if_pos ei, if_pos ei]
                    have := hn2.2
                    omega
                  · rw [if_neg ei, if_neg ei, if_neg ei]
                    exact d4 i (by omega)
                · rw [uo 3 (by decide), uo 0 (by decide), ur 4 (by decide) (by decide) (by decide) (by decide)]; exact d5
                · rw [uo 4 (by decide)] at ht
                  rw [uo 0 (by decide), ur 6 (by decide) (by decide) (by decide) (by decide), ur (8 + t) (by omega) (by omega) (by omega) (by omega)]; exact d6 t ht
              · rw [if_neg hn3] at h; cases h
            · rw [if_neg hn2] at h; cases h
          · rw [if_neg hn] at h; cases h
        · rw [if_neg h8] at h; cases h
      · rw [if_neg c3] at h
        by_cases c4 : tkK f n a = 112
        · rw [if_pos c4] at h
          have e1 := ht1.2.2.2.2.1 (by omega)
          unfold itP at h
          by_cases h5 : D 0 3 < 5
          · rw [if_pos h5] at h
            by_cases hn : nmB f n (tkE f n a) 0 (D 0 0 - 1) = true
            · rw [if_pos hn] at h
              obtain ⟨v1, v2, v3⟩ := nm_i hn
              have e2 := ht2.2.2.2.2.1 (by omega)
              unfold itP2 at h
              by_cases hn2 : nmB f n (tkE f n (tkE f n a)) 10 60 = true
              · rw [if_pos hn2] at h
                obtain ⟨w1, w2, w3⟩ := nm_i hn2
                have e3 := ht3.2.2.2.2.1 (by omega)
                obtain ⟨z1, z2, z3⟩ := en_i ht3.2.2.2.1 h
                refine ⟨weak _ ?_, by omega, z3⟩
                subst z1
                obtain ⟨np, hnp⟩ : ∃ np : Nat, D 0 3 = np := ⟨(D 0 3).toNat, by omega⟩
                rw [hnp, Int.toNat_natCast]
                generalize hE : jm_up (jm_up (jm_up D 4 np (tkV f n (tkE f n a))) 5 np (tkV f n (tkE f n (tkE f n a)))) 0 3 ((np : Int) + 1) = E
                have u3 : E 0 3 = (np : Int) + 1 := by rw [← hE, up_s]
                have uo : ∀ j, j ≠ 3 → E 0 j = D 0 j := fun j hj => by rw [← hE, up_k hj, up_a (by decide), up_a (by decide)]
                have ur : ∀ i, i ≠ 0 → i ≠ 4 → i ≠ 5 → E i = D i := fun i i0 i1 i2 => by rw [← hE, jm_up_o i0, jm_up_o i2, jm_up_o i1]
                have r4 : ∀ j, E 4 j = if j = np then tkV f n (tkE f n a) else D 4 j := fun j => by
                  rw [← hE, up_a (by decide), up_a (by decide)]
                  by_cases ej : j = np
                  · rw [if_pos ej, ej, up_s]
                  · rw [if_neg ej, up_k ej]
                refine ⟨?_, by rw [uo 1 (by decide)]; exact d2, fun q => by omega, ?_, fun p hp => ?_, fun t ht => ?_⟩
                · unfold dcOk
                  rw [uo 0 (by decide), u3, uo 2 (by decide), uo 4 (by decide), ur 20 (by decide) (by decide) (by decide)]
                  omega
                · rw [uo 2 (by decide), uo 0 (by decide), ur 1 (by decide) (by decide) (by decide), ur 2 (by decide) (by decide) (by decide), ur 3 (by decide) (by decide) (by decide)]; exact d4
                · rw [u3] at hp
                  rw [uo 0 (by decide), r4]
                  by_cases ei : p = np
                  · rw [if_pos ei]; omega
                  · rw [if_neg ei]; exact d5 p (by omega)
                · rw [uo 4 (by decide)] at ht
                  rw [uo 0 (by decide), ur 6 (by decide) (by decide) (by decide), ur (8 + t) (by omega) (by omega) (by omega)]; exact d6 t ht
              · rw [if_neg hn2] at h; cases h
            · rw [if_neg hn] at h; cases h
          · rw [if_neg h5] at h; cases h
        · rw [if_neg c4] at h
          by_cases c5 : tkK f n a = 116
          · rw [if_pos c5] at h
            have e1 := ht1.2.2.2.2.1 (by omega)
            unfold itT at h
            by_cases h5 : D 0 4 < 5
            · rw [if_pos h5] at h
              by_cases hn : nmB f n (tkE f n a) 1 4 = true
              · rw [if_pos hn] at h
                obtain ⟨v1, v2, v3⟩ := nm_i hn
                have e2 := ht2.2.2.2.2.1 (by omega)
                obtain ⟨t, ht⟩ : ∃ t : Nat, D 0 4 = t := ⟨(D 0 4).toNat, by omega⟩
                rw [ht, Int.toNat_natCast] at h
                have ur : ∀ i, i ≠ 6 → jm_up D 6 t (tkV f n (tkE f n a)) i = D i := fun i hi => jm_up_o hi
                have hD2 : dOk 1 (jm_up D 6 t (tkV f n (tkE f n a))) := by
                  refine ⟨?_, by rw [ur 0 (by decide)]; exact d2, fun h => by omega, ?_, ?_, ?_⟩
                  · unfold dcOk
                    rw [ur 0 (by decide), ur 20 (by decide)]; exact d1
                  · rw [ur 0 (by decide), ur 1 (by decide), ur 2 (by decide), ur 3 (by decide)]; exact d4
                  · rw [ur 0 (by decide), ur 4 (by decide)]; exact d5
                  · rw [ur 0 (by decide)]
                    intro t' ht'
                    rw [ur (8 + t') (by omega), up_k (by omega)]
                    exact d6 t' ht'
                have := rd_ok (by omega) (tkV f n (tkE f n a)).toNat 0 _ a' _ D' ht2.2.2.2.1 hD2 (by rw [ur 0 (by decide)]; exact ht) (by rw [up_s]; omega) (by rw [up_s]; omega) (fun i hi => by omega) h
                exact ⟨weak _ this.1, by omega, this.2.2⟩
              · rw [if_neg hn] at h; cases h
            · rw [if_neg h5] at h; cases h
          · rw [if_neg c5] at h; cases h
/-- a fault is a place of the text -/
theorem en_b {q s : Nat} {D : jm_I} (hq : q ≤ n) (h : enO f n q D = .inr s) : s ≤ n := by
  unfold enO at h
  have ht := tk_r (f := f) hq
  by_cases hk : tkK f n q = 59
  · rw [if_pos hk] at h; cases h
  · rw [if_neg hk] at h
    have := Sum.inr.inj h
    omega
theorem rd_b {t : Nat} : ∀ (m j q s : Nat) (D : jm_I), q ≤ n → rdO f n t m j q D = .inr s → s ≤ n := by
  intro m
  induction m with
  | zero =>
    intro j q s D hq h
    exact en_b hq h
  | succ m ih =>
    intro j q s D hq h
    have h : (if nmB f n q 0 (D 0 0 - 1) = true then rdO f n t m (j + 1) (tkE f n q) (jm_up D (8 + t) j (tkV f n q)) else Sum.inr (tkS f n q)) = Sum.inr s := h
    have ht := tk_r (f := f) hq
    by_cases hn : nmB f n q 0 (D 0 0 - 1) = true
    · rw [if_pos hn] at h
      exact ih _ _ s _ ht.2.2.2.1 h
    · rw [if_neg hn] at h
      have := Sum.inr.inj h
      omega
theorem it_bad {k a s : Nat} {D : jm_I} (ha : a ≤ n) (hn : n ≤ 200) (h : itO f n k a D = .inr s) : s ≤ 200 := by
  have ht1 := tk_r (f := f) ha
  have ht2 := tk_r (f := f) ht1.2.2.2.1
  have ht3 := tk_r (f := f) ht2.2.2.2.1
  have ht4 := tk_r (f := f) ht3.2.2.2.1
  have key : s ≤ n := by
    unfold itO itR itS itD itD2 itD3 itP itP2 itT at h
    (repeat' split at h) <;> first
      | (have := Sum.inr.inj h; omega)
      | exact en_b ht2.2.2.2.1 h
      | exact en_b ht3.2.2.2.1 h
      | exact en_b ht4.2.2.2.1 h
      | exact rd_b _ _ _ _ _ ht2.2.2.2.1 h
  omega
end PARSE
