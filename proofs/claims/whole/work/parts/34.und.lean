/-! ===== back, undo, press ===== -/
section STATE3
variable {L d : Nat} {I : jm_I} {K : Option jm_V → jm_I → Prop} {x0 x1 x2 x3 : Int} {c e : Nat}
theorem c_X_back (hz : -2147483648 ≤ x1 ∧ x1 < 2147483648) (hk : 0 ≤ x1 ∧ x1 ≤ 1 → I 102 x1.toNat = 0 ∨ I 102 x1.toNat = 1) (k0 : ¬ (0 ≤ x1 ∧ x1 ≤ 1) → K (some (.inl (-1))) I) (k2 : 0 ≤ x1 ∧ x1 ≤ 1 → I 102 x1.toNat = 0 → K (some (.inl (-2))) I) (k : 0 ≤ x1 ∧ x1 ≤ 1 → I 102 x1.toNat = 1 → ∀ J, cpM I J 44 (157 + 5 * x1.toNat) → K (some (.inl (I (157 + 5 * x1.toNat) 0))) (jm_up J 49 2 0)) : Cx (jx_0 L) (d + 1) md_X_back [.inr (.inl 1), .inl x1] I K := by
  refine b_X_back_0 (c_X_within (by omega) (fun v1 hv1 => ?_))
  refine b_X_back_6 (by omega) (fun hb2 => ?_) (fun hb2 => ?_)
  · have hk := hk (by omega)
    refine b_X_back_11 (by omega) (fun hb3 => ?_) (fun hb3 => ?_)
    · refine b_X_back_23 (by omega) (c_Moment_copyFrom jx_m44 (rw_M101 (by omega) (by omega)) (by omega) (fun J hJ => ?_))
      refine b_X_back_36 ?_
      exact cv_ hJ.2.1 (k (by omega) (by omega) J hJ)
    · refine b_X_back_20 ?_
      exact k2 (by omega) (by omega)
  · refine b_X_back_9 ?_
    exact k0 (by omega)
theorem g_back (h : Rel I) (hz : -2147483648 ≤ x1 ∧ x1 < 2147483648) : Two L d md_X_back md_M_back [.inl x1] I := by
  obtain ⟨hm, c, e, hx⟩ := id h
  obtain ⟨hr, ht, hi, hf, hn, hh⟩ := rel_parts hm hx
  unfold mRng at hr
  have hn5 : I 167 4 ≤ 5 ∧ I 167 5 ≤ 5 := by omega
  have hkk : 0 ≤ x1 ∧ x1 ≤ 1 → I 102 x1.toNat = I 174 x1.toNat ∧ (I 174 x1.toNat = 0 ∨ (I 174 x1.toNat = 1 ∧ stI I (fun k => I 173 (27 * x1.toNat + k)))) ∧ (I 174 x1.toNat = 1 → xMom I (157 + 5 * x1.toNat) (fun k => I 173 (27 * x1.toNat + k))) := fun q =>
    ⟨(hi.2 x1.toNat (by omega)).1, hi.1 x1.toNat (by omega), (hi.2 x1.toNat (by omega)).2⟩
  refine c_X_back hz (fun q => ?_) (fun q => ?_) (fun q q2 => ?_) (fun q q2 J hJ => ?_)
  · obtain ⟨a1, a2, -⟩ := hkk q
    rw [a1]
    rcases a2 with a | a
    · exact Or.inl a
    · exact Or.inr a.1
  · exact ⟨_, rfl, c_M_back hz (fun p => absurd p q) (fun p => ⟨rfl, h, rfl⟩) (fun p => absurd p q) (fun p => absurd p q)⟩
  · obtain ⟨a1, a2, -⟩ := hkk q
    exact ⟨_, rfl, c_M_back hz (fun p => Or.inl (by omega)) (fun p => absurd q p) (fun p p2 => ⟨rfl, h, rfl⟩) (fun p p2 => by omega)⟩
  · obtain ⟨a1, a2, a3⟩ := hkk q
    have h174 : I 174 x1.toNat = 1 := by omega
    have hst : stI I (fun k => I 173 (27 * x1.toNat + k)) := by
      rcases a2 with a | a
      · omega
      · exact a.2
    have hmo := a3 h174
    have j := hJ.1
    have oJ : ∀ a, a ≠ 49 → (a < 44 ∨ 48 < a) → jm_up J 49 2 0 a = I a := fun a a1 a2 => by rw [jm_up_o a1, j a (by omega)]
    have e174 := oJ 174 (by decide) (by decide)
    have e173 := oJ 173 (by decide) (by decide)
    refine ⟨_, rfl, c_M_back hz (fun p => by rw [e174]; exact Or.inr h174) (fun p => absurd q p) (fun p p2 => by rw [e174] at p2; omega) (fun p p2 => ⟨?_, ?_, ?_⟩)⟩
    · rw [e173, show (27 * x1).toNat = 27 * x1.toNat + 0 by omega]
      exact congrArg (fun z => some (Sum.inl z)) hmo.1.symm
    · generalize hA : bacF (jm_up J 49 2 0) x1 = A
      have o : ∀ a, a ≠ 49 → a ≠ 167 → a ≠ 171 → (a < 44 ∨ 48 < a) → A a = I a := fun a a1 a2 a3 a4 => by rw [← hA]; unfold bacF; rw [jm_up_o a2, st_a a3, oJ a a1 a4]
      have o167 : ∀ k, k ≠ 10 → A 167 k = I 167 k := fun k hk => by rw [← hA]; unfold bacF; rw [up_k hk, st_a (by decide), oJ 167 (by decide) (by decide)]
      have n10 : A 167 10 = 0 := by rw [← hA]; unfold bacF; rw [up_s]
      have oM : ∀ a, 44 ≤ a → a ≤ 48 → A a = J a := fun a a1 a2 => by rw [← hA]; unfold bacF; rw [jm_up_o (by omega), st_a (by omega), jm_up_o (by omega)]
      have n171 : ∀ k, k < 27 → A 171 k = I 173 (27 * x1.toNat + k) := fun k hk => by rw [← hA]; unfold bacF; rw [jm_up_o (by decide), st_s, if_pos hk, e173, show (27 * x1 + (k : Int)).toNat = 27 * x1.toNat + k by omega]
      have n49 : ∀ k, k ≠ 2 → A 49 k = I 49 k := fun k hk => by rw [← hA]; unfold bacF; rw [jm_up_o (by decide), st_a (by decide), up_k hk, j 49 (by omega)]
      have n492 : A 49 2 = 0 := by rw [← hA]; unfold bacF; rw [jm_up_o (by decide), st_a (by decide), up_s]
      refine rel_nh hm hx (fun a a1 a2 a3 a4 => o a (by omega) a1 a2 (by omega)) o167 (by omega) (fun hb => ?_) (fun hb => ?_)
      · refine ⟨?_, stOk_f (by rw [hb.1.2.2.2.1, hb.1.2.2.2.2]; exact hn5) n171 (stI_b hb hst)⟩
        have hxm := xMm_cp hn5 hJ hmo
        unfold xMom
        rw [hb.1.2.2.2.1, hb.1.2.2.2.2, oM 44 (by decide) (by decide), oM (44 + 1) (by decide) (by decide), oM (44 + 2) (by decide) (by decide), oM (44 + 3) (by decide) (by decide), oM (44 + 4) (by decide) (by decide)]
        exact xMm_f hn5 n171 hxm
      · refine ⟨⟨by rw [n492, n10], by rw [n49 1 (by decide)]; exact hh.1.2.1, fun i hi => ?_⟩, fun i hi => ?_⟩
        · rw [n10] at hi; omega
        · rw [n10] at hi; omega
    · unfold bacF
      rw [jm_up_o (by decide), st_a (by decide), oJ 0 (by decide) (by decide)]
def recC (I J : jm_I) : Prop := (∀ a, a ≠ 49 → (a < 44 ∨ 48 < a) → J a = I a) ∧ J 49 1 = (I 49 1 + 9) % 10 ∧ J 49 2 = I 49 2 - 1 ∧ ∃ m : Nat, m = 51 + 5 * ((I 49 1 + 9) % 10).toNat ∧ ∃ J1 : jm_I, cpM I J1 44 m ∧ ∀ a, 44 ≤ a → a ≤ 48 → J a = J1 a
theorem c_History_recallInto (hz : 0 ≤ I 49 1 ∧ I 49 1 < 10) (k : ∀ J, recC I J → K none J) : Cx (jx_0 L) (d + 1) md_History_recallInto [.inr (.inl 49), .inr (.inl 44)] I K := by
  have en : I 49 1 + 10 - 1 = I 49 1 + 9 := by omega
  refine b_History_recallInto_0 jx_m44 (by omega) ?_
  rw [en]
  refine c_Moment_copyFrom jx_m44 (rw_M50 (by omega) (by omega)) (by omega) (fun J hJ => ?_)
  refine b_History_recallInto_29 (k _ ?_)
  obtain ⟨j1, j2, j3, j4⟩ := hJ
  have e49 : J 49 = jm_up I 49 1 ((I 49 1 + 9) % 10) 49 := j1 49 (by omega)
  refine ⟨fun a a1 a2 => by rw [jm_up_o a1, j1 a (by omega), jm_up_o a1], by rw [up_k (by decide), e49, up_s], by rw [up_s, e49, up_k (by decide)], _, rfl, fun a => if a = 49 then I 49 else J a, ⟨fun a ha => ?_, ?_, ?_, fun q hq => ?_⟩, fun a a1 a2 => ?_⟩
  · show (if a = 49 then I 49 else J a) = I a
    split
    · rename_i hh; rw [hh]
    · rename_i hh; rw [j1 a ha, jm_up_o hh]
  · show (if (44 : Nat) = 49 then I 49 else J 44) 0 = _
    rw [if_neg (by decide), j2, jm_up_o (by omega)]
  · show (if (44 : Nat) = 49 then I 49 else J 44) 1 = _
    rw [if_neg (by decide), j3, jm_up_o (by omega)]
  · have := j4 q hq
    rw [jm_up_o (by omega), jm_up_o (by omega), jm_up_o (by omega), jm_up_o (by omega)] at this
    show (if (44 + 1 : Nat) = 49 then I 49 else J (44 + 1)) q = _ ∧ (if (44 + 2 : Nat) = 49 then I 49 else J (44 + 2)) q = _ ∧ (if (44 + 3 : Nat) = 49 then I 49 else J (44 + 3)) q = _ ∧ (if (44 + 4 : Nat) = 49 then I 49 else J (44 + 4)) q = _
    rw [if_neg (by decide), if_neg (by decide), if_neg (by decide), if_neg (by decide)]
    exact this
  · show _ = (if a = 49 then I 49 else J a)
    rw [if_neg (by omega), jm_up_o (by omega)]
theorem c_X_undo (hz : (0 ≤ I 49 1 ∧ I 49 1 < 10) ∧ (0 ≤ I 49 2 ∧ I 49 2 ≤ 10)) (k0 : I 49 2 = 0 → K (some (.inl (-2))) I) (k : ¬ I 49 2 = 0 → ∀ J, recC I J → K (some (.inl (I 49 2 - 1))) J) : Cx (jx_0 L) (d + 2) md_X_undo [.inr (.inl 1)] I K := by
  refine b_X_undo_0 (by omega) (fun hb1 => ?_) (fun hb1 => ?_)
  · refine b_X_undo_13 (c_History_recallInto (by omega) (fun J hJ => ?_))
    refine b_X_undo_24 ?_
    exact cv_ hJ.2.2.1 (k (by omega) J hJ)
  · refine b_X_undo_10 ?_
    exact k0 (by omega)
theorem g_undo (h : Rel I) : Two L d md_X_undo md_M_undo [] I := by
  obtain ⟨hm, c, e, hx⟩ := id h
  obtain ⟨hr, ht, hi, hf, hn, hh⟩ := rel_parts hm hx
  unfold mRng at hr
  have hn5 : I 167 4 ≤ 5 ∧ I 167 5 ≤ 5 := by omega
  obtain ⟨⟨h49, hnx, hmom⟩, hst⟩ := hh
  refine c_X_undo ⟨hnx, by omega⟩ (fun q => ?_) (fun q J hJ => ?_)
  · exact ⟨_, rfl, c_M_undo (by omega) (fun p => ⟨rfl, h, rfl⟩) (fun p => by omega)⟩
  · obtain ⟨j, jn, jk, m, rfl, J1, hcp, hJ1⟩ := hJ
    have oJ : ∀ a, a ≠ 49 → (a < 44 ∨ 48 < a) → J a = I a := j
    have e167 := oJ 167 (by decide) (by decide)
    have e172 := oJ 172 (by decide) (by decide)
    obtain ⟨kn, hkn⟩ : ∃ kn : Nat, I 167 10 = kn + 1 := ⟨(I 167 10 - 1).toNat, by omega⟩
    refine ⟨_, rfl, c_M_undo (by rw [e167]; omega) (fun p => by rw [e167] at p; omega) (fun p => ⟨?_, ?_, ?_⟩)⟩
    · rw [e167, h49]
    · generalize hA : undF J = A
      have o : ∀ a, a ≠ 49 → a ≠ 167 → a ≠ 171 → (a < 44 ∨ 48 < a) → A a = I a := fun a a1 a2 a3 a4 => by rw [← hA]; unfold undF; rw [jm_up_o a2, st_a a3, oJ a a1 a4]
      have o167 : ∀ k, k ≠ 10 → A 167 k = I 167 k := fun k hk => by rw [← hA]; unfold undF; rw [up_k hk, st_a (by decide), e167]
      have n10 : A 167 10 = kn := by rw [← hA]; unfold undF; rw [up_s, e167]; omega
      have oM : ∀ a, 44 ≤ a → a ≤ 49 → A a = J a := fun a a1 a2 => by rw [← hA]; unfold undF; rw [jm_up_o (by omega), st_a (by omega)]
      have n171 : ∀ k, k < 27 → A 171 k = I 172 (27 * kn + k) := fun k hk => by rw [← hA]; unfold undF; rw [jm_up_o (by decide), st_s, if_pos hk, e172, e167, show (27 * (I 167 10 - 1) + (k : Int)).toNat = 27 * kn + k by omega]
      have a49 := oM 49 (by decide) (by decide)
      have hlast : hix I kn = ((I 49 1 + 9) % 10).toNat := by unfold hix; omega
      have hix2 : ∀ i : Nat, (i : Int) < kn → hix A i = hix I i := fun i hi => by
        unfold hix; rw [a49, jn, n10, hkn]; omega
      refine rel_nh hm hx (fun a a1 a2 a3 a4 => o a (by omega) a1 a2 (by omega)) o167 (by omega) (fun hb => ?_) (fun hb => ?_)
      · refine ⟨?_, stOk_f (by rw [hb.1.2.2.2.1, hb.1.2.2.2.2]; exact hn5) n171 (stI_b hb (hst kn (by omega)))⟩
        have hmo := hmom kn (by omega)
        rw [hlast] at hmo
        have hxm := xMm_cp hn5 hcp hmo
        unfold xMom
        rw [hb.1.2.2.2.1, hb.1.2.2.2.2, oM 44 (by decide) (by decide), oM (44 + 1) (by decide) (by decide), oM (44 + 2) (by decide) (by decide), oM (44 + 3) (by decide) (by decide), oM (44 + 4) (by decide) (by decide), hJ1 44 (by decide) (by decide), hJ1 (44 + 1) (by decide) (by decide), hJ1 (44 + 2) (by decide) (by decide), hJ1 (44 + 3) (by decide) (by decide), hJ1 (44 + 4) (by decide) (by decide)]
        exact xMm_f hn5 n171 hxm
      · refine ⟨⟨by rw [a49, jk, n10]; omega, by rw [a49, jn]; omega, fun i hi => ?_⟩, fun i hi => ?_⟩
        · rw [n10] at hi
          have hlt : hix I i < 10 := by unfold hix; omega
          rw [hix2 i hi, o 172 (by decide) (by decide) (by decide) (by decide)]
          exact xMom_b hb (fun a a1 a2 => o a (by omega) (by omega) (by omega) (by omega)) (hmom i (by omega))
        · rw [n10] at hi
          rw [o 172 (by decide) (by decide) (by decide) (by decide)]
          exact stI_b hb (hst i (by omega))
    · unfold undF
      rw [jm_up_o (by decide), st_a (by decide), oJ 0 (by decide) (by decide)]
end STATE3
