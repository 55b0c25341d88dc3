/-! ===== second: both sides; rate, trace ===== -/
section SECOND2
variable {L d : Nat} {I : jm_I} {K : Option jm_V → jm_I → Prop} {x0 x1 x2 x3 x4 : Int} {c e : Nat}
theorem g_second (h : Rel I) : Two L d md_X_second md_M_second [] I := by
  obtain ⟨hm, c, e, hx⟩ := id h
  obtain ⟨hr, ht, hi, hf, hn, hh⟩ := rel_parts hm hx
  unfold mRng at hr
  have hn5 : I 167 4 ≤ 5 ∧ I 167 5 ≤ 5 := by omega
  have hnx := hh.1.2.1
  obtain ⟨m0, m1, m2, m3⟩ := hn.1
  obtain ⟨s0, s1, s2, s3⟩ := hn.2
  have htg := hm.2.2.1
  have hth : ∀ t : Nat, (t : Int) < I 167 5 → (1 ≤ I 169 t ∧ I 169 t ≤ 4) ∧ (-9 ≤ I 171 (22 + t) ∧ I 171 (22 + t) < 4 ∧ (I 171 (22 + t) ≠ -9 → 0 ≤ I 171 (22 + t))) := fun t htt => by
    have a1 := (htg t htt).1
    have a2 := s3 t htt
    refine ⟨a1, ?_⟩
    omega
  refine c_X_second hm hx (fun q => ?_) (fun q J J2 hJ hJ2 => ?_)
  · exact ⟨_, rfl, c_M_second (by omega) hth (fun _ => ⟨rfl, h, rfl⟩) (fun p => by omega)⟩
  · obtain ⟨j1, j2, j3, j4⟩ := hJ2
    have oJ : ∀ a, (a < 49 ∨ 100 < a) → J a = I a := fun a ha => hJ.1 a (by omega) (by omega)
    have oM : ∀ a, 101 ≤ a → J2 a = I a := fun a a1 => by rw [j1 a (by omega) (by omega) (by omega), oJ a (by omega)]
    have e167 := oM 167 (by decide)
    have e169 := oM 169 (by decide)
    have e170 := oM 170 (by decide)
    have e171 := oM 171 (by decide)
    have e172 := oM 172 (by decide)
    rw [oJ 44 (by decide), oJ 48 (by decide)] at *
    refine ⟨_, rfl, c_M_second (by rw [e167, e171]; omega) (by rw [e167, e169, e171]; exact hth) (fun p => by rw [e171] at p; omega) (fun _ => ⟨?_, ?_⟩)⟩
    · rw [e171, m0]
    generalize hA : secF J2 = A
    have o : ∀ a, a ≠ 167 → a ≠ 171 → a ≠ 172 → A a = J2 a := fun a a1 a2 a3 => by rw [← hA]; unfold secF; rw [st_a a2, rem_o a1 a3]
    have hc1 := rem_c e167 e171 e172
    have n10 : A 167 10 = remF I 167 10 := by rw [← hA]; unfold secF; rw [st_a (by decide), hc1.1]
    have n172 : A 172 = remF I 172 := by rw [← hA]; unfold secF; rw [st_a (by decide), hc1.2]
    have n171 : A 171 = secT I (I 167 5) (secB I) := by
      rw [← hA]
      unfold secF
      funext k
      rw [st_s]
      unfold secT secB secA
      rw [e167, e169, e170, e171]
    refine rel_rem hm hx hJ (fun a a0 a1 a2 a3 a4 => by rw [o a a1 a2 a3, j1 a (by omega) (by omega) (by omega)]) (fun k _ hk => by rw [← hA]; unfold secF; rw [st_a (by decide), rem_k hk, e167]) n10 n172 (fun hb => ?_)
    have f0 : A 171 0 = I 171 0 + 1 := by rw [n171]; unfold secT secB secA; rw [if_neg (by omega), if_neg (by omega), if_neg (by omega), if_pos rfl]
    have f16 : A 171 16 = if (I 171 0 + 1) % 20 = 0 then 0 else I 171 16 := by rw [n171]; unfold secT secB; rw [if_neg (by omega), if_neg (by omega), if_pos rfl]
    have f1 : ∀ w, w < 5 → A 171 (1 + w) = I 171 (1 + w) ∧ A 171 (6 + w) = I 171 (6 + w) ∧ A 171 (11 + w) = -9 := fun w hw => by
      rw [n171]
      unfold secT secB secA
      refine ⟨?_, ?_, ?_⟩
      · rw [if_neg (by omega), if_neg (by omega), if_neg (by omega), if_neg (by omega), if_neg (by omega)]
      · rw [if_neg (by omega), if_neg (by omega), if_neg (by omega), if_neg (by omega), if_neg (by omega)]
      · rw [if_neg (by omega), if_neg (by omega), if_neg (by omega), if_neg (by omega), if_pos (by omega)]
    have f17 : ∀ t : Nat, (t : Int) < I 167 5 → (I 171 (22 + t) = -9 ∧ A 171 (22 + t) = -9 ∧ A 171 (17 + t) = I 171 (17 + t)) ∨ (¬ I 171 (22 + t) = -9 ∧ A 171 (22 + t) = (I 171 (22 + t) + 1) % I 169 t ∧ A 171 (17 + t) = I 170 (4 * t + ((I 171 (22 + t) + 1) % I 169 t).toNat)) := fun t htt => by
      rw [n171]
      have b1 := secB_t (I := I) (17 + t) (by omega) (by omega)
      have b2 := secB_t (I := I) (22 + t) (by omega) (by omega)
      have e1 : 17 + t + 5 = 22 + t := by omega
      have e2 : 17 + t - 17 = t := by omega
      have e3 : 22 + t - 22 = t := by omega
      unfold secT
      rw [b1, b2, e1, e2, e3]
      by_cases q9 : I 171 (22 + t) = -9
      · left
        refine ⟨q9, ?_, ?_⟩
        · rw [if_neg (by omega), if_neg (by omega)]; exact q9
        · rw [if_neg (by omega), if_neg (by omega)]
      · right
        refine ⟨q9, ?_, ?_⟩
        · rw [if_neg (by omega), if_pos (by omega)]
        · rw [if_pos (by omega)]
    have o2 : ∀ a, a = 45 ∨ a = 46 → A a = I a := fun a ha => by rw [o a (by omega) (by omega) (by omega), j1 a (by omega) (by omega) (by omega), oJ a (by omega)]
    have o44 : A 44 = J2 44 := o 44 (by decide) (by decide) (by decide)
    have o47 : A 47 = J2 47 := o 47 (by decide) (by decide) (by decide)
    have o48 : A 48 = J2 48 := o 48 (by decide) (by decide) (by decide)
    refine ⟨?_, stI_b hb ⟨by rw [f0]; omega, ?_, fun w hw => ?_, fun t htt => ?_⟩⟩
    · unfold xMom
      rw [hb.1.2.2.2.1, hb.1.2.2.2.2]
      refine ⟨?_, ?_, fun w hw => ?_, fun t htt => ?_⟩
      · rw [o44, j2.1, f0, m0]
      · rw [o44, j2.2, f16, m0, m1]
      · obtain ⟨a1, a2, a3⟩ := f1 w (by omega)
        obtain ⟨b1, b2, b3⟩ := m2 w hw
        rw [a1, a2, a3]
        refine ⟨?_, ?_, ?_⟩
        · show A 45 w = _
          rw [o2 45 (by omega)]; exact b1
        · show A 46 w = _
          rw [o2 46 (by omega)]; exact b2
        · show A 47 w = _
          rw [o47]; exact j3 w (by omega)
      · show A 48 t = _
        have m3t := m3 t htt
        rw [o48, j4 t htt]
        have hl : laF J t (I 48 t) 1 = laF I t (I 48 t) 1 := by unfold laF; rw [oJ 169 (by decide)]
        rw [hl]
        have m3t : I 48 t = if I 171 (22 + t) = -9 then 4 + I 171 (17 + t) else I 171 (22 + t) := m3t
        rw [m3t]
        have h3 := s3 t htt
        have hlo := (htg t htt).1
        unfold laF
        rw [Int.toNat_natCast]
        rcases f17 t htt with ⟨q1, q2, q3⟩ | ⟨q1, q2, q3⟩
        · rw [if_pos q1, if_neg (show ¬ 4 + I 171 (17 + t) < 4 by omega), if_pos q2, q3]
        · have c1 := Int.emod_nonneg (I 171 (22 + t) + 1) (show I 169 t ≠ 0 by omega)
          rw [if_neg q1, if_pos (show I 171 (22 + t) < 4 by omega), if_neg (show ¬ A 171 (22 + t) = -9 by omega), q2]
    · rw [f16]
      split <;> omega
    · obtain ⟨a1, a2, a3⟩ := f1 w (by omega)
      rw [a1, a3]
      exact ⟨(s2 w hw).1, Or.inl rfl⟩
    · have h3 := s3 t htt
      have hlo := (htg t htt).1
      rcases f17 t htt with ⟨q1, q2, q3⟩ | ⟨q1, q2, q3⟩
      · left
        rw [q2, q3]
        omega
      · right
        have c1 := Int.emod_nonneg (I 171 (22 + t) + 1) (show I 169 t ≠ 0 by omega)
        have c2 := Int.emod_lt_of_pos (I 171 (22 + t) + 1) (show 0 < I 169 t by omega)
        rw [q2, q3]
        exact ⟨c1, c2, rfl⟩
end SECOND2
