/-! ===== carry: both sides ===== -/
section CARRY2
variable {L d : Nat} {I : jm_I} {K : Option jm_V → jm_I → Prop} {x0 x1 x2 x3 x4 : Int} {c e : Nat}
theorem g_carry (h : Rel I) (hz : (-2147483648 ≤ x1 ∧ x1 < 2147483648) ∧ (-2147483648 ≤ x2 ∧ x2 < 2147483648) ∧ (-2147483648 ≤ x3 ∧ x3 < 2147483648)) : Two L d md_X_carry md_M_carry [.inl x1, .inl x2, .inl x3] I := by
  obtain ⟨hm, c, e, hx⟩ := id h
  obtain ⟨hr, ht, hi, hf, hn, hh⟩ := rel_parts hm hx
  unfold mRng at hr
  have hn5 : I 167 4 ≤ 5 ∧ I 167 5 ≤ 5 := by omega
  have hnx := hh.1.2.1
  refine c_X_carry hm hx hz (fun q => ?_) (fun q w hw => ⟨fun q2 => ?_, fun q2 J hJ => ?_⟩)
  · exact ⟨_, rfl, c_M_carry hm hz (fun _ => ⟨rfl, h, rfl⟩) (fun p => absurd p q)⟩
  · refine ⟨_, rfl, c_M_carry hm hz (fun p => absurd q p) (fun p g w1 w2 hd1 hd2 => ⟨fun _ => ⟨rfl, rel_scr h (fun a a0 a1 a2 => st_a (by omega)) (fun k hk => by rw [st_a (by decide)])⟩, fun p2 => absurd p2 ?_⟩)⟩
    obtain ⟨qa, qb, qc⟩ := q
    obtain ⟨-, p4, p5⟩ := mo_pe hm hn.1 qa.1 qa.2
    have n3 := (nw_sp hm qb.1 qb.2).2.2
    have hfx1 := far_x hm hx.2.2.2.1 p4 n3 hd1
    have hfx2 := far_x hm hx.2.2.2.1 n3 qc hd2
    omega
  · obtain ⟨qa, qb, qc⟩ := id q
    obtain ⟨⟨p1, p2, p3⟩, p4, p5⟩ := mo_pe hm hn.1 qa.1 qa.2
    have n3 := (nw_sp hm qb.1 qb.2).2.2
    have oP : ∀ a, a ≠ 45 → a ≠ 47 → a ≠ 48 → caC I J x1 x2 x3 w a = J a := fun a a1 a2 a3 => by unfold caC; rw [jm_up_o a2, jm_up_o a1, jm_up_o a3]
    have oM : ∀ a, 101 ≤ a → caC I J x1 x2 x3 w a = I a := fun a a1 => by rw [oP a (by omega) (by omega) (by omega), hJ.1 a (by omega) (by omega)]
    have hk : mKeep I (caC I J x1 x2 x3 w) := ⟨fun k _ => by rw [oM 167 (by decide)], fun a a1 a2 => oM a (by omega)⟩
    have e167 := oM 167 (by decide)
    have e169 := oM 169 (by decide)
    have e170 := oM 170 (by decide)
    have e171 := oM 171 (by decide)
    have e172 := oM 172 (by decide)
    refine ⟨_, rfl, c_M_carry (mOk_keep hk hm) hz (fun p => absurd (by unfold carOk; rw [e167]; exact q) p) (fun _ g w1 w2 hd1 hd2 => ?_)⟩
    rw [adjM_keep hk, e171] at hd1 hd2
    rw [e171]
    have hfx1 := far_x hm hx.2.2.2.1 p4 n3 hd1
    have hfx2 := far_x hm hx.2.2.2.1 n3 qc hd2
    have hww : w1 + w2 = w ∧ 0 ≤ w := by omega
    rw [hww.1]
    refine ⟨fun p => absurd q2 p, fun _ => ⟨rfl, ?_⟩⟩
    clear hd1 hd2 hfx1 hfx2
    generalize hA : carF (st_ (caC I J x1 x2 x3 w) 182 g) x1 x2 x3 w = A
    obtain ⟨p, rfl⟩ : ∃ p : Nat, x1 = p := ⟨x1.toNat, by omega⟩
    obtain ⟨T, rfl⟩ : ∃ T : Nat, x2 = T := ⟨x2.toNat, by omega⟩
    have s167 : st_ (caC I J p T x3 w) 182 g 167 = I 167 := by rw [st_a (by decide), e167]
    have s169 : st_ (caC I J p T x3 w) 182 g 169 = I 169 := by rw [st_a (by decide), e169]
    have s170 : st_ (caC I J p T x3 w) 182 g 170 = I 170 := by rw [st_a (by decide), e170]
    have s171 : st_ (caC I J p T x3 w) 182 g 171 = I 171 := by rw [st_a (by decide), e171]
    have s172 : st_ (caC I J p T x3 w) 182 g 172 = I 172 := by rw [st_a (by decide), e172]
    have o : ∀ a, a ≤ 176 → a ≠ 167 → a ≠ 171 → a ≠ 172 → A a = caC I J p T x3 w a := fun a a0 a1 a2 a3 => by rw [← hA]; unfold carF; rw [jm_up_o a2, jm_up_o a2, jm_up_o a2, jm_up_o a2, rem_o a1 a3, st_a (by omega)]
    have hc1 := rem_c s167 s171 s172
    have n10 : A 167 10 = remF I 167 10 := by rw [← hA]; unfold carF; rw [up_a (by decide), up_a (by decide), up_a (by decide), up_a (by decide), hc1.1]
    have n172 : A 172 = remF I 172 := by rw [← hA]; unfold carF; rw [jm_up_o (by decide), jm_up_o (by decide), jm_up_o (by decide), jm_up_o (by decide), hc1.2]
    have hpl : plF I T x3 = -9 ∨ (0 ≤ plF I T x3 ∧ plF I T x3 < I 169 T ∧ x3 = I 170 (4 * T + (plF I T x3).toNat)) := by
      unfold plF
      rcases fst_in (f := fun k : Nat => I 170 (4 * (T : Int) + k).toNat) (room := x3) (n := (I 169 (T : Int).toNat).toNat) with q | ⟨j, j1, j2, j3, -⟩
      · exact Or.inl q
      · right
        rw [j2]
        rw [Int.toNat_natCast] at j1
        refine ⟨by omega, by omega, ?_⟩
        rw [← j3]
        show I 170 (4 * (T : Int) + (j : Int)).toNat = _
        congr 1
    generalize hpd : plF I T x3 = pl at *
    have n171 : ∀ k, A 171 k = if k = 22 + T then pl else if k = 17 + T then x3 else if k = 1 + p then x3 else if k = 11 + p then I 171 (11 + p) - w else I 171 k := fun k => by
      rw [← hA]
      unfold carF
      rw [s171, plF_k s169 s170, hpd, show (11 + (p : Int)).toNat = 11 + p by omega, show (1 + (p : Int)).toNat = 1 + p by omega, show (17 + (T : Int)).toNat = 17 + T by omega, show (22 + (T : Int)).toNat = 22 + T by omega]
      simp only [jm_up, true_and, rem_o (show (171 : Nat) ≠ 167 by decide) (show (171 : Nat) ≠ 172 by decide), s171]
    have n45 : ∀ k, A 45 k = if k = p then x3 else I 45 k := fun k => by
      rw [o 45 (by decide) (by decide) (by decide) (by decide)]
      unfold caC
      simp only [Int.toNat_natCast]
      rw [up_a (by decide)]
      by_cases ek : k = p
      · rw [if_pos ek, ek, up_s]
      · rw [if_neg ek, up_k ek, up_a (by decide), hJ.1 45 (by decide) (by omega)]
    have n47 : ∀ k, A 47 k = if k = p then I 171 (11 + p) - w else I 47 k := fun k => by
      rw [o 47 (by decide) (by decide) (by decide) (by decide)]
      unfold caC
      simp only [Int.toNat_natCast]
      by_cases ek : k = p
      · rw [if_pos ek, ek, up_s]
        rw [Int.toNat_natCast, show (11 + (p : Int)).toNat = 11 + p by omega] at p3
        rw [p3]
      · rw [if_neg ek, up_k ek, up_a (by decide), up_a (by decide), hJ.1 47 (by decide) (by omega)]
    have n48 : ∀ k, A 48 k = if k = T then (if pl = -9 then 4 + x3 else pl) else I 48 k := fun k => by
      rw [o 48 (by decide) (by decide) (by decide) (by decide)]
      unfold caC
      simp only [Int.toNat_natCast]
      rw [up_a (by decide), up_a (by decide)]
      by_cases ek : k = T
      · rw [if_pos ek, ek, up_s]
        unfold puF
        rw [hpd]
      · rw [if_neg ek, up_k ek, hJ.1 48 (by decide) (by omega)]
    have oN : ∀ a, a = 44 ∨ a = 46 → A a = I a := fun a ha => by rw [o a (by omega) (by omega) (by omega) (by omega), oP a (by omega) (by omega) (by omega), hJ.1 a (by omega) (by omega)]
    refine rel_rem hm hx hJ (fun a a0 a1 a2 a3 a4 => by rw [o a a0 a1 a2 a3, oP a (by omega) (by omega) (by omega)]) (fun k _ hk => by rw [← hA]; unfold carF; rw [up_a (by decide), up_a (by decide), up_a (by decide), up_a (by decide), rem_k hk, s167]) n10 n172 (fun hb => ?_)
    have q171 : ∀ k, k ≠ 1 + p → k ≠ 11 + p → k ≠ 17 + T → k ≠ 22 + T → A 171 k = I 171 k := fun k k1 k2 k3 k4 => by rw [n171, if_neg k4, if_neg k3, if_neg k1, if_neg k2]
    rw [show (11 + (p : Int)).toNat = 11 + p by omega] at q2 p5
    have key := mv_ok (f' := A 171) (h' := A 44) (rm' := A 45) (ag' := A 46) (lf' := A 47) (sp' := A 48) (p := p) (T := T) (r := x3) (l := I 171 (11 + p) - w) (pl := pl) hn5 hn.1 hn.2 ⟨by rw [oN 44 (by omega)], by rw [oN 44 (by omega)], q171 0 (by omega) (by omega) (by omega) (by omega), q171 16 (by omega) (by omega) (by omega) (by omega)⟩ (fun z hz5 => ?_) (fun z hz5 => ?_) qc (by omega) (fun _ => hpl)
    · refine ⟨?_, stI_b hb key.2⟩
      unfold xMom
      rw [hb.1.2.2.2.1, hb.1.2.2.2.2]
      exact key.1
    · refine ⟨n45 z, by rw [oN 46 (by omega)], n47 z, ?_, q171 _ (by omega) (by omega) (by omega) (by omega), ?_⟩
      · rw [n171, if_neg (by omega), if_neg (by omega)]
        by_cases ez : z = p
        · rw [if_pos ez, if_pos (by omega)]
        · rw [if_neg ez, if_neg (by omega), if_neg (by omega)]
      · rw [n171, if_neg (by omega), if_neg (by omega), if_neg (by omega)]
        by_cases ez : z = p
        · rw [if_pos ez, if_pos (by omega)]
        · rw [if_neg ez, if_neg (by omega)]
    · refine ⟨n48 z, ?_, ?_⟩
      · rw [n171, if_neg (show ¬ 17 + z = 22 + T by omega)]
        by_cases ez : z = T
        · rw [if_pos ez, if_pos (by omega)]
        · rw [if_neg ez, if_neg (by omega), if_neg (by omega), if_neg (by omega)]
      · rw [n171]
        by_cases ez : z = T
        · rw [if_pos ez, if_pos (by omega)]
        · rw [if_neg ez, if_neg (by omega), if_neg (by omega), if_neg (by omega), if_neg (by omega)]
end CARRY2
