/-! ===== walk, carry: both sides ===== -/
/-- a person goes, and with them perhaps a thing -/
theorem mv_ok {nr np nt : Int} {lo ro h rm ag lf sp f h' rm' ag' lf' sp' f' : Nat → Int} {p T : Nat} {r l pl : Int} (hn : np ≤ 5 ∧ nt ≤ 5) (hx : xMm np nt h rm ag lf sp f) (hs : stOk nr np nt lo ro f) (e0 : h' 0 = h 0 ∧ h' 1 = h 1 ∧ f' 0 = f 0 ∧ f' 16 = f 16) (ep : ∀ q, q < 5 → rm' q = (if q = p then r else rm q) ∧ ag' q = ag q ∧ lf' q = (if q = p then l else lf q) ∧ f' (1 + q) = (if q = p then r else f (1 + q)) ∧ f' (6 + q) = f (6 + q) ∧ f' (11 + q) = (if q = p then l else f (11 + q))) (et : ∀ q, q < 5 → sp' q = (if q = T then (if pl = -9 then 4 + r else pl) else sp q) ∧ f' (17 + q) = (if q = T then r else f (17 + q)) ∧ f' (22 + q) = (if q = T then pl else f (22 + q))) (hr : 0 ≤ r ∧ r < nr) (hl : 0 ≤ l ∧ l ≤ 20) (hT : (T : Int) < nt → (pl = -9 ∨ (0 ≤ pl ∧ pl < lo T ∧ r = ro (4 * T + pl.toNat)))) : xMm np nt h' rm' ag' lf' sp' f' ∧ stOk nr np nt lo ro f' := by
  obtain ⟨m0, m1, m2, m3⟩ := hx
  obtain ⟨s0, s1, s2, s3⟩ := hs
  obtain ⟨e1, e2, e3, e4⟩ := e0
  refine ⟨⟨by rw [e1, e3]; exact m0, by rw [e2, e4]; exact m1, fun q hq => ?_, fun t ht => ?_⟩, ⟨by rw [e3]; exact s0, by rw [e4]; exact s1, fun q hq => ?_, fun t ht => ?_⟩⟩
  · obtain ⟨a1, a2, a3, a4, a5, a6⟩ := ep q (by omega)
    obtain ⟨b1, b2, b3⟩ := m2 q hq
    rw [a1, a2, a3, a4, a5, a6]
    by_cases eq : q = p
    · simp only [if_pos eq]; exact ⟨trivial, b2, trivial⟩
    · simp only [if_neg eq]; exact ⟨b1, b2, b3⟩
  · obtain ⟨a1, a2, a3⟩ := et t (by omega)
    rw [a1, a2, a3]
    by_cases eq : t = T
    · simp only [if_pos eq]
    · simp only [if_neg eq]; exact m3 t ht
  · obtain ⟨a1, a2, a3, a4, a5, a6⟩ := ep q (by omega)
    rw [a4, a6]
    by_cases eq : q = p
    · simp only [if_pos eq]; exact ⟨hr, Or.inr hl⟩
    · simp only [if_neg eq]; exact s2 q hq
  · obtain ⟨a1, a2, a3⟩ := et t (by omega)
    rw [a2, a3]
    by_cases eq : t = T
    · simp only [if_pos eq]
      subst eq
      rcases hT ht with q | q
      · exact Or.inl ⟨q, hr.1, hr.2⟩
      · exact Or.inr q
    · simp only [if_neg eq]; exact s3 t ht
section GOES2
variable {L d : Nat} {I : jm_I} {K : Option jm_V → jm_I → Prop} {x0 x1 x2 x3 x4 : Int} {c e : Nat}
theorem g_walk (h : Rel I) (hz : (-2147483648 ≤ x1 ∧ x1 < 2147483648) ∧ (-2147483648 ≤ x2 ∧ x2 < 2147483648)) : Two L d md_X_walk md_M_walk [.inl x1, .inl x2] I := by
  obtain ⟨hm, c, e, hx⟩ := id h
  obtain ⟨hr, ht, hi, hf, hn, hh⟩ := rel_parts hm hx
  unfold mRng at hr
  have hn5 : I 167 4 ≤ 5 ∧ I 167 5 ≤ 5 := by omega
  have hnx := hh.1.2.1
  refine c_X_walk hm hx hz (fun q => ?_) (fun q w hw => ⟨fun q2 => ?_, fun q2 J hJ => ?_⟩)
  · exact ⟨_, rfl, c_M_walk hm hz (fun _ => ⟨rfl, h, rfl⟩) (fun p => absurd p q)⟩
  · refine ⟨_, rfl, c_M_walk hm hz (fun p => absurd q p) (fun p g w' hd => ⟨fun _ => ⟨rfl, rel_scr h (fun a a0 a1 a2 => st_a (by omega)) (fun k hk => by rw [st_a (by decide)])⟩, fun p2 => absurd p2 ?_⟩)⟩
    obtain ⟨-, p4, p5⟩ := mo_pe hm hn.1 q.1.1 q.1.2
    have hfx := far_x hm hx.2.2.2.1 p4 q.2 hd
    rw [← hw] at hfx
    omega
  · obtain ⟨⟨p1, p2, p3⟩, p4, p5⟩ := mo_pe hm hn.1 q.1.1 q.1.2
    have oP : ∀ a, a ≠ 45 → a ≠ 47 → waC I J x1 x2 w a = J a := fun a a1 a2 => by unfold waC; rw [jm_up_o a2, jm_up_o a1]
    have oM : ∀ a, 101 ≤ a → waC I J x1 x2 w a = I a := fun a a1 => by rw [oP a (by omega) (by omega), hJ.1 a (by omega) (by omega)]
    have hk : mKeep I (waC I J x1 x2 w) := ⟨fun k _ => by rw [oM 167 (by decide)], fun a a1 a2 => oM a (by omega)⟩
    have e167 := oM 167 (by decide)
    have e171 := oM 171 (by decide)
    have e172 := oM 172 (by decide)
    refine ⟨_, rfl, c_M_walk (mOk_keep hk hm) hz (fun p => absurd (by rw [e167]; exact q) p) (fun _ g w' hd => ?_)⟩
    rw [adjM_keep hk, e171] at hd
    rw [e171]
    have hfx := far_x hm hx.2.2.2.1 p4 q.2 hd
    rw [← hw] at hfx
    have hww : w' = w ∧ 0 ≤ w := by omega
    obtain ⟨rfl, hw0⟩ := hww
    refine ⟨fun p => absurd q2 p, fun _ => ⟨rfl, ?_⟩⟩
    generalize hA : walF (st_ (waC I J x1 x2 w') 182 g) x1 x2 w' = A
    obtain ⟨p, rfl⟩ : ∃ p : Nat, x1 = p := ⟨x1.toNat, by omega⟩
    have s167 : st_ (waC I J p x2 w') 182 g 167 = I 167 := by rw [st_a (by decide), e167]
    have s171 : st_ (waC I J p x2 w') 182 g 171 = I 171 := by rw [st_a (by decide), e171]
    have s172 : st_ (waC I J p x2 w') 182 g 172 = I 172 := by rw [st_a (by decide), e172]
    have o : ∀ a, a ≤ 176 → a ≠ 167 → a ≠ 171 → a ≠ 172 → A a = waC I J p x2 w' a := fun a a0 a1 a2 a3 => by rw [← hA]; unfold walF; rw [jm_up_o a2, jm_up_o a2, rem_o a1 a3, st_a (by omega)]
    have hc1 := rem_c s167 s171 s172
    have n10 : A 167 10 = remF I 167 10 := by rw [← hA]; unfold walF; rw [up_a (by decide), up_a (by decide), hc1.1]
    have n172 : A 172 = remF I 172 := by rw [← hA]; unfold walF; rw [jm_up_o (by decide), jm_up_o (by decide), hc1.2]
    have n171 : ∀ k, A 171 k = if k = 1 + p then x2 else if k = 11 + p then I 171 (11 + p) - w' else I 171 k := fun k => by
      rw [← hA]
      unfold walF
      rw [s171, show (11 + (p : Int)).toNat = 11 + p by omega, show (1 + (p : Int)).toNat = 1 + p by omega]
      simp only [jm_up, true_and, rem_o (show (171 : Nat) ≠ 167 by decide) (show (171 : Nat) ≠ 172 by decide), s171]
    have n45 : ∀ k, A 45 k = if k = p then x2 else I 45 k := fun k => by
      rw [o 45 (by decide) (by decide) (by decide) (by decide)]
      unfold waC
      rw [up_a (by decide), Int.toNat_natCast]
      by_cases ek : k = p
      · rw [if_pos ek, ek, up_s]
      · rw [if_neg ek, up_k ek, hJ.1 45 (by decide) (by omega)]
    have n47 : ∀ k, A 47 k = if k = p then I 171 (11 + p) - w' else I 47 k := fun k => by
      rw [o 47 (by decide) (by decide) (by decide) (by decide)]
      unfold waC
      rw [Int.toNat_natCast]
      by_cases ek : k = p
      · rw [if_pos ek, ek, up_s]
        rw [Int.toNat_natCast, show (11 + (p : Int)).toNat = 11 + p by omega] at p3
        rw [p3]
      · rw [if_neg ek, up_k ek, up_a (by decide), hJ.1 47 (by decide) (by omega)]
    have oN : ∀ a, a = 44 ∨ a = 46 ∨ a = 48 → A a = I a := fun a ha => by rw [o a (by omega) (by omega) (by omega) (by omega), oP a (by omega) (by omega), hJ.1 a (by omega) (by omega)]
    refine rel_rem hm hx hJ (fun a a0 a1 a2 a3 a4 => by rw [o a a0 a1 a2 a3, oP a (by omega) (by omega)]) (fun k _ hk => by rw [← hA]; unfold walF; rw [up_a (by decide), up_a (by decide), rem_k hk, s167]) n10 n172 (fun hb => ?_)
    have q171 : ∀ k, k ≠ 1 + p → k ≠ 11 + p → A 171 k = I 171 k := fun k k1 k2 => by rw [n171, if_neg k1, if_neg k2]
    rw [show (11 + (p : Int)).toNat = 11 + p by omega] at q2 p5
    have key := mv_ok (f' := A 171) (h' := A 44) (rm' := A 45) (ag' := A 46) (lf' := A 47) (sp' := A 48) (p := p) (T := 99) (r := x2) (l := I 171 (11 + p) - w') (pl := -9) hn5 hn.1 hn.2 ⟨by rw [oN 44 (by omega)], by rw [oN 44 (by omega)], q171 0 (by omega) (by omega), q171 16 (by omega) (by omega)⟩ (fun z hz5 => ?_) (fun z hz5 => ?_) q.2 (by omega) (fun hh => by omega)
    · refine ⟨?_, stI_b hb key.2⟩
      unfold xMom
      rw [hb.1.2.2.2.1, hb.1.2.2.2.2]
      exact key.1
    · refine ⟨n45 z, by rw [oN 46 (by omega)], n47 z, ?_, q171 _ (by omega) (by omega), ?_⟩
      · rw [n171]
        by_cases ez : z = p
        · rw [if_pos ez, if_pos (by omega)]
        · rw [if_neg ez, if_neg (by omega), if_neg (by omega)]
      · rw [n171, if_neg (by omega)]
        by_cases ez : z = p
        · rw [if_pos ez, if_pos (by omega)]
        · rw [if_neg ez, if_neg (by omega)]
    · refine ⟨?_, ?_, ?_⟩
      · rw [oN 48 (by omega), if_neg (show ¬ z = 99 by omega)]
      · rw [q171 _ (by omega) (by omega), if_neg (show ¬ z = 99 by omega)]
      · rw [q171 _ (by omega) (by omega), if_neg (show ¬ z = 99 by omega)]
end GOES2
