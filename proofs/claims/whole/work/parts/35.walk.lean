/-! ===== press, walk ===== -/
theorem jb_press {a p : Int} (ha : 0 ≤ a ∧ a < 32) (hp : 0 ≤ p ∧ p < 5) : 0 ≤ jb_or a (jb_shl 1 p) ∧ jb_or a (jb_shl 1 p) < 32 := by
  have key : ∀ (a : Fin 32) (p : Fin 5), 0 ≤ jb_or (a.1 : Int) (jb_shl 1 (p.1 : Int)) ∧ jb_or (a.1 : Int) (jb_shl 1 (p.1 : Int)) < 32 := by decide
  have := key ⟨a.toNat, by omega⟩ ⟨p.toNat, by omega⟩
  rw [show ((⟨a.toNat, by omega⟩ : Fin 32).1 : Int) = a by show ((a.toNat : Nat) : Int) = a; omega, show ((⟨p.toNat, by omega⟩ : Fin 5).1 : Int) = p by show ((p.toNat : Nat) : Int) = p; omega] at this
  exact this
theorem rem_o {I : jm_I} {a : Nat} (h1 : a ≠ 167) (h2 : a ≠ 172) : remF I a = I a := by unfold remF; rw [jm_up_o h1, st_a h2]
theorem rem_k {I : jm_I} {k : Nat} (h : k ≠ 10) : remF I 167 k = I 167 k := by unfold remF; rw [up_k h, st_a (by decide)]
theorem rem_c {I J : jm_I} (h1 : J 167 = I 167) (h2 : J 171 = I 171) (h3 : J 172 = I 172) : remF J 167 10 = remF I 167 10 ∧ remF J 172 = remF I 172 := by
  unfold remF
  rw [up_s, up_s, h1]
  refine ⟨rfl, ?_⟩
  funext k
  rw [up_a (by decide), up_a (by decide), st_s, st_s]
  unfold remW
  rw [h1, h2, h3]
theorem rel_nh2 {I A : jm_I} {c e : Nat} (hm : mOk I) (hx : xRel I c e) (o : ∀ a, a ≤ 176 → a ≠ 167 → a ≠ 171 → a ≠ 172 → (a < 44 ∨ 100 < a) → A a = I a) (o167 : ∀ k, k ≤ 17 → k ≠ 10 → A 167 k = I 167 k) (hk : 0 ≤ A 167 10 ∧ A 167 10 ≤ 10) (hn : base I A → NW A) (hh : base I A → HI A) : Rel A := by
  obtain ⟨hr, ht, hi, hf, -, -⟩ := rel_parts hm hx
  unfold mRng at hr
  have hb : base I A := base_of (fun k hk => o167 k (by omega) (by omega)) (o _ (by decide) (by decide) (by decide) (by decide) (by decide)) (o _ (by decide) (by decide) (by decide) (by decide) (by decide)) (o _ (by decide) (by decide) (by decide) (by decide) (by decide))
  have e1 : A 1 = I 1 := o 1 (by decide) (by decide) (by decide) (by decide) (by decide)
  refine rel_mk hm hx hb ⟨by rw [e1], by rw [e1]⟩ (hcit_of hx.1 (fun a a1 a2 => o a (by omega) (by omega) (by omega) (by omega) (by omega))) ?_ (TX_k (by rw [e1]) (o167 17 (by decide) (by decide)) (o _ (by decide) (by decide) (by decide) (by decide) (by decide)) (o _ (by decide) (by decide) (by decide) (by decide) (by decide)) ht) (IM_k hb (o _ (by decide) (by decide) (by decide) (by decide) (by decide)) (o _ (by decide) (by decide) (by decide) (by decide) (by decide)) (o _ (by decide) (by decide) (by decide) (by decide) (by decide)) (fun a a1 a2 => o a (by omega) (by omega) (by omega) (by omega) (by omega)) hi) (FD_k hb (o167 13 (by decide) (by decide)) (o _ (by decide) (by decide) (by decide) (by decide) (by decide)) (fun a a1 a2 => o a (by omega) (by omega) (by omega) (by omega) (by omega)) hf) (hn hb) (hh hb) ?_
  · unfold mRng
    rw [o167 0 (by decide) (by decide), o167 1 (by decide) (by decide), o167 3 (by decide) (by decide), o167 4 (by decide) (by decide), o167 5 (by decide) (by decide), o167 13 (by decide) (by decide), o167 17 (by decide) (by decide)]
    omega
  · rw [e1, o167 15 (by decide) (by decide)]
    exact hx.2.2.2.2.2.2.2.2.2
/-- both have remembered, and what is now has changed -/
theorem rel_rem {I J A : jm_I} {c e : Nat} (hm : mOk I) (hx : xRel I c e) (hJ : rmC I J) (o : ∀ a, a ≤ 176 → a ≠ 167 → a ≠ 171 → a ≠ 172 → (a < 44 ∨ 48 < a) → A a = J a) (o167 : ∀ k, k ≤ 17 → k ≠ 10 → A 167 k = I 167 k) (hk : A 167 10 = remF I 167 10) (hw : A 172 = remF I 172) (hn : base I A → NW A) : Rel A ∧ A 0 = I 0 := by
  obtain ⟨hr, ht, hi, hf, hnn, hh⟩ := rel_parts hm hx
  have hr0 := hr
  unfold mRng at hr
  have hnx := hh.1.2.1
  have oI : ∀ a, a ≤ 176 → a ≠ 167 → a ≠ 171 → a ≠ 172 → (a < 44 ∨ 100 < a) → A a = I a := fun a a1 a2 a3 a4 a5 => by rw [o a a1 a2 a3 a4 (by omega), hJ.1 a (by omega) (by omega)]
  refine ⟨rel_nh2 hm hx oI o167 ?_ hn (fun hb => ?_), oI 0 (by decide) (by decide) (by decide) (by decide) (by decide)⟩
  · rw [hk]
    unfold remF
    rw [up_s]
    split <;> omega
  · exact rem_both hr0 hnn.1 hnn.2 hh.1 hh.2 hJ (fun a a1 a2 => o a (by omega) (by omega) (by omega) (by omega) (by omega)) hb hk hw
section STATE4
variable {L d : Nat} {I : jm_I} {K : Option jm_V → jm_I → Prop} {x0 x1 x2 x3 : Int} {c e : Nat}
def prC (I J : jm_I) (p : Int) : jm_I := jm_up (jm_up (jm_up J 44 1 (jb_or (I 44 1) (jb_shl 1 p))) 46 p.toNat (I 46 p.toNat + 1)) 47 p.toNat (I 167 3)
theorem c_X_press (hm : mOk I) (hx : xRel I c e) (hz : -2147483648 ≤ x1 ∧ x1 < 2147483648) (k0 : ¬ (0 ≤ x1 ∧ x1 < I 167 4) → K (some (.inl (-1))) I) (k2 : 0 ≤ x1 ∧ x1 < I 167 4 → jb_has (I 171 16) x1 → K (some (.inl (-2))) I) (k : 0 ≤ x1 ∧ x1 < I 167 4 → ¬ jb_has (I 171 16) x1 → ∀ J, rmC I J → K (some (.inl (I 46 x1.toNat + 1))) (prC I J x1)) : Cx (jx_0 L) (d + 2) md_X_press [.inr (.inl 1), .inl x1] I K := by
  obtain ⟨h1, h2, h3, ⟨⟨c0, c1, c2, c3, c4⟩, -⟩, -, hmo, ⟨hh, hnx, -⟩, -⟩ := hx
  obtain ⟨hc, -⟩ := ct_of (L := L) h1
  have hr := hm.1
  unfold mRng at hr
  have h16 : I 44 1 = I 171 16 := hmo.2.1
  have ha := jb_and1 (jb_shr (I 171 16) x1)
  have hlt : c < 44 := by rcases h1 with ⟨rfl, -⟩ | ⟨rfl, -⟩ <;> decide
  refine b_X_press_0 (c_X_isPerson hc h2 (by omega) (fun v1 hv1 => ?_))
  refine b_X_press_5 (by first | omega | (rw [h16]; omega)) (fun hb2 => ?_) (fun hb2 => ?_)
  · refine b_X_press_10 (by first | omega | (rw [h16]; omega)) (fun hb3 => ?_) (fun hb3 => ?_)
    · refine b_X_press_27 (c_History_remember (by omega) (fun J hJ => ?_))
      refine b_X_press_38 (c1 := c) (by rw [hJ.1 1 (by decide) (by omega)]; exact h2) hc (by omega) ?_
      have e44 := hJ.1 44 (by decide) (by omega)
      have e46 := hJ.1 46 (by decide) (by omega)
      have ec := hJ.1 c (by omega) (by omega)
      rw [up_s, up_a (by omega), up_a (by omega), e44, e46, ec, c1]
      exact k (by omega) (by unfold jb_has; rw [h16] at hb3; omega) J hJ
    · refine b_X_press_24 ?_
      exact k2 (by omega) (by unfold jb_has; rw [h16] at hb3; omega)
  · refine b_X_press_8 ?_
    exact k0 (by omega)
theorem g_press (h : Rel I) (hz : -2147483648 ≤ x1 ∧ x1 < 2147483648) : Two L d md_X_press md_M_press [.inl x1] I := by
  obtain ⟨hm, c, e, hx⟩ := id h
  obtain ⟨hr, ht, hi, hf, hn, hh⟩ := rel_parts hm hx
  unfold mRng at hr
  have hn5 : I 167 4 ≤ 5 ∧ I 167 5 ≤ 5 := by omega
  have hnx := hh.1.2.1
  refine c_X_press hm hx hz (fun q => ?_) (fun q q2 => ?_) (fun q q2 J hJ => ?_)
  · exact ⟨_, rfl, c_M_press (by omega) (fun p => ⟨rfl, h, rfl⟩) (fun p => absurd p q) (fun p => absurd p q)⟩
  · exact ⟨_, rfl, c_M_press (by omega) (fun p => absurd q p) (fun p p2 => ⟨rfl, h, rfl⟩) (fun p p2 => absurd q2 p2)⟩
  · have oP : ∀ a, (a < 44 ∨ 48 < a) → prC I J x1 a = J a := fun a a1 => by unfold prC; rw [jm_up_o (by omega), jm_up_o (by omega), jm_up_o (by omega)]
    have oM : ∀ a, 101 ≤ a → prC I J x1 a = I a := fun a a1 => by rw [oP a (by omega), hJ.1 a (by omega) (by omega)]
    have e167 := oM 167 (by decide)
    have e171 := oM 171 (by decide)
    have e172 := oM 172 (by decide)
    obtain ⟨p, rfl⟩ : ∃ p : Nat, x1 = p := ⟨x1.toNat, by omega⟩
    obtain ⟨⟨-, p2, -⟩, -⟩ := mo_pe hm hn.1 q.1 q.2
    refine ⟨_, rfl, c_M_press (by rw [e167]; omega) (fun p => absurd (by rw [e167]; exact q) p) (fun p p2 => absurd (by rw [e171] at p2; exact p2) q2) (fun _ _ => ⟨?_, ?_⟩)⟩
    · rw [e171, p2]
    · generalize hA : preF (prC I J p) p = A
      have o : ∀ a, a ≠ 167 → a ≠ 171 → a ≠ 172 → A a = prC I J p a := fun a a1 a2 a3 => by rw [← hA]; unfold preF; rw [jm_up_o a2, jm_up_o a2, jm_up_o a2, rem_o a1 a3]
      have o167 : ∀ k, k ≠ 10 → A 167 k = I 167 k := fun k hk => by rw [← hA]; unfold preF; rw [up_a (by decide), up_a (by decide), up_a (by decide), rem_k hk, e167]
      have hc1 := rem_c e167 e171 e172
      have n10 : A 167 10 = remF I 167 10 := by rw [← hA]; unfold preF; rw [up_a (by decide), up_a (by decide), up_a (by decide), hc1.1]
      have n172 : A 172 = remF I 172 := by rw [← hA]; unfold preF; rw [jm_up_o (by decide), jm_up_o (by decide), jm_up_o (by decide), hc1.2]
      have n171 : ∀ k, A 171 k = if k = 11 + p then I 167 3 else if k = 6 + p then I 171 (6 + p) + 1 else if k = 16 then jb_or (I 171 16) (jb_shl 1 p) else I 171 k := fun k => by
        rw [← hA]
        unfold preF
        rw [e167, e171, show (11 + (p : Int)).toNat = 11 + p by omega, show (6 + (p : Int)).toNat = 6 + p by omega]
        simp only [jm_up, true_and, rem_o (show (171 : Nat) ≠ 167 by decide) (show (171 : Nat) ≠ 172 by decide), e171]
      have n44 : A 44 0 = I 44 0 ∧ A 44 1 = jb_or (I 44 1) (jb_shl 1 p) := by
        rw [o 44 (by decide) (by decide) (by decide)]
        unfold prC
        rw [up_a (by decide), up_a (by decide), up_k (by decide), up_a (by decide), up_a (by decide), up_s, hJ.1 44 (by decide) (by omega)]
        exact ⟨rfl, rfl⟩
      have n45 : A 45 = I 45 := by
        rw [o 45 (by decide) (by decide) (by decide)]
        unfold prC
        rw [jm_up_o (by decide), jm_up_o (by decide), jm_up_o (by decide), hJ.1 45 (by decide) (by omega)]
      have n48 : A 48 = I 48 := by
        rw [o 48 (by decide) (by decide) (by decide)]
        unfold prC
        rw [jm_up_o (by decide), jm_up_o (by decide), jm_up_o (by decide), hJ.1 48 (by decide) (by omega)]
      have n46 : ∀ k, A 46 k = if k = p then I 46 p + 1 else I 46 k := fun k => by
        rw [o 46 (by decide) (by decide) (by decide)]
        unfold prC
        rw [up_a (by decide), Int.toNat_natCast]
        by_cases ek : k = p
        · rw [if_pos ek, ek, up_s]
        · rw [if_neg ek, up_k ek, up_a (by decide), hJ.1 46 (by decide) (by omega)]
      have n47 : ∀ k, A 47 k = if k = p then I 167 3 else I 47 k := fun k => by
        rw [o 47 (by decide) (by decide) (by decide)]
        unfold prC
        rw [Int.toNat_natCast]
        by_cases ek : k = p
        · rw [if_pos ek, ek, up_s]
        · rw [if_neg ek, up_k ek, up_a (by decide), up_a (by decide), hJ.1 47 (by decide) (by omega)]
      refine rel_rem hm hx hJ (fun a a0 a1 a2 a3 a4 => by rw [o a a1 a2 a3, oP a a4]) (fun k _ hk => o167 k hk) n10 n172 (fun hb => ?_)
      obtain ⟨m0, m1, m2, m3⟩ := hn.1
      have m2 : ∀ w : Nat, (w : Int) < I 167 4 → I 45 w = I 171 (1 + w) ∧ I 46 w = I 171 (6 + w) ∧ I 47 w = I 171 (11 + w) := m2
      obtain ⟨s0, s1, s2, s3⟩ := hn.2
      have hjb := jb_press s1 (show 0 ≤ (p : Int) ∧ (p : Int) < 5 by omega)
      refine ⟨?_, ?_⟩
      · unfold xMom
        rw [hb.1.2.2.2.1, hb.1.2.2.2.2]
        refine ⟨?_, ?_, fun w hw => ?_, fun t htt => ?_⟩
        · rw [n44.1, n171, if_neg (by omega), if_neg (by omega), if_neg (by omega)]; exact m0
        · rw [n44.2, n171, if_neg (by omega), if_neg (by omega), if_pos rfl, m1]
        · obtain ⟨w1, w2, w3⟩ := m2 w hw
          refine ⟨?_, ?_, ?_⟩
          · rw [n45, n171, if_neg (by omega), if_neg (by omega), if_neg (by omega)]; exact w1
          · rw [n46, n171, if_neg (show ¬ 6 + w = 11 + p by omega)]
            by_cases ew : w = p
            · rw [if_pos ew, if_pos (show 6 + w = 6 + p by omega), ← ew, w2]
            · rw [if_neg ew, if_neg (show ¬ 6 + w = 6 + p by omega), if_neg (show ¬ 6 + w = 16 by omega)]; exact w2
          · rw [n47, n171]
            by_cases ew : w = p
            · rw [if_pos ew, if_pos (show 11 + w = 11 + p by omega)]
            · rw [if_neg ew, if_neg (show ¬ 11 + w = 11 + p by omega), if_neg (show ¬ 11 + w = 6 + p by omega), if_neg (show ¬ 11 + w = 16 by omega)]; exact w3
        · rw [n48, n171 (22 + t), n171 (17 + t), if_neg (show ¬ 22 + t = 11 + p by omega), if_neg (show ¬ 22 + t = 6 + p by omega), if_neg (show ¬ 22 + t = 16 by omega), if_neg (show ¬ 17 + t = 11 + p by omega), if_neg (show ¬ 17 + t = 6 + p by omega), if_neg (show ¬ 17 + t = 16 by omega)]
          exact m3 t htt
      · refine stI_b hb ⟨?_, ?_, fun w hw => ?_, fun t htt => ?_⟩
        · rw [n171, if_neg (by omega), if_neg (by omega), if_neg (by omega)]; exact s0
        · rw [n171, if_neg (by omega), if_neg (by omega), if_pos rfl]; exact hjb
        · obtain ⟨w1, w2⟩ := s2 w hw
          refine ⟨?_, ?_⟩
          · rw [n171, if_neg (by omega), if_neg (by omega), if_neg (by omega)]; exact w1
          · rw [n171]
            by_cases ew : w = p
            · rw [if_pos (by omega)]; omega
            · rw [if_neg (by omega), if_neg (by omega), if_neg (by omega)]; exact w2
        · rw [n171 (22 + t), n171 (17 + t), if_neg (show ¬ 22 + t = 11 + p by omega), if_neg (show ¬ 22 + t = 6 + p by omega), if_neg (show ¬ 22 + t = 16 by omega), if_neg (show ¬ 17 + t = 11 + p by omega), if_neg (show ¬ 17 + t = 6 + p by omega), if_neg (show ¬ 17 + t = 16 by omega)]
          exact s3 t htt
end STATE4
