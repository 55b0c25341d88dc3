/-! ===== rate, trace ===== -/
section RATE
variable {L d : Nat} {I : jm_I} {K : Option jm_V → jm_I → Prop} {x0 x1 x2 x3 x4 : Int} {c e : Nat}
theorem roF_k {I J : jm_I} (h2 : J 170 = I 170) (t r : Int) : roF J t r = roF I t r := by unfold roF; rw [h2]
theorem c_X_ratePerson (hz : 0 ≤ x1 ∧ x1 < 5) (k : K (some (.inl (I 46 x1.toNat))) (jm_up I 1 14 (I 1 14 + 1))) : Cx (jx_0 L) d md_X_ratePerson [.inr (.inl 1), .inl x1] I K := b_X_ratePerson_0 hz k
theorem c_X_rateBarber (hz : 0 ≤ x1 ∧ x1 < 5) (k : K (some (.inl (I 46 x1.toNat + I 45 x1.toNat))) (jm_up I 1 14 (I 1 14 + 11))) : Cx (jx_0 L) (d + 1) md_X_rateBarber [.inr (.inl 1), .inl x1] I K := by
  refine b_X_rateBarber_0 (c_X_ratePerson hz ?_)
  refine b_X_rateBarber_17 (by omega) ?_
  rw [upup, up_s, up_a (by decide), up_a (by decide), Int.add_assoc]
  exact k
def rtH (I : jm_I) (c : Nat) (p : Int) (ρ : Nat → Int) : Prop := I 1 0 = (c : Int) ∧ (0 ≤ I c 4 ∧ I c 4 ≤ 5) ∧ (0 ≤ p ∧ p < 5) ∧ (0 ≤ I 45 p.toNat ∧ I 45 p.toNat < 6) ∧ ∀ t : Nat, (t : Int) < I c 4 → tcOk I c t ∧ spOk I t (I 48 t) ∧ roF I t (I 48 t) = ρ t ∧ (0 ≤ ρ t ∧ ρ t < 6)
theorem rtH_up {v : Int} {ρ : Nat → Int} (hcl : 2 ≤ c ∧ c ≤ 22) (h : rtH I c x1 ρ) : rtH (jm_up I 1 14 v) c x1 ρ := by
  have o : ∀ a, a ≠ 1 → jm_up I 1 14 v a = I a := fun a ha => jm_up_o ha
  obtain ⟨h1, h2, h3, h4, h5⟩ := h
  unfold rtH
  rw [up_k (by decide), o c (by omega), o 45 (by decide), o 48 (by decide)]
  refine ⟨h1, h2, h3, h4, fun t ht => ?_⟩
  obtain ⟨t1, t2, t3, t4⟩ := h5 t ht
  exact ⟨tcOk_k (o 169 (by decide)) (o 170 (by decide)) (fun a a1 a2 => o a (by omega)) t1, spOk_k (o 169 (by decide)) t2, by rw [roF_k (o 170 (by decide))]; exact t3, t4⟩
theorem c_X_rateThief {ρ : Nat → Int} (hc : jx_City (jx_0 L) c) (hcl : 2 ≤ c ∧ c ≤ 22) (h : rtH I c x1 ρ) (k : K (some (.inl (I 46 x1.toNat - cnF (fun t => decide (ρ t = I 45 x1.toNat)) (I c 4).toNat))) (jm_up I 1 14 (I 1 14 + 101))) : Cx (jx_0 L) (d + 2) md_X_rateThief [.inr (.inl 1), .inl x1] I K := by
  refine b_X_rateThief_0 ?_
  obtain ⟨h1, h2, h3, h4, h5⟩ := rtH_up (v := I 1 14 + 100) hcl h
  have uc : jm_up I 1 14 (I 1 14 + 100) c = I c := jm_up_o (by omega)
  have u45 : jm_up I 1 14 (I 1 14 + 100) 45 = I 45 := jm_up_o (by omega)
  have u46 : jm_up I 1 14 (I 1 14 + 100) 46 = I 46 := jm_up_o (by omega)
  have u48 : jm_up I 1 14 (I 1 14 + 100) 48 = I 48 := jm_up_o (by omega)
  rw [uc] at h2 h5
  rw [u45] at h4
  refine lp_up (σ := Int) (Inv := fun x n => 0 ≤ x ∧ n = cnF (fun t => decide (ρ t = I 45 x1.toNat)) x.toNat) (G := fun x n => Gx (jx_0 L) (d + 2) md_X_rateThief 16 [some (.inr (.inl 1)), some (.inl x1), some (.inl n), some (.inl x)] [] (jm_up I 1 14 (I 1 14 + 100)) K) (I c 4) ?_ ?_ 0 0 (by omega) ⟨by omega, rfl⟩
  · intro x n hx hn ih
    obtain ⟨h0, rfl⟩ := hn
    obtain ⟨t, rfl⟩ : ∃ t : Nat, x = t := ⟨x.toNat, by omega⟩
    obtain ⟨t1, t2, t3, t4⟩ := h5 t hx
    refine b_X_rateThief_16 h1 hc (by rw [uc]; omega) (fun h => by rw [uc] at h; omega) (fun h => ?_)
    refine b_X_rateThief_27 (c_X_roomOfThing hc h1 t1 (by rw [Int.toNat_natCast]; exact t2) ?_)
    rw [Int.toNat_natCast, t3]
    refine b_X_rateThief_32 (by rw [u45]; omega) (fun h => ?_) (fun h => ?_)
    · rw [u45] at h
      refine b_X_rateThief_47 ?_
      refine ih _ ⟨by omega, ?_⟩
      rw [show ((t : Int) + 1).toNat = t + 1 by omega]
      simp [cnF, h]
    · rw [u45] at h
      refine b_X_rateThief_44 ?_
      refine b_X_rateThief_47 ?_
      refine ih _ ⟨by omega, ?_⟩
      rw [show ((t : Int) + 1).toNat = t + 1 by omega]
      simp [cnF, h]
  · intro n hn
    obtain ⟨-, rfl⟩ := hn
    refine b_X_rateThief_16 h1 hc (by rw [uc]; omega) (fun h => ?_) (fun h => by rw [uc] at h; omega)
    refine b_X_rateThief_53 (c_X_ratePerson (by omega) ?_)
    refine b_X_rateThief_58 ?_
    rw [upup, up_s, u46, Int.add_assoc]
    exact k
theorem c_X_rate (hm : mOk I) (hx : xRel I c e) (hz : (-2147483648 ≤ x1 ∧ x1 < 2147483648) ∧ (-2147483648 ≤ x2 ∧ x2 < 2147483648)) (k0 : ¬ (0 ≤ x1 ∧ x1 ≤ 5 ∧ 0 ≤ x2 ∧ x2 < I 167 4) → K (some (.inl (-1000000))) I) (k : 0 ≤ x1 ∧ x1 ≤ 5 ∧ 0 ≤ x2 ∧ x2 < I 167 4 → K (some (.inl (ratV I x1 x2))) (jm_up I 1 14 (I 1 14 + ratW x1))) : Cx (jx_0 L) (d + 4) md_X_rate [.inr (.inl 1), .inl x1, .inl x2] I K := by
  obtain ⟨h1, h2, h3, hci, -, hmo, -⟩ := hx
  obtain ⟨hc, -⟩ := ct_of (L := L) h1
  have hcl : 2 ≤ c ∧ c ≤ 22 := by rcases h1 with ⟨rfl, -⟩ | ⟨rfl, -⟩ <;> decide
  have hr := hm.1
  unfold mRng at hr
  have c3 := hci.1.2.2.2.1
  have c4 := hci.1.2.2.2.2
  refine b_X_rate_0 (c_X_isPerson hc h2 (by omega) (fun v hv => ?_))
  refine b_X_rate_5 (by omega) (fun hb => ?_) (fun hb => ?_)
  · obtain ⟨⟨p1, p2, p3⟩, p4, p5⟩ := mo_pe hm hmo (p := x2) (by omega) (by omega)
    have hrt : rtH I c x2 (fun t => I 171 (17 + t)) := ⟨h2, by omega, by omega, by rw [p1]; omega, fun t ht => by
      rw [c4] at ht
      have n := nw_sp hm (t := (t : Int)) (by omega) ht
      have s := mo_sp hmo (t := (t : Int)) (by omega) ht
      rw [Int.toNat_natCast] at s
      rw [show (17 + (t : Int)).toNat = 17 + t by omega] at n
      rw [s]
      exact ⟨tc_of hm hci (by omega) ht, n.1, n.2.1, n.2.2.1, Int.lt_of_lt_of_le n.2.2.2 hr.1.2⟩⟩
    have hN : cnF (fun t => decide (I 171 (17 + t) = I 45 x2.toNat)) (I c 4).toNat = ratN I x2 := by unfold ratN; rw [p1, c4]
    have v0 := fun hh => k hh
    refine b_X_rate_11 (by omega) (fun h3 => ?_) (fun h3 => ?_) (fun h3 => ?_) (fun h3 => ?_) (fun h3 => ?_) (fun h3 => ?_) (fun h3 => ?_)
    · refine b_X_rate_52 (c_X_ratePerson (by omega) ?_)
      refine b_X_rate_57 ?_
      subst h3
      rw [p2]
      exact k (by omega)
    · refine b_X_rate_58 (c_X_rateBarber (by omega) ?_)
      refine b_X_rate_63 ?_
      subst h3
      rw [p2, p1]
      exact k (by omega)
    · refine b_X_rate_64 (c_X_rateThief hc hcl hrt ?_)
      refine b_X_rate_69 ?_
      subst h3
      rw [p2, hN]
      exact k (by omega)
    · refine b_X_rate_70 (b_X_rateGrey_0 (c_X_rateBarber (by omega) ?_))
      refine b_X_rateGrey_18 ?_
      refine b_X_rate_75 ?_
      rw [upup, up_s, up_a (by decide), up_a (by decide), Int.add_assoc, p2, p1]
      subst h3
      exact k (by omega)
    · refine b_X_rate_76 (b_X_rateTenth_0 (c_X_rateThief hc hcl (rtH_up hcl hrt) ?_))
      refine b_X_rateTenth_17 ?_
      refine b_X_rate_81 ?_
      rw [upup, up_s, up_a (by decide), up_a (by decide), up_a (by omega), Int.add_assoc, hN, p2]
      subst h3
      exact k (by omega)
    · refine b_X_rate_82 (b_X_rateChild_0 (c_X_ratePerson (by omega) ?_))
      have hk := k (by omega)
      subst h3
      have u47 : ∀ w, jm_up I 1 14 w 47 = I 47 := fun w => jm_up_o (by decide)
      rw [upup, up_s, up_a (by decide), Int.add_assoc, p2]
      refine b_X_rateChild_17 (c_X_isUp (by rw [u47]; omega) (fun w hw => ?_))
      rw [u47, p3] at hw
      refine b_X_rateChild_22 (by omega) (fun hb2 => ?_) (fun hb2 => ?_)
      · refine b_X_rateChild_37 ?_
        refine b_X_rateChild_38 ?_
        refine b_X_rate_87 ?_
        refine cv_ ?_ hk
        show _ = _ + (if _ then _ else _)
        rw [if_pos (by omega)]
      · refine b_X_rateChild_25 (by omega) ?_
        refine b_X_rateChild_38 ?_
        refine b_X_rate_87 ?_
        rw [u47, p3]
        refine cv_ ?_ hk
        show _ = _ + (if _ then _ else _)
        rw [if_neg (by omega)]
    · refine b_X_rate_88 ?_
      exact k0 (by omega)
  · refine b_X_rate_8 ?_
    exact k0 (by omega)
theorem g_rate (h : Rel I) (hz : (-2147483648 ≤ x1 ∧ x1 < 2147483648) ∧ (-2147483648 ≤ x2 ∧ x2 < 2147483648)) : Two L d md_X_rate md_M_rate [.inl x1, .inl x2] I := by
  obtain ⟨hm, c, e, hx⟩ := id h
  obtain ⟨hr, ht, hi, hf, hn, hh⟩ := rel_parts hm hx
  have hr0 := hr
  unfold mRng at hr
  have hps : 0 ≤ x2 ∧ x2 < I 167 4 → (0 ≤ I 171 (1 + x2).toNat ∧ I 171 (1 + x2).toNat < 6) ∧ (-9 ≤ I 171 (11 + x2).toNat ∧ I 171 (11 + x2).toNat < 100) := fun q => by
    have := (mo_pe hm hn.1 q.1 q.2).2
    omega
  have hts : ∀ t : Nat, (t : Int) < I 167 5 → 0 ≤ I 171 (17 + t) ∧ I 171 (17 + t) < 6 := fun t htt => by
    have := (nw_sp hm (t := (t : Int)) (by omega) htt).2.2
    rw [show (17 + (t : Int)).toNat = 17 + t by omega] at this
    omega
  refine c_X_rate hm hx hz (fun q => ?_) (fun q => ?_)
  · exact ⟨_, rfl, c_M_rate (by omega) hps hts (fun _ => ⟨rfl, h, rfl⟩) (fun p => absurd p q)⟩
  · have o2 : ∀ v a, a ≠ 1 → jm_up I 1 14 v a = I a := fun v a ha => jm_up_o ha
    generalize hB : jm_up I 1 14 (I 1 14 + ratW x1) = B
    have oB : ∀ a, a ≠ 1 → B a = I a := fun a ha => by rw [← hB, jm_up_o ha]
    have e167 := oB 167 (by decide)
    have e171 := oB 171 (by decide)
    have eV : ratV B x1 x2 = ratV I x1 x2 := by unfold ratV ratN; rw [e167, e171]
    refine ⟨_, rfl, c_M_rate (by rw [e167]; omega) (by rw [e167, e171]; exact hps) (by rw [e167, e171]; exact hts) (fun p => absurd (by rw [e167]; exact q) p) (fun _ => ⟨by rw [eV], ?_, ?_⟩)⟩
    · rw [e167]
      generalize hA : jm_up B 167 15 (I 167 15 + ratW x1) = A
      have o : ∀ a, a ≠ 167 → a ≠ 1 → A a = I a := fun a a1 a2 => by rw [← hA, jm_up_o a1, oB a a2]
      have o1 : ∀ k, k ≠ 14 → A 1 k = I 1 k := fun k hk => by rw [← hA, up_a (by decide), ← hB, up_k hk]
      have o167 : ∀ k, k ≠ 15 → A 167 k = I 167 k := fun k hk => by rw [← hA, up_k hk, e167]
      have n15 : A 167 15 = I 167 15 + ratW x1 := by rw [← hA, up_s]
      have n14 : A 1 14 = I 1 14 + ratW x1 := by rw [← hA, up_a (by decide), ← hB, up_s]
      have hb : base I A := base_of (fun k hk => o167 k (by omega)) (o _ (by decide) (by decide)) (o _ (by decide) (by decide)) (o _ (by decide) (by decide))
      refine rel_mk hm hx hb ⟨o1 0 (by decide), o1 1 (by decide)⟩ (hcit_of hx.1 (fun a a1 a2 => o a (by omega) (by omega))) ?_ (TX_k (o1 4 (by decide)) (o167 17 (by decide)) (o _ (by decide) (by decide)) (o _ (by decide) (by decide)) ht) (IM_k hb (o _ (by decide) (by decide)) (o _ (by decide) (by decide)) (o _ (by decide) (by decide)) (fun a a1 a2 => o a (by omega) (by omega)) hi) (FD_k hb (o167 13 (by decide)) (o _ (by decide) (by decide)) (fun a a1 a2 => o a (by omega) (by omega)) hf) (NW_k hb (o _ (by decide) (by decide)) (fun a a1 a2 => o a (by omega) (by omega)) hn) (HI_k hr0 hb (o167 10 (by decide)) (o _ (by decide) (by decide)) (fun a a1 a2 => o a (by omega) (by omega)) hh) ?_
      · unfold mRng
        rw [o167 0 (by decide), o167 1 (by decide), o167 3 (by decide), o167 4 (by decide), o167 5 (by decide), o167 10 (by decide), o167 13 (by decide), o167 17 (by decide)]
        exact hr
      · rw [n14, n15, hx.2.2.2.2.2.2.2.2.2]
    · rw [jm_up_o (by decide), oB 0 (by decide)]
/-- the same for an answer that is a long -/
def TwoL (L d : Nat) (mx mm : jm_Md) (as : List jm_V) (I : jm_I) : Prop := Cx (jx_0 L) (d + 100) mx (.inr (.inl 1) :: as) I (fun v J => ∃ x : Int, v = some (.inr (.inr x)) ∧ Cx (jx_0 L) (d + 100) mm (.inr (.inl 167) :: as) J (fun w A => w = some (.inr (.inr x)) ∧ Rel A ∧ A 0 = I 0))
theorem g_trace (h : Rel I) : TwoL L d md_X_trace md_M_trace [] I := by
  obtain ⟨hm, c, e, hx⟩ := id h
  refine b_X_trace_0 ⟨_, rfl, c_M_trace ⟨?_, h, rfl⟩⟩
  rw [hx.2.2.2.2.2.2.2.2.2]
end RATE
