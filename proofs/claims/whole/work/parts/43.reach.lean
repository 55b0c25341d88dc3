/-! ===== reach, worth ===== -/
section REACH
variable {L d : Nat} {I : jm_I} {K : Option jm_V → jm_I → Prop} {x0 x1 x2 x3 x4 : Int} {c e : Nat}
def stpF (I : jm_I) (p : Int) : Int := if I 171 (11 + p).toNat = -9 then I 167 3 else I 171 (11 + p).toNat
theorem c_M_reach (hm : mOk I) (hz : -2147483648 ≤ x1 ∧ x1 < 2147483648) (k0 : ¬ (0 ≤ x1 ∧ x1 < I 167 4) → K (some (.inl (-1))) I) (k : 0 ≤ x1 ∧ x1 < I 167 4 → ∀ g : Nat → Int, (∀ i j, i < 6 → j < 6 → isD (adjM I 0) 10000 i j (g (6 * i + j))) → K (some (.inl (orF (fun r => decide (g (6 * (I 171 (1 + x1).toNat).toNat + r) ≤ stpF I x1)) (I 167 0).toNat))) (st_ I 182 g)) : Cx (jx_0 L) (d + 2) md_M_reach [.inr (.inl 167), .inl x1] I K := by
  have hr := hm.1
  unfold mRng at hr
  have hs := hm.2.2.2.1.2.2.1
  have hp : 0 ≤ x1 ∧ x1 < I 167 4 → (0 ≤ I 171 (1 + x1).toNat ∧ I 171 (1 + x1).toNat < I 167 0) ∧ (I 171 (11 + x1).toNat = -9 ∨ (0 ≤ I 171 (11 + x1).toNat ∧ I 171 (11 + x1).toNat ≤ 20)) := fun q => by
    have := hs x1.toNat (by omega)
    rw [show 1 + x1.toNat = (1 + x1).toNat by omega, show 11 + x1.toNat = (11 + x1).toNat by omega] at this
    exact this
  refine b_M_reach_0 (c_M_isPerson (by omega) (fun v hv => ?_))
  refine b_M_reach_5 (by omega) (fun hb => ?_) (fun hb => ?_)
  · refine b_M_reach_10 (c_M_findFar (by omega) hm.2.1 (fun g hg => ?_))
    have hk := k (by omega) g hg
    have hp := hp (by omega)
    have e171 : st_ I 182 g 171 = I 171 := st_a (by decide)
    have e167 : st_ I 182 g 167 = I 167 := st_a (by decide)
    have loop : ∀ s, s = stpF I x1 → Gx (jx_0 L) (d + 2) md_M_reach 45 [some (.inr (.inl 167)), some (.inl x1), none, none, none] [.inl s] (st_ I 182 g) K := by
      intro s hse
      have hs20 : 0 ≤ s ∧ s ≤ 20 := by rw [hse]; unfold stpF; split <;> omega
      rw [← hse] at hk
      refine b_M_reach_45 ?_
      refine lp_up (σ := Int) (Inv := fun x u => 0 ≤ x ∧ u = orF (fun r => decide (g (6 * (I 171 (1 + x1).toNat).toNat + r) ≤ s)) x.toNat) (G := fun x u => Gx (jx_0 L) (d + 2) md_M_reach 51 [some (.inr (.inl 167)), some (.inl x1), some (.inl s), some (.inl u), some (.inl x)] [] (st_ I 182 g) K) (I 167 0) ?_ ?_ 0 0 (by omega) ⟨by omega, rfl⟩
      · intro x u hx hu ih
        obtain ⟨h0, rfl⟩ := hu
        obtain ⟨r, rfl⟩ : ∃ r : Nat, x = r := ⟨x.toNat, by omega⟩
        have hd := hg (I 171 (1 + x1).toNat).toNat r (by omega) (by omega)
        have hdr : 0 ≤ g (6 * (I 171 (1 + x1).toNat).toNat + r) ∧ g (6 * (I 171 (1 + x1).toNat).toNat + r) ≤ 10000 := by
          rcases hd with ⟨n, hn, hn6, -⟩ | ⟨hn, -⟩ <;> omega
        have e182 : st_ I 182 g 182 (6 * st_ I 182 g 171 (1 + x1).toNat + (r : Int)).toNat = g (6 * (I 171 (1 + x1).toNat).toNat + r) := by
          rw [st_s, e171]; congr 1; omega
        refine b_M_reach_51 (by rw [e167]; omega) (fun h => by rw [e167] at h; omega) (fun h => ?_)
        refine b_M_reach_60 (by rw [e182, e171]; omega) (fun h => ?_) (fun h => ?_)
        · rw [e182] at h
          refine b_M_reach_91 ?_
          refine b_M_reach_92 ?_
          rw [jb_or0 (orF_r _ _)]
          refine ih _ ⟨by omega, ?_⟩
          rw [show ((r : Int) + 1).toNat = r + 1 by omega, Int.toNat_natCast]
          simp only [orF]
          rw [if_neg (by simp only [decide_eq_true_eq]; omega)]
        · rw [e182] at h
          refine b_M_reach_84 ?_
          refine b_M_reach_92 ?_
          refine ih _ ⟨by omega, ?_⟩
          rw [show ((r : Int) + 1).toNat = r + 1 by omega, Int.toNat_natCast]
          simp only [orF]
          rw [if_pos (by simp only [decide_eq_true_eq]; omega)]
      · intro u hu
        obtain ⟨-, rfl⟩ := hu
        refine b_M_reach_51 (by rw [e167]; omega) (fun h => ?_) (fun h => by rw [e167] at h; omega)
        exact b_M_reach_100 hk
    refine b_M_reach_15 (by rw [e171]; omega) (fun h => ?_) (fun h => ?_)
    · refine b_M_reach_36 (by omega) ?_
      refine loop _ ?_
      rw [e171] at h ⊢
      unfold stpF
      rw [if_neg h]
    · refine b_M_reach_29 ?_
      refine loop _ ?_
      rw [e171] at h
      rw [e167]
      unfold stpF
      rw [if_pos h]
  · refine b_M_reach_8 ?_
    exact k0 (by omega)
theorem c_X_reach (hm : mOk I) (hx : xRel I c e) (hz : -2147483648 ≤ x1 ∧ x1 < 2147483648) (k0 : ¬ (0 ≤ x1 ∧ x1 < I 167 4) → K (some (.inl (-1))) I) (k : 0 ≤ x1 ∧ x1 < I 167 4 → K (some (.inl (orF (fun r => decide (I (c + 14 + (I 171 (1 + x1).toNat).toNat) r ≤ stpF I x1)) (I 167 0).toNat))) I) : Cx (jx_0 L) (d + 2) md_X_reach [.inr (.inl 1), .inl x1] I K := by
  obtain ⟨h1, h2, h3, hci, -, hmo, -⟩ := hx
  obtain ⟨hc, -⟩ := ct_of (L := L) h1
  have hr := hm.1
  unfold mRng at hr
  obtain ⟨c0, c1, c2, c3, c4⟩ := hci.1
  refine b_X_reach_0 (c_X_isPerson hc h2 (by omega) (fun v hv => ?_))
  refine b_X_reach_5 (by omega) (fun hb => ?_) (fun hb => ?_)
  · have hk := k (by omega)
    obtain ⟨⟨p1, p2, p3⟩, p4, p5⟩ := mo_pe hm hmo (p := x1) (by omega) (by omega)
    have loop : ∀ s, s = stpF I x1 → Gx (jx_0 L) (d + 2) md_X_reach 37 [some (.inr (.inl 1)), some (.inl x1), none, none, none] [.inl s] I K := by
      intro s hse
      have hs20 : 0 ≤ s ∧ s ≤ 20 := by rw [hse]; unfold stpF; split <;> omega
      rw [← hse] at hk
      refine b_X_reach_37 ?_
      refine lp_up (σ := Int) (Inv := fun x u => 0 ≤ x ∧ u = orF (fun r => decide (I (c + 14 + (I 171 (1 + x1).toNat).toNat) r ≤ s)) x.toNat) (G := fun x u => Gx (jx_0 L) (d + 2) md_X_reach 43 [some (.inr (.inl 1)), some (.inl x1), some (.inl s), some (.inl u), some (.inl x)] [] I K) (I 167 0) ?_ ?_ 0 0 (by omega) ⟨by omega, rfl⟩
      · intro x u hx hu ih
        obtain ⟨h0, rfl⟩ := hu
        obtain ⟨r, rfl⟩ : ∃ r : Nat, x = r := ⟨x.toNat, by omega⟩
        have hd := hci.2.2.2 (I 171 (1 + x1).toNat).toNat r (by omega) (by omega)
        have hdr : 0 ≤ I (c + 14 + (I 171 (1 + x1).toNat).toNat) r ∧ I (c + 14 + (I 171 (1 + x1).toNat).toNat) r ≤ 1000 := by
          rcases hd with ⟨n, hn, hn6, -⟩ | ⟨hn, -⟩ <;> omega
        have ec : I (c + 14 + (I 45 x1.toNat).toNat) (r : Int).toNat = I (c + 14 + (I 171 (1 + x1).toNat).toNat) r := by rw [p1, Int.toNat_natCast]
        refine b_X_reach_43 h2 hc (by omega) (fun h => by omega) (fun h => ?_)
        refine b_X_reach_55 h2 hc (by rw [ec, p1]; omega) (fun h => ?_) (fun h => ?_)
        · rw [ec] at h
          refine b_X_reach_86 ?_
          refine ih _ ⟨by omega, ?_⟩
          rw [show ((r : Int) + 1).toNat = r + 1 by omega, Int.toNat_natCast]
          simp only [orF]
          rw [if_neg (by simp only [decide_eq_true_eq]; omega)]
        · rw [ec] at h
          refine b_X_reach_79 ?_
          refine b_X_reach_86 ?_
          refine ih _ ⟨by omega, ?_⟩
          rw [show ((r : Int) + 1).toNat = r + 1 by omega, Int.toNat_natCast]
          simp only [orF]
          rw [if_pos (by simp only [decide_eq_true_eq]; omega)]
      · intro u hu
        obtain ⟨-, rfl⟩ := hu
        refine b_X_reach_43 h2 hc (by omega) (fun h => ?_) (fun h => by omega)
        exact b_X_reach_92 hk
    refine b_X_reach_10 (c_X_isUp (by omega) (fun w hw => ?_))
    rw [p3] at hw
    refine b_X_reach_15 (by omega) (fun h => ?_) (fun h => ?_)
    · refine b_X_reach_30 h2 hc ?_
      refine loop _ ?_
      unfold stpF
      rw [if_pos (by omega), c1]
    · refine b_X_reach_18 (by omega) ?_
      refine loop _ ?_
      unfold stpF
      rw [if_neg (by omega), p3]
  · refine b_X_reach_8 ?_
    exact k0 (by omega)
theorem g_reach (h : Rel I) (hz : -2147483648 ≤ x1 ∧ x1 < 2147483648) : Two L d md_X_reach md_M_reach [.inl x1] I := by
  obtain ⟨hm, c, e, hx⟩ := id h
  have hr := hm.1
  unfold mRng at hr
  refine c_X_reach hm hx hz (fun q => ?_) (fun q => ?_)
  · exact ⟨_, rfl, c_M_reach hm hz (fun _ => ⟨rfl, h, rfl⟩) (fun p => absurd p q)⟩
  · refine ⟨_, rfl, c_M_reach hm hz (fun p => absurd q p) (fun _ g hg => ⟨?_, rel_scr h (fun a a0 a1 a2 => st_a (by omega)) (fun k hk => by rw [st_a (by decide)])⟩)⟩
    obtain ⟨-, p4, p5⟩ := mo_pe hm hx.2.2.2.2.2.1 q.1 q.2
    have hsr : stpF I x1 ≤ 20 := by unfold stpF; split <;> omega
    refine congrArg (fun z => some (Sum.inl z)) (orF_congr (fun r hrr => ?_))
    have hf := far_x hm hx.2.2.2.1 (s := (r : Int)) p4 (by omega) (w := g (6 * (I 171 (1 + x1).toNat).toNat + r)) (by rw [Int.toNat_natCast]; exact hg _ r (by omega) (by omega))
    rw [Int.toNat_natCast] at hf
    have : (g (6 * (I 171 (1 + x1).toNat).toNat + r) ≤ stpF I x1) ↔ (I (c + 14 + (I 171 (1 + x1).toNat).toNat) r ≤ stpF I x1) := by omega
    simp only [this]
end REACH
