/-! ===== worth ===== -/
section WORTH
variable {L d : Nat} {I : jm_I} {K : Option jm_V → jm_I → Prop} {x0 x1 x2 x3 x4 : Int} {c e : Nat}
theorem c_M_canCarry {w : Int} (hz : (0 ≤ x1 ∧ x1 < 5) ∧ (0 ≤ x2 ∧ x2 < 5) ∧ (0 ≤ I 171 (1 + x1).toNat ∧ I 171 (1 + x1).toNat < 6) ∧ (0 ≤ I 171 (17 + x2).toNat ∧ I 171 (17 + x2).toNat < 6) ∧ (0 ≤ x3 ∧ x3 < 6) ∧ (0 ≤ I 167 3 ∧ I 167 3 ≤ 20)) (hw : w = I 182 (6 * (I 171 (1 + x1).toNat).toNat + (I 171 (17 + x2).toNat).toNat) + I 182 (6 * (I 171 (17 + x2).toNat).toNat + x3.toNat)) (hr : 0 ≤ w ∧ w < 100000) (k : ∀ v, (v = 1 ∧ w ≤ I 167 3) ∨ (v = 0 ∧ ¬ w ≤ I 167 3) → K (some (.inl v)) I) : Cx (jx_0 L) (d + 1) md_M_canCarry [.inr (.inl 167), .inl x1, .inl x2, .inl x3] I K := by
  refine b_M_canCarry_0 (by omega) (c_M_by (g := fun _ => 0) (by omega) ?_)
  rw [← hw]
  refine b_M_canCarry_22 (by omega) (fun h => ?_) (fun h => ?_)
  · refine b_M_canCarry_33 ?_
    refine b_M_canCarry_34 (by omega) (k _ (by omega))
  · refine b_M_canCarry_29 ?_
    refine b_M_canCarry_34 (by omega) (k _ (by omega))
theorem dm_ {R t r : Nat} (h : r < R) : (t * R + r) / R = t ∧ (t * R + r) % R = r := by
  have hR : 0 < R := by omega
  refine ⟨?_, ?_⟩
  · rw [Nat.mul_comm, Nat.mul_add_div hR, Nat.div_eq_of_lt h, Nat.add_zero]
  · rw [Nat.mul_comm, Nat.mul_add_mod, Nat.mod_eq_of_lt h]
def worF (I : jm_I) (D : Nat → Nat → Int) (p : Int) : Nat → Bool := fun i => decide (¬ I 171 (17 + i / (I 167 0).toNat) = ((i % (I 167 0).toNat : Nat) : Int) ∧ D (I 171 (1 + p).toNat).toNat (I 171 (17 + i / (I 167 0).toNat)).toNat + D (I 171 (17 + i / (I 167 0).toNat)).toNat (i % (I 167 0).toNat) ≤ I 167 3)
theorem c_M_worth (hm : mOk I) (hz : -2147483648 ≤ x1 ∧ x1 < 2147483648) (k0 : ¬ (0 ≤ x1 ∧ x1 < I 167 4) → K (some (.inl (-1))) I) (k : 0 ≤ x1 ∧ x1 < I 167 4 → ∀ g : Nat → Int, (∀ i j, i < 6 → j < 6 → isD (adjM I 0) 10000 i j (g (6 * i + j))) → K (some (.inl (cnF (worF I (fun a b => g (6 * a + b)) x1) ((I 167 5).toNat * (I 167 0).toNat)))) (st_ I 182 g)) : Cx (jx_0 L) (d + 3) md_M_worth [.inr (.inl 167), .inl x1] I K := by
  have hr := hm.1
  unfold mRng at hr
  have hs := hm.2.2.2.1.2.2.1
  have hp : 0 ≤ x1 ∧ x1 < I 167 4 → (0 ≤ I 171 (1 + x1).toNat ∧ I 171 (1 + x1).toNat < I 167 0) := fun q => by
    have := (hs x1.toNat (by omega)).1
    rw [show 1 + x1.toNat = (1 + x1).toNat by omega] at this
    exact this
  refine b_M_worth_0 (c_M_isPerson (by omega) (fun v hv => ?_))
  refine b_M_worth_5 (by omega) (fun hb => ?_) (fun hb => ?_)
  · refine b_M_worth_10 (c_M_findFar (by omega) hm.2.1 (fun g hg => ?_))
    have hk := k (by omega) g hg
    have hp := hp (by omega)
    have e171 : st_ I 182 g 171 = I 171 := st_a (by decide)
    have e167 : st_ I 182 g 167 = I 167 := st_a (by decide)
    obtain ⟨R, hR⟩ : ∃ R : Nat, I 167 0 = R := ⟨(I 167 0).toNat, by omega⟩
    obtain ⟨N, hN⟩ : ∃ N : Nat, I 167 5 = N := ⟨(I 167 5).toNat, by omega⟩
    have hR0 : (I 167 0).toNat = R := by omega
    have hN0 : (I 167 5).toNat = N := by omega
    have hprod : I 167 5 * I 167 0 = ((N * R : Nat) : Int) := by rw [hR, hN]; exact (Int.natCast_mul N R).symm
    have hbd : N * R ≤ 5 * 6 := Nat.mul_le_mul (by omega) (by omega)
    refine b_M_worth_15 ?_
    refine lp_up3 (σ := Int) (τ := Option jm_V) (υ := Option jm_V) (Inv := fun x u _ _ => 0 ≤ x ∧ u = cnF (worF I (fun a b => g (6 * a + b)) x1) x.toNat) (G := fun x u a b => Gx (jx_0 L) (d + 3) md_M_worth 19 [some (.inr (.inl 167)), some (.inl x1), some (.inl u), some (.inl x), a, b] [] (st_ I 182 g) K) (((N * R : Nat) : Int)) ?_ ?_ 0 0 none none (by omega) ⟨by omega, rfl⟩
    · intro x u a b hx hu ih
      obtain ⟨h0, rfl⟩ := hu
      obtain ⟨i, rfl⟩ : ∃ i : Nat, x = i := ⟨x.toNat, by omega⟩
      have hlt : i < N * R := by omega
      have hdv : (i : Int) / I 167 0 = ((i / R : Nat) : Int) := by rw [hR]; exact (Int.natCast_ediv i R).symm
      have hmd : (i : Int) % I 167 0 = ((i % R : Nat) : Int) := by rw [hR]; exact (Int.natCast_emod i R).symm
      have hRp : 0 < R := by omega
      have d1 : i / R < N := (Nat.div_lt_iff_lt_mul hRp).2 hlt
      have d2 : i % R < R := Nat.mod_lt _ hRp
      have wf : worF I (fun a b => g (6 * a + b)) x1 i = decide (¬ I 171 (17 + i / R) = ((i % R : Nat) : Int) ∧ g (6 * (I 171 (1 + x1).toNat).toNat + (I 171 (17 + i / R)).toNat) + g (6 * (I 171 (17 + i / R)).toNat + i % R) ≤ I 167 3) := by unfold worF; rw [hR0]
      have hcs : cnF (worF I (fun a b => g (6 * a + b)) x1) ((i : Int) + 1).toNat = cnF (worF I (fun a b => g (6 * a + b)) x1) i + (if worF I (fun a b => g (6 * a + b)) x1 i = true then 1 else 0) := by
        rw [show ((i : Int) + 1).toNat = i + 1 by omega]
        rfl
      generalize hq : i / R = t at *
      generalize hm2 : i % R = r at *
      have hth := (nw_sp hm (t := (t : Int)) (by omega) (by omega)).2.2
      have e17 : (17 + (t : Int)).toNat = 17 + t := by omega
      rw [e17] at hth
      refine b_M_worth_19 (by rw [e167, hprod]; omega) (fun h => by rw [e167, hprod] at h; omega) (fun h => ?_)
      refine b_M_worth_32 (by rw [e171, e167, hdv, hmd, e17]; omega) (fun h => ?_) (fun h => ?_)
      · rw [e171, e167, hdv, hmd, e17] at h
        refine b_M_worth_80 ?_
        refine b_M_worth_81 ?_
        refine ih _ _ _ ⟨by omega, ?_⟩
        rw [hcs, wf, if_neg (by simp only [decide_eq_true_eq]; omega), Int.toNat_natCast]
      · rw [e171, e167, hdv, hmd, e17] at h
        rw [e167, hdv, hmd]
        refine b_M_worth_64 ?_
        have hd1 := hg (I 171 (1 + x1).toNat).toNat (I 171 (17 + t)).toNat (by omega) (by omega)
        have hd2 := hg (I 171 (17 + t)).toNat r (by omega) (by omega)
        have r1 : 0 ≤ g (6 * (I 171 (1 + x1).toNat).toNat + (I 171 (17 + t)).toNat) ∧ g (6 * (I 171 (1 + x1).toNat).toNat + (I 171 (17 + t)).toNat) ≤ 10000 := by
          rcases hd1 with ⟨n, hn, hn6, -⟩ | ⟨hn, -⟩ <;> omega
        have r2 : 0 ≤ g (6 * (I 171 (17 + t)).toNat + r) ∧ g (6 * (I 171 (17 + t)).toNat + r) ≤ 10000 := by
          rcases hd2 with ⟨n, hn, hn6, -⟩ | ⟨hn, -⟩ <;> omega
        refine c_M_canCarry (w := g (6 * (I 171 (1 + x1).toNat).toNat + (I 171 (17 + t)).toNat) + g (6 * (I 171 (17 + t)).toNat + r)) (by rw [e171, e167, e17]; omega) (by rw [st_s, st_s, e171, e17, Int.toNat_natCast]) (by omega) (fun v hv => ?_)
        rw [e167] at hv
        refine b_M_worth_73 (by omega) (fun h' => ?_) (fun h' => ?_)
        · refine b_M_worth_80 ?_
          refine b_M_worth_81 ?_
          refine ih _ _ _ ⟨by omega, ?_⟩
          rw [hcs, wf, if_neg (by simp only [decide_eq_true_eq]; omega), Int.toNat_natCast]
        · refine b_M_worth_76 ?_
          refine b_M_worth_81 ?_
          refine ih _ _ _ ⟨by omega, ?_⟩
          rw [hcs, wf, if_pos (by simp only [decide_eq_true_eq]; omega), Int.toNat_natCast]
    · intro u a b hu
      obtain ⟨-, rfl⟩ := hu
      refine b_M_worth_19 (by rw [e167, hprod]; omega) (fun h => ?_) (fun h => by rw [e167, hprod] at h; omega)
      rw [hR0, hN0] at hk
      rw [Int.toNat_natCast]
      exact b_M_worth_89 hk
  · refine b_M_worth_8 ?_
    exact k0 (by omega)
theorem c_X_worth (hm : mOk I) (hx : xRel I c e) (hz : -2147483648 ≤ x1 ∧ x1 < 2147483648) (k0 : ¬ (0 ≤ x1 ∧ x1 < I 167 4) → K (some (.inl (-1))) I) (k : 0 ≤ x1 ∧ x1 < I 167 4 → K (some (.inl (cnF (worF I (fun a b => I (c + 14 + a) b) x1) ((I 167 5).toNat * (I 167 0).toNat)))) I) : Cx (jx_0 L) (d + 2) md_X_worth [.inr (.inl 1), .inl x1] I K := by
  obtain ⟨h1, h2, h3, hci, -, hmo, -⟩ := hx
  obtain ⟨hc, -⟩ := ct_of (L := L) h1
  have hr := hm.1
  unfold mRng at hr
  obtain ⟨c0, c1, c2, c3, c4⟩ := hci.1
  refine b_X_worth_0 (c_X_isPerson hc h2 (by omega) (fun v hv => ?_))
  refine b_X_worth_5 (by omega) (fun hb => ?_) (fun hb => ?_)
  · have hk := k (by omega)
    obtain ⟨⟨p1, p2, p3⟩, p4, p5⟩ := mo_pe hm hmo (p := x1) (by omega) (by omega)
    obtain ⟨R, hR⟩ : ∃ R : Nat, I 167 0 = R := ⟨(I 167 0).toNat, by omega⟩
    obtain ⟨N, hN⟩ : ∃ N : Nat, I 167 5 = N := ⟨(I 167 5).toNat, by omega⟩
    have hR0 : (I 167 0).toNat = R := by omega
    have hN0 : (I 167 5).toNat = N := by omega
    generalize hW : worF I (fun a b => I (c + 14 + a) b) x1 = W at *
    refine b_X_worth_10 ?_
    refine lp_up3 (σ := Int) (τ := Option jm_V) (υ := Option jm_V) (Inv := fun x u _ _ => 0 ≤ x ∧ u = cnF W (x.toNat * R)) (G := fun x u a b => Gx (jx_0 L) (d + 2) md_X_worth 14 [some (.inr (.inl 1)), some (.inl x1), some (.inl u), some (.inl x), a, b] [] I K) (I 167 5) ?_ ?_ 0 0 none none (by omega) ⟨by omega, by show (0 : Int) = cnF W (0 * R); rw [Nat.zero_mul]; rfl⟩
    · intro x u a b hx hu ih
      obtain ⟨h0, rfl⟩ := hu
      obtain ⟨t, rfl⟩ : ∃ t : Nat, x = t := ⟨x.toNat, by omega⟩
      obtain ⟨n1, n2, n3⟩ := nw_sp hm (t := (t : Int)) (by omega) hx
      have hsp := mo_sp hmo (t := (t : Int)) (by omega) hx
      rw [show (17 + (t : Int)).toNat = 17 + t by omega] at n2 n3
      refine b_X_worth_14 h2 hc (by omega) (fun h => by omega) (fun h => ?_)
      refine b_X_worth_25 (c_X_roomOfThing hc h2 (tc_of hm hci (by omega) hx) (by rw [hsp]; exact n1) ?_)
      rw [hsp, n2]
      refine b_X_worth_30 ?_
      refine lp_up (σ := Int) (Inv := fun y u => 0 ≤ y ∧ u = cnF W (t * R + y.toNat)) (G := fun y u => Gx (jx_0 L) (d + 2) md_X_worth 35 [some (.inr (.inl 1)), some (.inl x1), some (.inl u), some (.inl (t : Int)), some (.inl (I 171 (17 + t))), some (.inl y)] [] I K) (I 167 0) ?_ ?_ 0 _ (by omega) ⟨by omega, by rw [Int.toNat_natCast]; rfl⟩
      · intro y u hy hu ih2
        obtain ⟨y0, rfl⟩ := hu
        obtain ⟨r, rfl⟩ : ∃ r : Nat, y = r := ⟨y.toNat, by omega⟩
        obtain ⟨q1, q2⟩ := dm_ (t := t) (show r < R by omega)
        have wf : W (t * R + r) = decide (¬ I 171 (17 + t) = (r : Int) ∧ I (c + 14 + (I 171 (1 + x1).toNat).toNat) (I 171 (17 + t)).toNat + I (c + 14 + (I 171 (17 + t)).toNat) r ≤ I 167 3) := by
          rw [← hW]
          unfold worF
          rw [hR0, q1, q2]
        have hcs : cnF W (t * R + ((r : Int) + 1).toNat) = cnF W (t * R + r) + (if W (t * R + r) = true then 1 else 0) := by
          rw [show t * R + ((r : Int) + 1).toNat = (t * R + r) + 1 by omega]
          rfl
        have hd1 := hci.2.2.2 (I 171 (1 + x1).toNat).toNat (I 171 (17 + t)).toNat (by omega) (by omega)
        have hd2 := hci.2.2.2 (I 171 (17 + t)).toNat r (by omega) (by omega)
        have r1 : 0 ≤ I (c + 14 + (I 171 (1 + x1).toNat).toNat) (I 171 (17 + t)).toNat ∧ I (c + 14 + (I 171 (1 + x1).toNat).toNat) (I 171 (17 + t)).toNat ≤ 1000 := by
          rcases hd1 with ⟨n, hn, hn6, -⟩ | ⟨hn, -⟩ <;> omega
        have r2 : 0 ≤ I (c + 14 + (I 171 (17 + t)).toNat) r ∧ I (c + 14 + (I 171 (17 + t)).toNat) r ≤ 1000 := by
          rcases hd2 with ⟨n, hn, hn6, -⟩ | ⟨hn, -⟩ <;> omega
        refine b_X_worth_35 h2 hc (by omega) (fun h => by omega) (fun h => ?_)
        refine b_X_worth_47 (by omega) (fun h => ?_) (fun h => ?_)
        · refine b_X_worth_87 ?_
          refine ih2 _ ⟨by omega, ?_⟩
          rw [hcs, wf, if_neg (by simp only [decide_eq_true_eq]; omega), Int.toNat_natCast]
          omega
        · refine b_X_worth_54 h2 hc (by omega) ?_
          rw [p1]
          refine b_City_stepsToCarry_0 hc (by omega) ?_
          rw [Int.toNat_natCast]
          refine b_X_worth_74 h2 hc (by omega) (fun h' => ?_) (fun h' => ?_)
          · refine b_X_worth_87 ?_
            refine ih2 _ ⟨by omega, ?_⟩
            rw [hcs, wf, if_neg (by simp only [decide_eq_true_eq]; omega)]
            omega
          · refine b_X_worth_84 ?_
            refine b_X_worth_87 ?_
            refine ih2 _ ⟨by omega, ?_⟩
            rw [hcs, wf, if_pos (by simp only [decide_eq_true_eq]; omega)]
      · intro u hu
        obtain ⟨-, rfl⟩ := hu
        refine b_X_worth_35 h2 hc (by omega) (fun h => ?_) (fun h => by omega)
        refine b_X_worth_93 ?_
        refine ih _ _ _ ⟨by omega, ?_⟩
        rw [hR0, show ((t : Int) + 1).toNat = t + 1 by omega, Nat.add_mul, Nat.one_mul]
    · intro u a b hu
      obtain ⟨-, rfl⟩ := hu
      refine b_X_worth_14 h2 hc (by omega) (fun h => ?_) (fun h => by omega)
      rw [hR0] at hk
      exact b_X_worth_99 hk
  · refine b_X_worth_8 ?_
    exact k0 (by omega)
theorem g_worth (h : Rel I) (hz : -2147483648 ≤ x1 ∧ x1 < 2147483648) : Two L d md_X_worth md_M_worth [.inl x1] I := by
  obtain ⟨hm, c, e, hx⟩ := id h
  have hr := hm.1
  unfold mRng at hr
  refine c_X_worth hm hx hz (fun q => ?_) (fun q => ?_)
  · exact ⟨_, rfl, c_M_worth hm hz (fun _ => ⟨rfl, h, rfl⟩) (fun p => absurd p q)⟩
  · refine ⟨_, rfl, c_M_worth hm hz (fun p => absurd q p) (fun _ g hg => ⟨?_, rel_scr h (fun a a0 a1 a2 => st_a (by omega)) (fun k hk => by rw [st_a (by decide)])⟩)⟩
    obtain ⟨-, p4, p5⟩ := mo_pe hm hx.2.2.2.2.2.1 q.1 q.2
    refine congrArg (fun z => some (Sum.inl z)) (cnF_congr (fun i hi => ?_))
    have hRp : 0 < (I 167 0).toNat := by omega
    have d1 : i / (I 167 0).toNat < (I 167 5).toNat := (Nat.div_lt_iff_lt_mul hRp).2 hi
    have d2 : i % (I 167 0).toNat < (I 167 0).toNat := Nat.mod_lt _ hRp
    unfold worF
    generalize i / (I 167 0).toNat = t at *
    generalize i % (I 167 0).toNat = r at *
    have hth := (nw_sp hm (t := (t : Int)) (by omega) (by omega)).2.2
    rw [show (17 + (t : Int)).toNat = 17 + t by omega] at hth
    have f1 := far_x hm hx.2.2.2.1 p4 hth (w := g (6 * (I 171 (1 + x1).toNat).toNat + (I 171 (17 + t)).toNat)) (hg _ _ (by omega) (by omega))
    have f2 := far_x hm hx.2.2.2.1 (s := (r : Int)) hth (by omega) (w := g (6 * (I 171 (17 + t)).toNat + r)) (by rw [Int.toNat_natCast]; exact hg _ r (by omega) (by omega))
    rw [Int.toNat_natCast] at f2
    have : (g (6 * (I 171 (1 + x1).toNat).toNat + (I 171 (17 + t)).toNat) + g (6 * (I 171 (17 + t)).toNat + r) ≤ I 167 3) ↔ (I (c + 14 + (I 171 (1 + x1).toNat).toNat) (I 171 (17 + t)).toNat + I (c + 14 + (I 171 (17 + t)).toNat) r ≤ I 167 3) := by omega
    simp only [this]
end WORTH
