/-! ===== the model: a second goes by; rates ===== -/
section MSEC
variable {L d : Nat} {I : jm_I} {K : Option jm_V → jm_I → Prop} {x0 x1 x2 x3 : Int}
/-- moved on by a second, the things below t -/
def secT (I : jm_I) (t : Int) (f : Nat → Int) : Nat → Int := fun k => if 17 ≤ k ∧ k < 22 ∧ (k : Int) - 17 < t ∧ I 171 (k + 5) ≠ -9 then I 170 (4 * (k - 17) + ((I 171 (k + 5) + 1) % I 169 (k - 17)).toNat) else if 22 ≤ k ∧ k < 27 ∧ (k : Int) - 22 < t ∧ I 171 k ≠ -9 then (I 171 k + 1) % I 169 (k - 22) else f k
def secA (I : jm_I) (x : Int) : Nat → Int := fun k => if k = 0 then I 171 0 + 1 else if 11 ≤ k ∧ (k : Int) < 11 + x then -9 else I 171 k
def secB (I : jm_I) : Nat → Int := fun k => if k = 16 then (if (I 171 0 + 1) % 20 = 0 then 0 else I 171 16) else secA I 5 k
def secF (I : jm_I) : jm_I := st_ (remF I) 171 (secT I (I 167 5) (secB I))
theorem secB_t (k : Nat) (h : 17 ≤ k) (h2 : k < 27) : secB I k = I 171 k := by
  unfold secB secA
  rw [if_neg (by omega), if_neg (by omega), if_neg (by omega)]
theorem c_M_second (hz : (0 ≤ I 167 5 ∧ I 167 5 ≤ 5) ∧ (0 ≤ I 167 10 ∧ I 167 10 ≤ 10) ∧ (0 ≤ I 171 0 ∧ I 171 0 ≤ 9999)) (ht : ∀ t : Nat, (t : Int) < I 167 5 → (1 ≤ I 169 t ∧ I 169 t ≤ 4) ∧ (-9 ≤ I 171 (22 + t) ∧ I 171 (22 + t) < 4 ∧ (I 171 (22 + t) ≠ -9 → 0 ≤ I 171 (22 + t)))) (k0 : I 171 0 = 9999 → K (some (.inl (-2))) I) (k : ¬ I 171 0 = 9999 → K (some (.inl (I 171 0 + 1))) (secF I)) : Cx (jx_0 L) (d + 1) md_M_second [.inr (.inl 167)] I K := by
  refine b_M_second_0 (by omega) (fun h1 => ?_) (fun h1 => ?_)
  · have hk := k h1
    have r171 : remF I 171 = I 171 := rem_a (by decide) (by decide)
    have r169 : remF I 169 = I 169 := rem_a (by decide) (by decide)
    have r170 : remF I 170 = I 170 := rem_a (by decide) (by decide)
    have r5 : remF I 167 5 = I 167 5 := rem_f (by decide)
    refine b_M_second_15 (c_M_remembers (by omega) ?_)
    refine b_M_second_19 ?_
    rw [r171]
    refine lp_up (σ := jm_I) (Inv := fun x A => 0 ≤ x ∧ A = st_ (remF I) 171 (secA I x)) (G := fun x A => Gx (jx_0 L) (d + 1) md_M_second 31 [some (.inr (.inl 167)), some (.inl x)] [] A K) 5 ?_ ?_ 0 _ (by omega) ⟨by omega, ?_⟩
    · intro x A hx hA ih
      obtain ⟨h0, rfl⟩ := hA
      refine b_M_second_31 (by omega) (fun h => by omega) (fun h => ?_)
      refine b_M_second_36 (by omega) ?_
      refine ih _ ⟨by omega, st_step (fun k => ?_)⟩
      unfold secA
      (repeat' split) <;> first | rfl | omega
    · intro A hA
      obtain ⟨-, rfl⟩ := hA
      have s0 : st_ (remF I) 171 (secA I 5) 171 0 = I 171 0 + 1 := by rw [st_s]; rfl
      have s16 : st_ (remF I) 171 (secA I 5) 171 16 = I 171 16 := by rw [st_s]; unfold secA; rw [if_neg (by omega), if_neg (by omega)]
      have key : ∀ v, v = (if (I 171 0 + 1) % 20 = 0 then 0 else I 171 16) → Gx (jx_0 L) (d + 1) md_M_second 82 [some (.inr (.inl 167)), some (.inl 5)] [.inl v, .inl 16, .inr (.inl 171)] (st_ (remF I) 171 (secA I 5)) K := by
        intro v hv
        refine b_M_second_82 (by omega) ?_
        have e1 : jm_up (st_ (remF I) 171 (secA I 5)) 171 (16 : Int).toNat v = st_ (remF I) 171 (secB I) := st_step (fun k => by
          unfold secB
          by_cases e : k = 16
          · subst e; simp [hv]
          · rw [if_neg (by simpa using e), if_neg e])
        rw [e1]
        refine lp_up (σ := jm_I) (Inv := fun x A => 0 ≤ x ∧ A = st_ (remF I) 171 (secT I x (secB I))) (G := fun x A => Gx (jx_0 L) (d + 1) md_M_second 85 [some (.inr (.inl 167)), some (.inl x)] [] A K) (I 167 5) ?_ ?_ 0 _ (by omega) ⟨by omega, ?_⟩
        · intro x A hx hA ih
          obtain ⟨h0, rfl⟩ := hA
          obtain ⟨t, rfl⟩ : ∃ t : Nat, x = t := ⟨x.toNat, by omega⟩
          obtain ⟨ht1, ht2, ht3, ht4⟩ := ht t hx
          have f5 : st_ (remF I) 171 (secT I (t : Int) (secB I)) 167 5 = I 167 5 := by rw [st_a (by decide), r5]
          have g22 : secT I (t : Int) (secB I) (22 + t) = I 171 (22 + t) := by
            unfold secT
            rw [if_neg (by omega), if_neg (by omega), secB_t _ (by omega) (by omega)]
          have f22 : st_ (remF I) 171 (secT I (t : Int) (secB I)) 171 (22 + (t : Int)).toNat = I 171 (22 + t) := by
            rw [show (22 + (t : Int)).toNat = 22 + t by omega, st_s, g22]
          have f169 : st_ (remF I) 171 (secT I (t : Int) (secB I)) 169 (t : Int).toNat = I 169 t := by rw [st_a (by decide), r169, Int.toNat_natCast]
          refine b_M_second_85 (by rw [f5]; omega) (fun h => by rw [f5] at h; omega) (fun h => ?_)
          refine b_M_second_93 (by rw [f22]; omega) (fun h => ?_) (fun h => ?_)
          · rw [f22] at h
            refine b_M_second_161 ?_
            refine ih _ ⟨by omega, congrArg (st_ (remF I) 171) (funext fun k => ?_)⟩
            unfold secT
            by_cases e1 : k = 17 + t
            · subst e1
              rw [if_neg (by omega), if_neg (by omega), if_neg (by rw [show 17 + t + 5 = 22 + t by omega]; omega), if_neg (by omega)]
            · by_cases e2 : k = 22 + t
              · subst e2
                rw [if_neg (by omega), if_neg (by omega), if_neg (by omega), if_neg (by omega)]
              · (repeat' split) <;> first | rfl | omega
          · rw [f22] at h
            have hm1 := Int.emod_nonneg (I 171 (22 + t) + 1) (show I 169 t ≠ 0 by omega)
            have hm2 := Int.emod_lt_of_pos (I 171 (22 + t) + 1) (show 0 < I 169 t by omega)
            refine b_M_second_107 (by rw [f22, f169, up_s]; omega) ?_
            rw [f22, f169, up_s]
            refine b_M_second_161 ?_
            refine ih _ ⟨by omega, ?_⟩
            rw [st_up, st_up]
            refine congrArg (st_ (remF I) 171) (funext fun k => ?_)
            rw [st_a (show (170 : Nat) ≠ 171 by decide), r170, show (17 + (t : Int)).toNat = 17 + t by omega, show (22 + (t : Int)).toNat = 22 + t by omega]
            unfold secT
            by_cases e1 : k = 17 + t
            · subst e1
              rw [if_pos rfl, if_pos (by rw [show 17 + t + 5 = 22 + t by omega]; omega), show 17 + t + 5 = 22 + t by omega, show 17 + t - 17 = t by omega]
              congr 1
              omega
            · rw [if_neg e1]
              by_cases e2 : k = 22 + t
              · subst e2
                rw [if_pos rfl, if_neg (by omega), if_pos (by omega), show 22 + t - 22 = t by omega]
              · rw [if_neg e2]
                (repeat' split) <;> first | rfl | omega
        · intro A hA
          obtain ⟨-, rfl⟩ := hA
          have f5 : st_ (remF I) 171 (secT I (I 167 5) (secB I)) 167 5 = I 167 5 := by rw [st_a (by decide), r5]
          refine b_M_second_85 (by rw [f5]; omega) (fun h => ?_) (fun h => by rw [f5] at h; omega)
          refine b_M_second_167 ?_
          refine cv_ ?_ hk
          rw [st_s]
          rfl
        · refine congrArg (st_ (remF I) 171) (funext fun k => ?_)
          unfold secT
          rw [if_neg (by omega), if_neg (by omega)]
      refine b_M_second_31 (by omega) (fun h => ?_) (fun h => by omega)
      refine b_M_second_53 (by rw [s0]; omega) (fun h => ?_) (fun h => ?_)
      · rw [s0] at h
        refine b_M_second_75 ?_
        rw [s16]
        exact key _ (by rw [if_neg h])
      · rw [s0] at h
        refine b_M_second_71 ?_
        exact key _ (by rw [if_pos h])
    · rw [up_st]
      rw [r171]
      refine congrArg (st_ (remF I) 171) (funext fun k => ?_)
      unfold secA
      (repeat' split) <;> first | rfl | omega
  · refine b_M_second_12 ?_
    exact k0 h1
/-- rates: what is added to the trace, and the answer -/
def ratW (kind : Int) : Int := if kind = 0 then 1 else if kind = 1 then 11 else if kind = 2 then 101 else if kind = 3 then 1011 else if kind = 4 then 10101 else 100001
def ratN (I : jm_I) (p : Int) : Int := cnF (fun t => decide (I 171 (17 + t) = I 171 (1 + p).toNat)) (I 167 5).toNat
def ratV (I : jm_I) (kind p : Int) : Int := if kind = 0 then I 171 (6 + p).toNat else if kind = 1 then I 171 (6 + p).toNat + I 171 (1 + p).toNat else if kind = 2 then I 171 (6 + p).toNat - ratN I p else if kind = 3 then 2 * (I 171 (6 + p).toNat + I 171 (1 + p).toNat) else if kind = 4 then I 171 (6 + p).toNat - ratN I p + p else I 171 (6 + p).toNat + (if I 171 (11 + p).toNat = -9 then 0 else I 171 (11 + p).toNat)
theorem upup {a k : Nat} {v w : Int} : jm_up (jm_up I a k v) a k w = jm_up I a k w := by
  funext b j
  by_cases h : b = a ∧ j = k
  · simp [jm_up, h]
  · simp only [jm_up, if_neg h]
theorem c_M_personRate (hz : 0 ≤ x1 ∧ x1 < 5) (k : K (some (.inl (I 171 (6 + x1).toNat))) (jm_up I 167 15 (I 167 15 + 1))) : Cx (jx_0 L) d md_M_personRate [.inr (.inl 167), .inl x1] I K := by
  refine b_M_personRate_0 (by omega) ?_
  exact k
theorem c_M_barberRate (hz : 0 ≤ x1 ∧ x1 < 5) (k : K (some (.inl (I 171 (6 + x1).toNat + I 171 (1 + x1).toNat))) (jm_up I 167 15 (I 167 15 + 11))) : Cx (jx_0 L) (d + 1) md_M_barberRate [.inr (.inl 167), .inl x1] I K := by
  refine b_M_barberRate_0 (c_M_personRate hz ?_)
  refine b_M_barberRate_17 (by omega) ?_
  rw [upup, up_s, Int.add_assoc]
  exact k
theorem c_M_thiefRate (hz : (0 ≤ x1 ∧ x1 < 5) ∧ (0 ≤ I 167 5 ∧ I 167 5 ≤ 5) ∧ (0 ≤ I 171 (1 + x1).toNat ∧ I 171 (1 + x1).toNat < 6)) (ht : ∀ t : Nat, (t : Int) < I 167 5 → 0 ≤ I 171 (17 + t) ∧ I 171 (17 + t) < 6) (k : K (some (.inl (I 171 (6 + x1).toNat - ratN I x1))) (jm_up I 167 15 (I 167 15 + 101))) : Cx (jx_0 L) (d + 1) md_M_thiefRate [.inr (.inl 167), .inl x1] I K := by
  refine b_M_thiefRate_0 ?_
  have u5 : jm_up I 167 15 (I 167 15 + 100) 167 5 = I 167 5 := up_k (by decide)
  have u1 : ∀ q, jm_up I 167 15 (I 167 15 + 100) 171 q = I 171 q := fun q => up_a (by decide)
  refine lp_up (σ := Int) (Inv := fun x n => 0 ≤ x ∧ n = cnF (fun t => decide (I 171 (17 + t) = I 171 (1 + x1).toNat)) x.toNat) (G := fun x n => Gx (jx_0 L) (d + 1) md_M_thiefRate 16 [some (.inr (.inl 167)), some (.inl x1), some (.inl n), some (.inl x)] [] (jm_up I 167 15 (I 167 15 + 100)) K) (I 167 5) ?_ ?_ 0 0 (by omega) ⟨by omega, rfl⟩
  · intro x n hx hn ih
    obtain ⟨h0, rfl⟩ := hn
    obtain ⟨t, rfl⟩ : ∃ t : Nat, x = t := ⟨x.toNat, by omega⟩
    have h1 := ht t hx
    have e17 : (17 + (t : Int)).toNat = 17 + t := by omega
    refine b_M_thiefRate_16 (by rw [u5]; omega) (fun h => by rw [u5] at h; omega) (fun h => ?_)
    refine b_M_thiefRate_24 (by rw [u1, u1, e17]; omega) (fun h => ?_) (fun h => ?_)
    · rw [u1, u1, e17] at h
      refine b_M_thiefRate_49 ?_
      refine b_M_thiefRate_50 ?_
      refine ih _ ⟨by omega, ?_⟩
      rw [show ((t : Int) + 1).toNat = t + 1 by omega, Int.toNat_natCast]
      simp [cnF, h]
    · rw [u1, u1, e17] at h
      refine b_M_thiefRate_45 ?_
      refine b_M_thiefRate_50 ?_
      refine ih _ ⟨by omega, ?_⟩
      rw [show ((t : Int) + 1).toNat = t + 1 by omega, Int.toNat_natCast]
      simp [cnF, h]
  · intro n hn
    obtain ⟨-, rfl⟩ := hn
    refine b_M_thiefRate_16 (by rw [u5]; omega) (fun h => ?_) (fun h => by rw [u5] at h; omega)
    refine b_M_thiefRate_58 (c_M_personRate (by omega) ?_)
    refine b_M_thiefRate_63 ?_
    rw [upup, up_s, u1, Int.add_assoc]
    exact k
theorem c_M_rate (hz : (0 ≤ I 167 4 ∧ I 167 4 ≤ 5) ∧ (0 ≤ I 167 5 ∧ I 167 5 ≤ 5) ∧ (-2147483648 ≤ x1 ∧ x1 < 2147483648) ∧ (-2147483648 ≤ x2 ∧ x2 < 2147483648)) (hp : 0 ≤ x2 ∧ x2 < I 167 4 → (0 ≤ I 171 (1 + x2).toNat ∧ I 171 (1 + x2).toNat < 6) ∧ (-9 ≤ I 171 (11 + x2).toNat ∧ I 171 (11 + x2).toNat < 100)) (ht : ∀ t : Nat, (t : Int) < I 167 5 → 0 ≤ I 171 (17 + t) ∧ I 171 (17 + t) < 6) (k0 : ¬ (0 ≤ x1 ∧ x1 ≤ 5 ∧ 0 ≤ x2 ∧ x2 < I 167 4) → K (some (.inl (-1000000))) I) (k : 0 ≤ x1 ∧ x1 ≤ 5 ∧ 0 ≤ x2 ∧ x2 < I 167 4 → K (some (.inl (ratV I x1 x2))) (jm_up I 167 15 (I 167 15 + ratW x1))) : Cx (jx_0 L) (d + 2) md_M_rate [.inr (.inl 167), .inl x1, .inl x2] I K := by
  refine b_M_rate_0 (c_M_in (by omega) (fun v hv => ?_))
  refine b_M_rate_6 (by omega) (fun h1 => ?_) (fun h1 => ?_)
  · refine b_M_rate_17 ?_
    exact k0 (by omega)
  · refine b_M_rate_9 (c_M_isPerson (by omega) (fun w hw => ?_))
    refine b_M_rate_14 (by omega) (fun h2 => ?_) (fun h2 => ?_)
    · have hk := k (by omega)
      have hp := hp (by omega)
      have u1 : ∀ q v, jm_up I 167 15 v 171 q = I 171 q := fun q v => up_a (by decide)
      have u5 : ∀ v, jm_up I 167 15 v 167 5 = I 167 5 := fun v => up_k (by decide)
      have uN : ∀ v, ratN (jm_up I 167 15 v) x2 = ratN I x2 := fun v => by unfold ratN; simp only [u1, u5]
      refine b_M_rate_20 (by omega) (fun h3 => ?_) (fun h3 => ?_) (fun h3 => ?_) (fun h3 => ?_) (fun h3 => ?_) (fun h3 => ?_)
      · refine b_M_rate_56 (c_M_personRate (by omega) ?_)
        refine b_M_rate_61 ?_
        subst h3
        exact hk
      · refine b_M_rate_62 (c_M_barberRate (by omega) ?_)
        refine b_M_rate_67 ?_
        subst h3
        exact hk
      · refine b_M_rate_68 (c_M_thiefRate (by omega) ht ?_)
        refine b_M_rate_73 ?_
        subst h3
        exact hk
      · refine b_M_rate_74 (c_M_barberRate (by omega) ?_)
        refine b_M_rate_92 ?_
        rw [upup, up_s, u1, u1, Int.add_assoc]
        subst h3
        exact hk
      · refine b_M_rate_94 (c_M_thiefRate (by rw [u1, u5]; omega) (fun t h => by rw [u5] at h; rw [u1]; exact ht t h) ?_)
        refine b_M_rate_111 ?_
        rw [upup, up_s, u1, uN, Int.add_assoc]
        subst h3
        exact hk
      · have h5 : x1 = 5 := by omega
        subst h5
        refine b_M_rate_114 (c_M_personRate (by omega) ?_)
        rw [upup, up_s, u1, Int.add_assoc]
        refine b_M_rate_131 (by rw [u1]; omega) (fun h4 => ?_) (fun h4 => ?_)
        · rw [u1] at h4
          refine b_M_rate_149 (by omega) ?_
          refine b_M_rate_158 ?_
          rw [u1]
          refine cv_ ?_ hk
          unfold ratV
          simp [h4]
        · rw [u1] at h4
          refine b_M_rate_145 ?_
          refine b_M_rate_158 ?_
          refine cv_ ?_ hk
          unfold ratV
          simp [h4]
    · refine b_M_rate_17 ?_
      exact k0 (by omega)
end MSEC
