/-! ===== odds: numbers ===== -/
def pwF (x : Int) : Nat → Int
  | 0 => 1
  | n + 1 => pwF x n * x
def chF (n k : Int) : Nat → Int
  | 0 => 1
  | i + 1 => chF n k i * (n - k + ((i : Int) + 1)) / ((i : Int) + 1)
def euF : Nat → Int → Int → Int
  | 0, a, _ => a
  | f + 1, a, b => if b = 0 then a else euF f b (a % b)
def euZ : Nat → Int → Int → Bool
  | 0, _, b => decide (b = 0)
  | f + 1, a, b => if b = 0 then true else euZ f b (a % b)
theorem euZ_f : ∀ (f j : Nat) (a b : Int), euZ f a b = true → euF (f + j) a b = euF f a b
  | 0, j, a, b, h => by
    have hb : b = 0 := by simpa [euZ] using h
    cases j with
    | zero => rfl
    | succ j => show (if b = 0 then a else _) = a; rw [if_pos hb]
  | f + 1, j, a, b, h => by
    rw [show f + 1 + j = (f + j) + 1 by omega]
    simp only [euF, euZ] at *
    by_cases hb : b = 0
    · rw [if_pos hb, if_pos hb]
    · rw [if_neg hb] at h
      rw [if_neg hb, if_neg hb]
      exact euZ_f f j b (a % b) h
def odP (x : Int) (w : Nat) (k : Int) : Nat → Int
  | 0 => if bcF (w : Int) = k then 1 else 0
  | j + 1 => odP x w k j * (if jb_and (jb_shr (w : Int) (j : Int)) 1 = 1 then x else 10 - x)
def odS (x k : Int) (n : Nat) : Nat → Int
  | 0 => 0
  | w + 1 => odS x k n w + odP x w k n
def odU (n : Nat) (x k : Int) : Int := if k ≤ (n : Int) then chF n k k.toNat * pwF x k.toNat * pwF (10 - x) ((n : Int) - k).toNat else 0
theorem od_tab : ∀ n : Fin 6, ∀ x : Fin 11, ∀ k : Fin 6, odS (x.1 : Int) (k.1 : Int) n.1 (2 ^ n.1) = odU n.1 x.1 k.1 ∧ (0 ≤ odU n.1 x.1 k.1 ∧ odU n.1 x.1 k.1 ≤ 100000) ∧ euZ 60 (odU n.1 x.1 k.1) (pwF 10 n.1) = true ∧ (0 < euF 60 (odU n.1 x.1 k.1) (pwF 10 n.1) ∧ euF 60 (odU n.1 x.1 k.1) (pwF 10 n.1) ≤ 100000) := by decide +kernel
theorem pw_tab : ∀ n : Fin 6, 1 ≤ pwF 10 n.1 ∧ pwF 10 n.1 ≤ 100000 := by decide +kernel
theorem ch_tab : ∀ n : Fin 6, ∀ k : Fin 6, ∀ i : Fin 6, k.1 ≤ n.1 → 0 ≤ chF (n.1 : Int) (k.1 : Int) i.1 * ((n.1 : Int) - (k.1 : Int) + ((i.1 : Int) + 1)) ∧ chF (n.1 : Int) (k.1 : Int) i.1 * ((n.1 : Int) - (k.1 : Int) + ((i.1 : Int) + 1)) < 100000 := by decide +kernel
theorem rs_tab : ∀ np : Fin 6, ∀ pr : Fin 32, (0 ≤ jb_and (jb_shl 1 (np.1 : Int) - 1) (jb_xor (pr.1 : Int) (-1)) ∧ jb_and (jb_shl 1 (np.1 : Int) - 1) (jb_xor (pr.1 : Int) (-1)) < 32) := by decide +kernel
theorem bc5_tab : ∀ x : Fin 32, 0 ≤ bcF (x.1 : Int) ∧ bcF (x.1 : Int) ≤ 5 := by decide +kernel
theorem rs_r {I : jm_I} (hm : mOk I) : (0 ≤ rsF I ∧ rsF I < 32) ∧ (0 ≤ bcF (rsF I) ∧ bcF (rsF I) ≤ 5) := by
  have hr := hm.1
  unfold mRng at hr
  have hs := hm.2.2.2.1.2.1
  have h1 : 0 ≤ rsF I ∧ rsF I < 32 := by
    have := rs_tab ⟨(I 167 4).toNat, by omega⟩ ⟨(I 171 16).toNat, by omega⟩
    unfold rsF
    rw [show (((I 167 4).toNat : Nat) : Int) = I 167 4 by omega, show (((I 171 16).toNat : Nat) : Int) = I 171 16 by omega] at this
    exact this
  refine ⟨h1, ?_⟩
  have := bc5_tab ⟨(rsF I).toNat, by omega⟩
  rw [show (((rsF I).toNat : Nat) : Int) = rsF I by omega] at this
  exact this
section ODDS
variable {L d : Nat} {I : jm_I} {K : Option jm_V → jm_I → Prop} {x0 x1 x2 x3 x4 : Int} {c e : Nat}
theorem c_X_power (hz : 0 ≤ x1 ∧ x1 ≤ 10) (k : K (some (.inl (pwF x0 x1.toNat))) I) : Cx (jx_0 L) d md_X_power [.inl x0, .inl x1] I K := by
  refine b_X_power_0 ?_
  refine lp_up (σ := Int) (Inv := fun x u => 0 ≤ x ∧ u = pwF x0 x.toNat) (G := fun x u => Gx (jx_0 L) d md_X_power 4 [some (.inl x0), some (.inl x1), some (.inl u), some (.inl x)] [] I K) x1 ?_ ?_ 0 1 (by omega) ⟨by omega, rfl⟩
  · intro x u hx hu ih
    obtain ⟨h0, rfl⟩ := hu
    refine b_X_power_4 (by omega) (fun h => by omega) (fun h => ?_)
    refine b_X_power_9 ?_
    refine ih _ ⟨by omega, ?_⟩
    rw [show (x + 1).toNat = x.toNat + 1 by omega]
    rfl
  · intro u hu
    obtain ⟨-, rfl⟩ := hu
    refine b_X_power_4 (by omega) (fun h => ?_) (fun h => by omega)
    exact b_X_power_19 k
theorem c_X_choose (hz : (0 ≤ x0 ∧ x0 ≤ 5) ∧ (0 ≤ x1 ∧ x1 ≤ x0)) (k : K (some (.inl (chF x0 x1 x1.toNat))) I) : Cx (jx_0 L) d md_X_choose [.inl x0, .inl x1] I K := by
  refine b_X_choose_0 ?_
  refine lp_up (σ := Int) (Inv := fun x u => 1 ≤ x ∧ u = chF x0 x1 (x - 1).toNat) (G := fun x u => Gx (jx_0 L) d md_X_choose 4 [some (.inl x0), some (.inl x1), some (.inl u), some (.inl x)] [] I K) (x1 + 1) ?_ ?_ 1 1 (by omega) ⟨by omega, rfl⟩
  · intro x u hx hu ih
    obtain ⟨h0, rfl⟩ := hu
    have ht := ch_tab ⟨x0.toNat, by omega⟩ ⟨x1.toNat, by omega⟩ ⟨(x - 1).toNat, by omega⟩ (show x1.toNat ≤ x0.toNat by omega)
    rw [show ((x0.toNat : Nat) : Int) = x0 by omega, show ((x1.toNat : Nat) : Int) = x1 by omega, show (((x - 1).toNat : Nat) : Int) + 1 = x by omega] at ht
    refine b_X_choose_4 (by omega) (fun h => by omega) (fun h => ?_)
    refine b_X_choose_9 ⟨⟨ht.1, Int.lt_trans ht.2 (by decide)⟩, by omega⟩ ?_
    refine ih _ ⟨by omega, ?_⟩
    rw [show (x + 1 - 1).toNat = (x - 1).toNat + 1 by omega]
    simp only [chF]
    rw [show (((x - 1).toNat : Nat) : Int) + 1 = x by omega]
  · intro u hu
    obtain ⟨-, rfl⟩ := hu
    refine b_X_choose_4 (by omega) (fun h => ?_) (fun h => by omega)
    rw [show x1 + 1 - 1 = x1 by omega]
    exact b_X_choose_25 k
theorem c_X_greatestCommonDivisor (hz : (0 ≤ x0 ∧ x0 ≤ 100000) ∧ (0 ≤ x1 ∧ x1 ≤ 100000)) (k : K (some (.inl (euF 100 x0 x1))) I) : Cx (jx_0 L) d md_X_greatestCommonDivisor [.inl x0, .inl x1] I K := by
  refine b_X_greatestCommonDivisor_0 ?_
  obtain ⟨z, hzz⟩ : ∃ z, euF 100 x0 x1 = z := ⟨_, rfl⟩
  rw [hzz] at k
  have key : ∀ (f : Nat) (a b : Int) (o : Option jm_V), f ≤ 100 → (0 ≤ a ∧ a ≤ 100000) → (0 ≤ b ∧ b ≤ 100000) → euF f a b = z → Gx (jx_0 L) d md_X_greatestCommonDivisor 7 [some (.inl x0), some (.inl x1), some (.inl a), some (.inl b), some (.inl (100 - (f : Int))), o] [] I K := by
    intro f
    induction f with
    | zero =>
      intro a b o h1 h2 h3 h4
      refine b_X_greatestCommonDivisor_7 (by omega) (fun h => ?_) (fun h => by omega)
      exact b_X_greatestCommonDivisor_34 (cv_ h4 k)
    | succ f ih =>
      intro a b o h1 h2 h3 h4
      have h4 : (if b = 0 then a else euF f b (a % b)) = z := h4
      refine b_X_greatestCommonDivisor_7 (by omega) (fun h => by omega) (fun h => ?_)
      refine b_X_greatestCommonDivisor_14 (by omega) (fun h => ?_) (fun h => ?_)
      · rw [if_pos h] at h4
        exact b_X_greatestCommonDivisor_34 (cv_ h4 k)
      · rw [if_neg h] at h4
        have c1 := Int.emod_nonneg a (show b ≠ 0 by omega)
        have c2 := Int.emod_lt_of_pos a (show 0 < b by omega)
        refine b_X_greatestCommonDivisor_18 (by omega) ?_
        rw [show (100 - ((f + 1 : Nat) : Int)) + 1 = 100 - (f : Int) by omega]
        exact ih b (a % b) _ (by omega) (by omega) (by omega) h4
  have := key 100 x0 x1 none (by omega) hz.1 hz.2 hzz
  exact this
end ODDS
