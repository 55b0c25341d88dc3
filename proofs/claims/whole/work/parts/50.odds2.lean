/-! ===== odds: both sides ===== -/
def odOk (x k w : Int) : Prop := (0 ≤ x ∧ x ≤ 10) ∧ (0 ≤ k ∧ k ≤ 5) ∧ (0 ≤ w ∧ w ≤ 1)
def odA (n : Nat) (x k w : Int) : Int := (if w = 0 then odU n x k else pwF 10 n) / euF 60 (odU n x k) (pwF 10 n)
theorem od_of {n : Nat} {x k : Int} (hn : n ≤ 5) (hx : 0 ≤ x ∧ x ≤ 10) (hk : 0 ≤ k ∧ k ≤ 5) : odS x k n (2 ^ n) = odU n x k ∧ (0 ≤ odU n x k ∧ odU n x k ≤ 100000) ∧ euZ 60 (odU n x k) (pwF 10 n) = true ∧ (0 < euF 60 (odU n x k) (pwF 10 n) ∧ euF 60 (odU n x k) (pwF 10 n) ≤ 100000) := by
  have := od_tab ⟨n, by omega⟩ ⟨x.toNat, by omega⟩ ⟨k.toNat, by omega⟩
  rw [show ((x.toNat : Nat) : Int) = x by omega, show ((k.toNat : Nat) : Int) = k by omega] at this
  exact this
section ODDS2
variable {L d : Nat} {I : jm_I} {K : Option jm_V → jm_I → Prop} {x0 x1 x2 x3 x4 : Int} {c e : Nat}
theorem c_X_odds (hm : mOk I) (hx : xRel I c e) (hz : (-2147483648 ≤ x1 ∧ x1 < 2147483648) ∧ (-2147483648 ≤ x2 ∧ x2 < 2147483648) ∧ (-2147483648 ≤ x3 ∧ x3 < 2147483648)) (k0 : ¬ odOk x1 x2 x3 → K (some (.inl (-1))) I) (k : odOk x1 x2 x3 → K (some (.inl (odA (bcF (rsF I)).toNat x1 x2 x3))) I) : Cx (jx_0 L) (d + 2) md_X_odds [.inr (.inl 1), .inl x1, .inl x2, .inl x3] I K := by
  obtain ⟨h1, h2, h3, hci, -, hmo, -⟩ := hx
  obtain ⟨hc, -⟩ := ct_of (L := L) h1
  obtain ⟨c0, c1, c2, c3, c4⟩ := hci.1
  have u : odOk x1 x2 x3 ↔ (0 ≤ x1 ∧ x1 ≤ 10) ∧ (0 ≤ x2 ∧ x2 ≤ 5) ∧ (0 ≤ x3 ∧ x3 ≤ 1) := Iff.rfl
  obtain ⟨rs1, rs2⟩ := rs_r hm
  refine b_X_odds_0 (c_X_within (by omega) (fun v1 hv1 => ?_))
  refine b_X_odds_7 (by omega) (fun hb2 => ?_) (fun hb2 => ?_)
  · refine b_X_odds_28 ?_
    exact k0 (by rw [u]; omega)
  · refine b_X_odds_10 (c_X_within (by omega) (fun v3 hv3 => ?_))
    refine b_X_odds_16 (by omega) (fun hb4 => ?_) (fun hb4 => ?_)
    · refine b_X_odds_28 ?_
      exact k0 (by rw [u]; omega)
    · refine b_X_odds_19 (c_X_within (by omega) (fun v5 hv5 => ?_))
      refine b_X_odds_25 (by omega) (fun hb6 => ?_) (fun hb6 => ?_)
      · have hk := k (by rw [u]; omega)
        obtain ⟨n, hn⟩ : ∃ n : Nat, bcF (rsF I) = n := ⟨(bcF (rsF I)).toNat, by omega⟩
        rw [hn, Int.toNat_natCast] at hk
        obtain ⟨-, t2, t3, t4⟩ := od_of (n := n) (x := x1) (k := x2) (by omega) (by omega) (by omega)
        have t5 := pw_tab ⟨n, by omega⟩
        have t5 : 1 ≤ pwF 10 n ∧ pwF 10 n ≤ 100000 := t5
        refine b_X_odds_30 h2 hc ?_
        refine b_Moment_rested_0 jx_m44 hc ?_
        rw [show jb_and (jb_shl 1 (I c 3) - 1) (jb_xor (I 44 1) (-1)) = rsF I by rw [c3, show I 44 1 = I 171 16 from hmo.2.1]; rfl]
        refine b_X_odds_41 (c_Integer_bitCount ?_)
        rw [hn]
        have fin : ∀ U, U = odU n x1 x2 → Gx (jx_0 L) (d + 2) md_X_odds 80 [some (.inr (.inl 1)), some (.inl x1), some (.inl x2), some (.inl x3), some (.inl (n : Int)), none, none, none, none] [.inl U] I K := by
          intro U hU
          rw [← hU] at t2 t3 t4
          refine b_X_odds_80 (c_X_power (by omega) ?_)
          rw [Int.toNat_natCast]
          refine b_X_odds_89 (c_X_greatestCommonDivisor (by omega) ?_)
          rw [show (100 : Nat) = 60 + 40 from rfl, euZ_f 60 40 U (pwF 10 n) t3]
          unfold odA at hk
          rw [← hU] at hk
          generalize euF 60 U (pwF 10 n) = E at *
          refine b_X_odds_98 (by omega) (fun h => ?_) (fun h => ?_)
          · rw [if_neg h] at hk
            refine b_X_odds_109 ?_
            refine b_X_odds_111 (by omega) (fun h' => ?_) (fun h' => by omega)
            refine b_X_odds_123 (by omega) ?_
            exact b_X_odds_128 hk
          · rw [if_pos h] at hk
            refine b_X_odds_104 ?_
            refine b_X_odds_111 (by omega) (fun h' => ?_) (fun h' => by omega)
            refine b_X_odds_123 (by omega) ?_
            exact b_X_odds_128 hk
        refine b_X_odds_44 (by omega) (fun h => ?_) (fun h => ?_)
        · refine b_X_odds_56 (c_X_choose (by omega) ?_)
          refine b_X_odds_62 (c_X_power (by omega) ?_)
          refine b_X_odds_67 (c_X_power (by omega) ?_)
          refine b_X_odds_79 ?_
          refine fin _ ?_
          unfold odU
          rw [if_pos h]
        · refine b_X_odds_52 ?_
          refine fin _ ?_
          unfold odU
          rw [if_neg h]
      · refine b_X_odds_28 ?_
        exact k0 (by rw [u]; omega)
theorem c_M_odds (hm : mOk I) (hz : (-2147483648 ≤ x1 ∧ x1 < 2147483648) ∧ (-2147483648 ≤ x2 ∧ x2 < 2147483648) ∧ (-2147483648 ≤ x3 ∧ x3 < 2147483648)) (k0 : ¬ odOk x1 x2 x3 → K (some (.inl (-1))) I) (k : odOk x1 x2 x3 → K (some (.inl (odA (bcF (rsF I)).toNat x1 x2 x3))) I) : Cx (jx_0 L) (d + 2) md_M_odds [.inr (.inl 167), .inl x1, .inl x2, .inl x3] I K := by
  have u : odOk x1 x2 x3 ↔ (0 ≤ x1 ∧ x1 ≤ 10) ∧ (0 ≤ x2 ∧ x2 ≤ 5) ∧ (0 ≤ x3 ∧ x3 ≤ 1) := Iff.rfl
  obtain ⟨rs1, rs2⟩ := rs_r hm
  refine b_M_odds_0 (c_M_in (by omega) (fun v1 hv1 => ?_))
  refine b_M_odds_7 (by omega) (fun hb2 => ?_) (fun hb2 => ?_)
  · refine b_M_odds_28 ?_
    exact k0 (by rw [u]; omega)
  · refine b_M_odds_10 (c_M_in (by omega) (fun v3 hv3 => ?_))
    refine b_M_odds_16 (by omega) (fun hb4 => ?_) (fun hb4 => ?_)
    · refine b_M_odds_28 ?_
      exact k0 (by rw [u]; omega)
    · refine b_M_odds_19 (c_M_in (by omega) (fun v5 hv5 => ?_))
      refine b_M_odds_25 (by omega) (fun hb6 => ?_) (fun hb6 => ?_)
      · have hk := k (by rw [u]; omega)
        obtain ⟨n, hn⟩ : ∃ n : Nat, bcF (rsF I) = n := ⟨(bcF (rsF I)).toNat, by omega⟩
        rw [hn, Int.toNat_natCast] at hk
        obtain ⟨t1, t2, t3, t4⟩ := od_of (n := n) (x := x1) (k := x2) (by omega) (by omega) (by omega)
        have t5 := pw_tab ⟨n, by omega⟩
        have t5 : 1 ≤ pwF 10 n ∧ pwF 10 n ≤ 100000 := t5
        have hsh : jb_shl 1 (n : Int) = ((2 ^ n : Nat) : Int) := jb_shl1 ⟨n, by omega⟩
        have hp2 : 2 ^ n ≤ 2 ^ 5 := Nat.pow_le_pow_right (by decide) (by omega)
        have hp0 : 0 < 2 ^ n := Nat.pow_pos (by decide)
        refine b_M_odds_30 (b_M_mayPress_0 ?_)
        rw [show jb_and (jb_shl 1 (I 167 4) - 1) (jb_xor (I 171 16) (-1)) = rsF I from rfl]
        refine b_M_odds_34 (c_M_bits (by omega) ?_)
        rw [hn]
        refine b_M_odds_37 ?_
        refine lp_up3 (σ := Int) (τ := Option jm_V) (υ := Option jm_V) (Inv := fun x s _ _ => 0 ≤ x ∧ s = odS x1 x2 n x.toNat) (G := fun x s a b => Gx (jx_0 L) (d + 2) md_M_odds 48 [some (.inr (.inl 167)), some (.inl x1), some (.inl x2), some (.inl x3), some (.inl (n : Int)), some (.inl s), some (.inl 1), some (.inl x), a, b] [] I K) (((2 ^ n : Nat) : Int)) ?_ ?_ 0 0 none none (by omega) ⟨by omega, rfl⟩
        · intro x s a b hx hs ih
          obtain ⟨h0, rfl⟩ := hs
          obtain ⟨w, rfl⟩ : ∃ w : Nat, x = w := ⟨x.toNat, by omega⟩
          have hbw := bc_r (x := (w : Int)) (by omega)
          have inner : ∀ v, v = odP x1 w x2 0 → Gx (jx_0 L) (d + 2) md_M_odds 71 [some (.inr (.inl 167)), some (.inl x1), some (.inl x2), some (.inl x3), some (.inl (n : Int)), some (.inl (odS x1 x2 n (w : Int).toNat)), some (.inl 1), some (.inl (w : Int)), a, b] [.inl v] I K := by
            intro v hv
            refine b_M_odds_71 ?_
            refine lp_up (σ := Int) (Inv := fun y p => 0 ≤ y ∧ p = odP x1 w x2 y.toNat) (G := fun y p => Gx (jx_0 L) (d + 2) md_M_odds 76 [some (.inr (.inl 167)), some (.inl x1), some (.inl x2), some (.inl x3), some (.inl (n : Int)), some (.inl (odS x1 x2 n (w : Int).toNat)), some (.inl 1), some (.inl (w : Int)), some (.inl p), some (.inl y)] [] I K) (n : Int) ?_ ?_ 0 v (by omega) ⟨by omega, hv⟩
            · intro y p hy hp ih2
              obtain ⟨y0, rfl⟩ := hp
              obtain ⟨j, rfl⟩ : ∃ j : Nat, y = j := ⟨y.toNat, by omega⟩
              have hst : ∀ z, z = (if jb_and (jb_shr (w : Int) (j : Int)) 1 = 1 then x1 else 10 - x1) → odP x1 w x2 (j : Int).toNat * z = odP x1 w x2 ((j : Int) + 1).toNat := by
                intro z hzz
                rw [show ((j : Int) + 1).toNat = j + 1 by omega, Int.toNat_natCast, hzz]
                rfl
              refine b_M_odds_76 (by omega) (fun h => by omega) (fun h => ?_)
              refine b_M_odds_83 (c_M_has (fun q hq => ?_))
              refine b_M_odds_92 (by rcases hq with ⟨q1, -⟩ | ⟨q1, -⟩ <;> omega) (fun h' => ?_) (fun h' => ?_)
              · have hno : ¬ jb_and (jb_shr (w : Int) (j : Int)) 1 = 1 := by
                  rcases hq with ⟨q1, -⟩ | ⟨-, q2⟩
                  · omega
                  · exact q2
                refine b_M_odds_99 ?_
                refine b_M_odds_103 ?_
                exact ih2 _ ⟨by omega, hst _ (by rw [if_neg hno])⟩
              · have hyes : jb_and (jb_shr (w : Int) (j : Int)) 1 = 1 := by
                  rcases hq with ⟨-, q2⟩ | ⟨q1, -⟩
                  · exact q2
                  · exact absurd q1 h'
                refine b_M_odds_95 ?_
                refine b_M_odds_103 ?_
                exact ih2 _ ⟨by omega, hst _ (by rw [if_pos hyes])⟩
            · intro p hp
              obtain ⟨-, rfl⟩ := hp
              refine b_M_odds_76 (by omega) (fun h => ?_) (fun h => by omega)
              refine b_M_odds_112 ?_
              refine ih _ _ _ ⟨by omega, ?_⟩
              rw [show ((w : Int) + 1).toNat = w + 1 by omega, Int.toNat_natCast, Int.toNat_natCast]
              rfl
          refine b_M_odds_48 (by rw [hsh]; omega) (fun h => by rw [hsh] at h; omega) (fun h => ?_)
          refine b_M_odds_57 (c_M_bits (by omega) ?_)
          refine b_M_odds_62 (by omega) (fun h => ?_) (fun h => ?_)
          · refine b_M_odds_70 (inner _ ?_)
            show _ = (if _ then _ else _)
            rw [if_neg h]
          · refine b_M_odds_66 (inner _ ?_)
            show _ = (if _ then _ else _)
            rw [if_pos h]
        · intro s a b hs
          obtain ⟨-, rfl⟩ := hs
          rw [Int.toNat_natCast, t1]
          refine b_M_odds_48 (by rw [hsh]; omega) (fun h => ?_) (fun h => by rw [hsh] at h; omega)
          refine b_M_odds_125 ?_
          refine lp_up (σ := Int) (Inv := fun y p => 0 ≤ y ∧ p = pwF 10 y.toNat) (G := fun y p => Gx (jx_0 L) (d + 2) md_M_odds 128 [some (.inr (.inl 167)), some (.inl x1), some (.inl x2), some (.inl x3), some (.inl (n : Int)), some (.inl (odU n x1 x2)), some (.inl p), some (.inl y), a, b] [] I K) (n : Int) ?_ ?_ 0 1 (by omega) ⟨by omega, rfl⟩
          · intro y p hy hp ih
            obtain ⟨y0, rfl⟩ := hp
            refine b_M_odds_128 (by omega) (fun h => by omega) (fun h => ?_)
            refine b_M_odds_135 ?_
            refine ih _ ⟨by omega, ?_⟩
            rw [show (y + 1).toNat = y.toNat + 1 by omega]
            rfl
          · intro p hp
            obtain ⟨-, rfl⟩ := hp
            rw [Int.toNat_natCast]
            refine b_M_odds_128 (by omega) (fun h => ?_) (fun h => by omega)
            refine b_M_odds_148 ?_
            unfold odA at hk
            obtain ⟨z, hzz⟩ : ∃ z, euF 60 (odU n x1 x2) (pwF 10 n) = z := ⟨_, rfl⟩
            rw [hzz] at hk t4
            generalize odU n x1 x2 = U at *
            generalize pwF 10 n = P at *
            have key : ∀ (f : Nat) (a b : Int) (o : Option jm_V), (0 ≤ a ∧ a ≤ 100000) → (0 ≤ b ∧ b ≤ 100000) → euZ f a b = true → euF f a b = z → Gx (jx_0 L) (d + 2) md_M_odds 156 [some (.inr (.inl 167)), some (.inl x1), some (.inl x2), some (.inl x3), some (.inl (n : Int)), some (.inl U), some (.inl P), some (.inl a), some (.inl b), o] [] I K := by
              have fin : ∀ (a : Int) (o : Option jm_V), a = z → Gx (jx_0 L) (d + 2) md_M_odds 156 [some (.inr (.inl 167)), some (.inl x1), some (.inl x2), some (.inl x3), some (.inl (n : Int)), some (.inl U), some (.inl P), some (.inl a), some (.inl 0), o] [] I K := by
                intro a o ha
                rw [ha]
                refine b_M_odds_156 (by omega) (fun h => ?_) (fun h => by omega)
                refine b_M_odds_179 (by omega) (fun h => ?_) (fun h => ?_)
                · rw [if_neg h] at hk
                  refine b_M_odds_188 ?_
                  exact b_M_odds_190 (by omega) hk
                · rw [if_pos h] at hk
                  refine b_M_odds_183 ?_
                  exact b_M_odds_190 (by omega) hk
              intro f
              induction f with
              | zero =>
                intro a b o h1 h2 h3 h4
                have hb : b = 0 := by simpa [euZ] using h3
                subst hb
                exact fin a o h4
              | succ f ihf =>
                intro a b o h1 h2 h3 h4
                have h4 : (if b = 0 then a else euF f b (a % b)) = z := h4
                have h3 : (if b = 0 then true else euZ f b (a % b)) = true := h3
                by_cases hb : b = 0
                · rw [if_pos hb] at h4
                  subst hb
                  exact fin a o h4
                · rw [if_neg hb] at h3 h4
                  have c1 := Int.emod_nonneg a (show b ≠ 0 by omega)
                  have c2 := Int.emod_lt_of_pos a (show 0 < b by omega)
                  refine b_M_odds_156 (by omega) (fun h => by omega) (fun h => ?_)
                  refine b_M_odds_161 (by omega) ?_
                  exact ihf b (a % b) _ (by omega) (by omega) h3 h4
            exact key 60 _ _ _ t2 (by omega) t3 hzz
      · refine b_M_odds_28 ?_
        exact k0 (by rw [u]; omega)
theorem g_odds (h : Rel I) (hz : (-2147483648 ≤ x1 ∧ x1 < 2147483648) ∧ (-2147483648 ≤ x2 ∧ x2 < 2147483648) ∧ (-2147483648 ≤ x3 ∧ x3 < 2147483648)) : Two L d md_X_odds md_M_odds [.inl x1, .inl x2, .inl x3] I := by
  obtain ⟨hm, c, e, hx⟩ := id h
  refine c_X_odds hm hx hz (fun q => ?_) (fun q => ?_)
  · exact ⟨_, rfl, c_M_odds hm hz (fun _ => ⟨rfl, h, rfl⟩) (fun p => absurd p q)⟩
  · exact ⟨_, rfl, c_M_odds hm hz (fun p => absurd q p) (fun _ => ⟨rfl, h, rfl⟩)⟩
end ODDS2
