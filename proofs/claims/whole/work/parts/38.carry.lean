/-! ===== carry ===== -/
theorem plF_k {I J : jm_I} (h1 : J 169 = I 169) (h2 : J 170 = I 170) (t r : Int) : plF J t r = plF I t r := by unfold plF; rw [h1, h2]
theorem puF_k {I J : jm_I} (h1 : J 169 = I 169) (h2 : J 170 = I 170) (t r : Int) : puF J t r = puF I t r := by unfold puF; rw [plF_k h1 h2]
theorem tcOk_k {I J : jm_I} {c : Nat} (h1 : J 169 = I 169) (h2 : J 170 = I 170) (h3 : ∀ a, c ≤ a → a < c + 20 → J a = I a) {t : Int} (h : tcOk I c t) : tcOk J c t := by
  unfold tcOk at *
  rw [h1, h2, h3 (c + 6) (by omega) (by omega), h3 (c + 8 + t.toNat) (by omega) (by omega)]
  exact h
section CARRY
variable {L d : Nat} {I : jm_I} {K : Option jm_V → jm_I → Prop} {x0 x1 x2 x3 x4 : Int} {c e : Nat}
def carF (I : jm_I) (p t r w : Int) : jm_I := jm_up (jm_up (jm_up (jm_up (remF I) 171 (11 + p).toNat (I 171 (11 + p).toNat - w)) 171 (1 + p).toNat r) 171 (17 + t).toNat r) 171 (22 + t).toNat (plF I t r)
def carOk (I : jm_I) (p t r : Int) : Prop := (0 ≤ p ∧ p < I 167 4) ∧ (0 ≤ t ∧ t < I 167 5) ∧ (0 ≤ r ∧ r < I 167 0)
theorem c_M_by {g : Nat → Int} (hz : (0 ≤ x1 ∧ x1 < 6) ∧ (0 ≤ x2 ∧ x2 < 6) ∧ (0 ≤ x3 ∧ x3 < 6)) (k : K (some (.inl (I 182 (6 * x1.toNat + x2.toNat) + I 182 (6 * x2.toNat + x3.toNat)))) I) : Cx (jx_0 L) d md_M_by [.inr (.inl 167), .inl x1, .inl x2, .inl x3] I K := by
  refine b_M_by_0 (by omega) ?_
  rw [show (6 * x1 + x2).toNat = 6 * x1.toNat + x2.toNat by omega, show (6 * x2 + x3).toNat = 6 * x2.toNat + x3.toNat by omega]
  exact k
theorem c_M_carry (hm : mOk I) (hz : (-2147483648 ≤ x1 ∧ x1 < 2147483648) ∧ (-2147483648 ≤ x2 ∧ x2 < 2147483648) ∧ (-2147483648 ≤ x3 ∧ x3 < 2147483648)) (k0 : ¬ carOk I x1 x2 x3 → K (some (.inl (-1))) I) (k : carOk I x1 x2 x3 → ∀ g w1 w2, isD (adjM I 0) 10000 (I 171 (1 + x1).toNat).toNat (I 171 (17 + x2).toNat).toNat w1 → isD (adjM I 0) 10000 (I 171 (17 + x2).toNat).toNat x3.toNat w2 → (¬ (¬ I 171 (11 + x1).toNat = -9 ∧ w1 + w2 ≤ I 171 (11 + x1).toNat) → K (some (.inl (-2))) (st_ I 182 g)) ∧ (¬ I 171 (11 + x1).toNat = -9 ∧ w1 + w2 ≤ I 171 (11 + x1).toNat → K (some (.inl (I 171 (11 + x1).toNat - (w1 + w2)))) (carF (st_ I 182 g) x1 x2 x3 (w1 + w2)))) : Cx (jx_0 L) (d + 2) md_M_carry [.inr (.inl 167), .inl x1, .inl x2, .inl x3] I K := by
  have hr := hm.1
  unfold mRng at hr
  have hs := hm.2.2.2.1.2.2.1
  have u : carOk I x1 x2 x3 ↔ (0 ≤ x1 ∧ x1 < I 167 4) ∧ (0 ≤ x2 ∧ x2 < I 167 5) ∧ (0 ≤ x3 ∧ x3 < I 167 0) := Iff.rfl
  have hp : 0 ≤ x1 ∧ x1 < I 167 4 → (0 ≤ I 171 (1 + x1).toNat ∧ I 171 (1 + x1).toNat < I 167 0) ∧ (I 171 (11 + x1).toNat = -9 ∨ (0 ≤ I 171 (11 + x1).toNat ∧ I 171 (11 + x1).toNat ≤ 20)) := fun q => by
    have := hs x1.toNat (by omega)
    rw [show 1 + x1.toNat = (1 + x1).toNat by omega, show 11 + x1.toNat = (11 + x1).toNat by omega] at this
    exact this
  refine b_M_carry_0 (c_M_isPerson (by omega) (fun v1 hv1 => ?_))
  refine b_M_carry_5 (by omega) (fun hb2 => ?_) (fun hb2 => ?_)
  · refine b_M_carry_24 ?_
    exact k0 (by rw [u]; omega)
  · refine b_M_carry_8 (c_M_isThing (by omega) (fun v3 hv3 => ?_))
    refine b_M_carry_13 (by omega) (fun hb4 => ?_) (fun hb4 => ?_)
    · refine b_M_carry_24 ?_
      exact k0 (by rw [u]; omega)
    · refine b_M_carry_16 (c_M_isRoom (by omega) (fun v5 hv5 => ?_))
      refine b_M_carry_21 (by omega) (fun hb6 => ?_) (fun hb6 => ?_)
      · refine b_M_carry_26 (c_M_findFar (by omega) hm.2.1 (fun g hg => ?_))
        have hp := hp (by omega)
        have hth := (nw_sp hm (t := x2) (by omega) (by omega)).2.2
        have hto := th_of hm (t := x2) (by omega) (by omega)
        have e171 : st_ I 182 g 171 = I 171 := st_a (by decide)
        have e167 : st_ I 182 g 167 = I 167 := st_a (by decide)
        have e169 : st_ I 182 g 169 = I 169 := st_a (by decide)
        have e170 : st_ I 182 g 170 = I 170 := st_a (by decide)
        have hd1 := hg (I 171 (1 + x1).toNat).toNat (I 171 (17 + x2).toNat).toNat (by omega) (by omega)
        have hd2 := hg (I 171 (17 + x2).toNat).toNat x3.toNat (by omega) (by omega)
        refine b_M_carry_31 (by omega) ?_
        rw [e171]
        refine c_M_by (g := g) (by omega) ?_
        rw [st_s, st_s]
        generalize g (6 * (I 171 (1 + x1).toNat).toNat + (I 171 (17 + x2).toNat).toNat) = w1 at *
        generalize g (6 * (I 171 (17 + x2).toNat).toNat + x3.toNat) = w2 at *
        obtain ⟨ka, kb⟩ := k (by rw [u]; omega) g w1 w2 hd1 hd2
        have hwr1 : 0 ≤ w1 ∧ w1 ≤ 10000 := by
          rcases hd1 with ⟨n, hn, hn6, -⟩ | ⟨hn, -⟩ <;> omega
        have hwr2 : 0 ≤ w2 ∧ w2 ≤ 10000 := by
          rcases hd2 with ⟨n, hn, hn6, -⟩ | ⟨hn, -⟩ <;> omega
        refine b_M_carry_53 (c_M_mayGo (by rw [e171]; omega) (fun v hv => ?_))
        rw [e171] at hv
        refine b_M_carry_62 (by omega) (fun h => ?_) (fun h => ?_)
        · refine b_M_carry_68 (c_M_remembers (by rw [e167]; omega) ?_)
          have r171 : remF (st_ I 182 g) 171 = I 171 := by rw [rem_o (by decide) (by decide), e171]
          have r169 : remF (st_ I 182 g) 169 = I 169 := by rw [rem_o (by decide) (by decide), e169]
          have r170 : remF (st_ I 182 g) 170 = I 170 := by rw [rem_o (by decide) (by decide), e170]
          refine b_M_carry_72 (by omega) (c_M_placeIn ?_ ?_ ?_)
          · rw [jm_up_o (by decide), jm_up_o (by decide), jm_up_o (by decide), r169]
            exact ⟨hto.1, hto.2.1, by omega⟩
          · rw [jm_up_o (by decide), jm_up_o (by decide), jm_up_o (by decide), r169, jm_up_o (by decide), jm_up_o (by decide), jm_up_o (by decide), r170]
            exact hto.2.2.1
          · rw [plF_k (I := I) (by rw [jm_up_o (by decide), jm_up_o (by decide), jm_up_o (by decide), r169]) (by rw [jm_up_o (by decide), jm_up_o (by decide), jm_up_o (by decide), r170])]
            refine b_M_carry_119 (by omega) ?_
            rw [up_k (show (11 + x1).toNat ≠ (22 + x2).toNat by omega), up_k (show (11 + x1).toNat ≠ (17 + x2).toNat by omega), up_k (show (11 + x1).toNat ≠ (1 + x1).toNat by omega), up_s, r171]
            have := kb (by omega)
            unfold carF at this
            rw [e171, plF_k e169 e170] at this
            exact this
        · refine b_M_carry_65 ?_
          exact ka (by omega)
      · refine b_M_carry_24 ?_
        exact k0 (by rw [u]; omega)
def caC (I J : jm_I) (p t r w : Int) : jm_I := jm_up (jm_up (jm_up J 48 t.toNat (puF I t r)) 45 p.toNat r) 47 p.toNat (I 47 p.toNat - w)
theorem c_X_carry (hm : mOk I) (hx : xRel I c e) (hz : (-2147483648 ≤ x1 ∧ x1 < 2147483648) ∧ (-2147483648 ≤ x2 ∧ x2 < 2147483648) ∧ (-2147483648 ≤ x3 ∧ x3 < 2147483648)) (k0 : ¬ carOk I x1 x2 x3 → K (some (.inl (-1))) I) (k : carOk I x1 x2 x3 → ∀ w, w = I (c + 14 + (I 171 (1 + x1).toNat).toNat) (I 171 (17 + x2).toNat).toNat + I (c + 14 + (I 171 (17 + x2).toNat).toNat) x3.toNat → (¬ (¬ I 171 (11 + x1).toNat = -9 ∧ w ≤ I 171 (11 + x1).toNat) → K (some (.inl (-2))) I) ∧ (¬ I 171 (11 + x1).toNat = -9 ∧ w ≤ I 171 (11 + x1).toNat → ∀ J, rmC I J → K (some (.inl (I 171 (11 + x1).toNat - w))) (caC I J x1 x2 x3 w))) : Cx (jx_0 L) (d + 2) md_X_carry [.inr (.inl 1), .inl x1, .inl x2, .inl x3] I K := by
  obtain ⟨h1, h2, h3, hci, -, hmo, ⟨hh, hnx, -⟩, -⟩ := hx
  obtain ⟨hc, -⟩ := ct_of (L := L) h1
  have hcl : c ≤ 22 := by rcases h1 with ⟨rfl, -⟩ | ⟨rfl, -⟩ <;> decide
  have hr := hm.1
  unfold mRng at hr
  have c0 := hci.1.1
  have c3 := hci.1.2.2.2.1
  have c4 := hci.1.2.2.2.2
  have u : carOk I x1 x2 x3 ↔ (0 ≤ x1 ∧ x1 < I 167 4) ∧ (0 ≤ x2 ∧ x2 < I 167 5) ∧ (0 ≤ x3 ∧ x3 < I 167 0) := Iff.rfl
  have hp := fun a b => mo_pe hm hmo (p := x1) a b
  refine b_X_carry_0 (c_X_isPerson hc h2 (by omega) (fun v1 hv1 => ?_))
  refine b_X_carry_5 (by omega) (fun hb2 => ?_) (fun hb2 => ?_)
  · refine b_X_carry_24 ?_
    exact k0 (by rw [u]; omega)
  · refine b_X_carry_8 (c_X_isThing hc h2 (by omega) (fun v3 hv3 => ?_))
    refine b_X_carry_13 (by omega) (fun hb4 => ?_) (fun hb4 => ?_)
    · refine b_X_carry_24 ?_
      exact k0 (by rw [u]; omega)
    · refine b_X_carry_16 (c_X_isRoom hc h2 (by omega) (fun v5 hv5 => ?_))
      refine b_X_carry_21 (by omega) (fun hb6 => ?_) (fun hb6 => ?_)
      · obtain ⟨⟨p1, -, p3⟩, p4, p5⟩ := hp (by omega) (by omega)
        obtain ⟨n1, n2, n3⟩ := nw_sp hm (t := x2) (by omega) (by omega)
        have hsp := mo_sp hmo (t := x2) (by omega) (by omega)
        have htc := tc_of hm hci (t := x2) (by omega) (by omega)
        have hw1 : -2000 ≤ I (c + 14 + (I 171 (1 + x1).toNat).toNat) (I 171 (17 + x2).toNat).toNat ∧ I (c + 14 + (I 171 (1 + x1).toNat).toNat) (I 171 (17 + x2).toNat).toNat ≤ 2000 := by
          have := hci.2.2.2 (I 171 (1 + x1).toNat).toNat (I 171 (17 + x2).toNat).toNat (by omega) (by omega)
          rcases this with ⟨n, hn, hn6, -⟩ | ⟨hn, -⟩ <;> omega
        have hw2 : -2000 ≤ I (c + 14 + (I 171 (17 + x2).toNat).toNat) x3.toNat ∧ I (c + 14 + (I 171 (17 + x2).toNat).toNat) x3.toNat ≤ 2000 := by
          have := hci.2.2.2 (I 171 (17 + x2).toNat).toNat x3.toNat (by omega) (by omega)
          rcases this with ⟨n, hn, hn6, -⟩ | ⟨hn, -⟩ <;> omega
        refine b_X_carry_26 h2 hc (by omega) (c_X_roomOfThing hc h2 htc (by rw [hsp]; exact n1) ?_)
        rw [hsp, n2, p1]
        refine b_X_carry_44 hc ?_
        refine b_City_stepsToCarry_0 hc (by omega) ?_
        obtain ⟨ka, kb⟩ := k (by rw [u]; omega) _ rfl
        generalize hwe : I (c + 14 + (I 171 (1 + x1).toNat).toNat) (I 171 (17 + x2).toNat).toNat + I (c + 14 + (I 171 (17 + x2).toNat).toNat) x3.toNat = w at *
        refine b_X_carry_48 (c_X_isUp (by omega) (fun v hv => ?_))
        refine b_X_carry_55 (by omega) (fun h => ?_) (fun h => ?_)
        · refine b_X_carry_72 ?_
          exact ka (by omega)
        · refine b_X_carry_58 (by omega) (fun h' => ?_) (fun h' => ?_)
          · refine b_X_carry_75 (c_History_remember (by omega) (fun J hJ => ?_))
            have oJ : ∀ a, (a < 49 ∨ 100 < a) → J a = I a := fun a ha => hJ.1 a (by omega) (by omega)
            refine b_X_carry_86 (by rw [oJ 1 (by decide)]; exact h2) hc (c_City_spotOfRoom hc (tcOk_k (oJ 169 (by decide)) (oJ 170 (by decide)) (fun a a1 a2 => oJ a (by omega)) htc) (by omega) ?_)
            rw [puF_k (oJ 169 (by decide)) (oJ 170 (by decide))]
            refine b_X_carry_103 (by omega) ?_
            refine b_X_moveTo_0 (by omega) ?_
            refine b_X_carry_112 ?_
            rw [up_s, up_a (show (47 : Nat) ≠ 48 by decide), oJ 47 (by decide)]
            have := kb (by omega) J hJ
            unfold caC at this
            rw [← p3] at this
            exact this
          · refine b_X_carry_72 ?_
            exact ka (by omega)
      · refine b_X_carry_24 ?_
        exact k0 (by rw [u]; omega)
end CARRY
