/-! ===== walk, carry ===== -/
/-- scratch cells have changed -/
theorem rel_scr {I A : jm_I} (h : Rel I) (o : ∀ a, a ≤ 176 → a ≠ 167 → (a < 107 ∨ 156 < a) → A a = I a) (o167 : ∀ k, k ≤ 17 → A 167 k = I 167 k) : Rel A ∧ A 0 = I 0 := by
  obtain ⟨hm, c, e, hx⟩ := h
  have hk : mKeep I A := ⟨o167, fun a a1 a2 => o a (by omega) (by omega) (by omega)⟩
  have hcl : c ≤ 22 := by rcases hx.1 with ⟨rfl, -⟩ | ⟨rfl, -⟩ <;> decide
  exact ⟨⟨mOk_keep hk hm, c, e, xRel_keep hk ⟨o 1 (by decide) (by decide) (by decide), fun a a1 a2 => o a (by omega) (by omega) (by omega), fun a a1 a2 => o a (by omega) (by omega) (by omega), fun a a1 a2 => o a (by omega) (by omega) (by omega)⟩ hm.1 hx⟩, o 0 (by decide) (by decide) (by decide)⟩
/-- the distance of the class and that of the model -/
theorem far_x {I : jm_I} {c : Nat} (hm : mOk I) (hx : xCity I c) {r s : Int} (hr : 0 ≤ r ∧ r < I 167 0) (hs : 0 ≤ s ∧ s < I 167 0) {w : Int} (h : isD (adjM I 0) 10000 r.toNat s.toNat w) : (I (c + 14 + r.toNat) s.toNat = w ∧ 0 ≤ w ∧ w < 6) ∨ (I (c + 14 + r.toNat) s.toNat = 1000 ∧ w = 10000) := by
  have := isD_cross (hx.2.2.2 r.toNat s.toNat (by omega) (by omega)) h
  omega
section GOES
variable {L d : Nat} {I : jm_I} {K : Option jm_V → jm_I → Prop} {x0 x1 x2 x3 x4 : Int} {c e : Nat}
/-- what is now, after a walk -/
def walF (I : jm_I) (p r w : Int) : jm_I := jm_up (jm_up (remF I) 171 (11 + p).toNat (I 171 (11 + p).toNat - w)) 171 (1 + p).toNat r
theorem c_M_walk (hm : mOk I) (hz : (-2147483648 ≤ x1 ∧ x1 < 2147483648) ∧ (-2147483648 ≤ x2 ∧ x2 < 2147483648)) (k0 : ¬ ((0 ≤ x1 ∧ x1 < I 167 4) ∧ (0 ≤ x2 ∧ x2 < I 167 0)) → K (some (.inl (-1))) I) (k : (0 ≤ x1 ∧ x1 < I 167 4) ∧ (0 ≤ x2 ∧ x2 < I 167 0) → ∀ g w, isD (adjM I 0) 10000 (I 171 (1 + x1).toNat).toNat x2.toNat w → (¬ (¬ I 171 (11 + x1).toNat = -9 ∧ w ≤ I 171 (11 + x1).toNat) → K (some (.inl (-2))) (st_ I 182 g)) ∧ (¬ I 171 (11 + x1).toNat = -9 ∧ w ≤ I 171 (11 + x1).toNat → K (some (.inl (I 171 (11 + x1).toNat - w))) (walF (st_ I 182 g) x1 x2 w))) : Cx (jx_0 L) (d + 2) md_M_walk [.inr (.inl 167), .inl x1, .inl x2] I K := by
  have hr := hm.1
  unfold mRng at hr
  have hs := hm.2.2.2.1.2.2.1
  have hp : 0 ≤ x1 ∧ x1 < I 167 4 → (0 ≤ I 171 (1 + x1).toNat ∧ I 171 (1 + x1).toNat < I 167 0) ∧ (I 171 (11 + x1).toNat = -9 ∨ (0 ≤ I 171 (11 + x1).toNat ∧ I 171 (11 + x1).toNat ≤ 20)) := fun q => by
    have := hs x1.toNat (by omega)
    rw [show 1 + x1.toNat = (1 + x1).toNat by omega, show 11 + x1.toNat = (11 + x1).toNat by omega] at this
    exact this
  refine b_M_walk_0 (c_M_isPerson (by omega) (fun v1 hv1 => ?_))
  refine b_M_walk_5 (by omega) (fun hb2 => ?_) (fun hb2 => ?_)
  · refine b_M_walk_16 ?_
    exact k0 (by omega)
  · refine b_M_walk_8 (c_M_isRoom (by omega) (fun v3 hv3 => ?_))
    refine b_M_walk_13 (by omega) (fun hb4 => ?_) (fun hb4 => ?_)
    · refine b_M_walk_18 (c_M_findFar (by omega) hm.2.1 (fun g hg => ?_))
      have hp := hp (by omega)
      have e171 : st_ I 182 g 171 = I 171 := st_a (by decide)
      have e167 : st_ I 182 g 167 = I 167 := st_a (by decide)
      generalize hw : st_ I 182 g 182 (6 * I 171 (1 + x1).toNat + x2).toNat = w
      have hd := hg (I 171 (1 + x1).toNat).toNat x2.toNat (by omega) (by omega)
      rw [st_s, show (6 * I 171 (1 + x1).toNat + x2).toNat = 6 * (I 171 (1 + x1).toNat).toNat + x2.toNat by omega] at hw
      rw [hw] at hd
      obtain ⟨ka, kb⟩ := k (by omega) g w hd
      have hwr : 0 ≤ w ∧ w < 100000 := by
        rcases hd with ⟨n, hn, hn6, -⟩ | ⟨hn, -⟩ <;> omega
      refine b_M_walk_23 (by rw [e171]; omega) ?_
      rw [e171, show st_ I 182 g 182 (6 * I 171 (1 + x1).toNat + x2).toNat = w by rw [st_s, ← hw]; congr 1; omega]
      refine c_M_mayGo (by rw [e171]; omega) (fun v hv => ?_)
      rw [e171] at hv
      refine b_M_walk_48 (by omega) (fun h => ?_) (fun h => ?_)
      · refine b_M_walk_54 (c_M_remembers (by rw [e167]; omega) ?_)
        refine b_M_walk_58 (by omega) ?_
        have r171 : remF (st_ I 182 g) 171 = I 171 := by rw [rem_o (by decide) (by decide), e171]
        rw [up_k (show (11 + x1).toNat ≠ (1 + x1).toNat by omega), up_s, r171]
        have := kb (by omega)
        unfold walF at this
        rw [e171] at this
        exact this
      · refine b_M_walk_51 ?_
        exact ka (by omega)
    · refine b_M_walk_16 ?_
      exact k0 (by omega)
def waC (I J : jm_I) (p r w : Int) : jm_I := jm_up (jm_up J 45 p.toNat r) 47 p.toNat (I 47 p.toNat - w)
theorem c_X_walk (hm : mOk I) (hx : xRel I c e) (hz : (-2147483648 ≤ x1 ∧ x1 < 2147483648) ∧ (-2147483648 ≤ x2 ∧ x2 < 2147483648)) (k0 : ¬ ((0 ≤ x1 ∧ x1 < I 167 4) ∧ (0 ≤ x2 ∧ x2 < I 167 0)) → K (some (.inl (-1))) I) (k : (0 ≤ x1 ∧ x1 < I 167 4) ∧ (0 ≤ x2 ∧ x2 < I 167 0) → ∀ w, w = I (c + 14 + (I 171 (1 + x1).toNat).toNat) x2.toNat → (¬ (¬ I 171 (11 + x1).toNat = -9 ∧ w ≤ I 171 (11 + x1).toNat) → K (some (.inl (-2))) I) ∧ (¬ I 171 (11 + x1).toNat = -9 ∧ w ≤ I 171 (11 + x1).toNat → ∀ J, rmC I J → K (some (.inl (I 171 (11 + x1).toNat - w))) (waC I J x1 x2 w))) : Cx (jx_0 L) (d + 2) md_X_walk [.inr (.inl 1), .inl x1, .inl x2] I K := by
  obtain ⟨h1, h2, h3, hci, -, hmo, ⟨hh, hnx, -⟩, -⟩ := hx
  obtain ⟨hc, -⟩ := ct_of (L := L) h1
  have hr := hm.1
  unfold mRng at hr
  have c0 := hci.1.1
  have c3 := hci.1.2.2.2.1
  have hp := fun a b => mo_pe hm hmo (p := x1) a b
  refine b_X_walk_0 (c_X_isPerson hc h2 (by omega) (fun v1 hv1 => ?_))
  refine b_X_walk_5 (by omega) (fun hb2 => ?_) (fun hb2 => ?_)
  · refine b_X_walk_16 ?_
    exact k0 (by omega)
  · refine b_X_walk_8 (c_X_isRoom hc h2 (by omega) (fun v3 hv3 => ?_))
    refine b_X_walk_13 (by omega) (fun hb4 => ?_) (fun hb4 => ?_)
    · obtain ⟨⟨p1, -, p3⟩, p4, p5⟩ := hp (by omega) (by omega)
      have hw : -2147483648 ≤ I (c + 14 + (I 171 (1 + x1).toNat).toNat) x2.toNat ∧ I (c + 14 + (I 171 (1 + x1).toNat).toNat) x2.toNat < 2147483648 := by
        have := hci.2.2.2 (I 171 (1 + x1).toNat).toNat x2.toNat (by omega) (by omega)
        rcases this with ⟨n, hn, hn6, -⟩ | ⟨hn, -⟩ <;> omega
      refine b_X_walk_18 h2 hc (by omega) ?_
      rw [p1]
      generalize hwe : I (c + 14 + (I 171 (1 + x1).toNat).toNat) x2.toNat = w at *
      obtain ⟨ka, kb⟩ := k (by omega) w rfl
      refine c_X_isUp (by omega) (fun v hv => ?_)
      refine b_X_walk_43 (by omega) (fun h => ?_) (fun h => ?_)
      · refine b_X_walk_59 ?_
        exact ka (by omega)
      · refine b_X_walk_46 (by omega) (fun h' => ?_) (fun h' => ?_)
        · refine b_X_walk_62 (c_History_remember (by omega) (fun J hJ => ?_))
          refine b_X_walk_73 ?_
          refine b_X_moveTo_0 (by omega) ?_
          refine b_X_walk_80 ?_
          rw [up_s, hJ.1 47 (by decide) (by omega)]
          have := kb (by omega) J hJ
          unfold waC at this
          rw [← p3] at this
          exact this
        · refine b_X_walk_59 ?_
          exact ka (by omega)
    · refine b_X_walk_16 ?_
      exact k0 (by omega)
end GOES
