/-! ===== the class: small methods ===== -/
theorem ct_of {L c e : Nat} (h : cits c e) : jx_City (jx_0 L) c ∧ jx_City (jx_0 L) e := by
  rcases h with ⟨rfl, rfl⟩ | ⟨rfl, rfl⟩
  · exact ⟨jx_cA, jx_cB⟩
  · exact ⟨jx_cB, jx_cA⟩
/-- a thing's cells in a city are the model's -/
def tcOk (I : jm_I) (c : Nat) (t : Int) : Prop := (0 ≤ t ∧ t < 5) ∧ I (c + 6) t.toNat = I 169 t.toNat ∧ (1 ≤ I 169 t.toNat ∧ I 169 t.toNat ≤ 4) ∧ ∀ k : Nat, (k : Int) < I 169 t.toNat → I (c + 8 + t.toNat) k = I 170 (4 * t + k).toNat ∧ 0 ≤ I 170 (4 * t + k).toNat ∧ I 170 (4 * t + k).toNat < 6
def spOk (I : jm_I) (t s : Int) : Prop := (0 ≤ s ∧ s < I 169 t.toNat) ∨ (4 ≤ s ∧ s < 10)
theorem tc_of {I : jm_I} {c : Nat} (hm : mOk I) (hx : xCity I c) {t : Int} (h0 : 0 ≤ t) (h1 : t < I 167 5) : tcOk I c t := by
  obtain ⟨hr, -, ht, -⟩ := hm
  unfold mRng at hr
  obtain ⟨q, rfl⟩ : ∃ q : Nat, t = q := ⟨t.toNat, by omega⟩
  obtain ⟨a1, a2⟩ := ht q h1
  obtain ⟨b1, b2⟩ := hx.2.2.1 q h1
  refine ⟨by omega, by rw [Int.toNat_natCast]; exact b1, by rw [Int.toNat_natCast]; exact a1, fun k hk => ?_⟩
  rw [Int.toNat_natCast] at hk ⊢
  rw [show (4 * (q : Int) + k).toNat = 4 * q + k by omega]
  have := a2 k hk
  exact ⟨b2 k hk, this.1, by omega⟩
theorem la_sp {I : jm_I} {t s n : Int} (hl : 1 ≤ I 169 t.toNat ∧ I 169 t.toNat ≤ 4) (hs : spOk I t s) (hn : 0 ≤ n) : spOk I t (laF I t s n) := by
  unfold laF
  have c1 := Int.emod_nonneg (s + n) (show I 169 t.toNat ≠ 0 by omega)
  have c2 := Int.emod_lt_of_pos (s + n) (show 0 < I 169 t.toNat by omega)
  unfold spOk at *
  split <;> omega
section CSPOT
variable {P : jm_P} {d : Nat} {I : jm_I} {K : Option jm_V → jm_I → Prop} {x0 x1 x2 x3 : Int} {c : Nat}
theorem c_City_roomOfSpot (hc : jx_City P c) (ht : tcOk I c x1) (hs : spOk I x1 x2) (k : K (some (.inl (roF I x1 x2))) I) : Cx P d md_City_roomOfSpot [.inr (.inl c), .inl x1, .inl x2] I K := by
  obtain ⟨h1, h2, h3, h4⟩ := ht
  unfold spOk at hs
  refine b_City_roomOfSpot_0 hc (by omega) (fun h => ?_) (fun h => ?_)
  · refine b_City_roomOfSpot_16 ?_
    refine b_City_roomOfSpot_19 ?_
    exact cv_ (by unfold roF; rw [if_neg (by omega)]) k
  · refine b_City_roomOfSpot_5 hc (by omega) ?_
    refine b_City_roomOfSpot_19 ?_
    have := (h4 x2.toNat (by omega)).1
    rw [this]
    exact cv_ (by unfold roF; rw [if_pos (by omega)]; congr 1; omega) k
theorem c_City_spotIn (hc : jx_City P c) (ht : tcOk I c x1) (hs : spOk I x1 x2) (hn : 0 ≤ x3 ∧ x3 ≤ 1000) (k : K (some (.inl (laF I x1 x2 x3))) I) : Cx P d md_City_spotIn [.inr (.inl c), .inl x1, .inl x2, .inl x3] I K := by
  obtain ⟨h1, h2, h3, h4⟩ := ht
  unfold spOk at hs
  refine b_City_spotIn_0 hc (by omega) (fun h => ?_) (fun h => ?_)
  · refine b_City_spotIn_14 ?_
    exact cv_ (by unfold laF; rw [if_neg (by omega)]) k
  · refine b_City_spotIn_5 hc (by rw [h2]; omega) (fun h => ?_) (fun h => by rw [h2] at h; omega)
    refine b_City_spotIn_16 hc (by rw [h2]; omega) ?_
    rw [h2]
    exact cv_ (by unfold laF; rw [if_pos (by omega)]) k
theorem c_City_roomIn (hc : jx_City P c) (ht : tcOk I c x1) (hs : spOk I x1 x2) (hn : 0 ≤ x3 ∧ x3 ≤ 1000) (k : K (some (.inl (roF I x1 (laF I x1 x2 x3)))) I) : Cx P (d + 1) md_City_roomIn [.inr (.inl c), .inl x1, .inl x2, .inl x3] I K := by
  refine b_City_roomIn_0 hc (c_City_spotIn hc ht hs hn ?_)
  refine b_City_roomIn_9 hc (c_City_roomOfSpot hc ht (la_sp ht.2.2.1 hs hn.1) ?_)
  refine b_City_roomIn_12 ?_
  exact k
theorem c_City_spotOfRoom (hc : jx_City P c) (ht : tcOk I c x1) (hz : 0 ≤ x2 ∧ x2 < 6) (k : K (some (.inl (puF I x1 x2))) I) : Cx P d md_City_spotOfRoom [.inr (.inl c), .inl x1, .inl x2] I K := by
  obtain ⟨h1, h2, h3, h4⟩ := ht
  refine b_City_spotOfRoom_0 hc ?_
  refine lp_up (σ := Unit) (Inv := fun x _ => 0 ≤ x ∧ ∀ j : Nat, (j : Int) < x → I 170 (4 * x1 + j).toNat ≠ x2) (G := fun x _ => Gx P d md_City_spotOfRoom 2 [some (.inr (.inl c)), some (.inl x1), some (.inl x2), some (.inl x)] [] I K) (I 169 x1.toNat) ?_ ?_ 0 () (by omega) ⟨by omega, fun j h => by omega⟩
  · intro x _ hx hi ih
    obtain ⟨j, rfl⟩ : ∃ j : Nat, x = j := ⟨x.toNat, by omega⟩
    obtain ⟨q1, q2, q3⟩ := h4 j hx
    refine b_City_spotOfRoom_2 hc (by rw [h2]; omega) (fun h => by rw [h2] at h; omega) (fun h => ?_)
    refine b_City_spotOfRoom_12 hc (by rw [Int.toNat_natCast, q1]; omega) (fun h => ?_) (fun h => ?_)
    · rw [Int.toNat_natCast, q1] at h
      refine b_City_spotOfRoom_26 ?_
      refine ih () ⟨by omega, fun i hi2 => ?_⟩
      by_cases e : i = j
      · subst e; exact h
      · exact hi.2 i (by omega)
    · rw [Int.toNat_natCast, q1] at h
      refine b_City_spotOfRoom_24 ?_
      refine cv_ ?_ k
      have : plF I x1 x2 = j := fst_at (f := fun k : Nat => I 170 (4 * x1 + k).toNat) (j := j) h (fun i hi2 => hi.2 i (by omega)) (by omega)
      unfold puF
      rw [this, if_neg (by omega)]
  · intro _ hi
    refine b_City_spotOfRoom_2 hc (by rw [h2]; omega) (fun h => ?_) (fun h => by rw [h2] at h; omega)
    refine b_City_spotOfRoom_32 ?_
    refine cv_ ?_ k
    have : plF I x1 x2 = -9 := fst_no (f := fun k : Nat => I 170 (4 * x1 + k).toNat) (fun i hi2 => hi.2 i (by omega))
    unfold puF
    rw [this, if_pos rfl]
end CSPOT
/-- the model's row and the class's spot -/
theorem nw_sp {I : jm_I} (hm : mOk I) {t : Int} (h0 : 0 ≤ t) (h1 : t < I 167 5) : spOk I t (nwF I t) ∧ roF I t (nwF I t) = I 171 (17 + t).toNat ∧ (0 ≤ I 171 (17 + t).toNat ∧ I 171 (17 + t).toNat < I 167 0) := by
  obtain ⟨hr, -, ht, hs, -⟩ := hm
  unfold mRng at hr
  obtain ⟨q, rfl⟩ : ∃ q : Nat, t = q := ⟨t.toNat, by omega⟩
  obtain ⟨a1, a2⟩ := ht q h1
  have a3 := hs.2.2.2 q h1
  have n1 : (22 + (q : Int)).toNat = 22 + q := by omega
  have n2 : (17 + (q : Int)).toNat = 17 + q := by omega
  unfold nwF spOk roF
  rw [n1, n2, Int.toNat_natCast]
  rcases a3 with ⟨b1, b2, b3⟩ | ⟨b1, b2, b3⟩
  · rw [if_pos b1]
    refine ⟨by omega, ?_, by omega⟩
    rw [if_neg (by omega)]
    omega
  · rw [if_neg (by omega)]
    have b4 := a2 (I 171 (22 + q)).toNat (by omega)
    refine ⟨by omega, ?_, by omega⟩
    rw [if_pos (by omega), b3]
    congr 1
    omega
theorem mo_sp {I : jm_I} (hx : xMom I 44 (I 171)) {t : Int} (h0 : 0 ≤ t) (h1 : t < I 167 5) : I 48 t.toNat = nwF I t := by
  obtain ⟨q, rfl⟩ : ∃ q : Nat, t = q := ⟨t.toNat, by omega⟩
  have := hx.2.2.2 q h1
  unfold nwF
  rw [show (22 + (q : Int)).toNat = 22 + q by omega, show (17 + (q : Int)).toNat = 17 + q by omega, Int.toNat_natCast]
  exact this
theorem mo_pe {I : jm_I} (hm : mOk I) (hx : xMom I 44 (I 171)) {p : Int} (h0 : 0 ≤ p) (h1 : p < I 167 4) : (I 45 p.toNat = I 171 (1 + p).toNat ∧ I 46 p.toNat = I 171 (6 + p).toNat ∧ I 47 p.toNat = I 171 (11 + p).toNat) ∧ (0 ≤ I 171 (1 + p).toNat ∧ I 171 (1 + p).toNat < I 167 0) ∧ (I 171 (11 + p).toNat = -9 ∨ (0 ≤ I 171 (11 + p).toNat ∧ I 171 (11 + p).toNat ≤ 20)) := by
  obtain ⟨q, rfl⟩ : ∃ q : Nat, p = q := ⟨p.toNat, by omega⟩
  have a1 := hx.2.2.1 q h1
  have a2 := hm.2.2.2.1.2.2.1 q h1
  rw [show (1 + (q : Int)).toNat = 1 + q by omega, show (6 + (q : Int)).toNat = 6 + q by omega, show (11 + (q : Int)).toNat = 11 + q by omega, Int.toNat_natCast]
  exact ⟨a1, a2⟩
section XSMALL
variable {L d : Nat} {I : jm_I} {K : Option jm_V → jm_I → Prop} {x0 x1 x2 x3 : Int} {c : Nat}
theorem c_X_isRoom (hc : jx_City (jx_0 L) c) (h0 : I 1 0 = (c : Int)) (hz : (2 ≤ I c 0 ∧ I c 0 ≤ 6) ∧ (-2147483648 ≤ x1 ∧ x1 < 2147483648)) (k : ∀ v, (v = 1 ∧ 0 ≤ x1 ∧ x1 < I c 0) ∨ (v = 0 ∧ ¬ (0 ≤ x1 ∧ x1 < I c 0)) → K (some (.inl v)) I) : Cx (jx_0 L) (d + 1) md_X_isRoom [.inr (.inl 1), .inl x1] I K := by
  refine b_X_isRoom_0 (by first | assumption | rfl) (by first | assumption | rfl) (c_X_within (by omega) (fun v1 hv1 => ?_))
  refine b_X_isRoom_14 (by omega) ?_
  exact k _ (by omega)
theorem c_X_isPerson (hc : jx_City (jx_0 L) c) (h0 : I 1 0 = (c : Int)) (hz : (0 ≤ I c 3 ∧ I c 3 ≤ 5) ∧ (-2147483648 ≤ x1 ∧ x1 < 2147483648)) (k : ∀ v, (v = 1 ∧ 0 ≤ x1 ∧ x1 < I c 3) ∨ (v = 0 ∧ ¬ (0 ≤ x1 ∧ x1 < I c 3)) → K (some (.inl v)) I) : Cx (jx_0 L) (d + 1) md_X_isPerson [.inr (.inl 1), .inl x1] I K := by
  refine b_X_isPerson_0 (by first | assumption | rfl) (by first | assumption | rfl) (c_X_within (by omega) (fun v1 hv1 => ?_))
  refine b_X_isPerson_14 (by omega) ?_
  exact k _ (by omega)
theorem c_X_isThing (hc : jx_City (jx_0 L) c) (h0 : I 1 0 = (c : Int)) (hz : (0 ≤ I c 4 ∧ I c 4 ≤ 5) ∧ (-2147483648 ≤ x1 ∧ x1 < 2147483648)) (k : ∀ v, (v = 1 ∧ 0 ≤ x1 ∧ x1 < I c 4) ∨ (v = 0 ∧ ¬ (0 ≤ x1 ∧ x1 < I c 4)) → K (some (.inl v)) I) : Cx (jx_0 L) (d + 1) md_X_isThing [.inr (.inl 1), .inl x1] I K := by
  refine b_X_isThing_0 (by first | assumption | rfl) (by first | assumption | rfl) (c_X_within (by omega) (fun v1 hv1 => ?_))
  refine b_X_isThing_14 (by omega) ?_
  exact k _ (by omega)
theorem c_X_isUp (hz : (0 ≤ x1 ∧ x1 < 5) ∧ (-9 ≤ I 47 x1.toNat ∧ I 47 x1.toNat < 100)) (k : ∀ v, (v = 1 ∧ ¬ I 47 x1.toNat = -9) ∨ (v = 0 ∧ I 47 x1.toNat = -9) → K (some (.inl v)) I) : Cx (jx_0 L) d md_X_isUp [.inr (.inl 1), .inl x1] I K := by
  refine b_X_isUp_0 (by omega) (fun hb1 => ?_) (fun hb1 => ?_)
  · refine b_X_isUp_18 ?_
    refine b_X_isUp_19 (by omega) ?_
    exact k _ (by omega)
  · refine b_X_isUp_14 ?_
    refine b_X_isUp_19 (by omega) ?_
    exact k _ (by omega)
theorem c_X_roomOfThing (hc : jx_City (jx_0 L) c) (h0 : I 1 0 = (c : Int)) (ht : tcOk I c x1) (hs : spOk I x1 (I 48 x1.toNat)) (k : K (some (.inl (roF I x1 (I 48 x1.toNat)))) I) : Cx (jx_0 L) (d + 1) md_X_roomOfThing [.inr (.inl 1), .inl x1] I K := by
  have := ht.1
  refine b_X_roomOfThing_0 (by first | assumption | rfl) (by first | assumption | rfl) (by omega) (c_City_roomOfSpot hc ht hs ?_)
  refine b_X_roomOfThing_17 ?_
  exact k
end XSMALL
