/-! ===== city, both sides ===== -/
section CITY2
variable {L d : Nat} {I J : jm_I} {K : Option jm_V → jm_I → Prop} {c e : Nat} {f : Nat → Int} {n : Nat} {D0 : jm_I}
/-- what the model has of the new city -/
def mcA (I A D : jm_I) : Prop := (∀ a, a ≠ 167 → a ≠ 168 → a ≠ 169 → a ≠ 170 → a ≠ 171 → a ≠ 174 → (a < 177 ∨ 181 < a) → A a = I a) ∧ (A 167 15 = I 167 15) ∧ (A 167 0 = D 0 0 ∧ A 167 3 = D 0 1 ∧ A 167 1 = D 0 2 ∧ A 167 4 = D 0 3 ∧ A 167 5 = D 0 4 ∧ A 167 10 = 0 ∧ A 167 13 = 0 ∧ A 167 17 = 0) ∧ (∀ i : Nat, (i : Int) < D 0 2 → A 168 (3 * i) = D 1 i ∧ A 168 (3 * i + 1) = D 2 i ∧ A 168 (3 * i + 2) = D 3 i) ∧ (∀ t : Nat, (t : Int) < D 0 4 → A 169 t = D 6 t ∧ A 171 (17 + t) = D (8 + t) 0 ∧ A 171 (22 + t) = 0 ∧ ∀ j : Nat, (j : Int) < D 6 t → A 170 (4 * t + j) = D (8 + t) j) ∧ (A 171 0 = 0 ∧ A 171 16 = 0) ∧ (∀ p : Nat, (p : Int) < D 0 3 → A 171 (1 + p) = D 4 p ∧ A 171 (6 + p) = D 5 p ∧ A 171 (11 + p) = -9) ∧ (A 174 0 = 0 ∧ A 174 1 = 0)
theorem c_M_city (hT : mlT I f n) (hD0 : D0 0 0 = 2 ∧ D0 0 1 = 10 ∧ D0 0 2 = 0 ∧ D0 0 3 = 0 ∧ D0 0 4 = 0 ∧ D0 20 0 = 0) (hok : dOk 0 D0) (k1 : ∀ (A D : jm_I) (k : Nat), psO f n 201 0 0 D0 = .inl (k, D) → dOk k D → k ≤ 100 → mcA I A D → K (some (.inl (k : Int))) A) (k2 : ∀ (J : jm_I) (s : Nat), psO f n 201 0 0 D0 = .inr s → mrF I J f n → K (some (.inl (-10 - (s : Int)))) J) : Cx (jx_0 L) (d + 6) md_M_city [.inr (.inl 167)] I K := by
  refine b_M_city_0 ?_
  generalize hJ : jm_up (jm_up (jm_up (jm_up (jm_up (jm_up (jm_up (jm_up I 167 18 0) 167 22 0) 177 0 2) 177 1 10) 167 24 0) 167 25 0) 167 27 0) 167 29 0 = J1
  have ox : ∀ x, x ≠ 167 → x ≠ 177 → J1 x = I x := fun x x1 x2 => by rw [← hJ, jm_up_o x1, jm_up_o x1, jm_up_o x1, jm_up_o x1, jm_up_o x2, jm_up_o x2, jm_up_o x1, jm_up_o x1]
  have oj : ∀ j, j ≠ 18 → j ≠ 22 → j ≠ 24 → j ≠ 25 → j ≠ 27 → j ≠ 29 → J1 167 j = I 167 j := fun j a b c d e f => by rw [← hJ, up_k f, up_k e, up_k d, up_k c, up_a (by decide), up_a (by decide), up_k b, up_k a]
  have e18 : J1 167 18 = ((0 : Nat) : Int) := by rw [← hJ, up_k (by decide), up_k (by decide), up_k (by decide), up_k (by decide), up_a (by decide), up_a (by decide), up_k (by decide), up_s]; rfl
  have e22 : J1 167 22 = 0 := by rw [← hJ, up_k (by decide), up_k (by decide), up_k (by decide), up_k (by decide), up_a (by decide), up_a (by decide), up_s]
  have e24 : J1 167 24 = 0 := by rw [← hJ, up_k (by decide), up_k (by decide), up_k (by decide), up_s]
  have e25 : J1 167 25 = 0 := by rw [← hJ, up_k (by decide), up_k (by decide), up_s]
  have e27 : J1 167 27 = 0 := by rw [← hJ, up_k (by decide), up_s]
  have e29 : J1 167 29 = 0 := by rw [← hJ, up_s]
  have e1770 : J1 177 0 = 2 := by rw [← hJ, up_a (by decide), up_a (by decide), up_a (by decide), up_a (by decide), up_k (by decide), up_s]
  have e1771 : J1 177 1 = 10 := by rw [← hJ, up_a (by decide), up_a (by decide), up_a (by decide), up_a (by decide), up_s]
  have hF : mrF I J1 f n := by
    refine ⟨⟨by rw [oj 17 (by decide) (by decide) (by decide) (by decide) (by decide) (by decide)]; exact hT.1, hT.2.1, fun k hk => ?_⟩, fun x x1 x2 => ox x x1 (by omega), fun j hj => oj j (by omega) (by omega) (by omega) (by omega) (by omega) (by omega)⟩
    rw [ox 176 (by decide) (by decide)]
    exact hT.2.2 k hk
  refine c_M_next (f := f) (n := n) (q := 0) hF.1 e18 (Nat.zero_le _) (fun J2 o oj2 f18 f19 fm fr => ?_)
  have hF2 : mrF I J2 f n := mrF_mv hF (fun x x1 _ => o x x1) (fun j hj => oj2 j (by omega) (by omega) (by omega) (by omega))
  rw [show (0 : Int) = ((0 : Nat) : Int) from rfl]
  refine mc_loop (D0 := D0) hT.2.1 (fun J3 D k hp hF3 hD3 hdk h22 hk => ?_) (fun J3 s x hp hB => ?_) 201 0 0 J2 D0 rfl (by omega) (Nat.zero_le _) hok hF2 ?_ f18 f19 fm ?_ ?_ rfl
  · refine b_M_city_84 (by omega) (fun _ => ?_) (fun h => absurd h22 h)
    refine b_M_city_99 (c_M_settles (fun A oA jA fA a168 a170 z171 a171 a169 a174 => ?_))
    refine b_M_city_103 (k1 A D k hp hdk hk ?_)
    obtain ⟨w1, w2, w3, w4, w5, w6, w7, w8, w9⟩ := hD3
    obtain ⟨d1, d2, d3, d4, d5, d6⟩ := hdk
    unfold dcOk at d1
    refine ⟨fun a a1 a2 a3 a4 a5 a6 a7 => ?_, ?_, ⟨by rw [fA.1]; exact w1, by rw [fA.2.1]; exact w2, by rw [fA.2.2.1]; exact w4, by rw [fA.2.2.2.1]; exact w5, by rw [fA.2.2.2.2.1]; exact w6, fA.2.2.2.2.2⟩, fun i hi => ?_, fun t ht => ?_, z171, fun p hp => ?_, a174⟩
    · rw [oA a a1 a2 a3 a4 a5 a6, hF3.2.1 a a1 a7]
    · rw [jA 15 (by decide) (by decide) (by decide) (by decide) (by decide) (by decide) (by decide) (by decide), hF3.2.2 15 (by omega)]
    · rw [a168 (3 * i) (by omega), a168 (3 * i + 1) (by omega), a168 (3 * i + 2) (by omega)]
      exact w7 i hi
    · obtain ⟨y1, y2⟩ := w9 t ht
      have y3 := (d6 t ht).1
      obtain ⟨y4, y5, y6⟩ := a169 t (by omega)
      refine ⟨by rw [y4]; exact y1, ?_, y6, fun j hj => ?_⟩
      · rw [y5, show 4 * t = 4 * t + 0 from rfl]
        exact y2 0 (by omega)
      · rw [a170 (4 * t + j) (by omega)]
        exact y2 j hj
    · obtain ⟨y1, y2⟩ := w8 p hp
      obtain ⟨y3, y4, y5⟩ := a171 p (by omega)
      exact ⟨by rw [y3]; exact y1, by rw [y4]; exact y2, y5⟩
  · have g2 := hB.2.1
    refine b_M_city_84 (by omega) (fun h => by omega) (fun _ => ?_)
    refine b_M_city_91 ?_
    rw [hB.2.2.1]
    exact k2 J3 s hp hB.1
  · rw [oj2 22 (by decide) (by decide) (by decide) (by decide)]; exact e22
  · rcases fr with ⟨z, -⟩ | z
    · exact Or.inl z
    · exact Or.inr z
  · have g : ∀ j, 22 < j → J2 167 j = J1 167 j := fun j hj => oj2 j (by omega) (by omega) (by omega) (by omega)
    obtain ⟨q0, q1, q2, q3, q4, q5⟩ := hD0
    refine ⟨by rw [o 177 (by decide), q0]; exact e1770, by rw [o 177 (by decide), q1]; exact e1771, by rw [g 24 (by decide), q5]; exact e24, by rw [g 25 (by decide), q2]; exact e25, by rw [g 27 (by decide), q3]; exact e27, by rw [g 29 (by decide), q4]; exact e29, fun i hi => by omega, fun i hi => by omega, fun i hi => by omega⟩
/-- what the class has of the new city -/
def xcA (I J D : jm_I) (c e : Nat) : Prop := (∀ a, a ≠ 1 → a ≠ 42 → ¬ (e ≤ a ∧ a ≤ e + 19) → ¬ (44 ≤ a ∧ a ≤ 49) → a ≠ 102 → a ≠ 103 → J a = I a) ∧ (J 1 0 = (e : Int) ∧ J 1 1 = (c : Int) ∧ J 1 4 = 0 ∧ ∀ j, j ≠ 0 → j ≠ 1 → j ≠ 4 → J 1 j = I 1 j) ∧ (∀ i, i ≤ 12 → J (e + i) = D i) ∧ (∀ r s : Nat, (r : Int) < D 0 0 → s < 6 → isD (adjC J e 0) 1000 r s (J (e + 14 + r) s)) ∧ (J 44 0 = 0 ∧ J 44 1 = 0) ∧ (∀ p : Nat, p < 5 → J 45 p = D 4 p ∧ J 46 p = D 5 p ∧ J 47 p = -9 ∧ J 48 p = 0) ∧ (J 49 2 = 0 ∧ J 49 1 = I 49 1) ∧ (J 102 0 = 0 ∧ J 102 1 = 0) ∧ J 103 0 = 0
theorem c_X_city (hm : mOk I) (hx : xRel I c e) (k1 : ∀ (J D : jm_I) (k : Nat), psO (I 176) (I 167 17).toNat 201 0 0 (fD0 I e) = .inl (k, D) → dOk k D → xcA I J D c e → K (some (.inl (k : Int))) J) (k2 : ∀ (J : jm_I) (s : Nat), psO (I 176) (I 167 17).toNat 201 0 0 (fD0 I e) = .inr s → (∀ a, a ≠ 42 → (a < e ∨ e + 12 < a) → J a = I a) → K (some (.inl (-10 - (s : Int)))) J) : Cx (jx_0 L) (d + 6) md_X_city [.inr (.inl 1)] I K := by
  obtain ⟨h1, h2, h3, hci, ⟨ht1, ht2⟩, hmo, ⟨hh1, hh2, -⟩, -⟩ := hx
  obtain ⟨hc, he⟩ := ct_of (L := L) h1
  have hcl : (2 ≤ c ∧ c ≤ 22) ∧ (2 ≤ e ∧ e ≤ 22) ∧ (c + 20 ≤ e ∨ e + 20 ≤ c) := by rcases h1 with ⟨rfl, rfl⟩ | ⟨rfl, rfl⟩ <;> decide
  have hr := hm.1
  unfold mRng at hr
  have htx := hm.2.2.2.2.2.2.2
  refine b_X_city_0 h3 he ?_
  rw [ht1, show I 167 17 = (((I 167 17).toNat : Nat) : Int) by omega]
  refine c_CityReader_read (f := I 176) he hcl.2.1 (by omega) (fun k hk => ⟨ht2 k hk, htx k hk⟩) (fun J1 D k hp hcd hdk hk oJ => ?_) (fun J1 s hp hs oJ => ?_)
  · refine b_X_city_19 (by omega) (fun _ => ?_) (fun h => by omega)
    have g0 : J1 1 0 = (c : Int) := by rw [oJ 1 (by decide) (by omega)]; exact h2
    have g1 : J1 1 1 = (e : Int) := by rw [oJ 1 (by decide) (by omega)]; exact h3
    refine b_X_city_26 g1 he g0 hc ?_
    generalize hJ2 : jm_up (jm_up J1 1 1 ((c : Nat) : Int)) 1 0 ((e : Nat) : Int) = J2
    have o2 : ∀ a, a ≠ 1 → J2 a = J1 a := fun a ha => by rw [← hJ2, jm_up_o ha, jm_up_o ha]
    have p0 : J2 1 0 = (e : Int) := by rw [← hJ2, up_s]
    have p1 : J2 1 1 = (c : Int) := by rw [← hJ2, up_k (by decide), up_s]
    have pj : ∀ j, j ≠ 0 → j ≠ 1 → J2 1 j = I 1 j := fun j a b => by rw [← hJ2, up_k a, up_k b, oJ 1 (by decide) (by omega)]
    have eD : ∀ i, i ≤ 12 → J2 (e + i) = D i := fun i hi => by rw [o2 (e + i) (by omega)]; exact hcd i hi
    have e0 : J2 e = D 0 := eD 0 (by omega)
    obtain ⟨d1, d2, d3, d4, d5, d6⟩ := id hdk
    unfold dcOk at d1
    have hco : coOk J2 e := by
      unfold coOk
      rw [e0, eD 1 (by omega), eD 2 (by omega), eD 3 (by omega)]
      refine ⟨by omega, fun i hi => ?_⟩
      have := d4 i hi
      omega
    refine c_X_settleIn (P := jx_0 L) rfl rfl jx_m44 he hcl.2.1 p0 hco (by rw [e0]; omega) (fun J3 o3 hd z0 z1 hp3 => ?_)
    refine b_X_city_48 ?_
    generalize hJ4 : jm_up (jm_up (jm_up J3 1 4 0) 103 0 0) 49 2 0 = J4
    have o4 : ∀ a, a ≠ 1 → a ≠ 103 → a ≠ 49 → J4 a = J3 a := fun a a1 a2 a3 => by rw [← hJ4, jm_up_o a3, jm_up_o a2, jm_up_o a1]
    refine lp_up (σ := jm_I) (Inv := fun x J => 0 ≤ x ∧ (∀ a, a ≠ 102 → J a = J4 a) ∧ ∀ i : Nat, (i : Int) < x → J 102 i = 0) (G := fun x J => Gx (jx_0 L) (d + 6) md_X_city 71 [some (.inr (.inl 1)), some (.inl (k : Int)), some (.inr (.inl e)), some (.inl x)] [] J K) 2 ?_ ?_ 0 J4 (by omega) ⟨by omega, fun a _ => rfl, fun i h => by omega⟩
    · intro x J hx hi ih
      obtain ⟨h0, o, hi⟩ := hi
      refine b_X_city_71 (by omega) (fun h => by omega) (fun _ => ?_)
      refine b_X_city_76 (by omega) ?_
      refine ih _ ⟨by omega, fun a ha => by rw [jm_up_o ha, o a ha], fun i hi2 => ?_⟩
      by_cases ei : i = x.toNat
      · rw [ei, up_s]
      · rw [up_k ei]; exact hi i (by omega)
    · intro J hi
      obtain ⟨-, o, hi⟩ := hi
      refine b_X_city_71 (by omega) (fun _ => ?_) (fun h => by omega)
      refine b_X_city_89 (k1 J D k hp hdk ?_)
      have eJ : ∀ i, i ≤ 12 → J (e + i) = D i := fun i hi => by rw [o (e + i) (by omega), o4 (e + i) (by omega) (by omega) (by omega), o3 (e + i) (by omega) (by omega)]; exact eD i hi
      have q1 : ∀ j, j ≠ 4 → J 1 j = J2 1 j := fun j hj => by rw [o 1 (by decide), ← hJ4, up_a (by decide), up_a (by decide), up_k hj, o3 1 (by omega) (by omega)]
      refine ⟨fun a a1 a2 a3 a4 a5 a6 => ?_, ⟨by rw [q1 0 (by decide)]; exact p0, by rw [q1 1 (by decide)]; exact p1, by rw [o 1 (by decide), ← hJ4, up_a (by decide), up_a (by decide), up_s], fun j j0 j1 j4 => by rw [q1 j j4, pj j j0 j1]⟩, eJ, fun r s h1 h2 => ?_, ⟨?_, ?_⟩, fun p hp => ?_, ⟨?_, ?_⟩, ⟨hi 0 (by omega), hi 1 (by omega)⟩, ?_⟩
      · rw [o a a5, o4 a a1 a6 (by omega), o3 a (by omega) (by omega), o2 a a1, oJ a a2 (by omega)]
      · have hadj : adjC J e 0 = adjC J2 e 0 := by
          unfold adjC
          have e0' : J e = D 0 := eJ 0 (by omega)
          rw [e0', e0, eJ 1 (by omega), eJ 2 (by omega), eJ 3 (by omega), eD 1 (by omega), eD 2 (by omega), eD 3 (by omega)]
        rw [hadj, o (e + 14 + r) (by omega), o4 (e + 14 + r) (by omega) (by omega) (by omega)]
        exact hd r s (by rw [e0]; exact h1) h2
      · rw [o 44 (by decide), o4 44 (by decide) (by decide) (by decide)]; exact z0
      · rw [o 44 (by decide), o4 44 (by decide) (by decide) (by decide)]; exact z1
      · rw [o 45 (by decide), o 46 (by decide), o 47 (by decide), o 48 (by decide), o4 45 (by decide) (by decide) (by decide), o4 46 (by decide) (by decide) (by decide), o4 47 (by decide) (by decide) (by decide), o4 48 (by decide) (by decide) (by decide)]
        have := hp3 p hp
        rw [eD 4 (by omega), eD 5 (by omega)] at this
        exact this
      · rw [o 49 (by decide), ← hJ4, up_s]
      · rw [o 49 (by decide), ← hJ4, up_k (by decide), up_a (by decide), up_a (by decide), o3 49 (by omega) (by omega), o2 49 (by decide), oJ 49 (by decide) (by omega)]
      · rw [o 103 (by decide), ← hJ4, up_a (by decide), up_s]
  · refine b_X_city_19 (by omega) (fun h => by omega) (fun _ => ?_)
    exact b_X_city_24 (k2 J1 s hp oJ)
theorem g_city (h : Rel I) : Two L d md_X_city md_M_city [] I := by
  obtain ⟨hm, c, e, hx⟩ := id h
  have hr := hm.1
  unfold mRng at hr
  have h1 := hx.1
  have hcl : (2 ≤ c ∧ c ≤ 22) ∧ (2 ≤ e ∧ e ≤ 22) ∧ (c + 20 ≤ e ∨ e + 20 ≤ c) := by rcases h1 with ⟨rfl, rfl⟩ | ⟨rfl, rfl⟩ <;> decide
  have htx := hm.2.2.2.2.2.2.2
  obtain ⟨-, -, -, -, ⟨ht1, ht2⟩, -, ⟨hh1, hh2, -⟩, -, -, htr⟩ := id hx
  have hD0 : fD0 I e 0 0 = 2 ∧ fD0 I e 0 1 = 10 ∧ fD0 I e 0 2 = 0 ∧ fD0 I e 0 3 = 0 ∧ fD0 I e 0 4 = 0 ∧ fD0 I e 20 0 = 0 := ⟨rfl, rfl, rfl, rfl, rfl, rfl⟩
  refine c_X_city hm hx (fun J D k hp hdk hA => ?_) (fun J s hp oJ => ?_)
  · obtain ⟨x1, ⟨x20, x21, x24, x2j⟩, x3, x4, x5, x6, x7, x8, x9⟩ := hA
    have e167 : J 167 = I 167 := x1 167 (by decide) (by decide) (by omega) (by omega) (by decide) (by decide)
    have e176 : J 176 = I 176 := x1 176 (by decide) (by decide) (by omega) (by omega) (by decide) (by decide)
    have hT : mlT J (I 176) (I 167 17).toNat := ⟨by rw [e167]; omega, by omega, fun k hk => ⟨by rw [e176], htx k hk⟩⟩
    refine ⟨_, rfl, c_M_city (D0 := fD0 I e) hT hD0 (fD0_ok I e) (fun A D' k' hp' hdk' hk' hmA => ?_) (fun J' s hp' hF => ?_)⟩
    · rw [hp] at hp'
      have hpe : (k, D) = (k', D') := Sum.inl.inj hp'
      have hk1 : k = k' := congrArg Prod.fst hpe
      have hD1 : D = D' := congrArg Prod.snd hpe
      subst hk1; subst hD1
      refine ⟨rfl, ?_⟩
      obtain ⟨a1, a2, ⟨a30, a33, a31, a34, a35, a310, a313, a317⟩, a4, a5, a6, a7, a8⟩ := hmA
      obtain ⟨d1, d2, d3, d4, d5, d6⟩ := hdk
      unfold dcOk at d1
      have oA : ∀ a, a < 167 ∨ a = 175 ∨ a = 176 ∨ a = 172 ∨ a = 173 → A a = J a := fun a ha => a1 a (by omega) (by omega) (by omega) (by omega) (by omega) (by omega) (by omega)
      have oC : ∀ i, i ≤ 12 → A (e + i) = D i := fun i hi => by rw [oA (e + i) (by omega)]; exact x3 i hi
      have e0 : A e = D 0 := oC 0 (by omega)
      have hci : xCity A e := by
        refine ⟨⟨by rw [e0, a30], by rw [e0, a33], by rw [e0, a31], by rw [e0, a34], by rw [e0, a35]⟩, fun i hi => ?_, fun t ht => ?_, fun r s hr2 hs2 => ?_⟩
        · rw [a31] at hi
          rw [oC 1 (by omega), oC 2 (by omega), oC 3 (by omega)]
          obtain ⟨z1, z2, z3⟩ := a4 i hi
          exact ⟨z1.symm, z2.symm, z3.symm⟩
        · rw [a35] at ht
          obtain ⟨z1, z2, z3, z4⟩ := a5 t ht
          have := (d6 t ht).1
          rw [oC 6 (by omega), show e + 8 + t = e + (8 + t) by omega, oC (8 + t) (by omega)]
          refine ⟨z1.symm, fun j hj => ?_⟩
          rw [z1] at hj
          exact (z4 j hj).symm
        · rw [a30] at hr2 hs2
          have := x4 r s hr2 (by omega)
          have hadj : ∀ q r', adjC J e 0 q r' ↔ adjM A 0 q r' := fun q r' => by
            unfold adjC adjM adj
            have j0 : J e = D 0 := x3 0 (by omega)
            rw [j0, x3 1 (by omega), x3 2 (by omega), x3 3 (by omega), a31]
            constructor
            · intro ⟨i, i1, i2⟩
              obtain ⟨z1, z2, z3⟩ := a4 i i1
              refine ⟨i, i1, ?_⟩
              simp only [z1, z2, z3]; exact i2
            · intro ⟨i, i1, i2⟩
              obtain ⟨z1, z2, z3⟩ := a4 i i1
              simp only [z1, z2, z3] at i2
              exact ⟨i, i1, i2⟩
          rw [oA (e + 14 + r) (by omega)]
          exact isD_congr hadj this
      refine ⟨⟨⟨?_, ?_, ?_, ?_, fun i hi => by rw [a310] at hi; omega, fun i hi => ?_, fun i hi => by rw [a313] at hi; omega, fun k hk => ?_⟩, e, c, ?_, ?_, ?_, hci, ⟨?_, fun k hk => ?_⟩, ?_, ⟨?_, ?_, fun i hi => by rw [a310] at hi; omega⟩, fun i hi => ?_, ⟨?_, fun i hi => by rw [a313] at hi; omega⟩, ?_⟩, ?_⟩
      · unfold mRng
        rw [a30, a31, a33, a34, a35, a310, a313, a317]
        omega
      · intro i hi
        rw [a31] at hi
        obtain ⟨z1, z2, z3⟩ := a4 i hi
        have := d4 i hi
        rw [a30, z1, z2, z3]
        exact ⟨this.1, this.2.1, this.2.2.1, this.2.2.2⟩
      · intro t ht
        rw [a35] at ht
        obtain ⟨z1, z2, z3, z4⟩ := a5 t ht
        obtain ⟨y1, y2⟩ := d6 t ht
        rw [a30, z1]
        refine ⟨y1, fun j hj => ?_⟩
        rw [z4 j hj]
        exact y2 j hj
      · refine ⟨by rw [a6.1]; omega, by rw [a6.2]; omega, fun p hp => ?_, fun t ht => ?_⟩
        · rw [a34] at hp
          obtain ⟨z1, z2, z3⟩ := a7 p hp
          rw [z1, z3, a30]
          exact ⟨d5 p hp, Or.inl rfl⟩
        · rw [a35] at ht
          obtain ⟨z1, z2, z3, z4⟩ := a5 t ht
          obtain ⟨y1, y2⟩ := d6 t ht
          right
          rw [z3, z1, z2]
          refine ⟨by omega, by omega, ?_⟩
          rw [show 4 * t + (0 : Int).toNat = 4 * t + 0 from rfl]
          exact (z4 0 (by omega)).symm
      · left
        rcases (show i = 0 ∨ i = 1 by omega) with rfl | rfl
        · exact a8.1
        · exact a8.2
      · rw [oA 176 (by omega), e176]; exact htx k hk
      · rcases h1 with ⟨rfl, rfl⟩ | ⟨rfl, rfl⟩
        · exact Or.inr ⟨rfl, rfl⟩
        · exact Or.inl ⟨rfl, rfl⟩
      · rw [oA 1 (by omega)]; exact x20
      · rw [oA 1 (by omega)]; exact x21
      · rw [oA 1 (by omega), x24, a317]
      · rw [oA 43 (by omega), oA 176 (by omega), e176, x1 43 (by decide) (by decide) (by omega) (by omega) (by decide) (by decide)]; exact ht2 k hk
      · refine ⟨by rw [oA 44 (by omega), x5.1, a6.1], by rw [oA 44 (by omega), x5.2, a6.2], fun p hp => ?_, fun t ht => ?_⟩
        · rw [a34] at hp
          obtain ⟨z1, z2, z3⟩ := a7 p hp
          obtain ⟨y1, y2, y3, y4⟩ := x6 p (by omega)
          show A 45 p = _ ∧ A 46 p = _ ∧ A 47 p = _
          rw [oA 45 (by omega), oA 46 (by omega), oA 47 (by omega), y1, y2, y3, z1, z2, z3]
          exact ⟨rfl, rfl, rfl⟩
        · rw [a35] at ht
          obtain ⟨z1, z2, z3, z4⟩ := a5 t ht
          obtain ⟨y1, y2, y3, y4⟩ := x6 t (by omega)
          show A 48 t = _
          rw [oA 48 (by omega), y4, z3, if_neg (by omega)]
      · rw [oA 49 (by omega), x7.1, a310]
      · rw [oA 49 (by omega), x7.2]; exact hh2
      · refine ⟨?_, fun q => ?_⟩
        · rcases (show i = 0 ∨ i = 1 by omega) with rfl | rfl
          · rw [oA 102 (by omega), x8.1, a8.1]
          · rw [oA 102 (by omega), x8.2, a8.2]
        · exfalso
          rcases (show i = 0 ∨ i = 1 by omega) with rfl | rfl
          · rw [a8.1] at q; omega
          · rw [a8.2] at q; omega
      · rw [oA 103 (by omega), x9, a313]
      · rw [oA 1 (by omega), x2j 14 (by decide) (by decide) (by decide), a2, e167]
        exact htr
      · rw [oA 0 (by omega)]
        exact x1 0 (by decide) (by decide) (by omega) (by omega) (by decide) (by decide)
    · rw [hp] at hp'
      cases hp'
  · have e167 : J 167 = I 167 := oJ 167 (by decide) (by omega)
    have e176 : J 176 = I 176 := oJ 176 (by decide) (by omega)
    have hT : mlT J (I 176) (I 167 17).toNat := ⟨by rw [e167]; omega, by omega, fun k hk => ⟨by rw [e176], htx k hk⟩⟩
    refine ⟨_, rfl, c_M_city (D0 := fD0 I e) hT hD0 (fD0_ok I e) (fun A D' k' hp' hdk' hk' hmA => ?_) (fun A s' hp' hF => ?_)⟩
    · rw [hp] at hp'
      cases hp'
    · rw [hp] at hp'
      have hs : s = s' := Sum.inr.inj hp'
      subst hs
      refine ⟨rfl, ?_⟩
      have oA : ∀ a, a ≠ 42 → a ≠ 167 → (a < e ∨ e + 12 < a) → (a < 177 ∨ 181 < a) → A a = I a := fun a a1 a2 a3 a4 => by rw [hF.2.1 a a2 a4, oJ a a1 a3]
      have mk : mKeep I A := ⟨fun k hk => by rw [hF.2.2 k (by omega), e167], fun a q1 q2 => oA a (by omega) (by omega) (by omega) (by omega)⟩
      refine ⟨⟨mOk_keep mk hm, c, e, xRel_keep mk ⟨oA 1 (by decide) (by decide) (by omega) (by omega), fun a q1 q2 => oA a (by omega) (by omega) (by omega) (by omega), fun a q1 q2 => oA a (by omega) (by omega) (by omega) (by omega), fun a q1 q2 => oA a (by omega) (by omega) (by omega) (by omega)⟩ hm.1 hx⟩, oA 0 (by decide) (by decide) (by omega) (by omega)⟩
end CITY2
