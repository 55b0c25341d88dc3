/-! ===== presses: the class's table, its small methods ===== -/
theorem laF_k {I J : jm_I} (h : J 169 = I 169) (t s n : Int) : laF J t s n = laF I t s n := by
  unfold laF
  rw [h]
def ptC (I J : jm_I) (c e : Nat) (t : Int) : Prop := mOk I ∧ xRel I c e ∧ (0 ≤ t ∧ t < I 167 5) ∧ (∀ a, a < 107 ∨ 147 < a → J a = I a) ∧ J 107 0 = (c : Int) ∧ J 107 1 = ((44 : Nat) : Int) ∧ J 107 2 = t
theorem pt_mv {I J J' : jm_I} {c e : Nat} {t : Int} (h : ptC I J c e t) (o : ∀ a, a < 108 ∨ 147 < a → J' a = J a) : ptC I J' c e t := by
  obtain ⟨h1, h2, h3, h4, h5, h6, h7⟩ := h
  have e107 := o 107 (by omega)
  exact ⟨h1, h2, h3, fun a ha => by rw [o a (by omega), h4 a ha], by rw [e107]; exact h5, by rw [e107]; exact h6, by rw [e107]; exact h7⟩
/-- from the class's distances -/
theorem cy_x {I : jm_I} {c : Nat} {t : Int} (hm : mOk I) (hci : xCity I c) (ht : 0 ≤ t ∧ t < I 167 5) {h p r : Nat} (hp : (p : Int) < I 167 4) (hh : vsP I t h) (hr : (r : Int) < I 167 0) : I (c + 14 + (I 171 (1 + p)).toNat) (roF I t h).toNat + I (c + 14 + (roF I t h).toNat) r ≤ I 167 3 ↔ cyP I t h p r := by
  have hrg := hm.1
  unfold mRng at hrg
  have h1 := ro_vs hm ht hh
  have h2 := (hm.2.2.2.1.2.2.1 p hp).1
  exact isD_le (by decide) (by omega) (hci.2.2.2 _ _ (by omega) (by omega)) (hci.2.2.2 _ _ (by omega) hr)
section PTAB
variable {L d : Nat} {I J : jm_I} {K : Option jm_V → jm_I → Prop} {x0 x1 x2 x3 x4 t : Int} {c e : Nat}
theorem pt_get (L : Nat) (h : ptC I J c e t) : jx_City (jx_0 L) c ∧ (2 ≤ c ∧ c ≤ 22) ∧ (I c 0 = I 167 0 ∧ I c 1 = I 167 3 ∧ I c 2 = I 167 1 ∧ I c 3 = I 167 4 ∧ I c 4 = I 167 5) ∧ ((2 ≤ I 167 0 ∧ I 167 0 ≤ 6) ∧ (1 ≤ I 167 3 ∧ I 167 3 ≤ 20) ∧ (0 ≤ I 167 4 ∧ I 167 4 ≤ 5) ∧ (0 ≤ t ∧ t < 5)) ∧ (1 ≤ I 169 t.toNat ∧ I 169 t.toNat ≤ 4) ∧ J c = I c ∧ tcOk J c t ∧ J 169 = I 169 ∧ J 170 = I 170 ∧ J (c + 6) t.toNat = I 169 t.toNat := by
  obtain ⟨hm, hx, ht, o, -⟩ := h
  obtain ⟨h1, h2, h3, hci, -⟩ := hx
  have hr := hm.1
  unfold mRng at hr
  have hcl : 2 ≤ c ∧ c ≤ 22 := by rcases h1 with ⟨rfl, -⟩ | ⟨rfl, -⟩ <;> decide
  have htc := tc_of hm hci ht.1 ht.2
  refine ⟨(ct_of (L := L) h1).1, hcl, hci.1, ⟨by omega, by omega, by omega, by omega⟩, (th_of hm ht.1 ht.2).2.1, o c (by omega), tcOk_k (o _ (by omega)) (o _ (by omega)) (fun a a1 a2 => o a (by omega)) htc, o _ (by omega), o _ (by omega), ?_⟩
  rw [o (c + 6) (by omega)]
  exact htc.2.1
theorem c_PressTable_isSpot (hp : ptC I J c e t) (hz : 0 ≤ x1 ∧ x1 < 10) (k : ∀ v, (v = 1 ∧ vsP I t x1.toNat) ∨ (v = 0 ∧ ¬ vsP I t x1.toNat) → K (some (.inl v)) J) : Cx (jx_0 L) d md_PressTable_isSpot [.inr (.inl 107), .inl x1] J K := by
  obtain ⟨hc, hcl, hci, hr, hl, ec, -, -, -, e6⟩ := pt_get L hp
  obtain ⟨-, -, -, -, q0, -, q2⟩ := hp
  unfold vsP at k
  refine b_PressTable_isSpot_0 (by omega) (fun h => ?_) (fun h => ?_)
  · refine b_PressTable_isSpot_29 q0 hc (by rw [ec]; omega) (fun h' => ?_) (fun h' => ?_)
    · rw [ec] at h'
      refine b_PressTable_isSpot_46 ?_
      exact b_PressTable_isSpot_47 (by omega) (k _ (Or.inr ⟨rfl, by omega⟩))
    · rw [ec] at h'
      refine b_PressTable_isSpot_42 ?_
      exact b_PressTable_isSpot_47 (by omega) (k _ (Or.inl ⟨rfl, by omega⟩))
  · refine b_PressTable_isSpot_5 q0 hc (by rw [q2, e6]; omega) (fun h' => ?_) (fun h' => ?_)
    · rw [q2, e6] at h'
      refine b_PressTable_isSpot_25 ?_
      exact b_PressTable_isSpot_47 (by omega) (k _ (Or.inr ⟨rfl, by omega⟩))
    · rw [q2, e6] at h'
      refine b_PressTable_isSpot_21 ?_
      exact b_PressTable_isSpot_47 (by omega) (k _ (Or.inl ⟨rfl, by omega⟩))
theorem c_PressTable_spotsInRoom (hp : ptC I J c e t) (hz : 0 ≤ x1 ∧ x1 < 6) (k : ∀ b : Nat, bsP b (fun h => vsP I t h ∧ roF I t h = x1) → K (some (.inl (b : Int))) J) : Cx (jx_0 L) (d + 1) md_PressTable_spotsInRoom [.inr (.inl 107), .inl x1] J K := by
  obtain ⟨hc, hcl, hci, hr, hl, ec, htc, e169, e170, e6⟩ := pt_get L hp
  obtain ⟨hm, -, ht, -, q0, -, q2⟩ := id hp
  refine b_PressTable_spotsInRoom_0 ?_
  refine lp_up (σ := Nat) (Inv := fun x b => 0 ≤ x ∧ bsP b (fun h => (h : Int) < x ∧ vsP I t h ∧ roF I t h = x1)) (G := fun x b => Gx (jx_0 L) (d + 1) md_PressTable_spotsInRoom 4 [some (.inr (.inl 107)), some (.inl x1), some (.inl (b : Int)), some (.inl x)] [] J K) 10 ?_ ?_ 0 0 (by omega) ⟨by omega, bs_0 (fun h _ q => by omega)⟩
  · intro x b hx hi ih
    obtain ⟨h0, hi⟩ := hi
    obtain ⟨h, rfl⟩ : ∃ h : Nat, x = h := ⟨x.toNat, by omega⟩
    refine b_PressTable_spotsInRoom_4 (by omega) (fun h => by omega) (fun _ => ?_)
    refine b_PressTable_spotsInRoom_10 (c_PressTable_isSpot hp (by omega) (fun v hv => ?_))
    rw [Int.toNat_natCast] at hv
    have stay : ¬ (vsP I t h ∧ roF I t h = x1) → Gx (jx_0 L) (d + 1) md_PressTable_spotsInRoom 40 [some (.inr (.inl 107)), some (.inl x1), some (.inl (b : Int)), some (.inl (h : Int))] [] J K := by
      intro hno
      refine b_PressTable_spotsInRoom_40 ?_
      refine ih _ ⟨by omega, bs_c hi (fun k _ => ?_)⟩
      constructor
      · intro ⟨w1, w2⟩
        refine ⟨?_, w2⟩
        by_cases ek : k = h
        · subst ek; exact absurd w2 hno
        · omega
      · intro ⟨w1, w2⟩
        exact ⟨by omega, w2⟩
    refine b_PressTable_spotsInRoom_15 (by rcases hv with ⟨q, -⟩ | ⟨q, -⟩ <;> omega) (fun h' => ?_) (fun h' => ?_)
    · refine stay (fun w => ?_)
      rcases hv with ⟨q, -⟩ | ⟨-, q⟩
      · omega
      · exact q w.1
    · have hvs : vsP I t h := by
        rcases hv with ⟨-, q⟩ | ⟨q, -⟩
        · exact q
        · exact absurd q h'
      have hro := ro_vs hm ht hvs
      have hspJ : spOk J t h := spOk_k e169 (vs_sp (by omega) hvs)
      refine b_PressTable_spotsInRoom_18 q0 hc ?_
      rw [q2]
      refine c_City_roomOfSpot hc htc hspJ ?_
      rw [roF_k e170]
      refine b_PressTable_spotsInRoom_30 (by omega) (fun h'' => ?_) (fun h'' => ?_)
      · exact stay (fun w => h'' w.2)
      · refine b_PressTable_spotsInRoom_34 ?_
        refine b_PressTable_spotsInRoom_40 ?_
        obtain ⟨s1, s2⟩ := bs_1 (k0 := h) (by omega) (Q := fun k => k = h) (fun k _ => Iff.rfl)
        obtain ⟨w1, w2⟩ := bs_or (S := fun k => (k : Int) < (h : Int) + 1 ∧ vsP I t k ∧ roF I t k = x1) hi s1 (fun k _ => by
          constructor
          · intro ⟨a1, a2⟩
            by_cases ek : k = h
            · exact Or.inr ek
            · exact Or.inl ⟨by omega, a2⟩
          · rintro (⟨a1, a2⟩ | rfl)
            · exact ⟨by omega, a2⟩
            · exact ⟨by omega, hvs, h''⟩)
        rw [s2, w2]
        exact ih _ ⟨by omega, w1⟩
  · intro b hi
    obtain ⟨-, hi⟩ := hi
    refine b_PressTable_spotsInRoom_4 (by omega) (fun _ => ?_) (fun h => by omega)
    exact b_PressTable_spotsInRoom_46 (k b (bs_c hi (fun k hk => ⟨fun w => ⟨by omega, w⟩, fun w => w.2⟩)))
theorem c_PressTable_spotsInReach {p h : Nat} (hp : ptC I J c e t) (hpe : (p : Int) < I 167 4) (hh : vsP I t h) (k : ∀ b : Nat, bsP b (fun k => ∃ r : Nat, (r : Int) < I 167 0 ∧ cyP I t h p r ∧ k = (puF I t r).toNat) → K (some (.inl (b : Int))) J) : Cx (jx_0 L) (d + 1) md_PressTable_spotsInReach [.inr (.inl 107), .inl (p : Int), .inl (roF I t h)] J K := by
  obtain ⟨hc, hcl, hci, hr, hl, ec, htc, e169, e170, e6⟩ := pt_get L hp
  obtain ⟨hm, hx, ht, o, q0, q1, q2⟩ := id hp
  have hro := ro_vs hm ht hh
  have hrm := (hm.2.2.2.1.2.2.1 p hpe).1
  have e45 : J 45 p = I 171 (1 + p) := by rw [o 45 (by omega)]; exact (hx.2.2.2.2.2.1.2.2.1 p hpe).1
  have hd : ∀ a b : Nat, (a : Int) < I 167 0 → (b : Int) < I 167 0 → 0 ≤ I (c + 14 + a) b ∧ I (c + 14 + a) b ≤ 1000 := fun a b h1 h2 => by
    rcases hx.2.2.2.1.2.2.2 a b h1 h2 with ⟨n, q, q6, -⟩ | ⟨q, -⟩ <;> omega
  refine b_PressTable_spotsInReach_0 ?_
  refine lp_up (σ := Nat) (Inv := fun x b => 0 ≤ x ∧ bsP b (fun k => ∃ r : Nat, (r : Int) < x ∧ cyP I t h p r ∧ k = (puF I t r).toNat)) (G := fun x b => Gx (jx_0 L) (d + 1) md_PressTable_spotsInReach 5 [some (.inr (.inl 107)), some (.inl (p : Int)), some (.inl (roF I t h)), some (.inl (b : Int)), some (.inl x)] [] J K) (I 167 0) ?_ ?_ 0 0 (by omega) ⟨by omega, bs_0 (fun h _ ⟨r, q, _⟩ => by omega)⟩
  · intro x b hx2 hi ih
    obtain ⟨h0, hi⟩ := hi
    obtain ⟨r, rfl⟩ : ∃ r : Nat, x = r := ⟨x.toNat, by omega⟩
    have hcy := cy_x hm hx.2.2.2.1 ht hpe hh hx2
    have d1 := hd (I 171 (1 + p)).toNat (roF I t h).toNat (by omega) (by omega)
    have d2 := hd (roF I t h).toNat r (by omega) hx2
    refine b_PressTable_spotsInReach_5 q0 hc (by rw [ec]; omega) (fun h => by rw [ec] at h; omega) (fun _ => ?_)
    refine b_PressTable_spotsInReach_17 q0 hc q1 (by omega) ?_
    rw [Int.toNat_natCast, e45]
    refine b_City_stepsToCarry_0 hc (by omega) ?_
    rw [Int.toNat_natCast, o (c + 14 + (I 171 (1 + p)).toNat) (by omega), o (c + 14 + (roF I t h).toNat) (by omega)]
    refine b_PressTable_spotsInReach_36 q0 hc (by rw [ec]; omega) (fun h' => ?_) (fun h' => ?_)
    · rw [ec] at h'
      refine b_PressTable_spotsInReach_64 ?_
      refine ih _ ⟨by omega, bs_c hi (fun k _ => ?_)⟩
      constructor
      · intro ⟨r', w1, w2, w3⟩
        by_cases er : r' = r
        · subst er
          have := hcy.2 w2
          omega
        · exact ⟨r', by omega, w2, w3⟩
      · intro ⟨r', w1, w2⟩
        exact ⟨r', by omega, w2⟩
    · rw [ec] at h'
      have hcr := hcy.1 (by omega)
      refine b_PressTable_spotsInReach_46 q0 hc ?_
      rw [q2]
      refine c_City_spotOfRoom hc htc (by omega) ?_
      rw [puF_k e169 e170]
      obtain ⟨v1, v2⟩ := pu_vs (I := I) (t := t) hl hx2
      have v10 := vs_10 (by omega) (by omega) v1
      refine b_PressTable_spotsInReach_61 ?_
      refine b_PressTable_spotsInReach_64 ?_
      obtain ⟨s1, s2⟩ := bs_1 (k0 := (puF I t r).toNat) v10 (Q := fun k => k = (puF I t r).toNat) (fun k _ => Iff.rfl)
      obtain ⟨w1, w2⟩ := bs_or (S := fun k => ∃ r' : Nat, (r' : Int) < (r : Int) + 1 ∧ cyP I t h p r' ∧ k = (puF I t r').toNat) hi s1 (fun k _ => by
        constructor
        · intro ⟨r', a1, a2, a3⟩
          by_cases er : r' = r
          · subst er; exact Or.inr a3
          · exact Or.inl ⟨r', by omega, a2, a3⟩
        · rintro (⟨r', a1, a2⟩ | a)
          · exact ⟨r', by omega, a2⟩
          · exact ⟨r, by omega, hcr, a⟩)
      rw [show puF I t r = (((puF I t r).toNat : Nat) : Int) by omega, s2, w2]
      exact ih _ ⟨by omega, w1⟩
  · intro b hi
    obtain ⟨-, hi⟩ := hi
    refine b_PressTable_spotsInReach_5 q0 hc (by rw [ec]; omega) (fun _ => ?_) (fun h => by rw [ec] at h; omega)
    exact b_PressTable_spotsInReach_70 (k b hi)
/-- what a person carries it to from a spot -/
def caQ (I : jm_I) (t : Int) (p h k : Nat) : Prop := vsP I t h ∧ ∃ r : Nat, (r : Int) < I 167 0 ∧ cyP I t h p r ∧ k = (puF I t r).toNat
def caP (I J : jm_I) (t : Int) (p h : Nat) : Prop := ∃ b : Nat, J (142 + p) h = (b : Int) ∧ bsP b (caQ I t p h)
theorem c_PressTable_fillCarried (hp : ptC I J c e t) (k : ∀ J' : jm_I, (∀ a, a < 142 ∨ 146 < a → J' a = J a) → (∀ p h : Nat, (p : Int) < I 167 4 → h < 10 → caP I J' t p h) → K none J') : Cx (jx_0 L) (d + 2) md_PressTable_fillCarried [.inr (.inl 107)] J K := by
  obtain ⟨hc, hcl, hci, hr, hl, ec, -⟩ := pt_get L hp
  have q0 := hp.2.2.2.2.1
  refine b_PressTable_fillCarried_0 ?_
  refine lp_up2 (σ := jm_I) (τ := Option jm_V) (Inv := fun x J' _ => 0 ≤ x ∧ (∀ a, a < 142 ∨ 146 < a → J' a = J a) ∧ ∀ p h : Nat, (p : Int) < x → h < 10 → caP I J' t p h) (G := fun x J' o => Gx (jx_0 L) (d + 2) md_PressTable_fillCarried 2 [some (.inr (.inl 107)), some (.inl x), o] [] J' K) (I 167 4) ?_ ?_ 0 J none (by omega) ⟨by omega, fun a _ => rfl, fun p h hp => by omega⟩
  · intro x J1 o1 hx hi ih
    obtain ⟨h0, oj, hi⟩ := hi
    obtain ⟨p, rfl⟩ : ∃ p : Nat, x = p := ⟨x.toNat, by omega⟩
    refine b_PressTable_fillCarried_2 (by rw [oj 107 (by omega)]; exact q0) hc (by rw [oj c (by omega), ec]; omega) (fun h => by rw [oj c (by omega), ec] at h; omega) (fun _ => ?_)
    refine b_PressTable_fillCarried_13 ?_
    refine lp_up (σ := jm_I) (Inv := fun y J' => 0 ≤ y ∧ (∀ a, a < 142 ∨ 146 < a → J' a = J a) ∧ (∀ p' h : Nat, p' < p → h < 10 → caP I J' t p' h) ∧ ∀ h : Nat, (h : Int) < y → caP I J' t p h) (G := fun y J' => Gx (jx_0 L) (d + 2) md_PressTable_fillCarried 15 [some (.inr (.inl 107)), some (.inl (p : Int)), some (.inl y)] [] J' K) 10 ?_ ?_ 0 J1 (by omega) ⟨by omega, oj, fun p' h h1 h2 => hi p' h (by omega) h2, fun h hh => by omega⟩
    · intro y J2 hy hj ih2
      obtain ⟨y0, o2, hj1, hj2⟩ := hj
      obtain ⟨h, rfl⟩ : ∃ h : Nat, y = h := ⟨y.toNat, by omega⟩
      have hp2 : ptC I J2 c e t := pt_mv hp (fun a ha => o2 a (by omega))
      have hP : (jx_0 L).2.1 (142 + p) = (20, 10) := by
        have := rw_S141 (L := L) (i := (p : Int)) (by omega) (by omega)
        rwa [Int.toNat_natCast] at this
      obtain ⟨_, _, _, _, _, _, htc, e169, e170, _⟩ := pt_get L hp2
      have fin : ∀ b : Nat, bsP b (caQ I t p h) → Gx (jx_0 L) (d + 2) md_PressTable_fillCarried 57 [some (.inr (.inl 107)), some (.inl (p : Int)), some (.inl (h : Int))] [.inl (b : Int), .inl (h : Int), .inr (.inl (142 + p))] J2 K := by
        intro b hb
        refine b_PressTable_fillCarried_57 hP (by omega) ?_
        rw [Int.toNat_natCast]
        refine ih2 _ ⟨by omega, fun a ha => by rw [jm_up_o (by omega), o2 a ha], fun p' h' h1 h2 => ?_, fun h' hh' => ?_⟩
        · obtain ⟨b', w1, w2⟩ := hj1 p' h' h1 h2
          exact ⟨b', by rw [jm_up_o (by omega)]; exact w1, w2⟩
        · by_cases eh : h' = h
          · subst eh
            exact ⟨b, by rw [up_s], hb⟩
          · obtain ⟨b', w1, w2⟩ := hj2 h' (by omega)
            exact ⟨b', by rw [up_k eh]; exact w1, w2⟩
      refine b_PressTable_fillCarried_15 (by omega) (fun h => by omega) (fun _ => ?_)
      refine b_PressTable_fillCarried_21 (by omega) ?_
      rw [Int.toNat_natCast]
      refine c_PressTable_isSpot hp2 (by omega) (fun v hv => ?_)
      rw [Int.toNat_natCast] at hv
      refine b_PressTable_fillCarried_33 hP (by rcases hv with ⟨q, -⟩ | ⟨q, -⟩ <;> omega) (fun h' => ?_) (fun h' => ?_)
      · refine b_PressTable_fillCarried_56 hP ?_
        refine fin 0 (bs_0 (fun k _ w => ?_))
        rcases hv with ⟨q, -⟩ | ⟨-, q⟩
        · omega
        · exact q w.1
      · have hvs : vsP I t h := by
          rcases hv with ⟨-, q⟩ | ⟨q, -⟩
          · exact q
          · exact absurd q h'
        refine b_PressTable_fillCarried_36 hP hp2.2.2.2.2.1 hc ?_
        rw [hp2.2.2.2.2.2.2]
        refine c_City_roomOfSpot hc htc (spOk_k e169 (vs_sp (by omega) hvs)) ?_
        rw [roF_k e170]
        refine b_PressTable_fillCarried_50 hP (c_PressTable_spotsInReach hp2 hx hvs (fun b hb => ?_))
        refine b_PressTable_fillCarried_53 hP ?_
        exact fin b (bs_c hb (fun k _ => ⟨fun w => w.2, fun w => ⟨hvs, w⟩⟩))
    · intro J2 hj
      obtain ⟨-, o2, hj1, hj2⟩ := hj
      refine b_PressTable_fillCarried_15 (by omega) (fun _ => ?_) (fun h => by omega)
      refine b_PressTable_fillCarried_64 ?_
      refine ih _ _ ⟨by omega, o2, fun p' h' h1 h2 => ?_⟩
      by_cases ep : p' = p
      · rw [ep]; exact hj2 h' (by omega)
      · exact hj1 p' h' (by omega) h2
  · intro J1 o1 hi
    obtain ⟨-, oj, hi⟩ := hi
    refine b_PressTable_fillCarried_2 (by rw [oj 107 (by omega)]; exact q0) hc (by rw [oj c (by omega), ec]; omega) (fun _ => ?_) (fun h => by rw [oj c (by omega), ec] at h; omega)
    exact b_PressTable_fillCarried_70 (k J1 oj hi)
theorem c_PressTable_carriedFrom {p a : Nat} (hp : p < 5) (hca : ∀ h : Nat, h < 10 → caP I J t p h) (ha : a < 1024) (k : ∀ b : Nat, bsP b (fun k => ∃ h, h < 10 ∧ a.testBit h = true ∧ caQ I t p h k) → K (some (.inl (b : Int))) J) : Cx (jx_0 L) d md_PressTable_carriedFrom [.inr (.inl 107), .inl (p : Int), .inl (a : Int)] J K := by
  refine b_PressTable_carriedFrom_0 ?_
  refine lp_up (σ := Nat) (Inv := fun x b => 0 ≤ x ∧ bsP b (fun k => ∃ h : Nat, (h : Int) < x ∧ a.testBit h = true ∧ caQ I t p h k)) (G := fun x b => Gx (jx_0 L) d md_PressTable_carriedFrom 5 [some (.inr (.inl 107)), some (.inl (p : Int)), some (.inl (a : Int)), some (.inl (b : Int)), some (.inl x)] [] J K) 10 ?_ ?_ 0 0 (by omega) ⟨by omega, bs_0 (fun h _ ⟨r, q, _⟩ => by omega)⟩
  · intro x b hx hi ih
    obtain ⟨h0, hi⟩ := hi
    obtain ⟨h, rfl⟩ : ∃ h : Nat, x = h := ⟨x.toNat, by omega⟩
    have hb := jn_bit (a := a) (h := h) (by omega) (by omega)
    refine b_PressTable_carriedFrom_5 (by omega) (fun h => by omega) (fun _ => ?_)
    refine b_PressTable_carriedFrom_12 (by rcases hb with ⟨q, -⟩ | ⟨q, -⟩ <;> omega) (fun h' => ?_) (fun h' => ?_)
    · refine b_PressTable_carriedFrom_33 ?_
      have hn : a.testBit h = false := by
        rcases hb with ⟨q, -⟩ | ⟨-, q⟩
        · omega
        · exact q
      refine ih _ ⟨by omega, bs_c hi (fun k _ => ?_)⟩
      constructor
      · intro ⟨h2, w1, w2, w3⟩
        by_cases er : h2 = h
        · subst er; rw [hn] at w2; simp at w2
        · exact ⟨h2, by omega, w2, w3⟩
      · intro ⟨h2, w1, w2⟩
        exact ⟨h2, by omega, w2⟩
    · have hy : a.testBit h = true := by
        rcases hb with ⟨-, q⟩ | ⟨q, -⟩
        · exact q
        · exact absurd q h'
      obtain ⟨b', g1, g2⟩ := hca h (by omega)
      refine b_PressTable_carriedFrom_21 (by omega) ?_
      rw [Int.toNat_natCast, Int.toNat_natCast, g1]
      obtain ⟨w1, w2⟩ := bs_or (S := fun k => ∃ h' : Nat, (h' : Int) < (h : Int) + 1 ∧ a.testBit h' = true ∧ caQ I t p h' k) hi g2 (fun k _ => by
        constructor
        · intro ⟨h2, a1, a2, a3⟩
          by_cases er : h2 = h
          · subst er; exact Or.inr a3
          · exact Or.inl ⟨h2, by omega, a2, a3⟩
        · rintro (⟨h2, a1, a2⟩ | a)
          · exact ⟨h2, by omega, a2⟩
          · exact ⟨h, by omega, hy, a⟩)
      rw [w2]
      refine b_PressTable_carriedFrom_33 ?_
      exact ih _ ⟨by omega, w1⟩
  · intro b hi
    obtain ⟨-, hi⟩ := hi
    refine b_PressTable_carriedFrom_5 (by omega) (fun _ => ?_) (fun h => by omega)
    exact b_PressTable_carriedFrom_39 (k b (bs_c hi (fun k hk => ⟨fun ⟨h, w1, w2⟩ => ⟨h, by omega, w2⟩, fun ⟨h, w1, w2⟩ => ⟨h, by omega, w2⟩⟩)))
theorem c_PressTable_aSecondLater {a : Nat} (hp : ptC I J c e t) (ha : a < 1024) (hv : ∀ h, h < 10 → a.testBit h = true → vsP I t h) (k : ∀ b : Nat, bsP b (fun k => ∃ h : Nat, h < 10 ∧ a.testBit h = true ∧ k = (laF I t h 1).toNat) → K (some (.inl (b : Int))) J) : Cx (jx_0 L) (d + 1) md_PressTable_aSecondLater [.inr (.inl 107), .inl (a : Int)] J K := by
  obtain ⟨hc, hcl, hci, hr, hl, ec, htc, e169, e170, e6⟩ := pt_get L hp
  have q0 := hp.2.2.2.2.1
  have q2 := hp.2.2.2.2.2.2
  refine b_PressTable_aSecondLater_0 ?_
  refine lp_up (σ := Nat) (Inv := fun x b => 0 ≤ x ∧ bsP b (fun k => ∃ h : Nat, (h : Int) < x ∧ a.testBit h = true ∧ k = (laF I t h 1).toNat)) (G := fun x b => Gx (jx_0 L) (d + 1) md_PressTable_aSecondLater 4 [some (.inr (.inl 107)), some (.inl (a : Int)), some (.inl (b : Int)), some (.inl x)] [] J K) 10 ?_ ?_ 0 0 (by omega) ⟨by omega, bs_0 (fun h _ ⟨r, q, _⟩ => by omega)⟩
  · intro x b hx hi ih
    obtain ⟨h0, hi⟩ := hi
    obtain ⟨h, rfl⟩ : ∃ h : Nat, x = h := ⟨x.toNat, by omega⟩
    have hb := jn_bit (a := a) (h := h) (by omega) (by omega)
    refine b_PressTable_aSecondLater_4 (by omega) (fun h => by omega) (fun _ => ?_)
    refine b_PressTable_aSecondLater_10 (by rcases hb with ⟨q, -⟩ | ⟨q, -⟩ <;> omega) (fun h' => ?_) (fun h' => ?_)
    · refine b_PressTable_aSecondLater_36 ?_
      have hn : a.testBit h = false := by
        rcases hb with ⟨q, -⟩ | ⟨-, q⟩
        · omega
        · exact q
      refine ih _ ⟨by omega, bs_c hi (fun k _ => ?_)⟩
      constructor
      · intro ⟨h2, w1, w2, w3⟩
        by_cases er : h2 = h
        · subst er; rw [hn] at w2; simp at w2
        · exact ⟨h2, by omega, w2, w3⟩
      · intro ⟨h2, w1, w2⟩
        exact ⟨h2, by omega, w2⟩
    · have hy : a.testBit h = true := by
        rcases hb with ⟨-, q⟩ | ⟨q, -⟩
        · exact q
        · exact absurd q h'
      have hvs := hv h (by omega) hy
      refine b_PressTable_aSecondLater_18 q0 hc ?_
      rw [q2]
      refine c_City_spotIn hc htc (spOk_k e169 (vs_sp (by omega) hvs)) (by omega) ?_
      rw [laF_k e169]
      obtain ⟨v1, v2⟩ := la_vs (I := I) (t := t) hl hvs
      have v10 := vs_10 (by omega) (by omega) v1
      refine b_PressTable_aSecondLater_33 ?_
      obtain ⟨s1, s2⟩ := bs_1 (k0 := (laF I t h 1).toNat) v10 (Q := fun k => k = (laF I t h 1).toNat) (fun k _ => Iff.rfl)
      obtain ⟨w1, w2⟩ := bs_or (S := fun k => ∃ h' : Nat, (h' : Int) < (h : Int) + 1 ∧ a.testBit h' = true ∧ k = (laF I t h' 1).toNat) hi s1 (fun k _ => by
        constructor
        · intro ⟨h2, a1, a2, a3⟩
          by_cases er : h2 = h
          · subst er; exact Or.inr a3
          · exact Or.inl ⟨h2, by omega, a2, a3⟩
        · rintro (⟨h2, a1, a2⟩ | a)
          · exact ⟨h2, by omega, a2⟩
          · exact ⟨h, by omega, hy, a⟩)
      rw [show laF I t h 1 = (((laF I t h 1).toNat : Nat) : Int) by omega, s2, w2]
      refine b_PressTable_aSecondLater_36 ?_
      exact ih _ ⟨by omega, w1⟩
  · intro b hi
    obtain ⟨-, hi⟩ := hi
    refine b_PressTable_aSecondLater_4 (by omega) (fun _ => ?_) (fun h => by omega)
    exact b_PressTable_aSecondLater_42 (k b (bs_c hi (fun k hk => ⟨fun ⟨h, w1, w2⟩ => ⟨h, by omega, w2⟩, fun ⟨h, w1, w2⟩ => ⟨h, by omega, w2⟩⟩)))
end PTAB
