/-! ===== the class's reader: doors, things, items ===== -/
section READER2
variable {L d : Nat} {I J : jm_I} {K : Option jm_V → jm_I → Prop} {x0 x1 x2 x3 x4 : Int} {f : Nat → Int} {n q e : Nat} {D : jm_I}
theorem c_CityReader_readDoor {a : Nat} (hc : jx_City (jx_0 L) e) (he : e ≤ 22) (ha : a ≤ n) (hO : crO I J e f n (tkE f n a) D) (hD : dcOk D) (h5 : J 42 5 = (tkS f n a : Int)) (k1 : ∀ (J' D' : jm_I) (q' : Nat), crO I J' e f n q' D' → itD f n a D = enO f n q' D' → K none J') (k2 : ∀ (J' : jm_I) (s : Nat), crB I J' e f n s → itD f n a D = .inr s → K none J') : Cx (jx_0 L) (d + 3) md_CityReader_readDoor [.inr (.inl 42)] J K := by
  have hDc := hO.2.2.2.2.2
  have e0 : J e = D 0 := hDc 0 (by omega)
  have hn200 := hO.1.1.2.2.1
  unfold dcOk at hD
  have hq1 := (tk_r (f := f) (n := n) ha).2.2.2.1
  have hq2 := (tk_r (f := f) (n := n) hq1).2.2.2.1
  have hq3 := (tk_r (f := f) (n := n) hq2).2.2.2.1
  have S1 := ct_S1 hc
  have S2 := ct_S2 hc
  have S3 := ct_S3 hc
  -- the rest, behind a fault
  have rest90 : ∀ (J' : jm_I) (s : Nat), s ≤ 200 → crB I J' e f n s → itD f n a D = .inr s → (0 ≤ D 0 2 ∧ D 0 2 < 8) → Gx (jx_0 L) (d + 3) md_CityReader_readDoor 90 [some (.inr (.inl 42)), some (.inl (D 0 2))] [] J' K := by
    intro J' s hs hB hit hr
    refine b_CityReader_readDoor_90 hB.1.2.1 hc (c_CityReader_needNumber_f hB hs ?_)
    have hB4 := crB_up (i := 3) (k := (D 0 2).toNat) (v := 0) he hB (by omega)
    refine b_CityReader_readDoor_104 S3 hB4.1.2.1 hc (by omega) ?_
    exact k2 _ _ (crB_up (i := 0) he hB4 (by omega)) hit
  have rest64 : ∀ (J' : jm_I) (s : Nat), s ≤ 200 → crB I J' e f n s → itD f n a D = .inr s → (0 ≤ D 0 2 ∧ D 0 2 < 8) → (-1000 ≤ J' (e + 1) (D 0 2).toNat ∧ J' (e + 1) (D 0 2).toNat ≤ 1000) → Gx (jx_0 L) (d + 3) md_CityReader_readDoor 64 [some (.inr (.inl 42)), some (.inl (D 0 2))] [.inl 0, .inl (D 0 2), .inr (.inl (e + 2))] J' K := by
    intro J' s hs hB hit hr hv
    have hB4 := crB_up (i := 2) (k := (D 0 2).toNat) (v := 0) he hB (by omega)
    have w1 : jm_up J' (e + 2) (D 0 2).toNat 0 (e + 2) (D 0 2).toNat = 0 := up_s
    have w2 : jm_up J' (e + 2) (D 0 2).toNat 0 (e + 1) (D 0 2).toNat = J' (e + 1) (D 0 2).toNat := up_a (by omega)
    refine b_CityReader_readDoor_64 S2 hB4.1.2.1 hc (by rw [w1, w2]; omega) (fun _ => ?_) (fun _ => ?_)
    · exact rest90 _ s hs hB4 hit hr
    · refine b_CityReader_readDoor_86 (c_CityReader_refuse_f hB4 hs ?_)
      exact rest90 _ s hs hB4 hit hr
  refine b_CityReader_readDoor_0 hO.1.2.1 hc (by rw [e0]; omega) (fun h => ?_) (fun h => ?_)
  · rw [e0] at h ⊢
    refine b_CityReader_readDoor_19 hO.1.2.1 hc ?_
    rw [e0]
    refine c_CityReader_needNumber he hO (by omega) (fun hn J1 hO1 _ => ?_) (fun hn J1 hB1 _ => ?_)
    · have hO2 := crO_up (i := 1) (k := (D 0 2).toNat) (v := tkV f n (tkE f n a)) he hO1 (by omega)
      have e2 : jm_up J1 (e + 1) (D 0 2).toNat (tkV f n (tkE f n a)) e 0 = D 0 0 := by
        have := hO2.2.2.2.2.2 0 (by omega)
        rw [show e + 0 = e from rfl] at this
        rw [this, up_a (by decide)]
      refine b_CityReader_readDoor_41 S1 hO2.1.2.1 hc (by omega) ?_
      rw [e2]
      have hv1 : 0 ≤ tkV f n (tkE f n a) ∧ tkV f n (tkE f n a) ≤ 99 := by
        unfold nmB at hn
        exact (tkV_r (decide_eq_true_iff.1 hn).1).1
      refine c_CityReader_needNumber he hO2 (by omega) (fun hn2 J3 hO3 h53 => ?_) (fun hn2 J3 hB3 o3 => ?_)
      · have hv2 : 0 ≤ tkV f n (tkE f n (tkE f n a)) ∧ tkV f n (tkE f n (tkE f n a)) ≤ 99 := by
          unfold nmB at hn2
          exact (tkV_r (decide_eq_true_iff.1 hn2).1).1
        have hO4 := crO_up (i := 2) (k := (D 0 2).toNat) (v := tkV f n (tkE f n (tkE f n a))) he hO3 (by omega)
        have w1 : jm_up J3 (e + 2) (D 0 2).toNat (tkV f n (tkE f n (tkE f n a))) (e + 2) (D 0 2).toNat = tkV f n (tkE f n (tkE f n a)) := up_s
        have w2 : jm_up J3 (e + 2) (D 0 2).toNat (tkV f n (tkE f n (tkE f n a))) (e + 1) (D 0 2).toNat = tkV f n (tkE f n a) := by
          rw [up_a (by omega), hO3.2.2.2.2.2 1 (by omega), up_s]
        refine b_CityReader_readDoor_64 S2 hO4.1.2.1 hc (by rw [w1, w2]; omega) (fun hne => ?_) (fun heq => ?_)
        · rw [w1, w2] at hne
          refine b_CityReader_readDoor_90 hO4.1.2.1 hc (c_CityReader_needNumber he hO4 (by omega) (fun hn3 J5 hO5 _ => ?_) (fun hn3 J5 hB5 _ => ?_))
          · have hO6 := crO_up (i := 3) (k := (D 0 2).toNat) (v := tkV f n (tkE f n (tkE f n (tkE f n a)))) he hO5 (by omega)
            have e2' : jm_up J5 (e + 3) (D 0 2).toNat (tkV f n (tkE f n (tkE f n (tkE f n a)))) e 2 = D 0 2 := by
              have := hO6.2.2.2.2.2 0 (by omega)
              rw [show e + 0 = e from rfl] at this
              rw [this, up_a (by decide), up_a (by decide), up_a (by decide)]
            refine b_CityReader_readDoor_104 S3 hO6.1.2.1 hc (by omega) ?_
            rw [e2']
            refine k1 _ _ _ (crO_up (i := 0) he hO6 (by omega)) ?_
            unfold itD itD2 itD3
            rw [if_pos h, if_pos hn, if_pos ⟨hn2, hne⟩, if_pos hn3]
          · have hB6 := crB_up (i := 3) (k := (D 0 2).toNat) (v := 0) he hB5 (by omega)
            refine b_CityReader_readDoor_104 S3 hB6.1.2.1 hc (by omega) ?_
            refine k2 _ _ (crB_up (i := 0) he hB6 (by omega)) ?_
            unfold itD itD2 itD3
            rw [if_pos h, if_pos hn, if_pos ⟨hn2, hne⟩, if_neg (by rw [hn3]; simp)]
        · rw [w1, w2] at heq
          refine b_CityReader_readDoor_86 (c_CityReader_refuse_o he hO4 (s := tkS f n (tkE f n (tkE f n a))) (by rw [up_a (by omega)]; exact h53) (fun J5 hB5 => ?_))
          refine rest90 _ _ (tk_200 hq2 hn200) hB5 ?_ (by omega)
          unfold itD itD2
          rw [if_pos h, if_pos hn, if_neg (fun z => z.2 heq)]
      · have w3 : J3 (e + 1) (D 0 2).toNat = tkV f n (tkE f n a) := by rw [o3 (e + 1) (by omega), up_s]
        refine rest64 _ _ (tk_200 hq2 hn200) hB3 ?_ (by omega) (by rw [w3]; omega)
        unfold itD itD2
        rw [if_pos h, if_pos hn, if_neg (by rw [hn2]; simp)]
    · have hB2 := crB_up (i := 1) (k := (D 0 2).toNat) (v := 0) he hB1 (by omega)
      refine b_CityReader_readDoor_41 S1 hB2.1.2.1 hc (by omega) (c_CityReader_needNumber_f hB2 (tk_200 hq1 hn200) ?_)
      refine rest64 _ _ (tk_200 hq1 hn200) hB2 ?_ (by omega) (by rw [up_s]; omega)
      unfold itD
      rw [if_pos h, if_neg (by rw [hn]; simp)]
  · rw [e0] at h
    refine b_CityReader_readDoor_14 (c_CityReader_refuse_o he hO h5 (fun J' hB => ?_))
    refine b_CityReader_readDoor_18 (k2 _ _ hB ?_)
    unfold itD
    rw [if_neg h]
/-- the rooms of a round, behind a fault -/
theorem rt_bad {t s : Nat} (hc : jx_City (jx_0 L) e) (he : e ≤ 22) (ht : t < 5) (hs : s ≤ 200) (k : ∀ J' : jm_I, crB I J' e f n s → K none J') : ∀ (m j : Nat) (J : jm_I), crB I J e f n s → J (e + 6) t = ((j + m : Nat) : Int) → j + m ≤ 4 → Gx (jx_0 L) (d + 3) md_CityReader_readThing 35 [some (.inr (.inl 42)), some (.inl (t : Int)), some (.inl (j : Int))] [] J K := by
  intro m
  induction m with
  | zero =>
    intro j J hB hL h4
    refine b_CityReader_readThing_35 hB.1.2.1 hc (by rw [Int.toNat_natCast, hL]; omega) (fun _ => ?_) (fun h => by rw [Int.toNat_natCast, hL] at h; omega)
    exact b_CityReader_readThing_79 hB.1.2.1 hc (k _ (crB_up (i := 0) he hB (by omega)))
  | succ m ih =>
    intro j J hB hL h4
    refine b_CityReader_readThing_35 hB.1.2.1 hc (by rw [Int.toNat_natCast, hL]; omega) (fun h => by rw [Int.toNat_natCast, hL] at h; omega) (fun _ => ?_)
    refine b_CityReader_readThing_48 hB.1.2.1 hc (by omega) (c_CityReader_needNumber_f hB hs ?_)
    rw [Int.toNat_natCast]
    have hP : (jx_0 L).2.1 (e + 8 + t) = (20, 4) := by
      have := ct_roundS (i := (t : Int)) hc (by omega) (by omega)
      rwa [Int.toNat_natCast] at this
    refine b_CityReader_readThing_72 hP (by omega) ?_
    rw [Int.toNat_natCast, show (j : Int) + 1 = ((j + 1 : Nat) : Int) by omega]
    have hB2 := crB_up (i := 8 + t) (k := j) (v := 0) he hB (by omega)
    rw [show e + (8 + t) = e + 8 + t by omega] at hB2
    refine ih (j + 1) _ hB2 ?_ (by omega)
    rw [up_a (by omega), hL]
    omega
theorem rt_ok {t a : Nat} {D0 : jm_I} (hc : jx_City (jx_0 L) e) (he : e ≤ 22) (ht : t < 5) (k1 : ∀ (J' D' : jm_I) (q' : Nat), crO I J' e f n q' D' → itT f n a D0 = enO f n q' D' → K none J') (k2 : ∀ (J' : jm_I) (s : Nat), crB I J' e f n s → itT f n a D0 = .inr s → K none J') : ∀ (m j q : Nat) (J D : jm_I), crO I J e f n q D → (2 ≤ D 0 0 ∧ D 0 0 ≤ 6) → D 6 t = ((j + m : Nat) : Int) → j + m ≤ 4 → itT f n a D0 = rdO f n t m j q D → Gx (jx_0 L) (d + 3) md_CityReader_readThing 35 [some (.inr (.inl 42)), some (.inl (t : Int)), some (.inl (j : Int))] [] J K := by
  intro m
  induction m with
  | zero =>
    intro j q J D hO hR hL h4 hit
    have e6 : J (e + 6) t = ((j + 0 : Nat) : Int) := by rw [hO.2.2.2.2.2 6 (by omega)]; exact hL
    have e4 : J e 4 = D 0 4 := by
      have := hO.2.2.2.2.2 0 (by omega)
      rw [show e + 0 = e from rfl] at this
      rw [this]
    refine b_CityReader_readThing_35 hO.1.2.1 hc (by rw [Int.toNat_natCast, e6]; omega) (fun _ => ?_) (fun h => by rw [Int.toNat_natCast, e6] at h; omega)
    refine b_CityReader_readThing_79 hO.1.2.1 hc ?_
    rw [e4]
    exact k1 _ _ _ (crO_up (i := 0) he hO (by omega)) hit
  | succ m ih =>
    intro j q J D hO hR hL h4 hit
    have e6 : J (e + 6) t = ((j + (m + 1) : Nat) : Int) := by rw [hO.2.2.2.2.2 6 (by omega)]; exact hL
    have e0 : J e 0 = D 0 0 := by
      have := hO.2.2.2.2.2 0 (by omega)
      rw [show e + 0 = e from rfl] at this
      rw [this]
    have hP : (jx_0 L).2.1 (e + 8 + t) = (20, 4) := by
      have := ct_roundS (i := (t : Int)) hc (by omega) (by omega)
      rwa [Int.toNat_natCast] at this
    refine b_CityReader_readThing_35 hO.1.2.1 hc (by rw [Int.toNat_natCast, e6]; omega) (fun h => by rw [Int.toNat_natCast, e6] at h; omega) (fun _ => ?_)
    refine b_CityReader_readThing_48 hO.1.2.1 hc (by omega) ?_
    rw [e0, Int.toNat_natCast]
    refine c_CityReader_needNumber he hO (by omega) (fun hn J1 hO1 _ => ?_) (fun hn J1 hB1 o1 => ?_)
    · refine b_CityReader_readThing_72 hP (by omega) ?_
      rw [Int.toNat_natCast, show (j : Int) + 1 = ((j + 1 : Nat) : Int) by omega]
      have hO2 := crO_up (i := 8 + t) (k := j) (v := tkV f n q) he hO1 (by omega)
      rw [show e + (8 + t) = e + 8 + t by omega] at hO2
      refine ih (j + 1) _ _ _ hO2 ?_ ?_ (by omega) ?_
      · rw [up_a (by omega)]; exact hR
      · rw [up_a (by omega), hL]; omega
      · rw [hit]
        show (if nmB f n q 0 (D 0 0 - 1) = true then _ else _) = _
        rw [if_pos hn]
    · have hqn := hO.2.2.2.1
      have hn200 := hO.1.1.2.2.1
      refine b_CityReader_readThing_72 hP (by omega) ?_
      rw [Int.toNat_natCast, show (j : Int) + 1 = ((j + 1 : Nat) : Int) by omega]
      have hB2 := crB_up (i := 8 + t) (k := j) (v := 0) he hB1 (by omega)
      rw [show e + (8 + t) = e + 8 + t by omega] at hB2
      refine rt_bad hc he ht (tk_200 hqn hn200) (fun J' hB' => k2 J' _ hB' ?_) m (j + 1) _ hB2 ?_ (by omega)
      · rw [hit]
        show (if nmB f n q 0 (D 0 0 - 1) = true then _ else _) = _
        rw [if_neg (by rw [hn]; simp)]
      · rw [up_a (by omega), o1 (e + 6) (by omega), e6]
        omega
theorem c_CityReader_readThing {a : Nat} (hc : jx_City (jx_0 L) e) (he : e ≤ 22) (ha : a ≤ n) (hO : crO I J e f n (tkE f n a) D) (hD : dcOk D) (h5 : J 42 5 = (tkS f n a : Int)) (k1 : ∀ (J' D' : jm_I) (q' : Nat), crO I J' e f n q' D' → itT f n a D = enO f n q' D' → K none J') (k2 : ∀ (J' : jm_I) (s : Nat), crB I J' e f n s → itT f n a D = .inr s → K none J') : Cx (jx_0 L) (d + 3) md_CityReader_readThing [.inr (.inl 42)] J K := by
  have hDc := hO.2.2.2.2.2
  have e0 : J e = D 0 := hDc 0 (by omega)
  have hn200 := hO.1.1.2.2.1
  unfold dcOk at hD
  have hq1 := (tk_r (f := f) (n := n) ha).2.2.2.1
  have S6 := ct_S6 hc
  refine b_CityReader_readThing_0 hO.1.2.1 hc (by rw [e0]; omega) (fun h => ?_) (fun h => ?_)
  · rw [e0] at h ⊢
    obtain ⟨t, ht⟩ : ∃ t : Nat, D 0 4 = t := ⟨(D 0 4).toNat, by omega⟩
    rw [ht]
    refine b_CityReader_readThing_18 hO.1.2.1 hc (c_CityReader_needNumber he hO (by omega) (fun hn J1 hO1 _ => ?_) (fun hn J1 hB1 _ => ?_))
    · have hv1 : 1 ≤ tkV f n (tkE f n a) ∧ tkV f n (tkE f n a) ≤ 4 := by
        unfold nmB at hn
        exact (decide_eq_true_iff.1 hn).2
      have hO2 := crO_up (i := 6) (k := t) (v := tkV f n (tkE f n a)) he hO1 (by omega)
      refine b_CityReader_readThing_32 S6 (by omega) ?_
      rw [Int.toNat_natCast]
      refine rt_ok hc he (by omega) k1 k2 (tkV f n (tkE f n a)).toNat 0 _ _ _ hO2 ?_ ?_ (by omega) ?_
      · rw [up_a (by omega)]; omega
      · rw [up_s]; omega
      · unfold itT
        rw [if_pos h, if_pos hn, ht, Int.toNat_natCast]
    · have hB2 := crB_up (i := 6) (k := t) (v := 1) he hB1 (by omega)
      refine b_CityReader_readThing_32 S6 (by omega) ?_
      rw [Int.toNat_natCast]
      refine rt_bad hc he (by omega) (tk_200 hq1 hn200) (fun J' hB' => k2 J' _ hB' ?_) 1 0 _ hB2 ?_ (by omega)
      · unfold itT
        rw [if_pos h, if_neg (by rw [hn]; simp)]
      · rw [up_s]; rfl
  · rw [e0] at h
    refine b_CityReader_readThing_13 (c_CityReader_refuse_o he hO h5 (fun J' hB => ?_))
    refine b_CityReader_readThing_17 (k2 _ _ hB ?_)
    unfold itT
    rw [if_neg h]
theorem c_CityReader_readItem {k a : Nat} (hc : jx_City (jx_0 L) e) (he : e ≤ 22) (ha : a ≤ n) (hO : crO I J e f n (tkE f n a) D) (hD : dcOk D) (h4 : J 42 4 = tkK f n a) (h5 : J 42 5 = (tkS f n a : Int)) (hk : k < 1000) (k1 : ∀ (J' D' : jm_I) (q' : Nat), crO I J' e f n q' D' → itO f n k a D = enO f n q' D' → K none J') (k2 : ∀ (J' : jm_I) (s : Nat), crB I J' e f n s → itO f n k a D = .inr s → K none J') : Cx (jx_0 L) (d + 4) md_CityReader_readItem [.inr (.inl 42), .inl (k : Int)] J K := by
  have hkr := tkK_r (f := f) (n := n) (a := a)
  unfold knP at hkr
  refine b_CityReader_readItem_0 (by rw [h4]; omega) (fun h => ?_) (fun h => ?_) (fun h => ?_) (fun h => ?_) (fun h => ?_) (fun h1 h2 h3 h6 h7 => ?_)
  · rw [h4] at h
    have ho : itO f n k a D = itD f n a D := by unfold itO; rw [if_neg (by omega), if_neg (by omega), if_pos h]
    rw [ho] at k1 k2
    refine b_CityReader_readItem_71 (c_CityReader_readDoor hc he ha hO hD h5 (fun J' D' q' z1 z2 => ?_) (fun J' s z1 z2 => ?_))
    · exact b_CityReader_readItem_75 (b_CityReader_readItem_96 (k1 J' D' q' z1 z2))
    · exact b_CityReader_readItem_75 (b_CityReader_readItem_96 (k2 J' s z1 z2))
  · rw [h4] at h
    have ho : itO f n k a D = itP f n a D := by unfold itO; rw [if_neg (by omega), if_neg (by omega), if_neg (by omega), if_pos h]
    rw [ho] at k1 k2
    refine b_CityReader_readItem_78 (c_CityReader_readPerson hc he ha hO hD h5 (fun J' D' q' z1 z2 => ?_) (fun J' s z1 z2 => ?_))
    · exact b_CityReader_readItem_82 (b_CityReader_readItem_96 (k1 J' D' q' z1 z2))
    · exact b_CityReader_readItem_82 (b_CityReader_readItem_96 (k2 J' s z1 z2))
  · rw [h4] at h
    have ho : itO f n k a D = itR f n k a D := by unfold itO; rw [if_pos h]
    rw [ho] at k1 k2
    refine b_CityReader_readItem_56 (c_CityReader_readRooms hc he hO h5 hk (fun J' D' q' z1 z2 => ?_) (fun J' s z1 z2 => ?_))
    · exact b_CityReader_readItem_61 (b_CityReader_readItem_96 (k1 J' D' q' z1 z2))
    · exact b_CityReader_readItem_61 (b_CityReader_readItem_96 (k2 J' s z1 z2))
  · rw [h4] at h
    have ho : itO f n k a D = itS f n a D := by unfold itO; rw [if_neg (by omega), if_pos h]
    rw [ho] at k1 k2
    refine b_CityReader_readItem_64 (c_CityReader_readSteps hc he hO hD h5 (fun J' D' q' z1 z2 => ?_) (fun J' s z1 z2 => ?_))
    · exact b_CityReader_readItem_68 (b_CityReader_readItem_96 (k1 J' D' q' z1 z2))
    · exact b_CityReader_readItem_68 (b_CityReader_readItem_96 (k2 J' s z1 z2))
  · rw [h4] at h
    have ho : itO f n k a D = itT f n a D := by unfold itO; rw [if_neg (by omega), if_neg (by omega), if_neg (by omega), if_neg (by omega), if_pos h]
    rw [ho] at k1 k2
    refine b_CityReader_readItem_85 (c_CityReader_readThing hc he ha hO hD h5 (fun J' D' q' z1 z2 => ?_) (fun J' s z1 z2 => ?_))
    · exact b_CityReader_readItem_89 (b_CityReader_readItem_96 (k1 J' D' q' z1 z2))
    · exact b_CityReader_readItem_89 (b_CityReader_readItem_96 (k2 J' s z1 z2))
  · rw [h4] at h1 h2 h3 h6 h7
    have ho : itO f n k a D = .inr (tkS f n a) := by unfold itO; rw [if_neg h3, if_neg h6, if_neg h1, if_neg h2, if_neg h7]
    refine b_CityReader_readItem_92 (c_CityReader_refuse_o he hO h5 (fun J' hB => ?_))
    exact b_CityReader_readItem_96 (k2 _ _ hB ho)
end READER2
