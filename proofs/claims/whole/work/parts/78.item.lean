/-! ===== what the text tells: one item, as it must be ===== -/
abbrev jm_Out : Type := (Nat × jm_I) ⊕ Nat
def nmB (f : Nat → Int) (n q : Nat) (lo hi : Int) : Bool := decide (tkK f n q = 1 ∧ lo ≤ tkV f n q ∧ tkV f n q ≤ hi)
def enO (f : Nat → Int) (n q : Nat) (D : jm_I) : jm_Out := if tkK f n q = 59 then .inl (tkE f n q, D) else .inr (tkS f n q)
/-- the rooms of a round -/
def rdO (f : Nat → Int) (n t : Nat) : Nat → Nat → Nat → jm_I → jm_Out
  | 0, _, q, D => enO f n q (jm_up D 0 4 (D 0 4 + 1))
  | m + 1, j, q, D => if nmB f n q 0 (D 0 0 - 1) = true then rdO f n t m (j + 1) (tkE f n q) (jm_up D (8 + t) j (tkV f n q)) else .inr (tkS f n q)
def itR (f : Nat → Int) (n k a : Nat) (D : jm_I) : jm_Out := if k = 0 then (if nmB f n (tkE f n a) 2 6 = true then enO f n (tkE f n (tkE f n a)) (jm_up D 0 0 (tkV f n (tkE f n a))) else .inr (tkS f n (tkE f n a))) else .inr (tkS f n a)
def itS (f : Nat → Int) (n a : Nat) (D : jm_I) : jm_Out := if D 20 0 = 0 then (if nmB f n (tkE f n a) 1 20 = true then enO f n (tkE f n (tkE f n a)) (jm_up (jm_up D 20 0 1) 0 1 (tkV f n (tkE f n a))) else .inr (tkS f n (tkE f n a))) else .inr (tkS f n a)
def itD3 (f : Nat → Int) (n q : Nat) (D : jm_I) (va vb : Int) : jm_Out := if nmB f n q 0 1 = true then enO f n (tkE f n q) (jm_up (jm_up (jm_up (jm_up D 1 (D 0 2).toNat va) 2 (D 0 2).toNat vb) 3 (D 0 2).toNat (tkV f n q)) 0 2 (D 0 2 + 1)) else .inr (tkS f n q)
def itD2 (f : Nat → Int) (n q : Nat) (D : jm_I) (va : Int) : jm_Out := if nmB f n q 0 (D 0 0 - 1) = true ∧ ¬ tkV f n q = va then itD3 f n (tkE f n q) D va (tkV f n q) else .inr (tkS f n q)
def itD (f : Nat → Int) (n a : Nat) (D : jm_I) : jm_Out := if D 0 2 < 8 then (if nmB f n (tkE f n a) 0 (D 0 0 - 1) = true then itD2 f n (tkE f n (tkE f n a)) D (tkV f n (tkE f n a)) else .inr (tkS f n (tkE f n a))) else .inr (tkS f n a)
def itP2 (f : Nat → Int) (n q : Nat) (D : jm_I) (va : Int) : jm_Out := if nmB f n q 10 60 = true then enO f n (tkE f n q) (jm_up (jm_up (jm_up D 4 (D 0 3).toNat va) 5 (D 0 3).toNat (tkV f n q)) 0 3 (D 0 3 + 1)) else .inr (tkS f n q)
def itP (f : Nat → Int) (n a : Nat) (D : jm_I) : jm_Out := if D 0 3 < 5 then (if nmB f n (tkE f n a) 0 (D 0 0 - 1) = true then itP2 f n (tkE f n (tkE f n a)) D (tkV f n (tkE f n a)) else .inr (tkS f n (tkE f n a))) else .inr (tkS f n a)
def itT (f : Nat → Int) (n a : Nat) (D : jm_I) : jm_Out := if D 0 4 < 5 then (if nmB f n (tkE f n a) 1 4 = true then rdO f n (D 0 4).toNat (tkV f n (tkE f n a)).toNat 0 (tkE f n (tkE f n a)) (jm_up D 6 (D 0 4).toNat (tkV f n (tkE f n a))) else .inr (tkS f n (tkE f n a))) else .inr (tkS f n a)
def itO (f : Nat → Int) (n k a : Nat) (D : jm_I) : jm_Out := if tkK f n a = 114 then itR f n k a D else if tkK f n a = 115 then itS f n a D else if tkK f n a = 100 then itD f n a D else if tkK f n a = 112 then itP f n a D else if tkK f n a = 116 then itT f n a D else .inr (tkS f n a)
def dcOk (D : jm_I) : Prop := (2 ≤ D 0 0 ∧ D 0 0 ≤ 6) ∧ (0 ≤ D 0 2 ∧ D 0 2 ≤ 8) ∧ (0 ≤ D 0 3 ∧ D 0 3 ≤ 5) ∧ (0 ≤ D 0 4 ∧ D 0 4 ≤ 5) ∧ (D 20 0 = 0 ∨ D 20 0 = 1)
/-! ===== the class's reader ===== -/
def crD (J : jm_I) (e : Nat) (D : jm_I) : Prop := ∀ i, i ≤ 12 → J (e + i) = D i
def crF (I J : jm_I) (e : Nat) (f : Nat → Int) (n : Nat) : Prop := crT J f n ∧ J 42 2 = (e : Int) ∧ ∀ a, a ≠ 42 → (a < e ∨ e + 12 < a) → J a = I a
def crO (I J : jm_I) (e : Nat) (f : Nat → Int) (n q : Nat) (D : jm_I) : Prop := crF I J e f n ∧ J 42 8 = -9 ∧ J 42 3 = (q : Int) ∧ q ≤ n ∧ J 42 7 = D 20 0 ∧ crD J e D
def crB (I J : jm_I) (e : Nat) (f : Nat → Int) (n s : Nat) : Prop := crF I J e f n ∧ J 42 8 = (s : Int) ∧ ∃ q : Nat, q ≤ n ∧ J 42 3 = (q : Int)
section READER
variable {L d : Nat} {I J : jm_I} {K : Option jm_V → jm_I → Prop} {x0 x1 x2 x3 x4 : Int} {f : Nat → Int} {n q e : Nat} {D : jm_I}
theorem crF_mv {J' : jm_I} (he : e ≤ 22) (h : crF I J e f n) (o : ∀ a, a ≠ 42 → (a < e ∨ e + 12 < a) → J' a = J a) (o0 : J' 42 0 = J 42 0) (o1 : J' 42 1 = J 42 1) (o2 : J' 42 2 = J 42 2) : crF I J' e f n := by
  obtain ⟨⟨t0, t1, t2, t3⟩, h2, h3⟩ := h
  refine ⟨⟨by rw [o0]; exact t0, by rw [o1]; exact t1, t2, fun k hk => ?_⟩, by rw [o2]; exact h2, fun a a1 a2 => by rw [o a a1 a2, h3 a a1 a2]⟩
  rw [o 43 (by decide) (by omega)]
  exact t3 k hk
theorem crF_up (he : e ≤ 22) (h : crF I J e f n) {i k : Nat} {v : Int} (hi : i ≤ 12) : crF I (jm_up J (e + i) k v) e f n :=
  crF_mv he h (fun a a1 a2 => jm_up_o (by omega)) (by rw [up_a (by omega)]) (by rw [up_a (by omega)]) (by rw [up_a (by omega)])
theorem crB_up (he : e ≤ 22) {s : Nat} (h : crB I J e f n s) {i k : Nat} {v : Int} (hi : i ≤ 12) : crB I (jm_up J (e + i) k v) e f n s := by
  obtain ⟨h1, h2, q, h3, h4⟩ := h
  exact ⟨crF_up he h1 hi, by rw [up_a (by omega)]; exact h2, q, h3, by rw [up_a (by omega)]; exact h4⟩
theorem crD_up (h : crD J e D) {i k : Nat} {v : Int} : crD (jm_up J (e + i) k v) e (jm_up D i k v) := by
  intro j hj
  by_cases ej : j = i
  · subst ej
    funext z
    by_cases ez : z = k
    · subst ez; rw [up_s, up_s]
    · rw [up_k ez, up_k ez, h j hj]
  · rw [jm_up_o (by omega), jm_up_o ej, h j hj]
theorem crO_up (he : e ≤ 22) (h : crO I J e f n q D) {i k : Nat} {v : Int} (hi : i ≤ 12) : crO I (jm_up J (e + i) k v) e f n q (jm_up D i k v) := by
  obtain ⟨h1, h2, h3, h4, h5, h6⟩ := h
  exact ⟨crF_up he h1 hi, by rw [up_a (by omega)]; exact h2, by rw [up_a (by omega)]; exact h3, h4, by rw [up_a (by omega), up_a (by omega)]; exact h5, crD_up h6⟩
/-- a number that is needed -/
theorem c_CityReader_needNumber (he : e ≤ 22) (hO : crO I J e f n q D) (hz : -100 ≤ x1 ∧ x1 ≤ 100 ∧ -100 ≤ x2 ∧ x2 ≤ 100) (k1 : nmB f n q x1 x2 = true → ∀ J' : jm_I, crO I J' e f n (tkE f n q) D → J' 42 5 = (tkS f n q : Int) → K (some (.inl (tkV f n q))) J') (k2 : nmB f n q x1 x2 = false → ∀ J' : jm_I, crB I J' e f n (tkS f n q) → (∀ a, a ≠ 42 → J' a = J a) → K (some (.inl x1)) J') : Cx (jx_0 L) (d + 2) md_CityReader_needNumber [.inr (.inl 42), .inl x1, .inl x2] J K := by
  obtain ⟨hF, h8, h3, hq, h7, hD⟩ := hO
  have htk := tk_r (f := f) hq
  refine b_CityReader_needNumber_0 (by omega) (fun _ => ?_) (fun h => absurd h8 h)
  refine b_CityReader_needNumber_11 (c_CityReader_nextToken hF.1 h3 hq (fun J1 o oj e3 e4 e5 e6 => ?_))
  have hF1 : crF I J1 e f n := crF_mv he hF (fun a a1 _ => o a a1) (oj 0 (by decide) (by decide) (by decide) (by decide)) (oj 1 (by decide) (by decide) (by decide) (by decide)) (oj 2 (by decide) (by decide) (by decide) (by decide))
  have hkr := tkK_r (f := f) (n := n) (a := q)
  unfold knP at hkr
  have bad : nmB f n q x1 x2 = false → Gx (jx_0 L) (d + 2) md_CityReader_needNumber 39 [some (.inr (.inl 42)), some (.inl x1), some (.inl x2)] [] J1 K := by
    intro hb
    have e8 : J1 42 8 = -9 := by rw [oj 8 (by decide) (by decide) (by decide) (by decide)]; exact h8
    refine b_CityReader_needNumber_39 ?_
    refine b_CityReader_refuse_0 (by omega) (fun h => absurd e8 h) (fun _ => ?_)
    refine b_CityReader_refuse_9 ?_
    refine b_CityReader_refuse_17 ?_
    refine b_CityReader_needNumber_43 (k2 hb _ ⟨crF_mv he hF1 (fun a a1 _ => jm_up_o a1) (up_k (by decide)) (up_k (by decide)) (up_k (by decide)), by rw [up_s]; exact e5, tkE f n q, htk.2.2.2.1, by rw [up_k (by decide)]; exact e3⟩ (fun a ha => by rw [jm_up_o ha, o a ha]))
  refine b_CityReader_needNumber_15 (by rw [e4]; omega) (fun h => ?_) (fun h => ?_)
  · rw [e4] at h
    refine bad ?_
    unfold nmB
    exact decide_eq_false (fun z => h z.1)
  · rw [e4] at h
    have hv := (tkV_r h).1
    have e6' := e6 h
    refine b_CityReader_needNumber_23 (by rw [e6']; omega) (fun h1 => ?_) (fun h1 => ?_)
    · rw [e6'] at h1
      refine bad ?_
      unfold nmB
      exact decide_eq_false (fun z => by omega)
    · rw [e6'] at h1
      refine b_CityReader_needNumber_31 (by rw [e6']; omega) (fun h2 => ?_) (fun h2 => ?_)
      · rw [e6'] at h2
        refine b_CityReader_needNumber_45 ?_
        rw [e6']
        refine k1 ?_ J1 ⟨hF1, by rw [oj 8 (by decide) (by decide) (by decide) (by decide)]; exact h8, e3, htk.2.2.2.1, by rw [oj 7 (by decide) (by decide) (by decide) (by decide)]; exact h7, fun i hi => ?_⟩ e5
        · unfold nmB
          exact decide_eq_true ⟨h, by omega, by omega⟩
        · rw [o (e + i) (by omega)]; exact hD i hi
      · rw [e6'] at h2
        refine bad ?_
        unfold nmB
        exact decide_eq_false (fun z => by omega)
/-- behind a fault nothing is read -/
theorem c_CityReader_needNumber_f {s : Nat} (hB : crB I J e f n s) (hs : s ≤ 200) (k : K (some (.inl x1)) J) : Cx (jx_0 L) (d + 2) md_CityReader_needNumber [.inr (.inl 42), .inl x1, .inl x2] J K := by
  have h8 := hB.2.1
  refine b_CityReader_needNumber_0 (by omega) (fun h => by omega) (fun _ => ?_)
  exact b_CityReader_needNumber_9 k
theorem c_CityReader_refuse_o (he : e ≤ 22) (hO : crO I J e f n q D) {s : Nat} (h5 : J 42 5 = (s : Int)) (k : ∀ J' : jm_I, crB I J' e f n s → K none J') : Cx (jx_0 L) d md_CityReader_refuse [.inr (.inl 42)] J K := by
  obtain ⟨hF, h8, h3, hq, h7, hD⟩ := hO
  refine b_CityReader_refuse_0 (by omega) (fun h => absurd h8 h) (fun _ => ?_)
  refine b_CityReader_refuse_9 ?_
  refine b_CityReader_refuse_17 (k _ ⟨crF_mv he hF (fun a a1 _ => jm_up_o a1) (up_k (by decide)) (up_k (by decide)) (up_k (by decide)), by rw [up_s]; exact h5, q, hq, by rw [up_k (by decide)]; exact h3⟩)
theorem c_CityReader_refuse_f {s : Nat} (hB : crB I J e f n s) (hs : s ≤ 200) (k : K none J) : Cx (jx_0 L) d md_CityReader_refuse [.inr (.inl 42)] J K := by
  have h8 := hB.2.1
  refine b_CityReader_refuse_0 (by omega) (fun _ => ?_) (fun h => by omega)
  exact b_CityReader_refuse_17 k
theorem tk_200 (hq : q ≤ n) (hn : n ≤ 200) : tkS f n q ≤ 200 := by
  have := tk_r (f := f) hq
  omega
theorem c_CityReader_readRooms {k a : Nat} (hc : jx_City (jx_0 L) e) (he : e ≤ 22) (hO : crO I J e f n (tkE f n a) D) (h5 : J 42 5 = (tkS f n a : Int)) (hk : k < 1000) (k1 : ∀ (J' D' : jm_I) (q' : Nat), crO I J' e f n q' D' → itR f n k a D = enO f n q' D' → K none J') (k2 : ∀ (J' : jm_I) (s : Nat), crB I J' e f n s → itR f n k a D = .inr s → K none J') : Cx (jx_0 L) (d + 3) md_CityReader_readRooms [.inr (.inl 42), .inl (k : Int)] J K := by
  refine b_CityReader_readRooms_0 (by omega) (fun h => ?_) (fun h => ?_)
  · refine b_CityReader_readRooms_9 hO.1.2.1 hc (c_CityReader_needNumber he hO (by omega) (fun hn J' hO' _ => ?_) (fun hn J' hB _ => ?_))
    · refine b_CityReader_readRooms_20 hc (k1 _ _ _ (crO_up (i := 0) he hO' (by omega)) ?_)
      unfold itR
      rw [if_pos (by omega), if_pos hn]
    · refine b_CityReader_readRooms_20 hc (k2 _ _ (crB_up (i := 0) he hB (by omega)) ?_)
      unfold itR
      rw [if_pos (by omega), if_neg (by rw [hn]; simp)]
  · refine b_CityReader_readRooms_4 (c_CityReader_refuse_o he hO h5 (fun J' hB => ?_))
    refine b_CityReader_readRooms_8 (k2 _ _ hB ?_)
    unfold itR
    rw [if_neg (by omega)]
theorem c_CityReader_readSteps {a : Nat} (hc : jx_City (jx_0 L) e) (he : e ≤ 22) (hO : crO I J e f n (tkE f n a) D) (hD : dcOk D) (h5 : J 42 5 = (tkS f n a : Int)) (k1 : ∀ (J' D' : jm_I) (q' : Nat), crO I J' e f n q' D' → itS f n a D = enO f n q' D' → K none J') (k2 : ∀ (J' : jm_I) (s : Nat), crB I J' e f n s → itS f n a D = .inr s → K none J') : Cx (jx_0 L) (d + 3) md_CityReader_readSteps [.inr (.inl 42)] J K := by
  have h7 := hO.2.2.2.2.1
  have ht := hD.2.2.2.2
  refine b_CityReader_readSteps_0 (by rw [h7]; omega) (fun h => ?_) (fun h => ?_)
  · rw [h7] at h
    have hO1 : crO I (jm_up J 42 7 1) e f n (tkE f n a) (jm_up D 20 0 1) := by
      obtain ⟨g1, g2, g3, g4, g5, g6⟩ := hO
      refine ⟨crF_mv he g1 (fun a a1 _ => jm_up_o a1) (up_k (by decide)) (up_k (by decide)) (up_k (by decide)), by rw [up_k (by decide)]; exact g2, by rw [up_k (by decide)]; exact g3, g4, by rw [up_s, up_s], fun i hi => ?_⟩
      rw [jm_up_o (by omega), jm_up_o (by omega)]
      exact g6 i hi
    refine b_CityReader_readSteps_12 hO.1.2.1 hc (c_CityReader_needNumber he hO1 (by omega) (fun hn J' hO' _ => ?_) (fun hn J' hB _ => ?_))
    · refine b_CityReader_readSteps_28 hc (k1 _ _ _ (crO_up (i := 0) he hO' (by omega)) ?_)
      unfold itS
      rw [if_pos h, if_pos hn]
    · refine b_CityReader_readSteps_28 hc (k2 _ _ (crB_up (i := 0) he hB (by omega)) ?_)
      unfold itS
      rw [if_pos h, if_neg (by rw [hn]; simp)]
  · rw [h7] at h
    refine b_CityReader_readSteps_7 (c_CityReader_refuse_o he hO h5 (fun J' hB => ?_))
    refine b_CityReader_readSteps_11 (k2 _ _ hB ?_)
    unfold itS
    rw [if_neg h]
theorem c_CityReader_readPerson {a : Nat} (hc : jx_City (jx_0 L) e) (he : e ≤ 22) (ha : a ≤ n) (hO : crO I J e f n (tkE f n a) D) (hD : dcOk D) (h5 : J 42 5 = (tkS f n a : Int)) (k1 : ∀ (J' D' : jm_I) (q' : Nat), crO I J' e f n q' D' → itP f n a D = enO f n q' D' → K none J') (k2 : ∀ (J' : jm_I) (s : Nat), crB I J' e f n s → itP f n a D = .inr s → K none J') : Cx (jx_0 L) (d + 3) md_CityReader_readPerson [.inr (.inl 42)] J K := by
  have hDc := hO.2.2.2.2.2
  have e0 : J e = D 0 := hDc 0 (by omega)
  have hn200 := hO.1.1.2.2.1
  unfold dcOk at hD
  have hq1 := (tk_r (f := f) (n := n) ha).2.2.2.1
  have hq2 := (tk_r (f := f) (n := n) hq1).2.2.2.1
  refine b_CityReader_readPerson_0 hO.1.2.1 hc (by rw [e0]; omega) (fun h => ?_) (fun h => ?_)
  · rw [e0] at h ⊢
    have S4 := ct_S4 hc
    have S5 := ct_S5 hc
    refine b_CityReader_readPerson_18 hO.1.2.1 hc ?_
    rw [e0]
    refine c_CityReader_needNumber he hO (by omega) (fun hn J1 hO1 _ => ?_) (fun hn J1 hB1 _ => ?_)
    · have hO2 := crO_up (i := 4) (k := (D 0 3).toNat) (v := tkV f n (tkE f n a)) he hO1 (by omega)
      refine b_CityReader_readPerson_40 S4 hO2.1.2.1 hc (by omega) (c_CityReader_needNumber he hO2 (by omega) (fun hn2 J3 hO3 _ => ?_) (fun hn2 J3 hB3 _ => ?_))
      · have hO4 := crO_up (i := 5) (k := (D 0 3).toNat) (v := tkV f n (tkE f n (tkE f n a))) he hO3 (by omega)
        have e3 : jm_up J3 (e + 5) (D 0 3).toNat (tkV f n (tkE f n (tkE f n a))) e 3 = D 0 3 := by
          have := hO4.2.2.2.2.2 0 (by omega)
          rw [show e + 0 = e from rfl] at this
          rw [this, up_a (by decide), up_a (by decide)]
        refine b_CityReader_readPerson_57 S5 hO4.1.2.1 hc (by omega) ?_
        rw [e3]
        refine k1 _ _ _ (crO_up (i := 0) he hO4 (by omega)) ?_
        unfold itP itP2
        rw [if_pos h, if_pos hn, if_pos hn2]
      · have hB4 := crB_up (i := 5) (k := (D 0 3).toNat) (v := 10) he hB3 (by omega)
        refine b_CityReader_readPerson_57 S5 hB4.1.2.1 hc (by omega) ?_
        refine k2 _ _ (crB_up (i := 0) he hB4 (by omega)) ?_
        unfold itP itP2
        rw [if_pos h, if_pos hn, if_neg (by rw [hn2]; simp)]
    · have hB2 := crB_up (i := 4) (k := (D 0 3).toNat) (v := 0) he hB1 (by omega)
      refine b_CityReader_readPerson_40 S4 hB2.1.2.1 hc (by omega) (c_CityReader_needNumber_f hB2 (tk_200 hq1 hn200) ?_)
      have hB4 := crB_up (i := 5) (k := (D 0 3).toNat) (v := 10) he hB2 (by omega)
      refine b_CityReader_readPerson_57 S5 hB4.1.2.1 hc (by omega) ?_
      refine k2 _ _ (crB_up (i := 0) he hB4 (by omega)) ?_
      unfold itP
      rw [if_pos h, if_neg (by rw [hn]; simp)]
  · rw [e0] at h
    refine b_CityReader_readPerson_13 (c_CityReader_refuse_o he hO h5 (fun J' hB => ?_))
    refine b_CityReader_readPerson_17 (k2 _ _ hB ?_)
    unfold itP
    rw [if_neg h]
end READER
