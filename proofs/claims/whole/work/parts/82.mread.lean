/-! ===== the model's reader ===== -/
def nmR (J : jm_I) : Prop := -1000 ≤ J 167 21 ∧ J 167 21 ≤ 1000
def mrF (I J : jm_I) (f : Nat → Int) (n : Nat) : Prop := mlT J f n ∧ (∀ x, x ≠ 167 → (x < 177 ∨ 181 < x) → J x = I x) ∧ ∀ j, (j ≤ 17 ∨ 29 < j) → J 167 j = I 167 j
def mrO (I J : jm_I) (f : Nat → Int) (n a : Nat) : Prop := mrF I J f n ∧ J 167 22 = 0 ∧ J 167 18 = (tkE f n a : Int) ∧ J 167 19 = (tkS f n a : Int) ∧ mtP J (tkK f n a) (tkV f n a) ∧ a ≤ n ∧ nmR J
def mrB (I J : jm_I) (f : Nat → Int) (n s : Nat) : Prop := mrF I J f n ∧ J 167 22 = 1 ∧ J 167 19 = (s : Int) ∧ nmR J ∧ (0 ≤ J 167 20 ∧ J 167 20 ≤ 4)
/-- only the tokens' fields have changed -/
def mfr (J J' : jm_I) : Prop := (∀ x, x ≠ 167 → J' x = J x) ∧ ∀ j, (j < 18 ∨ 22 < j) → J' 167 j = J 167 j
theorem mfr_t {A B C : jm_I} (h1 : mfr A B) (h2 : mfr B C) : mfr A C := ⟨fun x hx => by rw [h2.1 x hx, h1.1 x hx], fun j hj => by rw [h2.2 j hj, h1.2 j hj]⟩
def mrD (J D : jm_I) : Prop := J 177 0 = D 0 0 ∧ J 177 1 = D 0 1 ∧ J 167 24 = D 20 0 ∧ J 167 25 = D 0 2 ∧ J 167 27 = D 0 3 ∧ J 167 29 = D 0 4 ∧ (∀ i : Nat, (i : Int) < D 0 2 → J 178 (3 * i) = D 1 i ∧ J 178 (3 * i + 1) = D 2 i ∧ J 178 (3 * i + 2) = D 3 i) ∧ (∀ p : Nat, (p : Int) < D 0 3 → J 179 (2 * p) = D 4 p ∧ J 179 (2 * p + 1) = D 5 p) ∧ ∀ t : Nat, (t : Int) < D 0 4 → J 180 t = D 6 t ∧ ∀ j : Nat, (j : Int) < D 6 t → J 181 (4 * t + j) = D (8 + t) j
theorem mrD_f {J J' D : jm_I} (h : mrD J D) (f4 : mfr J J') : mrD J' D := by
  obtain ⟨w1, w2, w3, w4, w5, w6, w7, w8, w9⟩ := h
  exact ⟨by rw [f4.1 177 (by decide)]; exact w1, by rw [f4.1 177 (by decide)]; exact w2, by rw [f4.2 24 (by omega)]; exact w3, by rw [f4.2 25 (by omega)]; exact w4, by rw [f4.2 27 (by omega)]; exact w5, by rw [f4.2 29 (by omega)]; exact w6, by rw [f4.1 178 (by decide)]; exact w7, by rw [f4.1 179 (by decide)]; exact w8, by rw [f4.1 180 (by decide), f4.1 181 (by decide)]; exact w9⟩
section MREAD
variable {L d : Nat} {I J : jm_I} {K : Option jm_V → jm_I → Prop} {x0 x1 x2 x3 x4 : Int} {f : Nat → Int} {n a : Nat} {D : jm_I}
theorem mrF_mv {J' : jm_I} (h : mrF I J f n) (o : ∀ x, x ≠ 167 → (x < 177 ∨ 181 < x) → J' x = J x) (oj : ∀ j, (j ≤ 17 ∨ 29 < j) → J' 167 j = J 167 j) : mrF I J' f n := by
  obtain ⟨⟨t1, t2, t3⟩, h2, h3⟩ := h
  refine ⟨⟨by rw [oj 17 (by omega)]; exact t1, t2, fun k hk => ?_⟩, fun x x1 x2 => by rw [o x x1 x2, h2 x x1 x2], fun j hj => by rw [oj j hj, h3 j hj]⟩
  rw [o 176 (by decide) (by omega)]
  exact t3 k hk
theorem mrO_row {r k : Nat} {v : Int} (h : mrO I J f n a) (hr : 177 ≤ r ∧ r ≤ 181) : mrO I (jm_up J r k v) f n a := by
  obtain ⟨h1, h2, h3, h4, h5, h6, h7⟩ := h
  have e : ∀ j, jm_up J r k v 167 j = J 167 j := fun j => up_a (by omega)
  refine ⟨mrF_mv h1 (fun x x1 x2 => jm_up_o (by omega)) (fun j _ => e j), by rw [e]; exact h2, by rw [e]; exact h3, by rw [e]; exact h4, ?_, h6, ?_⟩
  · unfold mtP at *
    rw [e, e]; exact h5
  · unfold nmR at *
    rw [e]; exact h7
theorem mrB_row {r k s : Nat} {v : Int} (h : mrB I J f n s) (hr : 177 ≤ r ∧ r ≤ 181) : mrB I (jm_up J r k v) f n s := by
  obtain ⟨h1, h2, h3, h4, h5⟩ := h
  have e : ∀ j, jm_up J r k v 167 j = J 167 j := fun j => up_a (by omega)
  refine ⟨mrF_mv h1 (fun x x1 x2 => jm_up_o (by omega)) (fun j _ => e j), by rw [e]; exact h2, by rw [e]; exact h3, ?_, by rw [e]; exact h5⟩
  unfold nmR at *
  rw [e]; exact h4
theorem mrO_fd {k : Nat} {v : Int} (h : mrO I J f n a) (hk : 23 ≤ k ∧ k ≤ 29) : mrO I (jm_up J 167 k v) f n a := by
  obtain ⟨h1, h2, h3, h4, h5, h6, h7⟩ := h
  have e : ∀ j, j ≠ k → jm_up J 167 k v 167 j = J 167 j := fun j hj => up_k hj
  refine ⟨mrF_mv h1 (fun x x1 x2 => jm_up_o x1) (fun j hj => e j (by omega)), by rw [e 22 (by omega)]; exact h2, by rw [e 18 (by omega)]; exact h3, by rw [e 19 (by omega)]; exact h4, ?_, h6, ?_⟩
  · unfold mtP at *
    rw [e 20 (by omega), e 21 (by omega)]; exact h5
  · unfold nmR at *
    rw [e 21 (by omega)]; exact h7
theorem mrB_fd {k s : Nat} {v : Int} (h : mrB I J f n s) (hk : 23 ≤ k ∧ k ≤ 29) : mrB I (jm_up J 167 k v) f n s := by
  obtain ⟨h1, h2, h3, h4, h5⟩ := h
  have e : ∀ j, j ≠ k → jm_up J 167 k v 167 j = J 167 j := fun j hj => up_k hj
  refine ⟨mrF_mv h1 (fun x x1 x2 => jm_up_o x1) (fun j hj => e j (by omega)), by rw [e 22 (by omega)]; exact h2, by rw [e 19 (by omega)]; exact h3, ?_, by rw [e 20 (by omega)]; exact h5⟩
  unfold nmR at *
  rw [e 21 (by omega)]; exact h4
theorem mt_r {k v : Int} (h : mtP J k v) : 0 ≤ J 167 20 ∧ J 167 20 ≤ 4 := by
  unfold mtP at h
  omega
theorem mt_3 {k v : Int} (h : mtP J k v) : J 167 20 = 3 ↔ k = 59 := by
  unfold mtP at h
  omega
theorem mt_2 {k v : Int} (h : mtP J k v) : (J 167 20 = 2 ↔ k = 1) ∧ (k = 1 → J 167 21 = v) := by
  unfold mtP at h
  omega
theorem c_M_must_o (hO : mrO I J f n a) (k1 : ¬ x1 = 0 → ∀ J' : jm_I, mrO I J' f n (tkE f n a) → mfr J J' → K none J') (k2 : x1 = 0 → ∀ J' : jm_I, mrB I J' f n (tkS f n a) → (∀ x, x ≠ 167 → J' x = J x) → K none J') (hx : x1 = 0 ∨ x1 = 1) : Cx (jx_0 L) (d + 2) md_M_must [.inr (.inl 167), .inl x1] J K := by
  obtain ⟨h1, h2, h3, h4, h5, h6, h7⟩ := hO
  have htk := tk_r (f := f) h6
  have htr := mt_r h5
  refine b_M_must_0 (by omega) (fun h => absurd h2 h) (fun _ => ?_)
  refine b_M_must_8 (by omega) (fun h => ?_) (fun h => ?_)
  · refine b_M_must_16 ?_
    refine b_M_must_17 (by omega) (fun h => by omega) (fun _ => ?_)
    have e : ∀ j, j ≠ 22 → jm_up J 167 22 0 167 j = J 167 j := fun j hj => up_k hj
    have hF2 : mrF I (jm_up J 167 22 0) f n := mrF_mv h1 (fun x x1 _ => jm_up_o x1) (fun j hj => e j (by omega))
    refine b_M_must_27 (c_M_next (f := f) (n := n) (q := tkE f n a) hF2.1 (by rw [e 18 (by decide)]; exact h3) htk.2.2.2.1 (fun J1 o oj e18 e19 em er => ?_))
    refine b_M_must_31 (k1 h J1 ⟨mrF_mv hF2 (fun x x1 _ => o x x1) (fun j hj => oj j (by omega) (by omega) (by omega) (by omega)), by rw [oj 22 (by decide) (by decide) (by decide) (by decide), up_s], e18, e19, em, htk.2.2.2.1, ?_⟩ ⟨fun x hx => by rw [o x hx, jm_up_o hx], fun j hj => by rw [oj j (by omega) (by omega) (by omega) (by omega), e j (by omega)]⟩)
    unfold nmR at *
    rcases er with ⟨-, z⟩ | z
    · rw [z, e 21 (by decide)]; exact h7
    · exact z
  · refine b_M_must_12 ?_
    refine b_M_must_17 (by omega) (fun _ => ?_) (fun h => by omega)
    have e : ∀ j, j ≠ 22 → jm_up J 167 22 1 167 j = J 167 j := fun j hj => up_k hj
    refine b_M_must_31 (k2 h _ ⟨mrF_mv h1 (fun x x1 _ => jm_up_o x1) (fun j hj => e j (by omega)), up_s, by rw [e 19 (by decide)]; exact h4, ?_, by rw [e 20 (by decide)]; exact htr⟩ (fun x hx => jm_up_o hx))
    unfold nmR at *
    rw [e 21 (by decide)]; exact h7
theorem c_M_must_w {s : Nat} (hB : mrB I J f n s) (k : ∀ J' : jm_I, mrB I J' f n s → K none J') : Cx (jx_0 L) (d + 2) md_M_must [.inr (.inl 167), .inl x1] J K := by
  obtain ⟨h1, h2, h3, h4, h5⟩ := hB
  refine b_M_must_0 (by omega) (fun _ => ?_) (fun h => by omega)
  refine b_M_must_12 ?_
  refine b_M_must_17 (by omega) (fun _ => ?_) (fun h => by omega)
  have e : ∀ j, j ≠ 22 → jm_up J 167 22 1 167 j = J 167 j := fun j hj => up_k hj
  refine b_M_must_31 (k _ ⟨mrF_mv h1 (fun x x1 _ => jm_up_o x1) (fun j hj => e j (by omega)), up_s, by rw [e 19 (by decide)]; exact h3, ?_, by rw [e 20 (by decide)]; exact h5⟩)
  unfold nmR at *
  rw [e 21 (by decide)]; exact h4
theorem c_M_readInto_o {r na : Nat} (hS : (jx_0 L).2.1 r = (20, na)) (hna : na < 1000) (hi : 0 ≤ x2 ∧ x2 < na) (hz : -100 ≤ x3 ∧ x3 ≤ 100 ∧ -100 ≤ x4 ∧ x4 ≤ 100) (hO : mrO I J f n a) (k1 : nmB f n a x3 x4 = true → ∀ J1 : jm_I, mrO I J1 f n (tkE f n a) → mfr J J1 → K (some (.inl (tkV f n a))) (jm_up J1 r x2.toNat (tkV f n a))) (k2 : nmB f n a x3 x4 = false → ∀ (J' : jm_I) (v : Int), mrB I J' f n (tkS f n a) → -1000 ≤ v ∧ v ≤ 1000 → (∀ x, x ≠ 167 → J' x = J x) → K (some (.inl v)) J') : Cx (jx_0 L) (d + 3) md_M_readInto [.inr (.inl 167), .inr (.inl r), .inl x2, .inl x3, .inl x4] J K := by
  obtain ⟨h1, h2, h3, h4, h5, h6, h7⟩ := id hO
  have htr := mt_r h5
  obtain ⟨m1, m2⟩ := mt_2 h5
  have h7' : -1000 ≤ J 167 21 ∧ J 167 21 ≤ 1000 := h7
  have bad : nmB f n a x3 x4 = false → Gx (jx_0 L) (d + 3) md_M_readInto 30 [some (.inr (.inl 167)), some (.inr (.inl r)), some (.inl x2), some (.inl x3), some (.inl x4), some (.inl (J 167 21))] [.inr (.inl 167)] J K := by
    intro hb
    refine b_M_readInto_30 ?_
    refine b_M_readInto_31 (c_M_must_o hO (fun h => absurd rfl h) (fun _ J1 hB oB => ?_) (Or.inl rfl))
    have hB2 := hB.2.1
    refine b_M_readInto_34 (by omega) (fun _ => ?_) (fun h => by omega)
    exact b_M_readInto_46 (k2 hb J1 _ hB h7' oB)
  refine b_M_readInto_0 hS (by omega) (fun h => ?_) (fun h => ?_)
  · refine bad ?_
    unfold nmB
    exact decide_eq_false (fun z => h (m1.2 z.1))
  · have hk := m1.1 h
    have hv := m2 hk
    refine b_M_readInto_15 (c_M_in (by omega) (fun w hw => ?_))
    refine b_M_readInto_23 (by omega) (fun hw0 => ?_) (fun hw0 => ?_)
    · refine bad ?_
      unfold nmB
      exact decide_eq_false (fun z => by omega)
    · refine b_M_readInto_26 ?_
      refine b_M_readInto_31 (c_M_must_o hO (fun _ J1 hO1 hfr => ?_) (fun h => by omega) (Or.inr rfl))
      have hO2 := hO1.2.1
      refine b_M_readInto_34 (by omega) (fun h => by omega) (fun _ => ?_)
      refine b_M_readInto_41 hS (by omega) ?_
      rw [hv]
      refine b_M_readInto_46 (k1 ?_ J1 hO1 hfr)
      unfold nmB
      exact decide_eq_true ⟨hk, by omega, by omega⟩
theorem c_M_readInto_w {r na s : Nat} (hS : (jx_0 L).2.1 r = (20, na)) (hz : -100 ≤ x3 ∧ x3 ≤ 100 ∧ -100 ≤ x4 ∧ x4 ≤ 100) (hB : mrB I J f n s) (k : ∀ (J' : jm_I) (v : Int), mrB I J' f n s → -1000 ≤ v ∧ v ≤ 1000 → K (some (.inl v)) J') : Cx (jx_0 L) (d + 3) md_M_readInto [.inr (.inl 167), .inr (.inl r), .inl x2, .inl x3, .inl x4] J K := by
  obtain ⟨h1, h2, h3, h4, h5⟩ := id hB
  have h4' : -1000 ≤ J 167 21 ∧ J 167 21 ≤ 1000 := h4
  have fin : ∀ z : Int, Gx (jx_0 L) (d + 3) md_M_readInto 31 [some (.inr (.inl 167)), some (.inr (.inl r)), some (.inl x2), some (.inl x3), some (.inl x4), some (.inl (J 167 21))] [.inl z, .inr (.inl 167)] J K := by
    intro z
    refine b_M_readInto_31 (c_M_must_w hB (fun J1 hB1 => ?_))
    have hB2 := hB1.2.1
    refine b_M_readInto_34 (by omega) (fun _ => ?_) (fun h => by omega)
    exact b_M_readInto_46 (k J1 _ hB1 h4')
  refine b_M_readInto_0 hS (by omega) (fun h => b_M_readInto_30 (fin 0)) (fun h => ?_)
  refine b_M_readInto_15 (c_M_in (by omega) (fun w hw => ?_))
  exact b_M_readInto_23 (by omega) (fun _ => b_M_readInto_30 (fin 0)) (fun _ => b_M_readInto_26 (fin 1))
theorem c_M_readRooms {k : Nat} (hO : mrO I J f n a) (hD : mrD J D) (hx : x1 = if k = 0 then 1 else 0) (k1 : ∀ (J' D' : jm_I) (a' : Nat), itR f n k a D = .inl (a', D') → mrO I J' f n a' → mrD J' D' → K none J') (k2 : ∀ (J' : jm_I) (s : Nat), itR f n k a D = .inr s → mrB I J' f n s → K none J') : Cx (jx_0 L) (d + 4) md_M_readRooms [.inr (.inl 167), .inl x1] J K := by
  unfold itR at k1 k2
  refine b_M_readRooms_0 (c_M_must_o hO (fun h J1 hO1 f1 => ?_) (fun h J1 hB _ => ?_) (by rw [hx]; split <;> omega))
  · have hk : k = 0 := by
      by_cases q : k = 0
      · exact q
      · rw [hx, if_neg q] at h; omega
    rw [if_pos hk] at k1 k2
    have g2 := hO1.2.1
    refine b_M_readRooms_5 (by omega) (fun _ => ?_) (fun h => by omega)
    refine b_M_readRooms_13 (c_M_readInto_o (na := 2) rfl (by decide) (by omega) (by omega) hO1 (fun hn J2 hO2 f2 => ?_) (fun hn J2 v hB hv _ => ?_))
    · rw [if_pos hn] at k1 k2
      rw [show (0 : Int).toNat = 0 from rfl]
      have hO3 := mrO_row (r := 177) (k := 0) (v := tkV f n (tkE f n a)) hO2 (by omega)
      have m3 := mt_3 hO3.2.2.2.2.1
      have hD3 : mrD (jm_up J2 177 0 (tkV f n (tkE f n a))) (jm_up D 0 0 (tkV f n (tkE f n a))) := by
        obtain ⟨w1, w2, w3, w4, w5, w6, w7, w8, w9⟩ := hD
        have fr := mfr_t f1 f2
        have ex : ∀ x, x ≠ 167 → x ≠ 177 → jm_up J2 177 0 (tkV f n (tkE f n a)) x = J x := fun x x1 x2 => by rw [jm_up_o x2, fr.1 x x1]
        have ej : ∀ j, 22 < j → jm_up J2 177 0 (tkV f n (tkE f n a)) 167 j = J 167 j := fun j hj => by rw [up_a (by decide), fr.2 j (by omega)]
        have uo : ∀ j, j ≠ 0 → jm_up D 0 0 (tkV f n (tkE f n a)) 0 j = D 0 j := fun j hj => up_k hj
        have ur : ∀ i, i ≠ 0 → jm_up D 0 0 (tkV f n (tkE f n a)) i = D i := fun i hi => jm_up_o hi
        refine ⟨by rw [up_s, up_s], by rw [up_k (by decide), fr.1 177 (by decide), uo 1 (by decide)]; exact w2, by rw [ej 24 (by decide), ur 20 (by decide)]; exact w3, by rw [ej 25 (by decide), uo 2 (by decide)]; exact w4, by rw [ej 27 (by decide), uo 3 (by decide)]; exact w5, by rw [ej 29 (by decide), uo 4 (by decide)]; exact w6, ?_, ?_, fun t ht => ?_⟩
        · rw [uo 2 (by decide), ex 178 (by decide) (by decide), ur 1 (by decide), ur 2 (by decide), ur 3 (by decide)]; exact w7
        · rw [uo 3 (by decide), ex 179 (by decide) (by decide), ur 4 (by decide), ur 5 (by decide)]; exact w8
        · rw [uo 4 (by decide)] at ht
          rw [ex 180 (by decide) (by decide), ex 181 (by decide) (by decide), ur 6 (by decide), ur (8 + t) (by omega)]; exact w9 t ht
      have fin : ∀ z : Int, ((z = 1 ∧ tkK f n (tkE f n (tkE f n a)) = 59) ∨ (z = 0 ∧ ¬ tkK f n (tkE f n (tkE f n a)) = 59)) → Gx (jx_0 L) (d + 4) md_M_readRooms 40 [some (.inr (.inl 167)), some (.inl x1)] [.inl z, .inr (.inl 167)] (jm_up J2 177 0 (tkV f n (tkE f n a))) K := by
        intro z hz
        refine b_M_readRooms_40 (c_M_must_o hO3 (fun h J4 hO4 f4 => ?_) (fun h J4 hB4 _ => ?_) (by omega))
        · refine b_M_readRooms_43 (k1 J4 _ _ (by unfold enO; rw [if_pos (by omega)]) hO4 ?_)
          exact mrD_f hD3 f4
        · exact b_M_readRooms_43 (k2 J4 _ (by unfold enO; rw [if_neg (by omega)]) hB4)
      have h3r := mt_r hO3.2.2.2.2.1
      refine b_M_readRooms_25 (by omega) (fun h => ?_) (fun h => ?_)
      · exact b_M_readRooms_39 (fin 0 (Or.inr ⟨rfl, fun q => h (m3.2 q)⟩))
      · exact b_M_readRooms_35 (fin 1 (Or.inl ⟨rfl, m3.1 h⟩))
    · rw [if_neg (by rw [hn]; simp)] at k2
      have h5 := hB.2.2.2.2
      refine b_M_readRooms_25 (by omega) (fun h => ?_) (fun h => ?_)
      · exact b_M_readRooms_39 (b_M_readRooms_40 (c_M_must_w hB (fun J4 hB4 => b_M_readRooms_43 (k2 J4 _ rfl hB4))))
      · exact b_M_readRooms_35 (b_M_readRooms_40 (c_M_must_w hB (fun J4 hB4 => b_M_readRooms_43 (k2 J4 _ rfl hB4))))
  · have hk : ¬ k = 0 := fun q => by rw [hx, if_pos q] at h; omega
    rw [if_neg hk] at k2
    have g2 := hB.2.1
    refine b_M_readRooms_5 (by omega) (fun h => by omega) (fun _ => ?_)
    exact b_M_readRooms_12 (k2 J1 _ rfl hB)
end MREAD
