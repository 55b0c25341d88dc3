/-! ===== the model's reader: things, items, the whole ===== -/
section MREAD3
variable {L d : Nat} {I J : jm_I} {K : Option jm_V → jm_I → Prop} {x0 x1 x2 x3 x4 : Int} {f : Nat → Int} {n a : Nat} {D : jm_I}
theorem mt_wend {J3 : jm_I} {s : Nat} {o1 o2 : Option jm_V} (hB : mrB I J3 f n s) (kk : ∀ J4, mrB I J4 f n s → K none J4) : Gx (jx_0 L) (d + 4) md_M_readThing 86 [some (.inr (.inl 167)), o1, o2] [] J3 K := by
  have h5 := hB.2.2.2.2
  refine b_M_readThing_86 (by omega) (fun h => ?_) (fun h => ?_)
  · exact b_M_readThing_99 (b_M_readThing_100 (c_M_must_w hB (fun J4 hB4 => b_M_readThing_103 (kk _ (mrB_fd (k := 29) hB4 (by omega))))))
  · exact b_M_readThing_95 (b_M_readThing_100 (c_M_must_w hB (fun J4 hB4 => b_M_readThing_103 (kk _ (mrB_fd (k := 29) hB4 (by omega))))))
theorem mt_loop {t a0 : Nat} {D0 : jm_I} (ht : t < 5) (k1 : ∀ (J' D' : jm_I) (a' : Nat), itT f n a0 D0 = .inl (a', D') → mrO I J' f n a' → mrD J' D' → K none J') (k2 : ∀ (J' : jm_I) (s : Nat), itT f n a0 D0 = .inr s → mrB I J' f n s → K none J') : ∀ (m j q : Nat) (J D : jm_I), mrO I J f n q → mrD J D → (2 ≤ D 0 0 ∧ D 0 0 ≤ 6) → D 0 4 = (t : Int) → (∀ t' : Nat, (t' : Int) < D 0 4 → D 6 t' ≤ 4) → D 6 t = ((j + m : Nat) : Int) → j + m ≤ 4 → J 180 t = D 6 t → (∀ i, i < j → J 181 (4 * t + i) = D (8 + t) i) → itT f n a0 D0 = rdO f n t m j q D → Gx (jx_0 L) (d + 4) md_M_readThing 42 [some (.inr (.inl 167)), some (.inl ((j + m : Nat) : Int)), some (.inl (j : Int))] [] J K := by
  intro m
  induction m with
  | zero =>
    intro j q J D hO hD hR h4 hle h6 hL h180 h181 hit
    have hit : itT f n a0 D0 = enO f n q (jm_up D 0 4 (D 0 4 + 1)) := hit
    have m3 := mt_3 hO.2.2.2.2.1
    have h3r := mt_r hO.2.2.2.2.1
    have fin : ∀ z : Int, ((z = 1 ∧ tkK f n q = 59) ∨ (z = 0 ∧ ¬ tkK f n q = 59)) → Gx (jx_0 L) (d + 4) md_M_readThing 100 [some (.inr (.inl 167)), some (.inl ((j + 0 : Nat) : Int)), some (.inl (j : Int))] [.inl z, .inr (.inl 167)] J K := by
      intro z hz
      refine b_M_readThing_100 (c_M_must_o hO (fun h J4 hO4 f4 => ?_) (fun h J4 hB4 _ => ?_) (by omega))
      · have e29 : J4 167 29 = D 0 4 := by rw [f4.2 29 (by omega)]; exact hD.2.2.2.2.2.1
        refine b_M_readThing_103 ?_
        rw [e29]
        refine k1 _ _ _ (by rw [hit]; unfold enO; rw [if_pos (by omega)]) (mrO_fd (k := 29) (v := D 0 4 + 1) hO4 (by omega)) ?_
        obtain ⟨w1, w2, w3, w4, w5, w6, w7, w8, w9⟩ := hD
        have u4 : jm_up D 0 4 (D 0 4 + 1) 0 4 = D 0 4 + 1 := up_s
        have uo : ∀ j, j ≠ 4 → jm_up D 0 4 (D 0 4 + 1) 0 j = D 0 j := fun j hj => up_k hj
        have ur : ∀ i, i ≠ 0 → jm_up D 0 4 (D 0 4 + 1) i = D i := fun i hi => jm_up_o hi
        have ex : ∀ x, x ≠ 167 → jm_up J4 167 29 (D 0 4 + 1) x = J x := fun x x1 => by rw [jm_up_o x1, f4.1 x x1]
        have ej : ∀ j, 22 < j → j ≠ 29 → jm_up J4 167 29 (D 0 4 + 1) 167 j = J 167 j := fun j hj h2 => by rw [up_k h2, f4.2 j (by omega)]
        refine ⟨by rw [ex 177 (by decide), uo 0 (by decide)]; exact w1, by rw [ex 177 (by decide), uo 1 (by decide)]; exact w2, by rw [ej 24 (by decide) (by decide), ur 20 (by decide)]; exact w3, by rw [ej 25 (by decide) (by decide), uo 2 (by decide)]; exact w4, by rw [ej 27 (by decide) (by decide), uo 3 (by decide)]; exact w5, by rw [up_s, u4], ?_, ?_, fun t' ht' => ?_⟩
        · rw [uo 2 (by decide), ex 178 (by decide), ur 1 (by decide), ur 2 (by decide), ur 3 (by decide)]; exact w7
        · rw [uo 3 (by decide), ex 179 (by decide), ur 4 (by decide), ur 5 (by decide)]; exact w8
        · rw [u4] at ht'
          rw [ex 180 (by decide), ex 181 (by decide), ur 6 (by decide), ur (8 + t') (by omega)]
          by_cases et : t' = t
          · subst et
            exact ⟨h180, fun i hi => h181 i (by omega)⟩
          · exact w9 t' (by omega)
      · exact b_M_readThing_103 (k2 _ _ (by rw [hit]; unfold enO; rw [if_neg (by omega)]) (mrB_fd (k := 29) hB4 (by omega)))
    refine b_M_readThing_42 (by omega) (fun _ => ?_) (fun h => by omega)
    refine b_M_readThing_86 (by omega) (fun h => ?_) (fun h => ?_)
    · exact b_M_readThing_99 (fin 0 (Or.inr ⟨rfl, fun q => h (m3.2 q)⟩))
    · exact b_M_readThing_95 (fin 1 (Or.inl ⟨rfl, m3.1 h⟩))
  | succ m ih =>
    intro j q J D hO hD hR h4 hle h6 hL h180 h181 hit
    have hit : itT f n a0 D0 = (if nmB f n q 0 (D 0 0 - 1) = true then rdO f n t m (j + 1) (tkE f n q) (jm_up D (8 + t) j (tkV f n q)) else .inr (tkS f n q)) := hit
    have g2 := hO.2.1
    have e29 : J 167 29 = (t : Int) := by rw [hD.2.2.2.2.2.1]; exact h4
    have e177 : J 177 0 = D 0 0 := hD.1
    refine b_M_readThing_42 (by omega) (fun h => by omega) (fun _ => ?_)
    refine b_M_readThing_47 (by omega) (fun h => absurd g2 h) (fun _ => ?_)
    refine b_M_readThing_54 ?_
    rw [e29, e177]
    refine c_M_readInto_o (na := 20) rfl (by decide) (by omega) (by omega) hO (fun hn J1 hO1 f1 => ?_) (fun hn J1 v hB hv _ => ?_)
    · rw [if_pos hn] at hit
      rw [show (4 * (t : Int) + (j : Int)).toNat = 4 * t + j by omega]
      have hO2 := mrO_row (r := 181) (k := 4 * t + j) (v := tkV f n q) hO1 (by omega)
      refine b_M_readThing_79 ?_
      rw [show (j : Int) + 1 = ((j + 1 : Nat) : Int) by omega, show j + (m + 1) = (j + 1) + m by omega]
      have ur : ∀ i, i ≠ 8 + t → jm_up D (8 + t) j (tkV f n q) i = D i := fun i hi => jm_up_o hi
      refine ih (j + 1) _ _ _ hO2 ?_ (by rw [ur 0 (by omega)]; exact hR) (by rw [ur 0 (by omega)]; exact h4) (by rw [ur 0 (by omega), ur 6 (by omega)]; exact hle) (by rw [ur 6 (by omega), h6]; omega) (by omega) ?_ (fun i hi => ?_) hit
      · have hD1 := mrD_f hD f1
        obtain ⟨w1, w2, w3, w4, w5, w6, w7, w8, w9⟩ := hD1
        have ex : ∀ x, x ≠ 181 → jm_up J1 181 (4 * t + j) (tkV f n q) x = J1 x := fun x x1 => jm_up_o x1
        rw [mrD, ur 0 (by omega), ur 20 (by omega), ur 1 (by omega), ur 2 (by omega), ur 3 (by omega), ur 4 (by omega), ur 5 (by omega), ur 6 (by omega), ex 177 (by decide), ex 178 (by decide), ex 179 (by decide), ex 180 (by decide), ex 167 (by decide)]
        refine ⟨w1, w2, w3, w4, w5, w6, w7, w8, fun t' ht' => ?_⟩
        obtain ⟨z1, z2⟩ := w9 t' ht'
        have := hle t' ht'
        refine ⟨z1, fun i hi => ?_⟩
        rw [up_k (by omega), ur (8 + t') (by omega)]
        exact z2 i hi
      · rw [up_a (by decide), f1.1 180 (by decide), ur 6 (by omega)]; exact h180
      · by_cases ei : i = j
        · subst ei; rw [up_s, up_s]
        · rw [up_k (by omega), f1.1 181 (by decide), up_k ei]
          exact h181 i (by omega)
    · rw [if_neg (by rw [hn]; simp)] at hit
      have g2' := hB.2.1
      refine b_M_readThing_79 ?_
      refine b_M_readThing_42 (by omega) (fun _ => ?_) (fun _ => ?_)
      · exact mt_wend hB (fun J4 hB4 => k2 J4 _ hit hB4)
      · refine b_M_readThing_47 (by omega) (fun _ => ?_) (fun h => by omega)
        exact mt_wend hB (fun J4 hB4 => k2 J4 _ hit hB4)
theorem c_M_readThing (hO : mrO I J f n a) (hD : mrD J D) (hd : dcOk D) (hle : ∀ t' : Nat, (t' : Int) < D 0 4 → D 6 t' ≤ 4) (k1 : ∀ (J' D' : jm_I) (a' : Nat), itT f n a D = .inl (a', D') → mrO I J' f n a' → mrD J' D' → K none J') (k2 : ∀ (J' : jm_I) (s : Nat), itT f n a D = .inr s → mrB I J' f n s → K none J') : Cx (jx_0 L) (d + 4) md_M_readThing [.inr (.inl 167)] J K := by
  have h29 := hD.2.2.2.2.2.1
  unfold dcOk at hd
  obtain ⟨t, ht⟩ : ∃ t : Nat, D 0 4 = t := ⟨(D 0 4).toNat, by omega⟩
  have go : ∀ z : Int, ((z = 1 ∧ D 0 4 < 5) ∨ (z = 0 ∧ ¬ D 0 4 < 5)) → Gx (jx_0 L) (d + 4) md_M_readThing 14 [some (.inr (.inl 167)), none, none] [.inl z, .inr (.inl 167)] J K := by
    intro z hz
    refine b_M_readThing_14 (c_M_must_o hO (fun h J1 hO1 f1 => ?_) (fun h J1 hB _ => ?_) (by omega))
    · have hk : D 0 4 < 5 := by omega
      have g2 := hO1.2.1
      have e29 : J1 167 29 = (t : Int) := by rw [f1.2 29 (by omega), h29]; exact ht
      refine b_M_readThing_17 (by omega) (fun _ => ?_) (fun h => by omega)
      refine b_M_readThing_25 ?_
      rw [e29]
      refine c_M_readInto_o (na := 5) rfl (by decide) (by omega) (by omega) hO1 (fun hn J2 hO2 f2 => ?_) (fun hn J2 v hB hv _ => ?_)
      · obtain ⟨v1, v2, v3⟩ := nm_i hn
        rw [Int.toNat_natCast]
        have hO3 := mrO_row (r := 180) (k := t) (v := tkV f n (tkE f n a)) hO2 (by omega)
        refine b_M_readThing_39 ?_
        have ur : ∀ i, i ≠ 6 → jm_up D 6 t (tkV f n (tkE f n a)) i = D i := fun i hi => jm_up_o hi
        have hDm := mrD_f hD (mfr_t f1 f2)
        have key := mt_loop (L := L) (d := d) (t := t) (a0 := a) (D0 := D) (by omega) k1 k2 (tkV f n (tkE f n a)).toNat 0 _ _ (jm_up D 6 t (tkV f n (tkE f n a))) hO3 ?_ (by rw [ur 0 (by decide)]; omega) (by rw [ur 0 (by decide)]; exact ht) (fun t' ht' => ?_) (by rw [up_s]; omega) (by omega) (by rw [up_s, up_s]) (fun i hi => by omega) ?_
        · rw [show ((0 + (tkV f n (tkE f n a)).toNat : Nat) : Int) = tkV f n (tkE f n a) by omega] at key
          exact key
        · obtain ⟨w1, w2, w3, w4, w5, w6, w7, w8, w9⟩ := hDm
          have ex : ∀ x, x ≠ 180 → jm_up J2 180 t (tkV f n (tkE f n a)) x = J2 x := fun x x1 => jm_up_o x1
          rw [mrD, ur 0 (by omega), ur 20 (by omega), ur 1 (by omega), ur 2 (by omega), ur 3 (by omega), ur 4 (by omega), ur 5 (by omega), ex 177 (by decide), ex 178 (by decide), ex 179 (by decide), ex 181 (by decide), ex 167 (by decide)]
          refine ⟨w1, w2, w3, w4, w5, w6, w7, w8, fun t' ht' => ?_⟩
          obtain ⟨z1, z2⟩ := w9 t' ht'
          rw [up_k (by omega), up_k (by omega), ur (8 + t') (by omega)]
          exact ⟨z1, z2⟩
        · rw [ur 0 (by decide)] at ht'
          rw [up_k (by omega)]
          exact hle t' ht'
        · unfold itT
          rw [if_pos hk, if_pos hn, ht, Int.toNat_natCast]
      · have hit : itT f n a D = .inr (tkS f n (tkE f n a)) := by unfold itT; rw [if_pos hk, if_neg (by rw [hn]; simp)]
        have g2' := hB.2.1
        refine b_M_readThing_39 ?_
        refine b_M_readThing_42 (by omega) (fun _ => ?_) (fun _ => ?_)
        · exact mt_wend hB (fun J4 hB4 => k2 J4 _ hit hB4)
        · refine b_M_readThing_47 (by omega) (fun _ => ?_) (fun h => by omega)
          exact mt_wend hB (fun J4 hB4 => k2 J4 _ hit hB4)
    · have hk : ¬ D 0 4 < 5 := by omega
      have hit : itT f n a D = .inr (tkS f n a) := by unfold itT; rw [if_neg hk]
      have g2 := hB.2.1
      refine b_M_readThing_17 (by omega) (fun h => by omega) (fun _ => ?_)
      exact b_M_readThing_24 (k2 J1 _ hit hB)
  refine b_M_readThing_0 (by omega) (fun h => ?_) (fun h => ?_)
  · exact b_M_readThing_13 (go 0 (Or.inr ⟨rfl, by omega⟩))
  · exact b_M_readThing_9 (go 1 (Or.inl ⟨rfl, by omega⟩))
theorem c_M_readItem {k : Nat} (hO : mrO I J f n a) (hD : mrD J D) (hd : dOk k D) (hx : x1 = if k = 0 then 1 else 0) (hk0 : ¬ tkK f n a = 0) (k1 : ∀ (J' D' : jm_I) (a' : Nat), itO f n k a D = .inl (a', D') → mrO I J' f n a' → mrD J' D' → K none J') (k2 : ∀ (J' : jm_I) (s : Nat), itO f n k a D = .inr s → mrB I J' f n s → K none J') : Cx (jx_0 L) (d + 5) md_M_readItem [.inr (.inl 167), .inl x1] J K := by
  obtain ⟨h1, h2, h3, h4, h5, h6, h7⟩ := id hO
  have htr := mt_r h5
  have h7' : -1000 ≤ J 167 21 ∧ J 167 21 ≤ 1000 := h7
  have hm := h5
  unfold mtP at hm
  have go : ∀ c : Int, ((c = tkK f n a ∧ (tkK f n a = 114 ∨ tkK f n a = 115 ∨ tkK f n a = 100 ∨ tkK f n a = 112 ∨ tkK f n a = 116)) ∨ (c = 0 ∧ ¬ (tkK f n a = 114 ∨ tkK f n a = 115 ∨ tkK f n a = 100 ∨ tkK f n a = 112 ∨ tkK f n a = 116))) → Gx (jx_0 L) (d + 5) md_M_readItem 16 [some (.inr (.inl 167)), some (.inl x1), none] [.inl c] J K := by
    intro c hc
    refine b_M_readItem_16 (by omega) (fun h => ?_) (fun h => ?_) (fun h => ?_) (fun h => ?_) (fun h => ?_) (fun g1 g2 g3 g4 g5 => ?_)
    · have ho : itO f n k a D = itD f n a D := by unfold itO; rw [if_neg (by omega), if_neg (by omega), if_pos (by omega)]
      rw [ho] at k1 k2
      exact b_M_readItem_83 (c_M_readDoor hO hD hd.1 (fun J' D' q' z1 z2 z3 => b_M_readItem_87 (b_M_readItem_109 (k1 J' D' q' z1 z2 z3))) (fun J' s z1 z2 => b_M_readItem_87 (b_M_readItem_109 (k2 J' s z1 z2))))
    · have ho : itO f n k a D = itP f n a D := by unfold itO; rw [if_neg (by omega), if_neg (by omega), if_neg (by omega), if_pos (by omega)]
      rw [ho] at k1 k2
      exact b_M_readItem_90 (c_M_readPerson hO hD hd.1 (fun J' D' q' z1 z2 z3 => b_M_readItem_94 (b_M_readItem_109 (k1 J' D' q' z1 z2 z3))) (fun J' s z1 z2 => b_M_readItem_94 (b_M_readItem_109 (k2 J' s z1 z2))))
    · have ho : itO f n k a D = itR f n k a D := by unfold itO; rw [if_pos (by omega)]
      rw [ho] at k1 k2
      exact b_M_readItem_68 (c_M_readRooms hO hD hx (fun J' D' q' z1 z2 z3 => b_M_readItem_73 (b_M_readItem_109 (k1 J' D' q' z1 z2 z3))) (fun J' s z1 z2 => b_M_readItem_73 (b_M_readItem_109 (k2 J' s z1 z2))))
    · have ho : itO f n k a D = itS f n a D := by unfold itO; rw [if_neg (by omega), if_pos (by omega)]
      rw [ho] at k1 k2
      exact b_M_readItem_76 (c_M_readSteps hO hD hd.1 (fun J' D' q' z1 z2 z3 => b_M_readItem_80 (b_M_readItem_109 (k1 J' D' q' z1 z2 z3))) (fun J' s z1 z2 => b_M_readItem_80 (b_M_readItem_109 (k2 J' s z1 z2))))
    · have ho : itO f n k a D = itT f n a D := by unfold itO; rw [if_neg (by omega), if_neg (by omega), if_neg (by omega), if_neg (by omega), if_pos (by omega)]
      rw [ho] at k1 k2
      exact b_M_readItem_97 (c_M_readThing hO hD hd.1 (fun t' ht' => (hd.2.2.2.2.2 t' ht').1.2) (fun J' D' q' z1 z2 z3 => b_M_readItem_101 (b_M_readItem_109 (k1 J' D' q' z1 z2 z3))) (fun J' s z1 z2 => b_M_readItem_101 (b_M_readItem_109 (k2 J' s z1 z2))))
    · have ho : itO f n k a D = .inr (tkS f n a) := by unfold itO; rw [if_neg (by omega), if_neg (by omega), if_neg (by omega), if_neg (by omega), if_neg (by omega)]
      have e : ∀ j, j ≠ 22 → jm_up J 167 22 1 167 j = J 167 j := fun j hj => up_k hj
      refine b_M_readItem_104 (b_M_readItem_109 (k2 _ _ ho ⟨mrF_mv h1 (fun x x1 _ => jm_up_o x1) (fun j hj => e j (by omega)), up_s, by rw [e 19 (by decide)]; exact h4, ?_, by rw [e 20 (by decide)]; exact htr⟩))
      unfold nmR at *
      rw [e 21 (by decide)]; exact h7
  refine b_M_readItem_0 (by omega) (fun h => ?_) (fun h => ?_)
  · exact b_M_readItem_15 (go 0 (Or.inr ⟨rfl, by omega⟩))
  · refine b_M_readItem_8 (go _ (Or.inl ?_))
    omega
/-- the model's walk over the text -/
theorem mc_loop {D0 : jm_I} (hn : n ≤ 200) (k1 : ∀ (J' D' : jm_I) (k : Nat), psO f n 201 0 0 D0 = .inl (k, D') → mrF I J' f n → mrD J' D' → dOk k D' → J' 167 22 = 0 → k ≤ 100 → Gx (jx_0 L) (d + 6) md_M_city 84 [some (.inr (.inl 167)), some (.inl (k : Int))] [] J' K) (k2 : ∀ (J' : jm_I) (s : Nat) (x : Int), psO f n 201 0 0 D0 = .inr s → mrB I J' f n s → Gx (jx_0 L) (d + 6) md_M_city 84 [some (.inr (.inl 167)), some (.inl x)] [] J' K) : ∀ (m k a : Nat) (J D : jm_I), m + k = 201 → 2 * k ≤ a → a ≤ n → dOk k D → mrF I J f n → J 167 22 = 0 → J 167 18 = (tkE f n a : Int) → J 167 19 = (tkS f n a : Int) → mtP J (tkK f n a) (tkV f n a) → (tkK f n a = 0 ∨ nmR J) → mrD J D → psO f n 201 0 0 D0 = psO f n m k a D → Gx (jx_0 L) (d + 6) md_M_city 51 [some (.inr (.inl 167)), some (.inl (k : Int))] [] J K := by
  intro m
  induction m with
  | zero =>
    intro k a J D hm h2 ha hD _ _ _ _ _ _ _ hp
    omega
  | succ m ih =>
    intro k a J D hm h2 ha hD hF h22 h18 h19 hmt hnm hmD hp
    have htr := mt_r hmt
    have hp : psO f n 201 0 0 D0 = (if tkK f n a = 0 then .inl (k, D) else match itO f n k a D with
      | .inl p => psO f n m (k + 1) p.1 p.2
      | .inr s => .inr s) := hp
    have hz0 : J 167 20 = 0 ↔ tkK f n a = 0 := by unfold mtP at hmt; omega
    refine b_M_city_51 (by omega) (fun h => ?_) (fun h => ?_)
    · have hk := hz0.1 h
      rw [if_pos hk] at hp
      exact k1 J D k hp hF hmD hD h22 (by omega)
    · have hk : ¬ tkK f n a = 0 := fun q => h (hz0.2 q)
      rw [if_neg hk] at hp
      have hO : mrO I J f n a := ⟨hF, h22, h18, h19, hmt, ha, by rcases hnm with z | z; exact absurd z hk; exact z⟩
      refine b_M_city_58 (by omega) (fun h => absurd h22 h) (fun _ => ?_)
      have go : ∀ z : Int, z = (if k = 0 then 1 else 0) → Gx (jx_0 L) (d + 6) md_M_city 75 [some (.inr (.inl 167)), some (.inl (k : Int))] [.inl z, .inr (.inl 167)] J K := by
        intro z hz
        refine b_M_city_75 (c_M_readItem hO hmD hD hz hk (fun J1 D1 a1 hit hO1 hD1 => ?_) (fun J1 s hit hB1 => ?_))
        · obtain ⟨dk, ak, an⟩ := it_ok ha hD hit
          rw [hit] at hp
          have hp : psO f n 201 0 0 D0 = psO f n m (k + 1) a1 D1 := hp
          obtain ⟨g1, g2, g3, g4, g5, g6, g7⟩ := hO1
          refine b_M_city_78 ?_
          rw [show (k : Int) + 1 = ((k + 1 : Nat) : Int) by omega]
          exact ih (k + 1) a1 J1 D1 (by omega) (by omega) an dk g1 g2 g3 g4 g5 (Or.inr g7) hD1 hp
        · rw [hit] at hp
          have g2 := hB1.2.1
          have g5 := hB1.2.2.2.2
          refine b_M_city_78 ?_
          refine b_M_city_51 (by omega) (fun _ => k2 J1 s _ hp hB1) (fun _ => ?_)
          exact b_M_city_58 (by omega) (fun _ => k2 J1 s _ hp hB1) (fun h => by omega)
      refine b_M_city_65 (by omega) (fun h => ?_) (fun h => ?_)
      · exact b_M_city_74 (go 0 (by rw [if_neg (by omega)]))
      · exact b_M_city_70 (go 1 (by rw [if_pos (by omega)]))
end MREAD3
