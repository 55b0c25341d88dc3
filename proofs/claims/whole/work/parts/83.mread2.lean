/-! ===== the model's reader: steps, people, doors ===== -/
section MREAD2
variable {L d : Nat} {I J : jm_I} {K : Option jm_V → jm_I → Prop} {x0 x1 x2 x3 x4 : Int} {f : Nat → Int} {n a : Nat} {D : jm_I}
theorem c_M_readSteps (hO : mrO I J f n a) (hD : mrD J D) (hd : dcOk D) (k1 : ∀ (J' D' : jm_I) (a' : Nat), itS f n a D = .inl (a', D') → mrO I J' f n a' → mrD J' D' → K none J') (k2 : ∀ (J' : jm_I) (s : Nat), itS f n a D = .inr s → mrB I J' f n s → K none J') : Cx (jx_0 L) (d + 4) md_M_readSteps [.inr (.inl 167)] J K := by
  unfold itS at k1 k2
  have h24 := hD.2.2.1
  unfold dcOk at hd
  have go : ∀ z : Int, ((z = 1 ∧ D 20 0 = 0) ∨ (z = 0 ∧ ¬ D 20 0 = 0)) → Gx (jx_0 L) (d + 4) md_M_readSteps 13 [some (.inr (.inl 167))] [.inl z, .inr (.inl 167)] J K := by
    intro z hz
    refine b_M_readSteps_13 (c_M_must_o hO (fun h J1 hO1 f1 => ?_) (fun h J1 hB _ => ?_) (by omega))
    · have hk : D 20 0 = 0 := by omega
      rw [if_pos hk] at k1 k2
      have g2 := hO1.2.1
      refine b_M_readSteps_16 (by omega) (fun _ => ?_) (fun h => by omega)
      refine b_M_readSteps_24 (c_M_readInto_o (na := 2) rfl (by decide) (by omega) (by omega) hO1 (fun hn J2 hO2 f2 => ?_) (fun hn J2 v hB hv oB => ?_))
      · rw [if_pos hn] at k1 k2
        rw [show (1 : Int).toNat = 1 from rfl]
        have hO3 := mrO_row (r := 177) (k := 1) (v := tkV f n (tkE f n a)) hO2 (by omega)
        have m3 := mt_3 hO3.2.2.2.2.1
        have h3r := mt_r hO3.2.2.2.2.1
        have fr := mfr_t f1 f2
        have fin : ∀ z : Int, ((z = 1 ∧ tkK f n (tkE f n (tkE f n a)) = 59) ∨ (z = 0 ∧ ¬ tkK f n (tkE f n (tkE f n a)) = 59)) → Gx (jx_0 L) (d + 4) md_M_readSteps 51 [some (.inr (.inl 167))] [.inl z, .inr (.inl 167)] (jm_up J2 177 1 (tkV f n (tkE f n a))) K := by
          intro z hz
          refine b_M_readSteps_51 (c_M_must_o hO3 (fun h J4 hO4 f4 => ?_) (fun h J4 hB4 _ => ?_) (by omega))
          · refine b_M_readSteps_54 (k1 _ _ _ (by unfold enO; rw [if_pos (by omega)]) (mrO_fd (k := 24) (v := 1) hO4 (by omega)) ?_)
            obtain ⟨w1, w2, w3, w4, w5, w6, w7, w8, w9⟩ := hD
            generalize hE : jm_up (jm_up D 20 0 1) 0 1 (tkV f n (tkE f n a)) = E
            have u1 : E 0 1 = tkV f n (tkE f n a) := by rw [← hE, up_s]
            have uo : ∀ j, j ≠ 1 → E 0 j = D 0 j := fun j hj => by rw [← hE, up_k hj, up_a (by decide)]
            have ur : ∀ i, i ≠ 0 → i ≠ 20 → E i = D i := fun i hi h2 => by rw [← hE, jm_up_o hi, jm_up_o h2]
            have u20 : E 20 0 = 1 := by rw [← hE, up_a (by decide), up_s]
            have ex : ∀ x, x ≠ 167 → x ≠ 177 → jm_up J4 167 24 1 x = J x := fun x x1 x2 => by rw [jm_up_o x1, f4.1 x x1, jm_up_o x2, fr.1 x x1]
            have ej : ∀ j, 22 < j → j ≠ 24 → jm_up J4 167 24 1 167 j = J 167 j := fun j hj h2 => by rw [up_k h2, f4.2 j (by omega), up_a (by decide), fr.2 j (by omega)]
            have e177 : ∀ j, jm_up J4 167 24 1 177 j = jm_up J2 177 1 (tkV f n (tkE f n a)) 177 j := fun j => by rw [up_a (by decide), f4.1 177 (by decide)]
            refine ⟨by rw [e177, up_k (by decide), fr.1 177 (by decide), uo 0 (by decide)]; exact w1, by rw [e177, up_s, u1], by rw [up_s, u20], by rw [ej 25 (by decide) (by decide), uo 2 (by decide)]; exact w4, by rw [ej 27 (by decide) (by decide), uo 3 (by decide)]; exact w5, by rw [ej 29 (by decide) (by decide), uo 4 (by decide)]; exact w6, ?_, ?_, fun t ht => ?_⟩
            · rw [uo 2 (by decide), ex 178 (by decide) (by decide), ur 1 (by decide) (by decide), ur 2 (by decide) (by decide), ur 3 (by decide) (by decide)]; exact w7
            · rw [uo 3 (by decide), ex 179 (by decide) (by decide), ur 4 (by decide) (by decide), ur 5 (by decide) (by decide)]; exact w8
            · rw [uo 4 (by decide)] at ht
              rw [ex 180 (by decide) (by decide), ex 181 (by decide) (by decide), ur 6 (by decide) (by decide), ur (8 + t) (by omega) (by omega)]; exact w9 t ht
          · exact b_M_readSteps_54 (k2 _ _ (by unfold enO; rw [if_neg (by omega)]) (mrB_fd (k := 24) (v := 1) hB4 (by omega)))
        refine b_M_readSteps_36 (by omega) (fun h => ?_) (fun h => ?_)
        · exact b_M_readSteps_50 (fin 0 (Or.inr ⟨rfl, fun q => h (m3.2 q)⟩))
        · exact b_M_readSteps_46 (fin 1 (Or.inl ⟨rfl, m3.1 h⟩))
      · rw [if_neg (by rw [hn]; simp)] at k2
        have h5 := hB.2.2.2.2
        refine b_M_readSteps_36 (by omega) (fun h => ?_) (fun h => ?_)
        · exact b_M_readSteps_50 (b_M_readSteps_51 (c_M_must_w hB (fun J4 hB4 => b_M_readSteps_54 (k2 _ _ rfl (mrB_fd (k := 24) (v := 1) hB4 (by omega))))))
        · exact b_M_readSteps_46 (b_M_readSteps_51 (c_M_must_w hB (fun J4 hB4 => b_M_readSteps_54 (k2 _ _ rfl (mrB_fd (k := 24) (v := 1) hB4 (by omega))))))
    · have hk : ¬ D 20 0 = 0 := by omega
      rw [if_neg hk] at k2
      have g2 := hB.2.1
      refine b_M_readSteps_16 (by omega) (fun h => by omega) (fun _ => ?_)
      exact b_M_readSteps_23 (k2 J1 _ rfl hB)
  refine b_M_readSteps_0 (by omega) (fun h => ?_) (fun h => ?_)
  · exact b_M_readSteps_12 (go 0 (Or.inr ⟨rfl, by omega⟩))
  · exact b_M_readSteps_8 (go 1 (Or.inl ⟨rfl, by omega⟩))
theorem c_M_readPerson (hO : mrO I J f n a) (hD : mrD J D) (hd : dcOk D) (k1 : ∀ (J' D' : jm_I) (a' : Nat), itP f n a D = .inl (a', D') → mrO I J' f n a' → mrD J' D' → K none J') (k2 : ∀ (J' : jm_I) (s : Nat), itP f n a D = .inr s → mrB I J' f n s → K none J') : Cx (jx_0 L) (d + 4) md_M_readPerson [.inr (.inl 167)] J K := by
  unfold itP itP2 at k1 k2
  have h27 := hD.2.2.2.2.1
  have h177 := hD.1
  unfold dcOk at hd
  obtain ⟨p, hp⟩ : ∃ p : Nat, D 0 3 = p := ⟨(D 0 3).toNat, by omega⟩
  -- the end, behind a fault
  have wend : ∀ (J3 : jm_I) (s : Nat) (v : Int), mrB I J3 f n s → (∀ J4, mrB I J4 f n s → K none (jm_up J4 167 27 (J4 167 27 + 1))) → Gx (jx_0 L) (d + 4) md_M_readPerson 69 [some (.inr (.inl 167))] [.inl v] J3 K := by
    intro J3 s v hB kk
    have h5 := hB.2.2.2.2
    refine b_M_readPerson_69 (by omega) (fun h => ?_) (fun h => ?_)
    · exact b_M_readPerson_83 (b_M_readPerson_84 (c_M_must_w hB (fun J4 hB4 => b_M_readPerson_87 (kk J4 hB4))))
    · exact b_M_readPerson_79 (b_M_readPerson_84 (c_M_must_w hB (fun J4 hB4 => b_M_readPerson_87 (kk J4 hB4))))
  have go : ∀ z : Int, ((z = 1 ∧ D 0 3 < 5) ∨ (z = 0 ∧ ¬ D 0 3 < 5)) → Gx (jx_0 L) (d + 4) md_M_readPerson 14 [some (.inr (.inl 167))] [.inl z, .inr (.inl 167)] J K := by
    intro z hz
    refine b_M_readPerson_14 (c_M_must_o hO (fun h J1 hO1 f1 => ?_) (fun h J1 hB _ => ?_) (by omega))
    · have hk : D 0 3 < 5 := by omega
      rw [if_pos hk] at k1 k2
      have g2 := hO1.2.1
      have e27 : J1 167 27 = (p : Int) := by rw [f1.2 27 (by omega), h27]; exact hp
      have e177 : J1 177 0 = D 0 0 := by rw [f1.1 177 (by decide)]; exact h177
      refine b_M_readPerson_17 (by omega) (fun _ => ?_) (fun h => by omega)
      refine b_M_readPerson_25 ?_
      rw [e27, e177]
      refine c_M_readInto_o (na := 10) rfl (by decide) (by omega) (by omega) hO1 (fun hn J2 hO2 f2 => ?_) (fun hn J2 v hB hv oB => ?_)
      · rw [if_pos hn] at k1 k2
        rw [show (2 * (p : Int)).toNat = 2 * p by omega]
        have hO3 := mrO_row (r := 179) (k := 2 * p) (v := tkV f n (tkE f n a)) hO2 (by omega)
        have e27' : jm_up J2 179 (2 * p) (tkV f n (tkE f n a)) 167 27 = (p : Int) := by rw [up_a (by decide), f2.2 27 (by omega)]; exact e27
        refine b_M_readPerson_48 ?_
        rw [e27']
        refine c_M_readInto_o (na := 10) rfl (by decide) (by omega) (by omega) hO3 (fun hn2 J4 hO4 f4 => ?_) (fun hn2 J4 v hB hv _ => ?_)
        · rw [if_pos hn2] at k1 k2
          rw [show (2 * (p : Int) + 1).toNat = 2 * p + 1 by omega]
          have hO5 := mrO_row (r := 179) (k := 2 * p + 1) (v := tkV f n (tkE f n (tkE f n a))) hO4 (by omega)
          have m3 := mt_3 hO5.2.2.2.2.1
          have h3r := mt_r hO5.2.2.2.2.1
          have fin : ∀ z : Int, ((z = 1 ∧ tkK f n (tkE f n (tkE f n (tkE f n a))) = 59) ∨ (z = 0 ∧ ¬ tkK f n (tkE f n (tkE f n (tkE f n a))) = 59)) → Gx (jx_0 L) (d + 4) md_M_readPerson 84 [some (.inr (.inl 167))] [.inl z, .inr (.inl 167)] (jm_up J4 179 (2 * p + 1) (tkV f n (tkE f n (tkE f n a)))) K := by
            intro z hz
            refine b_M_readPerson_84 (c_M_must_o hO5 (fun h J6 hO6 f6 => ?_) (fun h J6 hB6 _ => ?_) (by omega))
            · have e6 : J6 167 27 = (p : Int) := by rw [f6.2 27 (by omega), up_a (by decide), f4.2 27 (by omega)]; exact e27'
              refine b_M_readPerson_87 ?_
              rw [e6]
              refine k1 _ _ _ (by unfold enO; rw [if_pos (by omega)]) (mrO_fd (k := 27) (v := (p : Int) + 1) hO6 (by omega)) ?_
              obtain ⟨w1, w2, w3, w4, w5, w6, w7, w8, w9⟩ := hD
              rw [hp, Int.toNat_natCast]
              generalize hE : jm_up (jm_up (jm_up D 4 p (tkV f n (tkE f n a))) 5 p (tkV f n (tkE f n (tkE f n a)))) 0 3 ((p : Int) + 1) = E
              have u3 : E 0 3 = (p : Int) + 1 := by rw [← hE, up_s]
              have uo : ∀ j, j ≠ 3 → E 0 j = D 0 j := fun j hj => by rw [← hE, up_k hj, up_a (by decide), up_a (by decide)]
              have ur : ∀ i, i ≠ 0 → i ≠ 4 → i ≠ 5 → E i = D i := fun i i0 i1 i2 => by rw [← hE, jm_up_o i0, jm_up_o i2, jm_up_o i1]
              have r4 : ∀ j, E 4 j = if j = p then tkV f n (tkE f n a) else D 4 j := fun j => by
                rw [← hE, up_a (by decide), up_a (by decide)]
                by_cases ej : j = p
                · rw [if_pos ej, ej, up_s]
                · rw [if_neg ej, up_k ej]
              have r5 : ∀ j, E 5 j = if j = p then tkV f n (tkE f n (tkE f n a)) else D 5 j := fun j => by
                rw [← hE, up_a (by decide)]
                by_cases ej : j = p
                · rw [if_pos ej, ej, up_s]
                · rw [if_neg ej, up_k ej, up_a (by decide)]
              have ex : ∀ x, x ≠ 167 → x ≠ 179 → jm_up J6 167 27 ((p : Int) + 1) x = J x := fun x x1 x2 => by rw [jm_up_o x1, f6.1 x x1, jm_up_o x2, f4.1 x x1, jm_up_o x2, f2.1 x x1, f1.1 x x1]
              have ej : ∀ j, 22 < j → j ≠ 27 → jm_up J6 167 27 ((p : Int) + 1) 167 j = J 167 j := fun j hj h2 => by rw [up_k h2, f6.2 j (by omega), up_a (by decide), f4.2 j (by omega), up_a (by decide), f2.2 j (by omega), f1.2 j (by omega)]
              have e179 : ∀ j, jm_up J6 167 27 ((p : Int) + 1) 179 j = if j = 2 * p + 1 then tkV f n (tkE f n (tkE f n a)) else if j = 2 * p then tkV f n (tkE f n a) else J 179 j := fun j => by
                rw [up_a (by decide), f6.1 179 (by decide)]
                by_cases j1 : j = 2 * p + 1
                · rw [if_pos j1, j1, up_s]
                · rw [if_neg j1, up_k j1, f4.1 179 (by decide)]
                  by_cases j2 : j = 2 * p
                  · rw [if_pos j2, j2, up_s]
                  · rw [if_neg j2, up_k j2, f2.1 179 (by decide), f1.1 179 (by decide)]
              refine ⟨by rw [ex 177 (by decide) (by decide), uo 0 (by decide)]; exact w1, by rw [ex 177 (by decide) (by decide), uo 1 (by decide)]; exact w2, by rw [ej 24 (by decide) (by decide), ur 20 (by decide) (by decide) (by decide)]; exact w3, by rw [ej 25 (by decide) (by decide), uo 2 (by decide)]; exact w4, by rw [up_s, u3], by rw [ej 29 (by decide) (by decide), uo 4 (by decide)]; exact w6, ?_, fun i hi => ?_, fun t ht => ?_⟩
              · rw [uo 2 (by decide), ex 178 (by decide) (by decide), ur 1 (by decide) (by decide) (by decide), ur 2 (by decide) (by decide) (by decide), ur 3 (by decide) (by decide) (by decide)]; exact w7
              · rw [u3] at hi
                rw [e179, e179, r4, r5]
                by_cases ei : i = p
                · subst ei
                  rw [if_neg (by omega), if_pos rfl, if_pos rfl, if_pos rfl, if_pos rfl]
                  exact ⟨rfl, rfl⟩
                · rw [if_neg (show ¬ 2 * i = 2 * p + 1 by omega), if_neg (show ¬ 2 * i = 2 * p by omega), if_neg (show ¬ 2 * i + 1 = 2 * p + 1 by omega), if_neg (show ¬ 2 * i + 1 = 2 * p by omega), if_neg ei, if_neg ei]
                  exact w8 i (by omega)
              · rw [uo 4 (by decide)] at ht
                rw [ex 180 (by decide) (by decide), ex 181 (by decide) (by decide), ur 6 (by decide) (by decide) (by decide), ur (8 + t) (by omega) (by omega) (by omega)]; exact w9 t ht
            · exact b_M_readPerson_87 (k2 _ _ (by unfold enO; rw [if_neg (by omega)]) (mrB_fd (k := 27) hB6 (by omega)))
          refine b_M_readPerson_69 (by omega) (fun h => ?_) (fun h => ?_)
          · exact b_M_readPerson_83 (fin 0 (Or.inr ⟨rfl, fun q => h (m3.2 q)⟩))
          · exact b_M_readPerson_79 (fin 1 (Or.inl ⟨rfl, m3.1 h⟩))
        · rw [if_neg (by rw [hn2]; simp)] at k2
          exact wend _ _ _ hB (fun J5 hB5 => k2 _ _ rfl (mrB_fd (k := 27) hB5 (by omega)))
      · rw [if_neg (by rw [hn]; simp)] at k2
        refine b_M_readPerson_48 (c_M_readInto_w (na := 10) rfl (by omega) hB (fun J4 v hB4 hv => ?_))
        exact wend _ _ _ hB4 (fun J5 hB5 => k2 _ _ rfl (mrB_fd (k := 27) hB5 (by omega)))
    · have hk : ¬ D 0 3 < 5 := by omega
      rw [if_neg hk] at k2
      have g2 := hB.2.1
      refine b_M_readPerson_17 (by omega) (fun h => by omega) (fun _ => ?_)
      exact b_M_readPerson_24 (k2 J1 _ rfl hB)
  refine b_M_readPerson_0 (by omega) (fun h => ?_) (fun h => ?_)
  · exact b_M_readPerson_13 (go 0 (Or.inr ⟨rfl, by omega⟩))
  · exact b_M_readPerson_9 (go 1 (Or.inl ⟨rfl, by omega⟩))
theorem c_M_readDoor (hO : mrO I J f n a) (hD : mrD J D) (hd : dcOk D) (k1 : ∀ (J' D' : jm_I) (a' : Nat), itD f n a D = .inl (a', D') → mrO I J' f n a' → mrD J' D' → K none J') (k2 : ∀ (J' : jm_I) (s : Nat), itD f n a D = .inr s → mrB I J' f n s → K none J') : Cx (jx_0 L) (d + 4) md_M_readDoor [.inr (.inl 167)] J K := by
  unfold itD itD2 itD3 at k1 k2
  have h25 := hD.2.2.2.1
  have h177 := hD.1
  unfold dcOk at hd
  obtain ⟨p, hp⟩ : ∃ p : Nat, D 0 2 = p := ⟨(D 0 2).toNat, by omega⟩
  -- the end, behind a fault
  have wend : ∀ (J3 : jm_I) (s : Nat) (v : Int) (o1 o2 o3 : Option jm_V), mrB I J3 f n s → (∀ J4, mrB I J4 f n s → K none (jm_up J4 167 25 (J4 167 25 + 1))) → Gx (jx_0 L) (d + 4) md_M_readDoor 117 [some (.inr (.inl 167)), o1, o2, o3] [.inl v] J3 K := by
    intro J3 s v o1 o2 o3 hB kk
    have h5 := hB.2.2.2.2
    refine b_M_readDoor_117 (by omega) (fun h => ?_) (fun h => ?_)
    · exact b_M_readDoor_131 (b_M_readDoor_132 (c_M_must_w hB (fun J4 hB4 => b_M_readDoor_135 (kk J4 hB4))))
    · exact b_M_readDoor_127 (b_M_readDoor_132 (c_M_must_w hB (fun J4 hB4 => b_M_readDoor_135 (kk J4 hB4))))
  have w95 : ∀ (J3 : jm_I) (s : Nat) (o2 : Option jm_V) (v : Int), p < 8 → mrB I J3 f n s → (∀ J4, mrB I J4 f n s → K none (jm_up J4 167 25 (J4 167 25 + 1))) → Gx (jx_0 L) (d + 4) md_M_readDoor 95 [some (.inr (.inl 167)), some (.inl (3 * (p : Int))), o2, some (.inl v)] [] J3 K := by
    intro J3 s o2 v hp8 hB kk
    refine b_M_readDoor_95 (by omega) (c_M_readInto_w (na := 24) rfl (by omega) (mrB_row (r := 178) hB (by omega)) (fun J4 v hB4 hv => ?_))
    exact wend _ _ _ _ _ _ hB4 kk
  have go : ∀ z : Int, ((z = 1 ∧ D 0 2 < 8) ∨ (z = 0 ∧ ¬ D 0 2 < 8)) → Gx (jx_0 L) (d + 4) md_M_readDoor 15 [some (.inr (.inl 167)), none, none, none] [.inl z, .inr (.inl 167)] J K := by
    intro z hz
    refine b_M_readDoor_15 (c_M_must_o hO (fun h J1 hO1 f1 => ?_) (fun h J1 hB _ => ?_) (by omega))
    · have hk : D 0 2 < 8 := by omega
      rw [if_pos hk] at k1 k2
      have g2 := hO1.2.1
      have e25 : J1 167 25 = (p : Int) := by rw [f1.2 25 (by omega), h25]; exact hp
      have e177 : J1 177 0 = D 0 0 := by rw [f1.1 177 (by decide)]; exact h177
      refine b_M_readDoor_18 (by omega) (fun _ => ?_) (fun h => by omega)
      refine b_M_readDoor_26 ?_
      rw [e25, e177]
      refine c_M_readInto_o (na := 24) rfl (by decide) (by omega) (by omega) hO1 (fun hn J2 hO2 f2 => ?_) (fun hn J2 v hB hv oB => ?_)
      · rw [if_pos hn] at k1 k2
        have hv1 := (tkV_r (nm_i hn).1).1
        rw [show (3 * (p : Int)).toNat = 3 * p by omega]
        have hO3 := mrO_row (r := 178) (k := 3 * p) (v := tkV f n (tkE f n a)) hO2 (by omega)
        have h3r := mt_r hO3.2.2.2.2.1
        obtain ⟨m1, m2⟩ := mt_2 hO3.2.2.2.2.1
        have h37 : -1000 ≤ jm_up J2 178 (3 * p) (tkV f n (tkE f n a)) 167 21 ∧ jm_up J2 178 (3 * p) (tkV f n (tkE f n a)) 167 21 ≤ 1000 := hO3.2.2.2.2.2.2
        have e177' : jm_up J2 178 (3 * p) (tkV f n (tkE f n a)) 177 0 = D 0 0 := by rw [up_a (by decide), f2.1 177 (by decide)]; exact e177
        generalize hJ3 : jm_up J2 178 (3 * p) (tkV f n (tkE f n a)) = J3 at *
        have bad : ¬ (nmB f n (tkE f n (tkE f n a)) 0 (D 0 0 - 1) = true ∧ ¬ tkV f n (tkE f n (tkE f n a)) = tkV f n (tkE f n a)) → Gx (jx_0 L) (d + 4) md_M_readDoor 91 [some (.inr (.inl 167)), some (.inl (3 * (p : Int))), some (.inl (tkV f n (tkE f n a))), some (.inl (J3 167 21))] [.inr (.inl 167)] J3 K := by
          intro hb
          rw [if_neg hb] at k2
          refine b_M_readDoor_91 ?_
          refine b_M_readDoor_92 (c_M_must_o hO3 (fun h => absurd rfl h) (fun _ J4 hB4 _ => ?_) (Or.inl rfl))
          exact w95 _ _ _ _ (by omega) hB4 (fun J5 hB5 => k2 _ _ rfl (mrB_fd (k := 25) hB5 (by omega)))
        refine b_M_readDoor_51 (by omega) (fun h => ?_) (fun h => ?_)
        · refine bad (fun q => h (m1.2 (nm_i q.1).1))
        · have hk1 := m1.1 h
          have hv2 := m2 hk1
          have hv2r := (tkV_r hk1).1
          refine b_M_readDoor_66 ?_
          rw [e177']
          refine c_M_in (by omega) (fun w hw => ?_)
          refine b_M_readDoor_79 (by omega) (fun hw0 => ?_) (fun hw0 => ?_)
          · refine bad (fun q => ?_)
            have := nm_i q.1
            omega
          · refine b_M_readDoor_82 (by omega) (fun heq => ?_) (fun hne => ?_)
            · refine bad (fun q => q.2 (by omega))
            · have hn2 : nmB f n (tkE f n (tkE f n a)) 0 (D 0 0 - 1) = true ∧ ¬ tkV f n (tkE f n (tkE f n a)) = tkV f n (tkE f n a) := by
                refine ⟨?_, by omega⟩
                unfold nmB
                exact decide_eq_true ⟨hk1, by omega, by omega⟩
              rw [if_pos hn2] at k1 k2
              refine b_M_readDoor_87 ?_
              refine b_M_readDoor_92 (c_M_must_o hO3 (fun _ J4 hO4 f4 => ?_) (fun h => by omega) (Or.inr rfl))
              refine b_M_readDoor_95 (by omega) ?_
              rw [hv2, show (3 * (p : Int) + 1).toNat = 3 * p + 1 by omega]
              have hO5 := mrO_row (r := 178) (k := 3 * p + 1) (v := tkV f n (tkE f n (tkE f n a))) hO4 (by omega)
              refine c_M_readInto_o (na := 24) rfl (by decide) (by omega) (by omega) hO5 (fun hn3 J6 hO6 f6 => ?_) (fun hn3 J6 v hB hv _ => ?_)
              · rw [if_pos hn3] at k1 k2
                rw [show (3 * (p : Int) + 2).toNat = 3 * p + 2 by omega]
                have hO7 := mrO_row (r := 178) (k := 3 * p + 2) (v := tkV f n (tkE f n (tkE f n (tkE f n a)))) hO6 (by omega)
                have m3 := mt_3 hO7.2.2.2.2.1
                have h7r := mt_r hO7.2.2.2.2.1
                have fin : ∀ z : Int, ((z = 1 ∧ tkK f n (tkE f n (tkE f n (tkE f n (tkE f n a)))) = 59) ∨ (z = 0 ∧ ¬ tkK f n (tkE f n (tkE f n (tkE f n (tkE f n a)))) = 59)) → Gx (jx_0 L) (d + 4) md_M_readDoor 132 [some (.inr (.inl 167)), some (.inl (3 * (p : Int))), some (.inl (tkV f n (tkE f n a))), some (.inl (tkV f n (tkE f n (tkE f n a))))] [.inl z, .inr (.inl 167)] (jm_up J6 178 (3 * p + 2) (tkV f n (tkE f n (tkE f n (tkE f n a))))) K := by
                  intro z hz
                  refine b_M_readDoor_132 (c_M_must_o hO7 (fun h J8 hO8 f8 => ?_) (fun h J8 hB8 _ => ?_) (by omega))
                  · have ej0 : ∀ j, 22 < j → J8 167 j = J 167 j := fun j hj => by rw [f8.2 j (by omega), up_a (by decide), f6.2 j (by omega), up_a (by decide), f4.2 j (by omega), ← hJ3, up_a (by decide), f2.2 j (by omega), f1.2 j (by omega)]
                    have e8 : J8 167 25 = (p : Int) := by rw [ej0 25 (by decide), h25]; exact hp
                    refine b_M_readDoor_135 ?_
                    rw [e8]
                    refine k1 _ _ _ (by unfold enO; rw [if_pos (by omega)]) (mrO_fd (k := 25) (v := (p : Int) + 1) hO8 (by omega)) ?_
                    obtain ⟨w1, w2, w3, w4, w5, w6, w7, w8, w9⟩ := hD
                    rw [hp, Int.toNat_natCast]
                    generalize hE : jm_up (jm_up (jm_up (jm_up D 1 p (tkV f n (tkE f n a))) 2 p (tkV f n (tkE f n (tkE f n a)))) 3 p (tkV f n (tkE f n (tkE f n (tkE f n a))))) 0 2 ((p : Int) + 1) = E
                    have u2 : E 0 2 = (p : Int) + 1 := by rw [← hE, up_s]
                    have uo : ∀ j, j ≠ 2 → E 0 j = D 0 j := fun j hj => by rw [← hE, up_k hj, up_a (by decide), up_a (by decide), up_a (by decide)]
                    have ur : ∀ i, i ≠ 0 → i ≠ 1 → i ≠ 2 → i ≠ 3 → E i = D i := fun i i0 i1 i2 i3 => by rw [← hE, jm_up_o i0, jm_up_o i3, jm_up_o i2, jm_up_o i1]
                    have r1 : ∀ j, E 1 j = if j = p then tkV f n (tkE f n a) else D 1 j := fun j => by
                      rw [← hE, up_a (by decide), up_a (by decide), up_a (by decide)]
                      by_cases ej : j = p
                      · rw [if_pos ej, ej, up_s]
                      · rw [if_neg ej, up_k ej]
                    have r2 : ∀ j, E 2 j = if j = p then tkV f n (tkE f n (tkE f n a)) else D 2 j := fun j => by
                      rw [← hE, up_a (by decide), up_a (by decide)]
                      by_cases ej : j = p
                      · rw [if_pos ej, ej, up_s]
                      · rw [if_neg ej, up_k ej, up_a (by decide)]
                    have r3 : ∀ j, E 3 j = if j = p then tkV f n (tkE f n (tkE f n (tkE f n a))) else D 3 j := fun j => by
                      rw [← hE, up_a (by decide)]
                      by_cases ej : j = p
                      · rw [if_pos ej, ej, up_s]
                      · rw [if_neg ej, up_k ej, up_a (by decide), up_a (by decide)]
                    have ex : ∀ x, x ≠ 167 → x ≠ 178 → jm_up J8 167 25 ((p : Int) + 1) x = J x := fun x x1 x2 => by rw [jm_up_o x1, f8.1 x x1, jm_up_o x2, f6.1 x x1, jm_up_o x2, f4.1 x x1, ← hJ3, jm_up_o x2, f2.1 x x1, f1.1 x x1]
                    have ej : ∀ j, 22 < j → j ≠ 25 → jm_up J8 167 25 ((p : Int) + 1) 167 j = J 167 j := fun j hj h2 => by rw [up_k h2, ej0 j hj]
                    have e178 : ∀ j, jm_up J8 167 25 ((p : Int) + 1) 178 j = if j = 3 * p + 2 then tkV f n (tkE f n (tkE f n (tkE f n a))) else if j = 3 * p + 1 then tkV f n (tkE f n (tkE f n a)) else if j = 3 * p then tkV f n (tkE f n a) else J 178 j := fun j => by
                      rw [up_a (by decide), f8.1 178 (by decide)]
                      by_cases j1 : j = 3 * p + 2
                      · rw [if_pos j1, j1, up_s]
                      · rw [if_neg j1, up_k j1, f6.1 178 (by decide)]
                        by_cases j2 : j = 3 * p + 1
                        · rw [if_pos j2, j2, up_s]
                        · rw [if_neg j2, up_k j2, f4.1 178 (by decide), ← hJ3]
                          by_cases j3 : j = 3 * p
                          · rw [if_pos j3, j3, up_s]
                          · rw [if_neg j3, up_k j3, f2.1 178 (by decide), f1.1 178 (by decide)]
                    refine ⟨by rw [ex 177 (by decide) (by decide), uo 0 (by decide)]; exact w1, by rw [ex 177 (by decide) (by decide), uo 1 (by decide)]; exact w2, by rw [ej 24 (by decide) (by decide), ur 20 (by decide) (by decide) (by decide) (by decide)]; exact w3, by rw [up_s, u2], by rw [ej 27 (by decide) (by decide), uo 3 (by decide)]; exact w5, by rw [ej 29 (by decide) (by decide), uo 4 (by decide)]; exact w6, fun i hi => ?_, ?_, fun t ht => ?_⟩
                    · rw [u2] at hi
                      rw [e178, e178, e178, r1, r2, r3]
                      by_cases ei : i = p
                      · subst ei
                        rw [if_neg (show ¬ 3 * i = 3 * i + 2 by omega), if_neg (show ¬ 3 * i = 3 * i + 1 by omega), if_pos rfl, if_pos rfl, if_neg (show ¬ 3 * i + 1 = 3 * i + 2 by omega), if_pos rfl, if_pos rfl, if_pos rfl, if_pos rfl]
                        exact ⟨rfl, rfl, rfl⟩
                      · rw [if_neg (show ¬ 3 * i = 3 * p + 2 by omega), if_neg (show ¬ 3 * i = 3 * p + 1 by omega), if_neg (show ¬ 3 * i = 3 * p by omega), if_neg (show ¬ 3 * i + 1 = 3 * p + 2 by omega), if_neg (show ¬ 3 * i + 1 = 3 * p + 1 by omega), if_neg (show ¬ 3 * i + 1 = 3 * p by omega), if_neg (show ¬ 3 * i + 2 = 3 * p + 2 by omega), if_neg (show ¬ 3 * i + 2 = 3 * p + 1 by omega), if_neg (show ¬ 3 * i + 2 = 3 * p by omega), if_neg ei, if_neg ei, if_neg ei]
                        exact w7 i (by omega)
                    · rw [uo 3 (by decide), ex 179 (by decide) (by decide), ur 4 (by decide) (by decide) (by decide) (by decide), ur 5 (by decide) (by decide) (by decide) (by decide)]; exact w8
                    · rw [uo 4 (by decide)] at ht
                      rw [ex 180 (by decide) (by decide), ex 181 (by decide) (by decide), ur 6 (by decide) (by decide) (by decide) (by decide), ur (8 + t) (by omega) (by omega) (by omega) (by omega)]; exact w9 t ht
                  · exact b_M_readDoor_135 (k2 _ _ (by unfold enO; rw [if_neg (by omega)]) (mrB_fd (k := 25) hB8 (by omega)))
                refine b_M_readDoor_117 (by omega) (fun h => ?_) (fun h => ?_)
                · exact b_M_readDoor_131 (fin 0 (Or.inr ⟨rfl, fun q => h (m3.2 q)⟩))
                · exact b_M_readDoor_127 (fin 1 (Or.inl ⟨rfl, m3.1 h⟩))
              · rw [if_neg (by rw [hn3]; simp)] at k2
                exact wend _ _ _ _ _ _ hB (fun J5 hB5 => k2 _ _ rfl (mrB_fd (k := 25) hB5 (by omega)))
      · rw [if_neg (by rw [hn]; simp)] at k2
        have h5 := hB.2.2.2.2
        have h4' : -1000 ≤ J2 167 21 ∧ J2 167 21 ≤ 1000 := hB.2.2.2.1
        have h177r : D 0 0 - 1 ≤ 100 := by omega
        have fin : ∀ z : Int, Gx (jx_0 L) (d + 4) md_M_readDoor 92 [some (.inr (.inl 167)), some (.inl (3 * (p : Int))), some (.inl v), some (.inl (J2 167 21))] [.inl z, .inr (.inl 167)] J2 K := by
          intro z
          refine b_M_readDoor_92 (c_M_must_w hB (fun J4 hB4 => ?_))
          exact w95 _ _ _ _ (by omega) hB4 (fun J5 hB5 => k2 _ _ rfl (mrB_fd (k := 25) hB5 (by omega)))
        have e177B : J2 177 0 = D 0 0 := by rw [oB 177 (by decide)]; exact e177
        refine b_M_readDoor_51 (by omega) (fun h => b_M_readDoor_91 (fin 0)) (fun h => ?_)
        refine b_M_readDoor_66 ?_
        rw [e177B]
        refine c_M_in (by omega) (fun w hw => ?_)
        refine b_M_readDoor_79 (by omega) (fun _ => b_M_readDoor_91 (fin 0)) (fun _ => ?_)
        exact b_M_readDoor_82 (by omega) (fun _ => b_M_readDoor_91 (fin 0)) (fun _ => b_M_readDoor_87 (fin 1))
    · have hk : ¬ D 0 2 < 8 := by omega
      rw [if_neg hk] at k2
      have g2 := hB.2.1
      refine b_M_readDoor_18 (by omega) (fun h => by omega) (fun _ => ?_)
      exact b_M_readDoor_25 (k2 J1 _ rfl hB)
  refine b_M_readDoor_0 (by omega) (fun h => ?_) (fun h => ?_)
  · exact b_M_readDoor_14 (go 0 (Or.inr ⟨rfl, by omega⟩))
  · exact b_M_readDoor_10 (go 1 (Or.inl ⟨rfl, by omega⟩))
end MREAD2
