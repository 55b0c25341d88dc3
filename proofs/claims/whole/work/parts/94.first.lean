/-! ===== the memory behind the constructors, and what holds of it ===== -/
theorem rF_mem {rl : List (Nat × Nat × Nat)} {a k v : Nat} (h : rF rl a k = some v) : (a, k, v) ∈ rl := by
  induction rl with
  | nil => cases h
  | cons t r ih =>
    have h' : (if a = t.1 ∧ k = t.2.1 then some t.2.2 else rF r a k) = some v := h
    by_cases c : a = t.1 ∧ k = t.2.1
    · rw [if_pos c] at h'
      have e : t = (a, k, v) := Prod.ext c.1.symm (Prod.ext c.2.symm (Option.some.inj h'))
      rw [e]
      exact List.mem_cons_self
    · rw [if_neg c] at h'
      exact List.mem_cons_of_mem _ (ih h')
set_option maxRecDepth 100000 in
theorem fin_R1 : ∀ t ∈ rk_167 ++ rk_1, jx_R t.1 t.2.1 = some t.2.2 := by decide +kernel
set_option maxRecDepth 100000 in
theorem fin_R2 : ∀ a, a < 187 → ∀ k, k < (jx_Rl.getD a []).length → (jx_Rl.getD a []).getD k 0 = 0 ∨ (rF (rk_167 ++ rk_1) (a + 1) k).isSome = true := by decide +kernel
theorem fin_R3 : jx_Rl.length = 187 ∧ jx_Sl.length = 187 := by decide +kernel
theorem fin_R (a k : Nat) : rF (rk_167 ++ rk_1) a k = jx_R a k := by
  cases h : rF (rk_167 ++ rk_1) a k with
  | some v => exact (fin_R1 _ (rF_mem h)).symm
  | none =>
    cases a with
    | zero => rfl
    | succ a =>
      have h0 : (jx_Rl.getD a []).getD k 0 = 0 := by
        by_cases h1 : a < 187
        · by_cases h2 : k < (jx_Rl.getD a []).length
          · rcases fin_R2 a h1 k h2 with h3 | h3
            · exact h3
            · rw [h] at h3
              cases h3
          · rw [List.getD_eq_getElem?_getD, List.getElem?_eq_none (by omega)]
            rfl
        · have : jx_Rl.getD a [] = [] := by
            rw [List.getD_eq_getElem?_getD, List.getElem?_eq_none (by rw [fin_R3.1]; omega)]
            rfl
          rw [this]
          rfl
      simp only [jx_R, h0]
theorem fin_P {L : Nat} : stP L 187 2904 (rk_167 ++ rk_1) = jx_0 L := by
  refine Prod.ext rfl (Prod.ext (funext fun a => ?_) (funext fun a => funext fun k => fin_R a k))
  show (if a ≤ 187 then jx_S L a else (99, 0)) = jx_S L a
  by_cases h : a ≤ 187
  · rw [if_pos h]
  · rw [if_neg h]
    cases a with
    | zero => omega
    | succ a =>
      show (99, 0) = jx_Sl.getD a (99, 0)
      rw [List.getD_eq_getElem?_getD, List.getElem?_eq_none (by rw [fin_R3.2]; omega)]
      rfl
theorem fst_rel0 {A : jm_I} (z0 : A 167 0 = 2) (z3 : A 167 3 = 10) (zM : ∀ k, k ≠ 0 → k ≠ 3 → A 167 k = 0) (zr : ∀ a k, 168 ≤ a → A a k = 0) (x0 : A 1 0 = 2) (x1 : A 1 1 = 22) (x4 : A 1 4 = 0) (x14 : A 1 14 = 0) (c0 : A 2 0 = 2) (c1 : A 2 1 = 10) (c2 : A 2 2 = 0) (c3 : A 2 3 = 0) (c4 : A 2 4 = 0) (t43 : ∀ k, A 43 k = 0) (m0 : A 44 0 = 0) (m1 : A 44 1 = 0) (h49 : ∀ k, A 49 k = 0) (k102 : ∀ k, A 102 k = 0) (f103 : A 103 0 = 0) (dist : ∀ r s : Nat, r < 2 → s < 2 → isD (adjM A 0) 1000 r s (A (2 + 14 + r) s)) : Rel A := by
  have e1 := zM 1 (by decide) (by decide)
  have e4 := zM 4 (by decide) (by decide)
  have e5 := zM 5 (by decide) (by decide)
  have e10 := zM 10 (by decide) (by decide)
  have e13 := zM 13 (by decide) (by decide)
  have e15 := zM 15 (by decide) (by decide)
  have e17 := zM 17 (by decide) (by decide)
  have st0 : ∀ f : Nat → Int, f 0 = 0 → f 16 = 0 → stI A f := fun f h1 h2 => by
    unfold stI stOk
    refine ⟨by omega, by omega, fun p hp => ?_, fun t ht => ?_⟩
    · rw [e4] at hp; omega
    · rw [e5] at ht; omega
  refine ⟨⟨?_, ?_, ?_, st0 _ (zr 171 0 (by decide)) (zr 171 16 (by decide)), ?_, ?_, ?_, ?_⟩, 2, 22, Or.inl ⟨rfl, rfl⟩, x0, x1, ⟨⟨?_, ?_, ?_, ?_, ?_⟩, ?_, ?_, ?_⟩, ⟨?_, ?_⟩, ⟨?_, ?_, ?_, ?_⟩, ⟨?_, ?_, ?_⟩, ?_, ⟨?_, ?_⟩, ?_⟩
  · unfold mRng
    omega
  · intro e he
    rw [e1] at he; omega
  · intro t ht
    rw [e5] at ht; omega
  · intro i hi
    rw [e10] at hi; omega
  · intro i hi
    exact Or.inl (zr 174 i (by decide))
  · intro i hi
    rw [e13] at hi; omega
  · intro k hk
    rw [zr 176 k (by decide)]
    omega
  · rw [c0, z0]
  · rw [c1, z3]
  · rw [c2, e1]
  · rw [c3, e4]
  · rw [c4, e5]
  · intro e he
    rw [e1] at he; omega
  · intro t ht
    rw [e5] at ht; omega
  · intro r s hr hs
    rw [z0] at hr hs
    exact dist r s (by omega) (by omega)
  · rw [x4, e17]
  · intro k hk
    rw [t43 k, zr 176 k (by decide)]
  · rw [m0, zr 171 0 (by decide)]
  · rw [m1, zr 171 16 (by decide)]
  · intro p hp
    rw [e4] at hp; omega
  · intro t ht
    rw [e5] at ht; omega
  · rw [h49 2, e10]
  · rw [h49 1]
    omega
  · intro i hi
    rw [e10] at hi; omega
  · intro i hi
    rw [k102 i, zr 174 i (by decide)]
    exact ⟨rfl, fun h => by omega⟩
  · rw [f103, e13]
  · intro i hi
    rw [e13] at hi; omega
  · rw [x14, e15]
theorem fst_o {I : jm_I} {a : Nat} (h1 : a ≠ 1) (h2 : a ≠ 2) (h22 : a ≠ 22) : fst0 I a = I a := by
  unfold fst0 bAF
  rw [jm_up_o h1, jm_up_o h22, jm_up_o h22, jm_up_o h22, jm_up_o h22, jm_up_o h22, jm_up_o h1, jm_up_o h2, jm_up_o h2, jm_up_o h2, jm_up_o h2, jm_up_o h2]
theorem fst_z {I J : jm_I} (hz : izero I 0) (h : fst1 (fst0 I) J) {a : Nat} (h0 : a ≠ 0) (h1 : a ≠ 1) (h2 : a ≠ 2) (h22 : a ≠ 22) (q1 : ¬ (16 ≤ a ∧ a ≤ 21)) (q2 : ¬ (44 ≤ a ∧ a ≤ 48)) (k : Nat) : J a k = 0 := by
  rw [h.1 a (by omega) q2, fst_o h1 h2 h22]
  exact hz a (by omega) k
theorem fst_rel {I J : jm_I} (hz : izero I 0) (h : fst1 (fst0 I) J) : Rel (jm_up (jm_up J 167 0 2) 167 3 10) ∧ ∀ k, jm_up (jm_up J 167 0 2) 167 3 10 0 k = I 0 k := by
  have ho : ∀ a, a ≠ 167 → jm_up (jm_up J 167 0 2) 167 3 10 a = J a := fun a ha => by rw [jm_up_o ha, jm_up_o ha]
  have z : ∀ {a : Nat}, a ≠ 0 → a ≠ 1 → a ≠ 2 → a ≠ 22 → ¬ (16 ≤ a ∧ a ≤ 21) → ¬ (44 ≤ a ∧ a ≤ 48) → ∀ k, J a k = 0 := fun h0 h1 h2 h22 q1 q2 k => fst_z hz h h0 h1 h2 h22 q1 q2 k
  have J1 : J 1 = fst0 I 1 := h.1 1 (by omega) (by omega)
  have J2 : J 2 = fst0 I 2 := h.1 2 (by omega) (by omega)
  refine ⟨fst_rel0 (by simp [jm_up]) (by simp [jm_up]) (fun k k0 k3 => ?_) (fun a k ha => ?_) ?_ ?_ ?_ ?_ ?_ ?_ ?_ ?_ ?_ (fun k => ?_) ?_ ?_ (fun k => ?_) (fun k => ?_) ?_ (fun r s hr hs => ?_), fun k => ?_⟩
  · have : jm_up (jm_up J 167 0 2) 167 3 10 167 k = J 167 k := by simp [jm_up, k0, k3]
    rw [this]
    exact z (by omega) (by omega) (by omega) (by omega) (by omega) (by omega) k
  · rw [ho a (by omega)]
    exact z (by omega) (by omega) (by omega) (by omega) (by omega) (by omega) k
  · rw [ho 1 (by omega), J1]
    rfl
  · rw [ho 1 (by omega), J1]
    rfl
  · rw [ho 1 (by omega), J1]
    exact hz 1 (by omega) 4
  · rw [ho 1 (by omega), J1]
    exact hz 1 (by omega) 14
  · rw [ho 2 (by omega), J2]
    rfl
  · rw [ho 2 (by omega), J2]
    rfl
  · rw [ho 2 (by omega), J2]
    rfl
  · rw [ho 2 (by omega), J2]
    rfl
  · rw [ho 2 (by omega), J2]
    rfl
  · rw [ho 43 (by omega)]
    exact z (by omega) (by omega) (by omega) (by omega) (by omega) (by omega) k
  · rw [ho 44 (by omega)]
    exact h.2.2.1
  · rw [ho 44 (by omega)]
    exact h.2.2.2.1
  · rw [ho 49 (by omega)]
    exact z (by omega) (by omega) (by omega) (by omega) (by omega) (by omega) k
  · rw [ho 102 (by omega)]
    exact z (by omega) (by omega) (by omega) (by omega) (by omega) (by omega) k
  · rw [ho 103 (by omega)]
    exact z (by omega) (by omega) (by omega) (by omega) (by omega) (by omega) 0
  · rw [ho (2 + 14 + r) (by omega)]
    have e0 : fst0 I 2 0 = 2 := rfl
    have e2 : fst0 I 2 2 = 0 := rfl
    have e1 : jm_up (jm_up J 167 0 2) 167 3 10 167 1 = 0 := by
      have : jm_up (jm_up J 167 0 2) 167 3 10 167 1 = J 167 1 := by simp [jm_up]
      rw [this]
      exact z (by omega) (by omega) (by omega) (by omega) (by omega) (by omega) 1
    refine isD_congr (fun q t => ?_) (h.2.1 r s (by rw [e0]; omega) (by omega))
    unfold adjC adjM adj
    rw [e1, e2]
    constructor
    · rintro ⟨x, hx, -⟩
      omega
    · rintro ⟨x, hx, -⟩
      omega
  · rw [ho 0 (by omega), h.1 0 (by omega) (by omega), fst_o (by omega) (by omega) (by omega)]
