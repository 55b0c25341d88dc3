section FCOST2
variable {L d : Nat} {I : jm_I} {K : Option jm_V → jm_I → Prop} {x0 x1 x2 x3 x4 : Int} {c e : Nat}
/-- the second loop: carried from everywhere to everywhere -/
theorem fc_second {b : Nat → Int} {o2 : Option jm_V} (hm : mOk I) (ht : 0 ≤ x1 ∧ x1 < I 167 5) (hD : ∀ i j, i < 6 → j < 6 → 0 ≤ I 182 (6 * i + j) ∧ I 182 (6 * i + j) ≤ 10000) (hf : ∀ q : Nat, (q : Int) < I 167 0 → 0 ≤ I 185 q ∧ I 185 q ≤ 10000) (hb : ∀ q : Nat, (q : Int) < I 167 0 → 0 ≤ b q ∧ b q ≤ 10000) (k : ∀ (h : Nat → Int) (x : Int) (a2 a3 a4 : Option jm_V), (∀ q : Nat, (q : Int) < I 167 0 → (soP I x1 (puF I x1 q) ∧ h q = mcF (fun a c => I 182 (6 * a + c)) (I 185) (I 171 (17 + x1).toNat).toNat q (I 167 0).toNat (b q)) ∨ (¬ soP I x1 (puF I x1 q) ∧ h q = b q)) → Gx (jx_0 L) (d + 2) md_M_findCosts 152 [some (.inr (.inl 167)), some (.inl x1), some (.inl x), a2, a3, a4] [] (st_ I 186 h) K) : Gx (jx_0 L) (d + 2) md_M_findCosts 45 [some (.inr (.inl 167)), some (.inl x1), o2, none, none, none] [] (st_ I 186 b) K := by
  have hr := hm.1
  unfold mRng at hr
  obtain ⟨n1, n2, n3⟩ := nw_sp hm ht.1 ht.2
  have hto := th_of hm ht.1 ht.2
  obtain ⟨R, hR⟩ : ∃ R : Nat, I 167 0 = R := ⟨(I 167 0).toNat, by omega⟩
  have hR0 : (I 167 0).toNat = R := by omega
  have hprod : I 167 0 * I 167 0 = ((R * R : Nat) : Int) := by rw [hR]; exact (Int.natCast_mul R R).symm
  have hbd : R * R ≤ 6 * 6 := Nat.mul_le_mul (by omega) (by omega)
  have hRp : 0 < R := by omega
  rw [hR0] at k
  generalize hTe : (I 171 (17 + x1).toNat).toNat = T at *
  refine b_M_findCosts_45 ?_
  refine lp_up4 (σ := Nat → Int) (τ := Option jm_V) (υ := Option jm_V) (φ := Option jm_V) (Inv := fun x h _ _ _ => 0 ≤ x ∧ ∀ q : Nat, q < R → (soP I x1 (puF I x1 q) ∧ h q = mcF (fun a c => I 182 (6 * a + c)) (I 185) T q (if q < x.toNat % R then x.toNat / R + 1 else x.toNat / R) (b q)) ∨ (¬ soP I x1 (puF I x1 q) ∧ h q = b q)) (G := fun x h a2 a3 a4 => Gx (jx_0 L) (d + 2) md_M_findCosts 47 [some (.inr (.inl 167)), some (.inl x1), some (.inl x), a2, a3, a4] [] (st_ I 186 h) K) (((R * R : Nat) : Int)) ?_ ?_ 0 b none none none (by omega) ⟨by omega, fun q hq => ?_⟩
  · intro x h a2 a3 a4 hx hi ih
    obtain ⟨h0, hi⟩ := hi
    obtain ⟨i, rfl⟩ : ∃ i : Nat, x = i := ⟨x.toNat, by omega⟩
    rw [Int.toNat_natCast] at hi
    have o : ∀ a, a ≠ 186 → st_ I 186 h a = I a := fun a ha => st_a ha
    have e167 := o 167 (by decide)
    have mk : mKeep I (st_ I 186 h) := ⟨fun k _ => by rw [e167], fun a a1 a2 => o a (by omega)⟩
    have hdv : (i : Int) / I 167 0 = ((i / R : Nat) : Int) := by rw [hR]; exact (Int.natCast_ediv i R).symm
    have hmd : (i : Int) % I 167 0 = ((i % R : Nat) : Int) := by rw [hR]; exact (Int.natCast_emod i R).symm
    have d1 : i / R < R := (Nat.div_lt_iff_lt_mul hRp).2 (by omega)
    have d2 : i % R < R := Nat.mod_lt _ hRp
    have dn := dm_next (i := i) hRp
    generalize hqa : i / R = a at *
    generalize hqr : i % R = r at *
    have hmr : ∀ q n, q < R → n ≤ R → 0 ≤ mcF (fun a c => I 182 (6 * a + c)) (I 185) T q n (b q) ∧ mcF (fun a c => I 182 (6 * a + c)) (I 185) T q n (b q) ≤ 10000 := fun q n hq hn => mcF_r (hb q (by omega)) (fun j hj => ⟨(hf j (by omega)).1, (hD j T (by omega) (by omega)).1, (hD T q (by omega) (by omega)).1⟩)
    have hrr : 0 ≤ h r ∧ h r ≤ 10000 := by
      have := hb r (by omega)
      have := hmr r a d2 (by omega)
      rcases hi r d2 with ⟨-, q2⟩ | ⟨-, q2⟩
      · rw [if_neg (by omega)] at q2; omega
      · omega
    have g1 := hD a T (by omega) (by omega)
    have g2 := hD T r (by omega) (by omega)
    have g3 := hf a (by omega)
    have fin : ∀ z, ((soP I x1 (puF I x1 r) ∧ z = min (h r) (I 185 a + (I 182 (6 * a + T) + I 182 (6 * T + r)))) ∨ (¬ soP I x1 (puF I x1 r) ∧ z = h r)) → ∀ y2 y3 y4, Gx (jx_0 L) (d + 2) md_M_findCosts 145 [some (.inr (.inl 167)), some (.inl x1), some (.inl (i : Int)), y2, y3, y4] [.inl z, .inl (r : Int), .inr (.inl 186)] (st_ I 186 h) K := by
      intro z hz y2 y3 y4
      refine b_M_findCosts_145 (by omega) ?_
      rw [st_up]
      refine ih _ _ _ _ ⟨by omega, fun q hq => ?_⟩
      rw [show ((i : Int) + 1).toNat = i + 1 by omega]
      have hiq := hi q hq
      by_cases eq : q = r
      · subst eq
        rw [if_pos (show q = ((q : Int)).toNat by omega)]
        have en : (if q < (i + 1) % R then (i + 1) / R + 1 else (i + 1) / R) = a + 1 := by
          rcases dn with ⟨q1, q2, q3⟩ | ⟨q1, q2, q3⟩
          · rw [if_pos (by omega)]; omega
          · rw [if_neg (by omega)]; exact q2
        rw [en]
        rw [if_neg (show ¬ q < q by omega)] at hiq
        rcases hz with ⟨z1, z2⟩ | ⟨z1, z2⟩
        · left
          refine ⟨z1, ?_⟩
          rcases hiq with ⟨-, w2⟩ | ⟨w1, -⟩
          · rw [z2, w2]; rfl
          · exact absurd z1 w1
        · right
          refine ⟨z1, ?_⟩
          rcases hiq with ⟨w1, -⟩ | ⟨-, w2⟩
          · exact absurd w1 z1
          · rw [z2, w2]
      · rw [if_neg (show ¬ q = ((r : Int)).toNat by omega)]
        have en : (if q < (i + 1) % R then (i + 1) / R + 1 else (i + 1) / R) = (if q < r then a + 1 else a) := by
          rcases dn with ⟨q1, q2, q3⟩ | ⟨q1, q2, q3⟩
          · by_cases w : q < r
            · rw [if_pos w, if_pos (by omega)]; omega
            · rw [if_neg w, if_neg (by omega)]; exact q2
          · rw [if_neg (by omega), if_pos (by omega)]; exact q2
        rw [en]
        exact hiq
    refine b_M_findCosts_47 (by rw [e167, hprod]; omega) (fun hh => by rw [e167, hprod] at hh; omega) (fun hh => ?_)
    refine b_M_findCosts_60 (by rw [e167, hdv]; omega) ?_
    rw [e167, hdv, hmd, o 171 (by decide), o 185 (by decide), Int.toNat_natCast]
    refine c_M_by (g := fun _ => 0) (by omega) ?_
    rw [o 182 (by decide), Int.toNat_natCast, Int.toNat_natCast, hTe]
    refine b_M_findCosts_97 (c_M_putIn (by rw [o 169 (by decide)]; exact ⟨hto.1, hto.2.1, by omega⟩) (by rw [o 169 (by decide), o 170 (by decide)]; exact hto.2.2.1) ?_)
    rw [puF_k (o 169 (by decide)) (o 170 (by decide))]
    refine b_M_findCosts_115 (c_M_isSo (mOk_keep mk hm) (by rw [e167]; exact ht) (spOk_k (o 169 (by decide)) (pu_sp hto.2.1 (by omega))) (fun v hv => ?_))
    rw [soP_k e167 (o 169 (by decide)) (o 170 (by decide)) (o 175 (by decide))] at hv
    have e186 : st_ I 186 h 186 (r : Int).toNat = h r := by rw [st_s, Int.toNat_natCast]
    refine b_M_findCosts_118 (by rcases hv with ⟨q, -⟩ | ⟨q, -⟩ <;> omega) (fun h' => ?_) (fun h' => ?_)
    · refine b_M_findCosts_138 (by omega) ?_
      rw [e186]
      refine fin _ (Or.inr ⟨?_, rfl⟩) _ _ _
      rcases hv with ⟨q1, -⟩ | ⟨-, q2⟩
      · omega
      · exact q2
    · have hso : soP I x1 (puF I x1 r) := by
        rcases hv with ⟨-, q2⟩ | ⟨q1, -⟩
        · exact q2
        · exact absurd q1 h'
      refine b_M_findCosts_121 (by rw [e186]; omega) (fun h'' => ?_) (fun h'' => ?_)
      · rw [e186] at h''
        refine b_M_findCosts_138 (by omega) ?_
        rw [e186]
        exact fin _ (Or.inl ⟨hso, by omega⟩) _ _ _
      · rw [e186] at h''
        refine b_M_findCosts_133 ?_
        exact fin _ (Or.inl ⟨hso, by omega⟩) _ _ _
  · intro h a2 a3 a4 hi
    obtain ⟨-, hi⟩ := hi
    rw [Int.toNat_natCast] at hi
    have e167 : st_ I 186 h 167 = I 167 := st_a (by decide)
    refine b_M_findCosts_47 (by rw [e167, hprod]; omega) (fun _ => ?_) (fun h => by rw [e167, hprod] at h; omega)
    refine k h _ _ _ _ (fun q hq => ?_)
    have := hi q (by omega)
    rw [Nat.mul_mod_right, Nat.mul_div_cancel _ hRp, if_neg (by omega)] at this
    exact this
  · show _ ∨ _
    rw [show (0 : Int).toNat = 0 from rfl, Nat.zero_mod, Nat.zero_div, if_neg (by omega)]
    by_cases w : soP I x1 (puF I x1 q)
    · exact Or.inl ⟨w, rfl⟩
    · exact Or.inr ⟨w, rfl⟩
end FCOST2
