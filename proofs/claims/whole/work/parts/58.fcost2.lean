section FCOST
variable {L d : Nat} {I : jm_I} {K : Option jm_V → jm_I → Prop} {x0 x1 x2 x3 x4 : Int} {c e : Nat}
/-- the first loop: what it costs if the thing stays -/
theorem fc_first (hm : mOk I) (ht : 0 ≤ x1 ∧ x1 < I 167 5) (k : ∀ b : Nat → Int, (∀ q, q < 6 → (soP I x1 (nwF I x1) ∧ b q = I 185 q) ∨ (¬ soP I x1 (nwF I x1) ∧ b q = 10000)) → Gx (jx_0 L) (d + 2) md_M_findCosts 45 [some (.inr (.inl 167)), some (.inl x1), some (.inl 6), none, none, none] [] (st_ I 186 b) K) : Cx (jx_0 L) (d + 2) md_M_findCosts [.inr (.inl 167), .inl x1] I K := by
  have hr := hm.1
  unfold mRng at hr
  obtain ⟨n1, n2, n3⟩ := nw_sp hm ht.1 ht.2
  have hto := th_of hm ht.1 ht.2
  refine b_M_findCosts_0 ?_
  rw [← st_id (I := I) (a := 186)]
  refine lp_up (σ := Nat → Int) (Inv := fun x b => 0 ≤ x ∧ ∀ q : Nat, (q : Int) < x → (soP I x1 (nwF I x1) ∧ b q = I 185 q) ∨ (¬ soP I x1 (nwF I x1) ∧ b q = 10000)) (G := fun x b => Gx (jx_0 L) (d + 2) md_M_findCosts 2 [some (.inr (.inl 167)), some (.inl x1), some (.inl x), none, none, none] [] (st_ I 186 b) K) 6 ?_ ?_ 0 (I 186) (by omega) ⟨by omega, fun q h => by omega⟩
  · intro x b hx hi ih
    obtain ⟨h0, hi⟩ := hi
    obtain ⟨r, rfl⟩ : ∃ r : Nat, x = r := ⟨x.toNat, by omega⟩
    have o : ∀ a, a ≠ 186 → st_ I 186 b a = I a := fun a ha => st_a ha
    have e171 := o 171 (by decide)
    have mk : mKeep I (st_ I 186 b) := ⟨fun k _ => by rw [o 167 (by decide)], fun a a1 a2 => o a (by omega)⟩
    refine b_M_findCosts_2 (by omega) (fun h => by omega) (fun h => ?_)
    refine b_M_findCosts_8 (c_M_isNow (by rw [e171]; have := hto.2.2.2; have := hto.2.1; have := hto.1; omega) (fun w hw => ?_))
    rw [e171] at hw
    have hwn : w = nwF I x1 := by
      unfold nwF
      rcases hw with ⟨w1, w2⟩ | ⟨w1, w2⟩
      · rw [if_pos w1]; exact w2
      · rw [if_neg w1]; exact w2
    rw [hwn]
    refine b_M_findCosts_20 (c_M_isSo (mOk_keep mk hm) (by rw [o 167 (by decide)]; exact ht) (spOk_k (o 169 (by decide)) n1) (fun v hv => ?_))
    rw [soP_k (o 167 (by decide)) (o 169 (by decide)) (o 170 (by decide)) (o 175 (by decide))] at hv
    have step : ∀ z, ((soP I x1 (nwF I x1) ∧ z = I 185 r) ∨ (¬ soP I x1 (nwF I x1) ∧ z = 10000)) → Gx (jx_0 L) (d + 2) md_M_findCosts 38 [some (.inr (.inl 167)), some (.inl x1), some (.inl (r : Int)), none, none, none] [.inl z, .inl (r : Int), .inr (.inl 186)] (st_ I 186 b) K := by
      intro z hz
      refine b_M_findCosts_38 (by omega) ?_
      rw [st_up]
      refine ih _ ⟨by omega, fun q hq => ?_⟩
      by_cases eq : q = r
      · rw [if_pos (by omega), eq]; exact hz
      · rw [if_neg (by omega)]; exact hi q (by omega)
    refine b_M_findCosts_23 (by rcases hv with ⟨q, -⟩ | ⟨q, -⟩ <;> omega) (fun h' => ?_) (fun h' => ?_)
    · refine b_M_findCosts_35 ?_
      refine step _ (Or.inr ⟨?_, rfl⟩)
      rcases hv with ⟨q1, -⟩ | ⟨-, q2⟩
      · omega
      · exact q2
    · refine b_M_findCosts_26 (by omega) ?_
      refine step _ (Or.inl ⟨?_, ?_⟩)
      · rcases hv with ⟨-, q2⟩ | ⟨q1, -⟩
        · exact q2
        · exact absurd q1 h'
      · rw [o 185 (by decide), Int.toNat_natCast]
  · intro b hi
    obtain ⟨-, hi⟩ := hi
    refine b_M_findCosts_2 (by omega) (fun h => ?_) (fun h => by omega)
    exact k b (fun q hq => hi q (by omega))
end FCOST
