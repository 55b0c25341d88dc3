section FCOST3
variable {L d : Nat} {I : jm_I} {K : Option jm_V → jm_I → Prop} {x0 x1 x2 x3 x4 : Int} {c e : Nat}
/-- the third loop: the costs are taken over -/
theorem fc_third {h : Nat → Int} {o1 o2 a2 a3 a4 : Option jm_V} (k : ∀ f : Nat → Int, (∀ q, q < 6 → f q = h q) → K none (st_ (st_ I 186 h) 185 f)) : Gx (jx_0 L) (d + 2) md_M_findCosts 152 [some (.inr (.inl 167)), o1, o2, a2, a3, a4] [] (st_ I 186 h) K := by
  refine b_M_findCosts_152 ?_
  rw [← st_id (I := st_ I 186 h) (a := 185)]
  refine lp_up (σ := Nat → Int) (Inv := fun x f => 0 ≤ x ∧ ∀ q : Nat, (q : Int) < x → f q = h q) (G := fun x f => Gx (jx_0 L) (d + 2) md_M_findCosts 154 [some (.inr (.inl 167)), o1, some (.inl x), a2, a3, a4] [] (st_ (st_ I 186 h) 185 f) K) 6 ?_ ?_ 0 _ (by omega) ⟨by omega, fun q hq => by omega⟩
  · intro x f hx hi ih
    obtain ⟨h0, hi⟩ := hi
    refine b_M_findCosts_154 (by omega) (fun hh => by omega) (fun hh => ?_)
    refine b_M_findCosts_160 (by omega) ?_
    rw [st_up, st_a (show (186 : Nat) ≠ 185 by decide), st_s]
    refine ih _ ⟨by omega, fun q hq => ?_⟩
    by_cases e : q = x.toNat
    · rw [if_pos e, e]
    · rw [if_neg e]; exact hi q (by omega)
  · intro f hi
    obtain ⟨-, hi⟩ := hi
    refine b_M_findCosts_154 (by omega) (fun hh => ?_) (fun hh => by omega)
    exact b_M_findCosts_178 (k f (fun q hq => hi q (by omega)))
end FCOST3
