/-! ===== doneBy: the most steps left ===== -/
def mlF (D : Nat → Nat → Int) (f : Nat → Int) (T r : Nat) : Nat → Int
  | 0 => -1
  | n + 1 => max (mlF D f T r n) (f n - (D n T + D T r))
theorem mlF_r {D : Nat → Nat → Int} {f : Nat → Int} {T r : Nat} : ∀ {n : Nat}, (∀ i, i < n → f i ≤ 20 ∧ 0 ≤ D i T ∧ 0 ≤ D T r) → -1 ≤ mlF D f T r n ∧ mlF D f T r n ≤ 20
  | 0, _ => by simp [mlF]
  | n + 1, h => by
    have ih := mlF_r (n := n) (fun i hi => h i (by omega))
    have := h n (by omega)
    simp only [mlF]
    omega
section MOST
variable {L d : Nat} {I : jm_I} {K : Option jm_V → jm_I → Prop} {x0 x1 x2 x3 x4 : Int} {c e : Nat}
/-- the rows of a city's distances are small numbers -/
def diOk (I : jm_I) (c : Nat) : Prop := ∀ r s : Nat, (r : Int) < I c 0 → (s : Int) < I c 0 → 0 ≤ I (c + 14 + r) s ∧ I (c + 14 + r) s ≤ 1000
theorem c_DoneSearch_mostLeft {T r : Nat} (hc : jx_City (jx_0 L) c) (hn : 2 ≤ I c 0 ∧ I c 0 ≤ 6) (hd : diOk I c) (hT : (T : Int) < I c 0) (hr : (r : Int) < I c 0) (hf : ∀ i : Nat, i < 6 → -1 ≤ I 149 i ∧ I 149 i ≤ 20) (k : K (some (.inl (mlF (fun a b => I (c + 14 + a) b) (I 149) T r (I c 0).toNat))) I) : Cx (jx_0 L) (d + 1) md_DoneSearch_mostLeft [.inr (.inl 148), .inr (.inl c), .inl (T : Int), .inl (r : Int)] I K := by
  refine b_DoneSearch_mostLeft_0 hc ?_
  refine lp_up (σ := Int) (Inv := fun x u => 0 ≤ x ∧ u = mlF (fun a b => I (c + 14 + a) b) (I 149) T r x.toNat) (G := fun x u => Gx (jx_0 L) (d + 1) md_DoneSearch_mostLeft 6 [some (.inr (.inl 148)), some (.inr (.inl c)), some (.inl (T : Int)), some (.inl (r : Int)), some (.inl u), some (.inl x)] [] I K) (I c 0) ?_ ?_ 0 (-1) (by omega) ⟨by omega, rfl⟩
  · intro x u hx hu ih
    obtain ⟨h0, rfl⟩ := hu
    obtain ⟨n, rfl⟩ : ∃ n : Nat, x = n := ⟨x.toNat, by omega⟩
    have a1 := hd n T (by omega) (by omega)
    have a2 := hd T r (by omega) (by omega)
    have a3 := hf n (by omega)
    have a4 := mlF_r (D := fun a b => I (c + 14 + a) b) (f := I 149) (T := T) (r := r) (n := n) (fun i hi => ⟨(hf i (by omega)).2, (hd i T (by omega) (by omega)).1, a2.1⟩)
    refine b_DoneSearch_mostLeft_6 hc (by omega) (fun h => by omega) (fun h => ?_)
    refine b_DoneSearch_mostLeft_15 hc (by omega) ?_
    refine b_City_stepsToCarry_0 hc (by omega) ?_
    rw [Int.toNat_natCast, Int.toNat_natCast, Int.toNat_natCast]
    refine b_DoneSearch_mostLeft_32 (by omega) ?_
    refine ih _ ⟨by omega, ?_⟩
    rw [show ((n : Int) + 1).toNat = n + 1 by omega]
    rfl
  · intro u hu
    obtain ⟨-, rfl⟩ := hu
    refine b_DoneSearch_mostLeft_6 hc (by omega) (fun h => ?_) (fun h => by omega)
    exact b_DoneSearch_mostLeft_44 k
end MOST
