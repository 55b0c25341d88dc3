/-! ===== doneBy: costs, the model ===== -/
theorem mcF_r {D : Nat → Nat → Int} {f : Nat → Int} {T r : Nat} {b : Int} (hb : 0 ≤ b ∧ b ≤ 10000) : ∀ {n : Nat}, (∀ i, i < n → 0 ≤ f i ∧ 0 ≤ D i T ∧ 0 ≤ D T r) → 0 ≤ mcF D f T r n b ∧ mcF D f T r n b ≤ 10000
  | 0, _ => hb
  | n + 1, h => by
    have ih := mcF_r hb (n := n) (fun i hi => h i (by omega))
    have := h n (by omega)
    simp only [mcF]
    omega
theorem dm_next {R i : Nat} (hR : 0 < R) : (i % R + 1 < R ∧ (i + 1) / R = i / R ∧ (i + 1) % R = i % R + 1) ∨ (i % R + 1 = R ∧ (i + 1) / R = i / R + 1 ∧ (i + 1) % R = 0) := by
  have h1 : i % R < R := Nat.mod_lt _ hR
  have h2 : R * (i / R) + i % R = i := Nat.div_add_mod i R
  by_cases e : i % R + 1 < R
  · left
    have h3 := dm_ (t := i / R) e
    rw [show i / R * R + (i % R + 1) = i + 1 by rw [Nat.mul_comm]; omega] at h3
    exact ⟨e, h3.1, h3.2⟩
  · right
    have h3 := dm_ (t := i / R + 1) (r := 0) hR
    rw [show (i / R + 1) * R + 0 = i + 1 by rw [Nat.add_mul, Nat.one_mul, Nat.mul_comm]; omega] at h3
    exact ⟨by omega, h3.1, h3.2⟩
