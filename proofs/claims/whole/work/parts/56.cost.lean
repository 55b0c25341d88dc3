/-! ===== doneBy: costs, pure ===== -/
def LfF (S c : Int) : Int := if c ≤ S then S - c else -1
/-- the least cost over the rooms from which it is carried -/
def mcF (D : Nat → Nat → Int) (f : Nat → Int) (T r : Nat) : Nat → Int → Int
  | 0, b => b
  | n + 1, b => min (mcF D f T r n b) (f n + (D n T + D T r))
theorem Lf_min (S a b : Int) : LfF S (min a b) = max (LfF S a) (LfF S b) ∨ S < -1 := by
  unfold LfF
  by_cases h : S < -1
  · exact Or.inr h
  · left
    (repeat' split) <;> omega
/-- a carry: steps left against cost -/
theorem Lf_step {S a w w' : Int} (hS : 0 ≤ S ∧ S ≤ 20) (ha : 0 ≤ a) (hw : (w = w' ∧ 0 ≤ w ∧ w ≤ 20) ∨ (1000 ≤ w ∧ 1000 ≤ w')) (m : Int) (hm : -1 ≤ m) : max m (LfF S a - w) = max m (LfF S (a + w')) := by
  unfold LfF
  (repeat' split) <;> omega
theorem ml_mc {D D' : Nat → Nat → Int} {f g : Nat → Int} {S : Int} {T r : Nat} (hS : 0 ≤ S ∧ S ≤ 20) : ∀ {n : Nat}, (∀ i, i < n → f i = LfF S (g i) ∧ 0 ≤ g i ∧ ((D i T + D T r = D' i T + D' T r ∧ 0 ≤ D i T + D T r ∧ D i T + D T r ≤ 20) ∨ (1000 ≤ D i T + D T r ∧ 1000 ≤ D' i T + D' T r))) → ∀ b : Int, 20 < b → mlF D f T r n = LfF S (mcF D' g T r n b) ∧ -1 ≤ mlF D f T r n
  | 0, _, b, hb => by
    refine ⟨?_, by simp [mlF]⟩
    show (-1 : Int) = LfF S b
    unfold LfF
    rw [if_neg (by omega)]
  | n + 1, h, b, hb => by
    obtain ⟨i1, i2⟩ := ml_mc hS (n := n) (fun i hi => h i (by omega)) b hb
    obtain ⟨h1, h2, h3⟩ := h n (by omega)
    simp only [mlF, mcF]
    have hl := Lf_min S (mcF D' g T r n b) (g n + (D' n T + D' T r))
    have hs := Lf_step (S := S) (a := g n) hS h2 h3 (mlF D f T r n) i2
    rw [h1]
    refine ⟨?_, by omega⟩
    rcases hl with q | q
    · rw [q, hs, i1]
    · omega
