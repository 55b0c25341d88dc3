/-! ===== the model: what is remembered ===== -/
theorem st_step {I : jm_I} {a i : Nat} {v : Int} {f f' : Nat → Int} (h : ∀ k, (if k = i then v else f k) = f' k) : jm_up (st_ I a f) a i v = st_ I a f' := by
  rw [st_up]
  exact congrArg (st_ I a) (funext h)
theorem st_0 {I : jm_I} {a : Nat} {f : Nat → Int} (h : ∀ k, f k = I a k) : I = st_ I a f := by
  rw [show f = I a from funext h, st_id]
/-- the model's memory with what is now remembered -/
def remW (I : jm_I) : Nat → Int := fun k => if I 167 10 = 10 then (if k < 243 then I 172 (k + 27) else if k < 270 then I 171 (k - 243) else I 172 k) else (if 27 * I 167 10 ≤ k ∧ k < 27 * I 167 10 + 27 then I 171 (k - 27 * (I 167 10).toNat) else I 172 k)
def remF (I : jm_I) : jm_I := jm_up (st_ I 172 (remW I)) 167 10 (if I 167 10 = 10 then 10 else I 167 10 + 1)
section MSTATE
variable {L d : Nat} {I : jm_I} {K : Option jm_V → jm_I → Prop} {x0 x1 x2 x3 : Int}
/-- the second loop of remembers(): from a memory J whose rows 171 are I's -/
theorem l_M_remembers_51 {J : jm_I} {n : Int} (hn : J 167 10 = n) (hz : 0 ≤ n ∧ n ≤ 9) (k : K none (jm_up (st_ J 172 (fun k => if 27 * n ≤ k ∧ k < 27 * n + 27 then J 171 (k - 27 * n.toNat) else J 172 k)) 167 10 (n + 1))) : Gx (jx_0 L) d md_M_remembers 51 [some (.inr (.inl 167)), some (.inl 0)] [] J K := by
  refine lp_up (σ := jm_I) (Inv := fun x A => 0 ≤ x ∧ A = st_ J 172 (fun k => if 27 * n ≤ k ∧ k < 27 * n + x then J 171 (k - 27 * n.toNat) else J 172 k))
    (G := fun x A => Gx (jx_0 L) d md_M_remembers 51 [some (.inr (.inl 167)), some (.inl x)] [] A K) 27 ?_ ?_ 0 J (by omega) ⟨by omega, st_0 (fun k => if_neg (by omega))⟩
  · intro x A hx hA ih
    obtain ⟨h0, rfl⟩ := hA
    have e1 : st_ J 172 (fun k => if 27 * n ≤ k ∧ k < 27 * n + x then J 171 (k - 27 * n.toNat) else J 172 k) 167 10 = n := by rw [st_a (by decide)]; exact hn
    refine b_M_remembers_51 (by omega) (fun h => by omega) (fun h => ?_)
    refine b_M_remembers_57 (by rw [e1]; omega) ?_
    rw [e1, st_a (show (171 : Nat) ≠ 172 by decide)]
    refine ih _ ⟨by omega, st_step (fun k => ?_)⟩
    by_cases e : k = (27 * n + x).toNat
    · rw [if_pos e, if_pos (by omega), show k - 27 * n.toNat = x.toNat by omega]
    · rw [if_neg e]
      by_cases q : 27 * n ≤ k ∧ (k : Int) < 27 * n + x
      · rw [if_pos q, if_pos (by omega)]
      · rw [if_neg q, if_neg (by omega)]
  · intro A hA
    obtain ⟨-, rfl⟩ := hA
    refine b_M_remembers_51 (by omega) (fun h => ?_) (fun h => by omega)
    refine b_M_remembers_83 ?_
    rw [show st_ J 172 (fun k => if 27 * n ≤ k ∧ k < 27 * n + 27 then J 171 (k - 27 * n.toNat) else J 172 k) 167 10 = n by rw [st_a (by decide)]; exact hn]
    exact k
theorem c_M_remembers (hz : 0 ≤ I 167 10 ∧ I 167 10 ≤ 10) (k : K none (remF I)) : Cx (jx_0 L) d md_M_remembers [.inr (.inl 167)] I K := by
  refine b_M_remembers_0 (by omega) (fun h10 => ?_) (fun h10 => ?_)
  · refine b_M_remembers_49 ?_
    refine l_M_remembers_51 (n := I 167 10) rfl (by omega) ?_
    unfold remF remW at k
    simp only [if_neg h10] at k
    exact k
  · refine b_M_remembers_9 ?_
    refine lp_up (σ := jm_I) (Inv := fun x A => 0 ≤ x ∧ A = st_ I 172 (fun k => if (k : Int) < x then I 172 (k + 27) else I 172 k))
      (G := fun x A => Gx (jx_0 L) d md_M_remembers 11 [some (.inr (.inl 167)), some (.inl x)] [] A K) 243 ?_ ?_ 0 I (by omega) ⟨by omega, st_0 (fun k => if_neg (by omega))⟩
    · intro x A hx hA ih
      obtain ⟨h0, rfl⟩ := hA
      refine b_M_remembers_11 (by omega) (fun h => by omega) (fun h => ?_)
      refine b_M_remembers_18 (by omega) ?_
      rw [st_s, if_neg (by omega)]
      refine ih _ ⟨by omega, st_step (fun k => ?_)⟩
      by_cases e : k = x.toNat
      · rw [if_pos e, if_pos (by omega), show (x + 27).toNat = k + 27 by omega]
      · rw [if_neg e]
        by_cases q : (k : Int) < x
        · rw [if_pos q, if_pos (by omega)]
        · rw [if_neg q, if_neg (by omega)]
    · intro A hA
      obtain ⟨-, rfl⟩ := hA
      refine b_M_remembers_11 (by omega) (fun h => ?_) (fun h => by omega)
      refine b_M_remembers_39 ?_
      refine b_M_remembers_49 ?_
      rw [st_a (show (167 : Nat) ≠ 172 by decide), h10]
      refine l_M_remembers_51 (n := 9) (by rw [up_s]; rfl) (by omega) ?_
      refine Eq.mp (congrArg (K none) ?_) k
      unfold remF remW
      simp only [if_pos h10]
      funext a j
      by_cases ea : a = 167
      · subst ea
        by_cases ej : j = 10
        · subst ej; simp [jm_up]
        · simp [jm_up, st_, ej]
      · by_cases eb : a = 172
        · subst eb
          simp only [up_a (show (172 : Nat) ≠ 167 by decide), up_a (show (171 : Nat) ≠ 167 by decide), st_a (show (171 : Nat) ≠ 172 by decide), st_s]
          by_cases q1 : j < 243
          · rw [if_pos q1, if_neg (by omega), if_pos (by omega)]
          · rw [if_neg q1]
            by_cases q2 : j < 270
            · rw [if_pos q2, if_pos (by omega)]
              rfl
            · rw [if_neg q2, if_neg (by omega), if_neg (by omega)]
        · simp [jm_up, st_, ea, eb]
theorem rem_a {a : Nat} (h1 : a ≠ 172) (h2 : a ≠ 167) : remF I a = I a := by
  funext k
  simp [remF, jm_up, st_, h1, h2]
theorem rem_f {k : Nat} (h : k ≠ 10) : remF I 167 k = I 167 k := by simp [remF, jm_up, st_, h]
/-- undo -/
def undF (I : jm_I) : jm_I := jm_up (st_ I 171 (fun k => if k < 27 then I 172 (27 * (I 167 10 - 1) + k).toNat else I 171 k)) 167 10 (I 167 10 - 1)
theorem c_M_undo (hz : 0 ≤ I 167 10 ∧ I 167 10 ≤ 10) (k0 : I 167 10 = 0 → K (some (.inl (-2))) I) (k : ¬ I 167 10 = 0 → K (some (.inl (I 167 10 - 1))) (undF I)) : Cx (jx_0 L) d md_M_undo [.inr (.inl 167)] I K := by
  refine b_M_undo_0 (by omega) (fun h1 => ?_) (fun h1 => ?_)
  · refine b_M_undo_10 ?_
    have e10 : ∀ f : Nat → Int, st_ (jm_up I 167 10 (I 167 10 - 1)) 171 f 167 10 = I 167 10 - 1 := fun f => by rw [st_a (by decide), up_s]
    refine lp_up (σ := jm_I) (Inv := fun x A => 0 ≤ x ∧ A = st_ (jm_up I 167 10 (I 167 10 - 1)) 171 (fun k => if (k : Int) < x then I 172 (27 * (I 167 10 - 1) + k).toNat else I 171 k))
      (G := fun x A => Gx (jx_0 L) d md_M_undo 22 [some (.inr (.inl 167)), some (.inl x)] [] A K) 27 ?_ ?_ 0 _ (by omega) ⟨by omega, st_0 (fun k => by rw [if_neg (by omega), up_a (by decide)])⟩
    · intro x A hx hA ih
      obtain ⟨h0, rfl⟩ := hA
      refine b_M_undo_22 (by omega) (fun h => by omega) (fun h => ?_)
      refine b_M_undo_28 (by rw [e10]; omega) ?_
      rw [e10, st_a (show (172 : Nat) ≠ 171 by decide), up_a (show (172 : Nat) ≠ 167 by decide)]
      refine ih _ ⟨by omega, st_step (fun k => ?_)⟩
      by_cases e : k = x.toNat
      · rw [if_pos e, if_pos (by omega), show (k : Int) = x by omega]
      · rw [if_neg e]
        by_cases q : (k : Int) < x
        · rw [if_pos q, if_pos (by omega)]
        · rw [if_neg q, if_neg (by omega)]
    · intro A hA
      obtain ⟨-, rfl⟩ := hA
      refine b_M_undo_22 (by omega) (fun h => ?_) (fun h => by omega)
      refine b_M_undo_54 ?_
      rw [e10]
      refine Eq.mp (congrArg (K (some (.inl (I 167 10 - 1)))) ?_) (k h1)
      unfold undF
      funext a j
      by_cases ea : a = 167
      · subst ea; simp [jm_up, st_]
      · by_cases eb : a = 171
        · subst eb
          simp only [jm_up, st_, if_true, if_neg (show ¬ ((171 : Nat) = 167 ∧ j = 10) by omega)]
          by_cases q : j < 27
          · rw [if_pos q, if_pos (by omega)]
          · rw [if_neg q, if_neg (by omega)]
        · simp [jm_up, st_, ea, eb]
  · refine b_M_undo_7 ?_
    exact k0 h1
/-- keep -/
def kepF (I : jm_I) (i : Int) : jm_I := jm_up (st_ I 173 (fun k => if 27 * i ≤ k ∧ k < 27 * i + 27 then I 171 (k - 27 * i.toNat) else I 173 k)) 174 i.toNat 1
theorem c_M_keep (hz : -2147483648 ≤ x1 ∧ x1 < 2147483648) (k0 : ¬ (0 ≤ x1 ∧ x1 ≤ 1) → K (some (.inl (-1))) I) (k : 0 ≤ x1 ∧ x1 ≤ 1 → K (some (.inl (I 171 0))) (kepF I x1)) : Cx (jx_0 L) (d + 1) md_M_keep [.inr (.inl 167), .inl x1] I K := by
  refine b_M_keep_0 (c_M_in (by omega) (fun v hv => ?_))
  refine b_M_keep_6 (by omega) (fun h1 => ?_) (fun h1 => ?_)
  · refine b_M_keep_11 ?_
    refine lp_up (σ := jm_I) (Inv := fun x A => 0 ≤ x ∧ A = st_ I 173 (fun k => if 27 * x1 ≤ k ∧ k < 27 * x1 + x then I 171 (k - 27 * x1.toNat) else I 173 k))
      (G := fun x A => Gx (jx_0 L) (d + 1) md_M_keep 13 [some (.inr (.inl 167)), some (.inl x1), some (.inl x)] [] A K) 27 ?_ ?_ 0 _ (by omega) ⟨by omega, st_0 (fun k => by rw [if_neg (by omega)])⟩
    · intro x A hx hA ih
      obtain ⟨h0, rfl⟩ := hA
      refine b_M_keep_13 (by omega) (fun h => by omega) (fun h => ?_)
      refine b_M_keep_19 (by omega) ?_
      rw [st_a (show (171 : Nat) ≠ 173 by decide)]
      refine ih _ ⟨by omega, st_step (fun k => ?_)⟩
      by_cases e : k = (27 * x1 + x).toNat
      · rw [if_pos e, if_pos (by omega), show k - 27 * x1.toNat = x.toNat by omega]
      · rw [if_neg e]
        by_cases q : 27 * x1 ≤ k ∧ (k : Int) < 27 * x1 + x
        · rw [if_pos q, if_pos (by omega)]
        · rw [if_neg q, if_neg (by omega)]
    · intro A hA
      obtain ⟨-, rfl⟩ := hA
      refine b_M_keep_13 (by omega) (fun h => ?_) (fun h => by omega)
      refine b_M_keep_42 (by omega) ?_
      rw [st_a (show (171 : Nat) ≠ 173 by decide)]
      exact k (by omega)
  · refine b_M_keep_9 ?_
    exact k0 (by omega)
/-- back -/
def bacF (I : jm_I) (i : Int) : jm_I := jm_up (st_ I 171 (fun k => if k < 27 then I 173 (27 * i + k).toNat else I 171 k)) 167 10 0
theorem c_M_back (hz : -2147483648 ≤ x1 ∧ x1 < 2147483648) (hk : 0 ≤ x1 ∧ x1 ≤ 1 → I 174 x1.toNat = 0 ∨ I 174 x1.toNat = 1) (k0 : ¬ (0 ≤ x1 ∧ x1 ≤ 1) → K (some (.inl (-1))) I) (k2 : 0 ≤ x1 ∧ x1 ≤ 1 → I 174 x1.toNat = 0 → K (some (.inl (-2))) I) (k : 0 ≤ x1 ∧ x1 ≤ 1 → I 174 x1.toNat = 1 → K (some (.inl (I 173 (27 * x1).toNat))) (bacF I x1)) : Cx (jx_0 L) (d + 1) md_M_back [.inr (.inl 167), .inl x1] I K := by
  refine b_M_back_0 (c_M_in (by omega) (fun v hv => ?_))
  refine b_M_back_6 (by omega) (fun h1 => ?_) (fun h1 => ?_)
  · have h01 : 0 ≤ x1 ∧ x1 ≤ 1 := by omega
    have hk := hk h01
    refine b_M_back_11 (by omega) (fun h2 => ?_) (fun h2 => ?_)
    · refine b_M_back_23 ?_
      refine lp_up (σ := jm_I) (Inv := fun x A => 0 ≤ x ∧ A = st_ I 171 (fun k => if (k : Int) < x then I 173 (27 * x1 + k).toNat else I 171 k))
        (G := fun x A => Gx (jx_0 L) (d + 1) md_M_back 25 [some (.inr (.inl 167)), some (.inl x1), some (.inl x)] [] A K) 27 ?_ ?_ 0 _ (by omega) ⟨by omega, st_0 (fun k => by rw [if_neg (by omega)])⟩
      · intro x A hx hA ih
        obtain ⟨h0, rfl⟩ := hA
        refine b_M_back_25 (by omega) (fun h => by omega) (fun h => ?_)
        refine b_M_back_31 (by omega) ?_
        rw [st_a (show (173 : Nat) ≠ 171 by decide)]
        refine ih _ ⟨by omega, st_step (fun k => ?_)⟩
        by_cases e : k = x.toNat
        · rw [if_pos e, if_pos (by omega), show (k : Int) = x by omega]
        · rw [if_neg e]
          by_cases q : (k : Int) < x
          · rw [if_pos q, if_pos (by omega)]
          · rw [if_neg q, if_neg (by omega)]
      · intro A hA
        obtain ⟨-, rfl⟩ := hA
        refine b_M_back_25 (by omega) (fun h => ?_) (fun h => by omega)
        refine b_M_back_54 ?_
        have hb := k h01 (by omega)
        rw [st_s, if_pos (by omega), show (27 * x1 + ((0 : Nat) : Int)).toNat = (27 * x1).toNat by omega]
        unfold bacF at hb
        refine Eq.mp (congrArg (K _) (congrArg (fun f => jm_up (st_ I 171 f) 167 10 0) (funext fun j => ?_))) hb
        by_cases q : j < 27
        · rw [if_pos q, if_pos (by omega)]
        · rw [if_neg q, if_neg (by omega)]
    · refine b_M_back_20 ?_
      exact k2 h01 h2
  · refine b_M_back_9 ?_
    exact k0 (by omega)
/-- press -/
def preF (I : jm_I) (p : Int) : jm_I := jm_up (jm_up (jm_up (remF I) 171 16 (jb_or (I 171 16) (jb_shl 1 p))) 171 (6 + p).toNat (I 171 (6 + p).toNat + 1)) 171 (11 + p).toNat (I 167 3)
theorem c_M_press (hz : (0 ≤ I 167 4 ∧ I 167 4 ≤ 5) ∧ (0 ≤ I 167 10 ∧ I 167 10 ≤ 10) ∧ (-2147483648 ≤ x1 ∧ x1 < 2147483648)) (k0 : ¬ (0 ≤ x1 ∧ x1 < I 167 4) → K (some (.inl (-1))) I) (k2 : 0 ≤ x1 ∧ x1 < I 167 4 → jb_has (I 171 16) x1 → K (some (.inl (-2))) I) (k : 0 ≤ x1 ∧ x1 < I 167 4 → ¬ jb_has (I 171 16) x1 → K (some (.inl (I 171 (6 + x1).toNat + 1))) (preF I x1)) : Cx (jx_0 L) (d + 2) md_M_press [.inr (.inl 167), .inl x1] I K := by
  refine b_M_press_0 (c_M_isPerson (by omega) (fun v hv => ?_))
  refine b_M_press_5 (by omega) (fun h1 => ?_) (fun h1 => ?_)
  · have h01 : 0 ≤ x1 ∧ x1 < I 167 4 := by omega
    refine b_M_press_10 (c_M_has (fun w hw => ?_))
    refine b_M_press_21 (by omega) (fun h2 => ?_) (fun h2 => ?_)
    · have hn : ¬ jb_has (I 171 16) x1 := by rcases hw with ⟨a, b⟩ | ⟨a, b⟩; omega; exact b
      refine b_M_press_27 (c_M_remembers (by omega) ?_)
      refine b_M_press_31 (by omega) ?_
      rw [rem_a (show (171 : Nat) ≠ 172 by decide) (show (171 : Nat) ≠ 167 by decide), rem_f (show (3 : Nat) ≠ 10 by decide)]
      have hb := k h01 hn
      unfold preF at hb
      rw [up_k (show (6 + x1).toNat ≠ (11 + x1).toNat by omega), up_s, up_k (show (6 + x1).toNat ≠ 16 by omega), rem_a (show (171 : Nat) ≠ 172 by decide) (show (171 : Nat) ≠ 167 by decide)]
      exact hb
    · have hn : jb_has (I 171 16) x1 := by rcases hw with ⟨a, b⟩ | ⟨a, b⟩; exact b; omega
      refine b_M_press_24 ?_
      exact k2 h01 hn
  · refine b_M_press_8 ?_
    exact k0 (by omega)
end MSTATE
