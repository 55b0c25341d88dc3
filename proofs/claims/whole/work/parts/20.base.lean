/-! ===== loops, bits, the model's small methods ===== -/
theorem lp_up {σ : Type} (Inv : Int → σ → Prop) (G : Int → σ → Prop) (N : Int) (step : ∀ x s, x < N → Inv x s → (∀ s', Inv (x + 1) s' → G (x + 1) s') → G x s) (done : ∀ s, Inv N s → G N s) : ∀ x s, x ≤ N → Inv x s → G x s := by
  have key : ∀ (n : Nat) (x : Int) (s : σ), N - x = n → Inv x s → G x s := by
    intro n
    induction n with
    | zero =>
      intro x s h hi
      have e : x = N := by omega
      subst e
      exact done s hi
    | succ n ih =>
      intro x s h hi
      exact step x s (by omega) hi (fun s' h' => ih (x + 1) s' (by omega) h')
  intro x s h hi
  exact key (N - x).toNat x s (by omega) hi
theorem lp_down {σ : Type} (Inv : Int → σ → Prop) (G : Int → σ → Prop) (step : ∀ x s, 0 ≤ x → Inv x s → (∀ s', Inv (x - 1) s' → G (x - 1) s') → G x s) (done : ∀ s, Inv (-1) s → G (-1) s) : ∀ x s, -1 ≤ x → Inv x s → G x s := by
  have key : ∀ (n : Nat) (x : Int) (s : σ), x + 1 = n → Inv x s → G x s := by
    intro n
    induction n with
    | zero =>
      intro x s h hi
      have e : x = -1 := by omega
      subst e
      exact done s hi
    | succ n ih =>
      intro x s h hi
      exact step x s (by omega) hi (fun s' h' => ih (x - 1) s' (by omega) h')
  intro x s h hi
  exact key (x + 1).toNat x s (by omega) hi
theorem cv_ {K : Option jm_V → jm_I → Prop} {I : jm_I} {a b : Int} (h : a = b) (k : K (some (.inl b)) I) : K (some (.inl a)) I := h ▸ k
theorem up_s {I : jm_I} {a k : Nat} {v : Int} : jm_up I a k v a k = v := by simp [jm_up]
theorem up_a {I : jm_I} {a b k j : Nat} {v : Int} (h : b ≠ a) : jm_up I a k v b j = I b j := by simp [jm_up, h]
theorem up_k {I : jm_I} {a b k j : Nat} {v : Int} (h : j ≠ k) : jm_up I a k v b j = I b j := by simp [jm_up, h]
/-- a row of its own -/
def st_ (I : jm_I) (a : Nat) (f : Nat → Int) : jm_I := fun b k => if b = a then f k else I b k
theorem st_s {I : jm_I} {a : Nat} {f : Nat → Int} {k : Nat} : st_ I a f a k = f k := by simp [st_]
theorem st_a {I : jm_I} {a b : Nat} {f : Nat → Int} (h : b ≠ a) : st_ I a f b = I b := by funext k; simp [st_, h]
theorem st_id {I : jm_I} {a : Nat} : st_ I a (I a) = I := by
  funext b k
  by_cases h : b = a
  · subst h; simp [st_]
  · simp [st_, h]
theorem st_up {I : jm_I} {a k : Nat} {f : Nat → Int} {v : Int} : jm_up (st_ I a f) a k v = st_ I a (fun j => if j = k then v else f j) := by
  funext b j
  by_cases h : b = a
  · subst h; simp [jm_up, st_]
  · simp [jm_up, st_, h]
theorem up_st {I : jm_I} {a k : Nat} {v : Int} : jm_up I a k v = st_ I a (fun j => if j = k then v else I a j) := by
  funext b j
  by_cases h : b = a
  · subst h; simp [jm_up, st_]
  · simp [jm_up, st_, h]
theorem st_st {I : jm_I} {a : Nat} {f g : Nat → Int} : st_ (st_ I a f) a g = st_ I a g := by
  funext b k
  by_cases h : b = a <;> simp [st_, h]
/-- the ranges of bit work -/
theorem jb_rng (x : Int32) : -2147483648 ≤ x.toInt ∧ x.toInt < 2147483648 := ⟨by have := x.minValue_le_toInt; simpa using this, by have := x.toInt_lt; simpa using this⟩
theorem jb_and_r (a b : Int) : -2147483648 ≤ jb_and a b ∧ jb_and a b < 2147483648 := jb_rng _
theorem jb_or_r (a b : Int) : -2147483648 ≤ jb_or a b ∧ jb_or a b < 2147483648 := jb_rng _
theorem jb_shl_r (a b : Int) : -2147483648 ≤ jb_shl a b ∧ jb_shl a b < 2147483648 := jb_rng _
theorem jb_shr_r (a b : Int) : -2147483648 ≤ jb_shr a b ∧ jb_shr a b < 2147483648 := jb_rng _
def jb_has (a k : Int) : Prop := jb_and (jb_shr a k) 1 = 1
section MSMALL
variable {L d : Nat} {I : jm_I} {K : Option jm_V → jm_I → Prop} {x0 x1 x2 x3 : Int}
theorem c_M_in (hz : (-2147483648 ≤ x0 ∧ x0 < 2147483648) ∧ (-2147483648 ≤ x1 ∧ x1 < 2147483648) ∧ (-2147483648 ≤ x2 ∧ x2 < 2147483648)) (k : ∀ v, (v = 1 ∧ x1 ≤ x0 ∧ x0 ≤ x2) ∨ (v = 0 ∧ ¬ (x1 ≤ x0 ∧ x0 ≤ x2)) → K (some (.inl v)) I) : Cx (jx_0 L) d md_M_in [.inl x0, .inl x1, .inl x2] I K := by
  refine b_M_in_0 (by omega) (fun hb1 => ?_) (fun hb1 => ?_)
  · refine b_M_in_14 ?_
    refine b_M_in_15 (by omega) ?_
    exact k _ (by omega)
  · refine b_M_in_5 (by omega) (fun hb2 => ?_) (fun hb2 => ?_)
    · refine b_M_in_14 ?_
      refine b_M_in_15 (by omega) ?_
      exact k _ (by omega)
    · refine b_M_in_10 ?_
      refine b_M_in_15 (by omega) ?_
      exact k _ (by omega)
theorem c_X_within (hz : (-2147483648 ≤ x0 ∧ x0 < 2147483648) ∧ (-2147483648 ≤ x1 ∧ x1 < 2147483648) ∧ (-2147483648 ≤ x2 ∧ x2 < 2147483648)) (k : ∀ v, (v = 1 ∧ x1 ≤ x0 ∧ x0 ≤ x2) ∨ (v = 0 ∧ ¬ (x1 ≤ x0 ∧ x0 ≤ x2)) → K (some (.inl v)) I) : Cx (jx_0 L) d md_X_within [.inl x0, .inl x1, .inl x2] I K := by
  refine b_X_within_0 (by omega) (fun hb1 => ?_) (fun hb1 => ?_)
  · refine b_X_within_14 ?_
    refine b_X_within_15 (by omega) ?_
    exact k _ (by omega)
  · refine b_X_within_5 (by omega) (fun hb2 => ?_) (fun hb2 => ?_)
    · refine b_X_within_14 ?_
      refine b_X_within_15 (by omega) ?_
      exact k _ (by omega)
    · refine b_X_within_10 ?_
      refine b_X_within_15 (by omega) ?_
      exact k _ (by omega)
theorem c_M_has (k : ∀ v, (v = 1 ∧ jb_has x0 x1) ∨ (v = 0 ∧ ¬ jb_has x0 x1) → K (some (.inl v)) I) : Cx (jx_0 L) d md_M_has [.inl x0, .inl x1] I K := by
  have hr := jb_and_r (jb_shr x0 x1) 1
  refine b_M_has_0 (by omega) (fun hb1 => ?_) (fun hb1 => ?_)
  · refine b_M_has_13 ?_
    refine b_M_has_14 (by omega) ?_
    first | exact k _ (Or.inl ⟨rfl, hb1⟩) | exact k _ (Or.inr ⟨rfl, hb1⟩)
  · refine b_M_has_9 ?_
    refine b_M_has_14 (by omega) ?_
    first | exact k _ (Or.inl ⟨rfl, hb1⟩) | exact k _ (Or.inr ⟨rfl, hb1⟩)
theorem c_M_isRoom (hz : (2 ≤ I 167 0 ∧ I 167 0 ≤ 6) ∧ (-2147483648 ≤ x1 ∧ x1 < 2147483648)) (k : ∀ v, (v = 1 ∧ 0 ≤ x1 ∧ x1 < I 167 0) ∨ (v = 0 ∧ ¬ (0 ≤ x1 ∧ x1 < I 167 0)) → K (some (.inl v)) I) : Cx (jx_0 L) (d + 1) md_M_isRoom [.inr (.inl 167), .inl x1] I K := by
  refine b_M_isRoom_0 (c_M_in (by omega) (fun v1 hv1 => ?_))
  refine b_M_isRoom_11 (by omega) ?_
  exact k _ (by omega)
theorem c_M_isPerson (hz : (0 ≤ I 167 4 ∧ I 167 4 ≤ 5) ∧ (-2147483648 ≤ x1 ∧ x1 < 2147483648)) (k : ∀ v, (v = 1 ∧ 0 ≤ x1 ∧ x1 < I 167 4) ∨ (v = 0 ∧ ¬ (0 ≤ x1 ∧ x1 < I 167 4)) → K (some (.inl v)) I) : Cx (jx_0 L) (d + 1) md_M_isPerson [.inr (.inl 167), .inl x1] I K := by
  refine b_M_isPerson_0 (c_M_in (by omega) (fun v1 hv1 => ?_))
  refine b_M_isPerson_11 (by omega) ?_
  exact k _ (by omega)
theorem c_M_isThing (hz : (0 ≤ I 167 5 ∧ I 167 5 ≤ 5) ∧ (-2147483648 ≤ x1 ∧ x1 < 2147483648)) (k : ∀ v, (v = 1 ∧ 0 ≤ x1 ∧ x1 < I 167 5) ∨ (v = 0 ∧ ¬ (0 ≤ x1 ∧ x1 < I 167 5)) → K (some (.inl v)) I) : Cx (jx_0 L) (d + 1) md_M_isThing [.inr (.inl 167), .inl x1] I K := by
  refine b_M_isThing_0 (c_M_in (by omega) (fun v1 hv1 => ?_))
  refine b_M_isThing_11 (by omega) ?_
  exact k _ (by omega)
theorem c_M_letterAt (hz : (0 ≤ x1 ∧ x1 < 2147483648) ∧ (0 ≤ I 167 17 ∧ I 167 17 ≤ 200)) (k : ∀ v, (x1 < I 167 17 ∧ v = I 176 x1.toNat) ∨ (I 167 17 ≤ x1 ∧ v = -1) → K (some (.inl v)) I) : Cx (jx_0 L) d md_M_letterAt [.inr (.inl 167), .inl x1] I K := by
  refine b_M_letterAt_0 (by omega) (fun hb1 => ?_) (fun hb1 => ?_)
  · refine b_M_letterAt_17 ?_
    refine b_M_letterAt_18 ?_
    exact k _ (by omega)
  · refine b_M_letterAt_8 (by omega) ?_
    refine b_M_letterAt_18 ?_
    exact k _ (by omega)
theorem c_M_roomOf (hz : (0 ≤ x1 ∧ x1 < 5) ∧ (0 ≤ x2 ∧ x2 < 10)) (k : ∀ v, (x2 < 4 ∧ v = I 170 (4 * x1 + x2).toNat) ∨ (4 ≤ x2 ∧ v = x2 - 4) → K (some (.inl v)) I) : Cx (jx_0 L) d md_M_roomOf [.inr (.inl 167), .inl x1, .inl x2] I K := by
  refine b_M_roomOf_0 (by omega) (fun hb1 => ?_) (fun hb1 => ?_)
  · refine b_M_roomOf_18 ?_
    refine b_M_roomOf_21 ?_
    exact k _ (by omega)
  · refine b_M_roomOf_5 (by omega) ?_
    refine b_M_roomOf_21 ?_
    exact k _ (by omega)
theorem c_M_later (hz : (0 ≤ x1 ∧ x1 < 5) ∧ (0 ≤ x2 ∧ x2 < 10) ∧ (0 ≤ x3 ∧ x3 ≤ 1000) ∧ (1 ≤ I 169 x1.toNat ∧ I 169 x1.toNat ≤ 4)) (k : ∀ v, (x2 < 4 ∧ v = (x2 + x3) % (I 169 x1.toNat)) ∨ (4 ≤ x2 ∧ v = x2) → K (some (.inl v)) I) : Cx (jx_0 L) d md_M_later [.inr (.inl 167), .inl x1, .inl x2, .inl x3] I K := by
  refine b_M_later_0 (by omega) (fun hb1 => ?_) (fun hb1 => ?_)
  · refine b_M_later_18 ?_
    refine b_M_later_19 ?_
    first | exact k _ (Or.inl ⟨by omega, rfl⟩) | exact k _ (Or.inr ⟨by omega, rfl⟩)
  · refine b_M_later_5 (by omega) ?_
    refine b_M_later_19 ?_
    first | exact k _ (Or.inl ⟨by omega, rfl⟩) | exact k _ (Or.inr ⟨by omega, rfl⟩)
theorem c_M_isNow (hz : (0 ≤ x1 ∧ x1 < 5) ∧ (-9 ≤ I 171 (22 + x1).toNat ∧ I 171 (22 + x1).toNat < 4)) (k : ∀ v, (I 171 (22 + x1).toNat = -9 ∧ v = 4 + I 171 (17 + x1).toNat) ∨ (¬ I 171 (22 + x1).toNat = -9 ∧ v = I 171 (22 + x1).toNat) → K (some (.inl v)) I) : Cx (jx_0 L) d md_M_isNow [.inr (.inl 167), .inl x1] I K := by
  refine b_M_isNow_0 (by omega) (fun hb1 => ?_) (fun hb1 => ?_)
  · refine b_M_isNow_28 (by omega) ?_
    refine b_M_isNow_37 ?_
    exact k _ (by omega)
  · refine b_M_isNow_14 (by omega) ?_
    refine b_M_isNow_37 ?_
    exact k _ (by omega)
theorem c_M_mayGo (hz : (0 ≤ x1 ∧ x1 < 5) ∧ (-9 ≤ I 171 (11 + x1).toNat ∧ I 171 (11 + x1).toNat < 100) ∧ (0 ≤ x2 ∧ x2 < 100000)) (k : ∀ v, (v = 1 ∧ ¬ I 171 (11 + x1).toNat = -9 ∧ x2 ≤ I 171 (11 + x1).toNat) ∨ (v = 0 ∧ ¬ (¬ I 171 (11 + x1).toNat = -9 ∧ x2 ≤ I 171 (11 + x1).toNat)) → K (some (.inl v)) I) : Cx (jx_0 L) d md_M_mayGo [.inr (.inl 167), .inl x1, .inl x2] I K := by
  refine b_M_mayGo_0 (by omega) (fun hb1 => ?_) (fun hb1 => ?_)
  · refine b_M_mayGo_31 ?_
    refine b_M_mayGo_32 (by omega) ?_
    exact k _ (by omega)
  · refine b_M_mayGo_14 (by omega) (fun hb2 => ?_) (fun hb2 => ?_)
    · refine b_M_mayGo_31 ?_
      refine b_M_mayGo_32 (by omega) ?_
      exact k _ (by omega)
    · refine b_M_mayGo_27 ?_
      refine b_M_mayGo_32 (by omega) ?_
      exact k _ (by omega)
end MSMALL
