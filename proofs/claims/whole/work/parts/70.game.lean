/-! ===== taking: pure ===== -/
def mxF (c : Nat → Bool) (f : Nat → Int) (e : Int) : Nat → Int
  | 0 => e
  | n + 1 => if c n = true then max (mxF c f e n) (f n) else mxF c f e n
theorem mxF_s {c : Nat → Bool} {f : Nat → Int} {e : Int} : ∀ {n : Nat}, (mxF c f e n = e ∨ ∃ t, t < n ∧ c t = true ∧ mxF c f e n = f t) ∧ e ≤ mxF c f e n ∧ ∀ t, t < n → c t = true → f t ≤ mxF c f e n
  | 0 => ⟨Or.inl rfl, Int.le_refl _, fun t h => by omega⟩
  | n + 1 => by
    obtain ⟨h1, h2, h3⟩ := mxF_s (c := c) (f := f) (e := e) (n := n)
    simp only [mxF]
    by_cases hc : c n = true
    · rw [if_pos hc]
      refine ⟨?_, by omega, fun t ht hct => ?_⟩
      · by_cases hl : f n ≤ mxF c f e n
        · rw [show max (mxF c f e n) (f n) = mxF c f e n by omega]
          rcases h1 with q | ⟨t, t1, t2, t3⟩
          · exact Or.inl q
          · exact Or.inr ⟨t, by omega, t2, t3⟩
        · exact Or.inr ⟨n, by omega, hc, by omega⟩
      · by_cases e1 : t = n
        · rw [e1]; omega
        · have := h3 t (by omega) hct
          omega
    · rw [if_neg hc]
      refine ⟨?_, h2, fun t ht hct => ?_⟩
      · rcases h1 with q | ⟨t, t1, t2, t3⟩
        · exact Or.inl q
        · exact Or.inr ⟨t, by omega, t2, t3⟩
      · by_cases e1 : t = n
        · rw [e1] at hct; exact absurd hct hc
        · exact h3 t (by omega) hct
theorem mxF_le {c c' : Nat → Bool} {f f' : Nat → Int} {e e' : Int} {n : Nat} (he : e ≤ e') (h : ∀ t, t < n → c t = true → c' t = true ∧ f t ≤ f' t) : mxF c f e n ≤ mxF c' f' e' n := by
  obtain ⟨h1, -, -⟩ := mxF_s (c := c) (f := f) (e := e) (n := n)
  obtain ⟨-, k2, k3⟩ := mxF_s (c := c') (f := f') (e := e') (n := n)
  rcases h1 with q | ⟨t, t1, t2, t3⟩
  · omega
  · obtain ⟨a, b⟩ := h t t1 t2
    have := k3 t t1 a
    omega
theorem mxF_c {c c' : Nat → Bool} {f f' : Nat → Int} {e : Int} : ∀ {n : Nat}, (∀ t, t < n → c t = c' t ∧ (c t = true → f t = f' t)) → mxF c f e n = mxF c' f' e n
  | 0, _ => rfl
  | n + 1, h => by
    obtain ⟨a, b⟩ := h n (by omega)
    simp only [mxF]
    rw [mxF_c (n := n) (fun t ht => h t (by omega)), ← a]
    by_cases hc : c n = true
    · rw [if_pos hc, if_pos hc, b hc]
    · rw [if_neg hc, if_neg hc]
/-- by how many more the mover gets: taken, room and steps of the mover, of the other one, whether that one has ended -/
def tgW (nt : Nat) (D : Nat → Nat → Int) (T : Nat → Nat) : Nat → Nat → Nat → Int → Nat → Int → Bool → Int
  | 0, _, _, _, _, _, _ => 0
  | n + 1, tk, ra, la, rb, lb, eb => mxF (fun t => !tk.testBit t && decide (D ra (T t) ≤ la)) (fun t => 1 + (if eb = true then tgW nt D T n (tk ||| 2 ^ t) (T t) (la - D ra (T t)) rb lb true else -(tgW nt D T n (tk ||| 2 ^ t) rb lb (T t) (la - D ra (T t)) false))) (if eb = true then 0 else -(tgW nt D T n tk rb lb ra la true)) nt
def tgC (D : Nat → Nat → Int) (T : Nat → Nat) (tk ra : Nat) (la : Int) : Nat → Bool := fun t => !tk.testBit t && decide (D ra (T t) ≤ la)
def tgT (nt : Nat) (D : Nat → Nat → Int) (T : Nat → Nat) (n tk ra : Nat) (la : Int) (rb : Nat) (lb : Int) (eb : Bool) : Nat → Int := fun t => 1 + (if eb = true then tgW nt D T n (tk ||| 2 ^ t) (T t) (la - D ra (T t)) rb lb true else -(tgW nt D T n (tk ||| 2 ^ t) rb lb (T t) (la - D ra (T t)) false))
def tgE (nt : Nat) (D : Nat → Nat → Int) (T : Nat → Nat) (n tk ra : Nat) (la : Int) (rb : Nat) (lb : Int) (eb : Bool) : Int := if eb = true then 0 else -(tgW nt D T n tk rb lb ra la true)
section GAME
variable {nt : Nat} {D : Nat → Nat → Int} {T : Nat → Nat}
theorem tgW_s {n tk ra : Nat} {la : Int} {rb : Nat} {lb : Int} {eb : Bool} : tgW nt D T (n + 1) tk ra la rb lb eb = mxF (tgC D T tk ra la) (tgT nt D T n tk ra la rb lb eb) (tgE nt D T n tk ra la rb lb eb) nt := rfl
theorem tgC_i {tk ra t : Nat} {la : Int} : tgC D T tk ra la t = true ↔ tk.testBit t = false ∧ D ra (T t) ≤ la := by
  unfold tgC
  simp
/-- alone -/
theorem tg_nn : ∀ {n tk ra : Nat} {la : Int} {rb : Nat} {lb : Int}, 0 ≤ tgW nt D T n tk ra la rb lb true
  | 0, _, _, _, _, _ => Int.le_refl _
  | n + 1, tk, ra, la, rb, lb => by
    rw [tgW_s]
    have := (mxF_s (c := tgC D T tk ra la) (f := tgT nt D T n tk ra la rb lb true) (e := tgE nt D T n tk ra la rb lb true) (n := nt)).2.1
    have e0 : tgE nt D T n tk ra la rb lb true = 0 := rfl
    omega
theorem tg_lone : ∀ {n tk ra : Nat} {la : Int} {rb rb' : Nat} {lb lb' : Int}, tgW nt D T n tk ra la rb lb true = tgW nt D T n tk ra la rb' lb' true
  | 0, _, _, _, _, _, _, _ => rfl
  | n + 1, tk, ra, la, rb, rb', lb, lb' => by
    rw [tgW_s, tgW_s]
    refine mxF_c (fun t _ => ⟨rfl, fun _ => ?_⟩)
    show 1 + _ = 1 + _
    rw [if_pos rfl, if_pos rfl, tg_lone]
/-- fewer things, less to get; and with more time more -/
theorem tg_sub : ∀ {n tk tk' ra : Nat} {la : Int} {rb : Nat} {lb : Int}, (∀ t, tk.testBit t = true → tk'.testBit t = true) → tgW nt D T n tk' ra la rb lb true ≤ tgW nt D T n tk ra la rb lb true
  | 0, _, _, _, _, _, _, _ => Int.le_refl _
  | n + 1, tk, tk', ra, la, rb, lb, h => by
    rw [tgW_s, tgW_s]
    refine mxF_le (Int.le_refl _) (fun t _ ht => ?_)
    rw [tgC_i] at ht ⊢
    refine ⟨⟨?_, ht.2⟩, ?_⟩
    · cases hb : tk.testBit t
      · rfl
      · rw [h t hb] at ht; simp at ht
    · show 1 + _ ≤ 1 + _
      rw [if_pos rfl, if_pos rfl]
      have := tg_sub (n := n) (tk := tk ||| 2 ^ t) (tk' := tk' ||| 2 ^ t) (ra := T t) (la := la - D ra (T t)) (rb := rb) (lb := lb) (fun u hu => by
        rw [Nat.testBit_or, Bool.or_eq_true] at hu ⊢
        rcases hu with q | q
        · exact Or.inl (h u q)
        · exact Or.inr q)
      omega
theorem tg_up : ∀ {n tk ra : Nat} {la : Int} {rb : Nat} {lb : Int}, tgW nt D T n tk ra la rb lb true ≤ tgW nt D T (n + 1) tk ra la rb lb true
  | 0, _, _, _, _, _ => tg_nn
  | n + 1, tk, ra, la, rb, lb => by
    rw [tgW_s, tgW_s]
    refine mxF_le (Int.le_refl _) (fun t _ ht => ⟨ht, ?_⟩)
    show 1 + _ ≤ 1 + _
    rw [if_pos rfl, if_pos rfl]
    have := tg_up (n := n) (tk := tk ||| 2 ^ t) (ra := T t) (la := la - D ra (T t)) (rb := rb) (lb := lb)
    omega
/-- it does one no good that the other one has not ended -/
theorem tg_open {n tk rb ra : Nat} {lb la : Int} : tgW nt D T (n + 2) tk rb lb ra la false ≤ tgW nt D T (n + 1) tk rb lb ra la true := by
  rw [tgW_s, tgW_s]
  refine mxF_le ?_ (fun t _ ht => ⟨ht, ?_⟩)
  · show -(tgW nt D T (n + 1) tk ra la rb lb true) ≤ 0
    have := tg_nn (nt := nt) (D := D) (T := T) (n := n + 1) (tk := tk) (ra := ra) (la := la) (rb := rb) (lb := lb)
    omega
  · show 1 + (-(tgW nt D T (n + 1) (tk ||| 2 ^ t) ra la (T t) (lb - D rb (T t)) false)) ≤ 1 + tgW nt D T n (tk ||| 2 ^ t) (T t) (lb - D rb (T t)) ra la true
    rw [tgW_s]
    have := (mxF_s (c := tgC D T (tk ||| 2 ^ t) ra la) (f := tgT nt D T n (tk ||| 2 ^ t) ra la (T t) (lb - D rb (T t)) false) (e := tgE nt D T n (tk ||| 2 ^ t) ra la (T t) (lb - D rb (T t)) false) (n := nt)).2.1
    have e0 : tgE nt D T n (tk ||| 2 ^ t) ra la (T t) (lb - D rb (T t)) false = -(tgW nt D T n (tk ||| 2 ^ t) (T t) (lb - D rb (T t)) ra la true) := rfl
    omega
/-- to end is worse than to take -/
theorem tg_take {n tk ra : Nat} {la : Int} {rb : Nat} {lb : Int} {eb : Bool} (hn : eb = true ∨ 2 ≤ n) (t : Nat) : tgE nt D T n tk ra la rb lb eb < tgT nt D T n tk ra la rb lb eb t := by
  cases eb with
  | true =>
    show (0 : Int) < 1 + tgW nt D T n (tk ||| 2 ^ t) (T t) (la - D ra (T t)) rb lb true
    have := tg_nn (nt := nt) (D := D) (T := T) (n := n) (tk := tk ||| 2 ^ t) (ra := T t) (la := la - D ra (T t)) (rb := rb) (lb := lb)
    omega
  | false =>
    obtain ⟨m, rfl⟩ : ∃ m, n = m + 2 := ⟨n - 2, by rcases hn with q | q; simp at q; omega⟩
    show -(tgW nt D T (m + 2) tk rb lb ra la true) < 1 + -(tgW nt D T (m + 2) (tk ||| 2 ^ t) rb lb (T t) (la - D ra (T t)) false)
    have h1 := tg_open (nt := nt) (D := D) (T := T) (n := m) (tk := tk ||| 2 ^ t) (rb := rb) (ra := T t) (lb := lb) (la := la - D ra (T t))
    have h2 := tg_sub (nt := nt) (D := D) (T := T) (n := m + 1) (tk := tk) (tk' := tk ||| 2 ^ t) (ra := rb) (la := lb) (rb := T t) (lb := la - D ra (T t)) (fun u hu => by rw [Nat.testBit_or, hu, Bool.true_or])
    have h3 := tg_up (nt := nt) (D := D) (T := T) (n := m + 1) (tk := tk) (ra := rb) (la := lb) (rb := T t) (lb := la - D ra (T t))
    have h4 := tg_lone (nt := nt) (D := D) (T := T) (n := m + 2) (tk := tk) (ra := rb) (la := lb) (rb := T t) (rb' := ra) (lb := la - D ra (T t)) (lb' := la)
    have h5 : m + 1 + 1 = m + 2 := rfl
    rw [h5] at h3
    omega
theorem tg_r : ∀ {n tk ra : Nat} {la : Int} {rb : Nat} {lb : Int} {eb : Bool}, -(n : Int) ≤ tgW nt D T n tk ra la rb lb eb ∧ tgW nt D T n tk ra la rb lb eb ≤ (n : Int)
  | 0, _, _, _, _, _, _ => by simp [tgW]
  | n + 1, tk, ra, la, rb, lb, eb => by
    rw [tgW_s]
    have hE : -(n : Int) ≤ tgE nt D T n tk ra la rb lb eb ∧ tgE nt D T n tk ra la rb lb eb ≤ n := by
      have := tg_r (n := n) (tk := tk) (ra := rb) (la := lb) (rb := ra) (lb := la) (eb := true)
      unfold tgE
      split <;> omega
    have hT : ∀ t, -(n : Int) ≤ tgT nt D T n tk ra la rb lb eb t ∧ tgT nt D T n tk ra la rb lb eb t ≤ n + 1 := fun t => by
      have h1 := tg_r (n := n) (tk := tk ||| 2 ^ t) (ra := T t) (la := la - D ra (T t)) (rb := rb) (lb := lb) (eb := true)
      have h2 := tg_r (n := n) (tk := tk ||| 2 ^ t) (ra := rb) (la := lb) (rb := T t) (lb := la - D ra (T t)) (eb := false)
      unfold tgT
      split <;> omega
    obtain ⟨h1, h2, h3⟩ := mxF_s (c := tgC D T tk ra la) (f := tgT nt D T n tk ra la rb lb eb) (e := tgE nt D T n tk ra la rb lb eb) (n := nt)
    rcases h1 with q | ⟨t, t1, t2, t3⟩
    · omega
    · have := hT t
      omega
/-- distances that are beyond all steps count alike -/
theorem tg_c {D' : Nat → Nat → Int} {R : Nat} (hT : ∀ t, t < nt → T t < R) (hD : ∀ a b, a < R → b < R → (D a b = D' a b ∧ 0 ≤ D a b) ∨ (20 < D a b ∧ 20 < D' a b)) : ∀ {n tk ra : Nat} {la : Int} {rb : Nat} {lb : Int} {eb : Bool}, ra < R → rb < R → la ≤ 20 → lb ≤ 20 → tgW nt D T n tk ra la rb lb eb = tgW nt D' T n tk ra la rb lb eb
  | 0, _, _, _, _, _, _, _, _, _, _ => rfl
  | n + 1, tk, ra, la, rb, lb, eb, h1, h2, h3, h4 => by
    have hE : tgE nt D T n tk ra la rb lb eb = tgE nt D' T n tk ra la rb lb eb := by
      unfold tgE
      rw [tg_c hT hD (n := n) (eb := true) h2 h1 h4 h3]
    rw [tgW_s, tgW_s, hE]
    refine mxF_c (fun t ht => ?_)
    have hTt := hT t ht
    have hDt := hD ra (T t) h1 hTt
    have hc : (D ra (T t) ≤ la) ↔ (D' ra (T t) ≤ la) := by omega
    refine ⟨?_, fun hct => ?_⟩
    · unfold tgC
      simp only [hc]
    · rw [tgC_i] at hct
      have hq := hct.2
      have he : D ra (T t) = D' ra (T t) := by omega
      show 1 + _ = 1 + _
      rw [he, tg_c hT hD (n := n) (eb := true) hTt h2 (by omega) h4, tg_c hT hD (n := n) (eb := false) h2 hTt h4 (by omega)]
end GAME
/-- how many are not taken -/
def unF (tk : Nat) (nt : Nat) : Int := cnF (fun t => !tk.testBit t) nt
theorem un_tab : ∀ tk : Fin 32, ∀ nt : Fin 6, (0 ≤ unF tk.1 nt.1 ∧ unF tk.1 nt.1 ≤ nt.1) ∧ ∀ t : Fin 5, t.1 < nt.1 → tk.1.testBit t.1 = false → unF (tk.1 ||| 2 ^ t.1) nt.1 + 1 = unF tk.1 nt.1 := by decide +kernel
theorem un_back : ∀ tk : Fin 32, ∀ t : Fin 5, tk.1.testBit t.1 = false → jb_and (jb_or (tk.1 : Int) (jb_shl 1 (t.1 : Int))) (jb_xor (jb_shl 1 (t.1 : Int)) (-1)) = (tk.1 : Int) ∧ jb_or (tk.1 : Int) (jb_shl 1 (t.1 : Int)) = ((tk.1 ||| 2 ^ t.1 : Nat) : Int) := by decide +kernel
/-- the measure of a game: things left, and who has not ended -/
def tgM (nt tk : Nat) (eb : Bool) : Int := unF tk nt + (if eb = true then 1 else 2)
/-- the best of the first takings -/
def bsR (c : Nat → Bool) (f : Nat → Int) (k : Nat) (b : Int) : Prop := (∃ t, t < k ∧ c t = true ∧ b = f t) ∧ ∀ t, t < k → c t = true → f t ≤ b
theorem bsR_up {c : Nat → Bool} {f : Nat → Int} {k : Nat} {b : Int} (h : bsR c f k b) (hc : c k = true) : bsR c f (k + 1) (max b (f k)) := by
  obtain ⟨⟨t, t1, t2, t3⟩, h2⟩ := h
  refine ⟨?_, fun u hu hcu => ?_⟩
  · by_cases q : f k ≤ b
    · exact ⟨t, by omega, t2, by omega⟩
    · exact ⟨k, by omega, hc, by omega⟩
  · by_cases e : u = k
    · rw [e]; omega
    · have := h2 u (by omega) hcu
      omega
theorem bsR_no {c : Nat → Bool} {f : Nat → Int} {k : Nat} {b : Int} (h : bsR c f k b) (hc : c k = false) : bsR c f (k + 1) b := by
  obtain ⟨⟨t, t1, t2, t3⟩, h2⟩ := h
  refine ⟨⟨t, by omega, t2, t3⟩, fun u hu hcu => ?_⟩
  by_cases e : u = k
  · rw [e, hc] at hcu; simp at hcu
  · exact h2 u (by omega) hcu
theorem bsR_1 {c : Nat → Bool} {f : Nat → Int} {k : Nat} (h : ∀ t, t < k → c t = false) (hc : c k = true) : bsR c f (k + 1) (f k) := by
  refine ⟨⟨k, by omega, hc, rfl⟩, fun u hu hcu => ?_⟩
  by_cases e : u = k
  · rw [e]; exact Int.le_refl _
  · rw [h u (by omega)] at hcu; simp at hcu
theorem mx_bs {c : Nat → Bool} {f : Nat → Int} {e : Int} {n : Nat} {b : Int} (h : bsR c f n b) : mxF c f e n = max b e := by
  obtain ⟨⟨t, t1, t2, t3⟩, h2⟩ := h
  obtain ⟨k1, k2, k3⟩ := mxF_s (c := c) (f := f) (e := e) (n := n)
  have := k3 t t1 t2
  rcases k1 with q | ⟨u, u1, u2, u3⟩
  · omega
  · have := h2 u u1 u2
    omega
theorem mx_no {c : Nat → Bool} {f : Nat → Int} {e : Int} {n : Nat} (h : ∀ t, t < n → c t = false) : mxF c f e n = e := by
  obtain ⟨k1, k2, k3⟩ := mxF_s (c := c) (f := f) (e := e) (n := n)
  rcases k1 with q | ⟨u, u1, u2, u3⟩
  · exact q
  · rw [h u u1] at u2; simp at u2
