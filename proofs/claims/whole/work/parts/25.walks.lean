/-! ===== walks and distances: pure ===== -/
def wk (A : Nat → Nat → Prop) : Nat → Nat → Nat → Prop
  | 0, r, s => r = s
  | n + 1, r, s => ∃ q, wk A n r q ∧ A q s
/-- walks whose rooms between are below k -/
def wb (A : Nat → Nat → Prop) (k : Nat) : Nat → Nat → Nat → Prop
  | 0, i, j => i = j
  | n + 1, i, j => ∃ q, wb A k n i q ∧ A q j ∧ (n = 0 ∨ q < k)
def isD (A : Nat → Nat → Prop) (F : Int) (r s : Nat) (v : Int) : Prop := (∃ n : Nat, v = n ∧ n < 6 ∧ wk A n r s ∧ ∀ m, wk A m r s → n ≤ m) ∨ (v = F ∧ ∀ m, ¬ wk A m r s)
theorem wk_app {A : Nat → Nat → Prop} {r q : Nat} : ∀ {n m s : Nat}, wk A n r q → wk A m q s → wk A (n + m) r s
  | n, 0, s, h, e => by
    have e : q = s := e
    subst e
    exact h
  | n, m + 1, s, h, ⟨x, hx, ha⟩ => ⟨x, wk_app h hx, ha⟩
theorem wk_one {A : Nat → Nat → Prop} {q s : Nat} (h : A q s) : wk A 1 q s := ⟨q, rfl, h⟩
theorem wk_sym {A : Nat → Nat → Prop} (hs : ∀ q s, A q s → A s q) : ∀ {n r s : Nat}, wk A n r s → wk A n s r
  | 0, _, _, h => Eq.symm h
  | n + 1, r, s, ⟨q, h, ha⟩ => by
    have := wk_app (wk_one (hs q s ha)) (wk_sym hs h)
    rwa [Nat.add_comm] at this
noncomputable def ind_ (p : Prop) : Nat := @ite Nat p (Classical.propDecidable p) 1 0
theorem ind_1 {p : Prop} (h : p) : ind_ p = 1 := if_pos h
theorem ind_0 {p : Prop} (h : ¬ p) : ind_ p = 0 := if_neg h
theorem ind_le {p q : Prop} (h : p → q) : ind_ p ≤ ind_ q := by
  by_cases hp : p
  · rw [ind_1 hp, ind_1 (h hp)]; exact Nat.le_refl _
  · rw [ind_0 hp]; exact Nat.zero_le _
theorem ind_b {p : Prop} : ind_ p ≤ 1 := by
  by_cases hp : p
  · rw [ind_1 hp]; exact Nat.le_refl _
  · rw [ind_0 hp]; omega
def wt (A : Nat → Nat → Prop) (r n v : Nat) : Prop := ∃ m, m ≤ n ∧ wk A m r v
noncomputable def wc (A : Nat → Nat → Prop) (r n : Nat) : Nat := ind_ (wt A r n 0) + ind_ (wt A r n 1) + ind_ (wt A r n 2) + ind_ (wt A r n 3) + ind_ (wt A r n 4) + ind_ (wt A r n 5)
theorem wt_up {A : Nat → Nat → Prop} {r n v : Nat} (h : wt A r n v) : wt A r (n + 1) v := by
  obtain ⟨m, h1, h2⟩ := h
  exact ⟨m, by omega, h2⟩
/-- nothing new at a level: nothing new for ever -/
theorem wt_all {A : Nat → Nat → Prop} (hA : ∀ q s, A q s → q < 6 ∧ s < 6) {r n : Nat} (hr : r < 6) (hst : ∀ v, v < 6 → wt A r (n + 1) v → wt A r n v) : ∀ {m v : Nat}, wk A m r v → wt A r n v
  | 0, v, h => by
    have h : r = v := h
    subst h
    exact ⟨0, Nat.zero_le _, rfl⟩
  | m + 1, v, ⟨q, h, ha⟩ => by
    obtain ⟨j, h1, h2⟩ := wt_all hA hr hst h
    exact hst v (hA q v ha).2 ⟨j + 1, by omega, q, h2, ha⟩
theorem wk_short {A : Nat → Nat → Prop} (hA : ∀ q s, A q s → q < 6 ∧ s < 6) {r : Nat} (hr : r < 6) : ∀ {m v : Nat}, wk A m r v → ∃ j, j < 6 ∧ wk A j r v := by
  have key : ∀ n : Nat, (∀ (m v : Nat), wk A m r v → wt A r n v) ∨ n + 1 ≤ wc A r n := by
    intro n
    induction n with
    | zero =>
      right
      have h0 : wt A r 0 r := ⟨0, Nat.le_refl _, rfl⟩
      unfold wc
      rcases (show r = 0 ∨ r = 1 ∨ r = 2 ∨ r = 3 ∨ r = 4 ∨ r = 5 by omega) with rfl | rfl | rfl | rfl | rfl | rfl <;> rw [ind_1 h0] <;> omega
    | succ n ih =>
      rcases ih with h | h
      · exact Or.inl (fun m v hm => wt_up (h m v hm))
      · by_cases hst : ∀ v, v < 6 → wt A r (n + 1) v → wt A r n v
        · exact Or.inl (fun m v hm => wt_up (wt_all hA hr hst hm))
        · right
          obtain ⟨v, hv⟩ := Classical.not_forall.mp hst
          obtain ⟨hv6, hv⟩ := Classical.not_imp.mp hv
          obtain ⟨hv1, hv0⟩ := Classical.not_imp.mp hv
          have e1 := ind_1 hv1
          have e0 := ind_0 hv0
          have m0 := ind_le (fun h : wt A r n 0 => wt_up h)
          have m1 := ind_le (fun h : wt A r n 1 => wt_up h)
          have m2 := ind_le (fun h : wt A r n 2 => wt_up h)
          have m3 := ind_le (fun h : wt A r n 3 => wt_up h)
          have m4 := ind_le (fun h : wt A r n 4 => wt_up h)
          have m5 := ind_le (fun h : wt A r n 5 => wt_up h)
          unfold wc at h ⊢
          rcases (show v = 0 ∨ v = 1 ∨ v = 2 ∨ v = 3 ∨ v = 4 ∨ v = 5 by omega) with rfl | rfl | rfl | rfl | rfl | rfl <;> omega
  intro m v hm
  rcases key 5 with h | h
  · obtain ⟨j, h1, h2⟩ := h m v hm
    exact ⟨j, by omega, h2⟩
  · by_cases hv6 : v < 6
    · have hv : wt A r 5 v := by
        by_cases hv : wt A r 5 v
        · exact hv
        · exfalso
          have e0 := ind_0 hv
          have b0 := ind_b (p := wt A r 5 0)
          have b1 := ind_b (p := wt A r 5 1)
          have b2 := ind_b (p := wt A r 5 2)
          have b3 := ind_b (p := wt A r 5 3)
          have b4 := ind_b (p := wt A r 5 4)
          have b5 := ind_b (p := wt A r 5 5)
          unfold wc at h
          rcases (show v = 0 ∨ v = 1 ∨ v = 2 ∨ v = 3 ∨ v = 4 ∨ v = 5 by omega) with rfl | rfl | rfl | rfl | rfl | rfl <;> omega
      obtain ⟨j, h1, h2⟩ := hv
      exact ⟨j, by omega, h2⟩
    · exfalso
      cases m with
      | zero =>
        have hm : r = v := hm
        omega
      | succ m =>
        obtain ⟨q, -, ha⟩ := hm
        exact hv6 (hA q v ha).2
/-- values that are lengths of walks and no greater than any -/
theorem isD_of {A : Nat → Nat → Prop} (hA : ∀ q s, A q s → q < 6 ∧ s < 6) {F v : Int} (hF : 6 ≤ F) {r s : Nat} (hr : r < 6) (h1 : (∃ n : Nat, v = n ∧ wk A n r s) ∨ v = F) (h2 : ∀ n, wk A n r s → v ≤ n) : isD A F r s v := by
  by_cases hw : ∃ m, wk A m r s
  · obtain ⟨m, hm⟩ := hw
    obtain ⟨j, hj, hw⟩ := wk_short hA hr hm
    have := h2 j hw
    rcases h1 with ⟨n, rfl, hn⟩ | rfl
    · exact Or.inl ⟨n, rfl, by omega, hn, fun m hm => by have := h2 m hm; omega⟩
    · omega
  · rcases h1 with ⟨n, rfl, hn⟩ | rfl
    · exact absurd ⟨n, hn⟩ hw
    · exact Or.inr ⟨rfl, fun m hm => hw ⟨m, hm⟩⟩
theorem isD_cross {A : Nat → Nat → Prop} {F F' v w : Int} {r s : Nat} (h1 : isD A F r s v) (h2 : isD A F' r s w) : (v = w ∧ 0 ≤ v ∧ v < 6) ∨ (v = F ∧ w = F') := by
  rcases h1 with ⟨n, rfl, a1, a2, a3⟩ | ⟨rfl, a2⟩ <;> rcases h2 with ⟨m, rfl, b1, b2, b3⟩ | ⟨rfl, b2⟩
  · have := a3 m b2
    have := b3 n a2
    left; omega
  · exact absurd a2 (b2 n)
  · exact absurd b2 (a2 m)
  · exact Or.inr ⟨rfl, rfl⟩
theorem isD_sym {A : Nat → Nat → Prop} (hs : ∀ q s, A q s → A s q) {F v : Int} {r s : Nat} (h : isD A F r s v) : isD A F s r v := by
  rcases h with ⟨n, rfl, a1, a2, a3⟩ | ⟨rfl, a2⟩
  · exact Or.inl ⟨n, rfl, a1, wk_sym hs a2, fun m hm => a3 m (wk_sym hs hm)⟩
  · exact Or.inr ⟨rfl, fun m hm => a2 m (wk_sym hs hm)⟩
theorem wk_congr {A B : Nat → Nat → Prop} (h : ∀ q s, A q s ↔ B q s) : ∀ {n r s : Nat}, wk A n r s ↔ wk B n r s
  | 0, _, _ => Iff.rfl
  | n + 1, r, s => ⟨fun ⟨q, h1, h2⟩ => ⟨q, (wk_congr h).mp h1, (h q s).mp h2⟩, fun ⟨q, h1, h2⟩ => ⟨q, (wk_congr h).mpr h1, (h q s).mpr h2⟩⟩
theorem isD_congr {A B : Nat → Nat → Prop} (h : ∀ q s, A q s ↔ B q s) {F v : Int} {r s : Nat} (hd : isD A F r s v) : isD B F r s v := by
  rcases hd with ⟨n, rfl, a1, a2, a3⟩ | ⟨rfl, a2⟩
  · exact Or.inl ⟨n, rfl, a1, (wk_congr h).mp a2, fun m hm => a3 m ((wk_congr h).mpr hm)⟩
  · exact Or.inr ⟨rfl, fun m hm => a2 m ((wk_congr h).mpr hm)⟩
/-! walks over rooms below k -/
theorem wb_split {A : Nat → Nat → Prop} {k : Nat} {i : Nat} : ∀ {n j : Nat}, wb A (k + 1) n i j → wb A k n i j ∨ ∃ a b, wb A k a i k ∧ wb A k b k j ∧ a + b ≤ n
  | 0, j, h => Or.inl h
  | n + 1, j, ⟨q, h, ha, hq⟩ => by
    rcases wb_split h with h1 | ⟨a, b, h1, h2, h3⟩
    · rcases hq with rfl | hq
      · exact Or.inl ⟨q, h1, ha, Or.inl rfl⟩
      · by_cases e : q < k
        · exact Or.inl ⟨q, h1, ha, Or.inr e⟩
        · have e2 : q = k := by omega
          subst e2
          exact Or.inr ⟨n, 1, h1, ⟨q, rfl, ha, Or.inl rfl⟩, by omega⟩
    · by_cases e : q < k
      · exact Or.inr ⟨a, b + 1, h1, ⟨q, h2, ha, Or.inr e⟩, by omega⟩
      · by_cases hn : n = 0
        · subst hn
          have ha0 : a = 0 := by omega
          have hb0 : b = 0 := by omega
          subst ha0; subst hb0
          have e1 : i = k := h1
          have e2 : k = q := h2
          subst e2
          exact Or.inr ⟨0, 1, h1, ⟨k, rfl, ha, Or.inl rfl⟩, by omega⟩
        · have e2 : q = k := by omega
          subst e2
          exact Or.inr ⟨a, 1, h1, ⟨q, rfl, ha, Or.inl rfl⟩, by omega⟩
theorem wb_of {A : Nat → Nat → Prop} {k : Nat} (hA : ∀ q s, A q s → q < k) : ∀ {n i j : Nat}, wk A n i j → wb A k n i j
  | 0, _, _, h => h
  | n + 1, i, j, ⟨q, h, ha⟩ => ⟨q, wb_of hA h, ha, Or.inr (hA q j ha)⟩
theorem wb_0 {A : Nat → Nat → Prop} : ∀ {n i j : Nat}, wb A 0 n i j → (n = 0 ∧ i = j) ∨ (n = 1 ∧ A i j)
  | 0, i, j, h => Or.inl ⟨rfl, h⟩
  | n + 1, i, j, ⟨q, h, ha, hq⟩ => by
    rcases hq with rfl | hq
    · have h : i = q := h
      subst h
      exact Or.inr ⟨rfl, ha⟩
    · omega
/-- one phase: a matrix of 36 numbers, over room b -/
def fwN (f : Nat → Int) (b : Nat) : Nat → Int := fun k => min (f k) (f (6 * (k / 6) + b) + f (6 * b + k % 6))
def fwI (A : Nat → Nat → Prop) (f : Nat → Int) (b : Nat) : Prop := (∀ i, i < 6 → f (6 * i + i) = 0) ∧ (∀ i j, i < 6 → j < 6 → 0 ≤ f (6 * i + j) ∧ f (6 * i + j) ≤ 10000) ∧ (∀ i j, i < 6 → j < 6 → f (6 * i + j) = 10000 ∨ ∃ n : Nat, f (6 * i + j) = n ∧ wk A n i j) ∧ (∀ n i j, i < 6 → j < 6 → wb A b n i j → f (6 * i + j) ≤ n)
theorem fw_at {f : Nat → Int} {b i j : Nat} (hi : i < 6) (hj : j < 6) : fwN f b (6 * i + j) = min (f (6 * i + j)) (f (6 * i + b) + f (6 * b + j)) := by
  unfold fwN
  rw [show (6 * i + j) / 6 = i by omega, show (6 * i + j) % 6 = j by omega]
theorem fw_step {A : Nat → Nat → Prop} {f : Nat → Int} {b : Nat} (hb : b < 6) (h : fwI A f b) : fwI A (fwN f b) (b + 1) := by
  obtain ⟨h1, h2, h3, h4⟩ := h
  refine ⟨fun i hi => ?_, fun i j hi hj => ?_, fun i j hi hj => ?_, fun n i j hi hj hw => ?_⟩
  · rw [fw_at hi hi, h1 i hi]
    have := h2 i b hi hb
    have := h2 b i hb hi
    omega
  · rw [fw_at hi hj]
    have := h2 i j hi hj
    have := h2 i b hi hb
    have := h2 b j hb hj
    omega
  · rw [fw_at hi hj]
    have c1 := h2 i j hi hj
    have c2 := h2 i b hi hb
    have c3 := h2 b j hb hj
    by_cases e : f (6 * i + j) ≤ f (6 * i + b) + f (6 * b + j)
    · rw [show min (f (6 * i + j)) (f (6 * i + b) + f (6 * b + j)) = f (6 * i + j) by omega]
      exact h3 i j hi hj
    · rw [show min (f (6 * i + j)) (f (6 * i + b) + f (6 * b + j)) = f (6 * i + b) + f (6 * b + j) by omega]
      right
      rcases h3 i b hi hb with q | ⟨n, q1, q2⟩
      · omega
      · rcases h3 b j hb hj with p | ⟨m, p1, p2⟩
        · omega
        · exact ⟨n + m, by omega, wk_app q2 p2⟩
  · rw [fw_at hi hj]
    rcases wb_split hw with q | ⟨a, c, q1, q2, q3⟩
    · have := h4 n i j hi hj q
      omega
    · have := h4 a i b hi hb q1
      have := h4 c b j hb hj q2
      omega
/-- within a phase row b and column b stay -/
theorem fw_row {A : Nat → Nat → Prop} {f : Nat → Int} {b k : Nat} (hb : b < 6) (hk : k < 36) (h : fwI A f b) : fwN f b (6 * (k / 6) + b) = f (6 * (k / 6) + b) ∧ fwN f b (6 * b + k % 6) = f (6 * b + k % 6) := by
  obtain ⟨h1, h2, h3, h4⟩ := h
  have e1 : k / 6 < 6 := by omega
  have e2 : k % 6 < 6 := by omega
  have z := h1 b hb
  have p1 := h2 (k / 6) b e1 hb
  have p2 := h2 b (k % 6) hb e2
  rw [fw_at e1 hb, fw_at hb e2, z]
  omega
