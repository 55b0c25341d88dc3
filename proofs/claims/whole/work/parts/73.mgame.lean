/-! ===== taking: the model's frames ===== -/
def eN_ (e : Nat → Bool) : Int := (if e 0 = true then 1 else 0) + (if e 1 = true then 2 else 0)
def frS (f : Nat → Int) (a tk : Nat) (r : Nat → Nat) (l : Nat → Int) (e : Nat → Bool) (w : Nat) : Prop := f a = (tk : Int) ∧ f (a + 1) = (r 0 : Int) ∧ f (a + 2) = (r 1 : Int) ∧ f (a + 3) = l 0 ∧ f (a + 4) = l 1 ∧ f (a + 5) = eN_ e ∧ f (a + 6) = (w : Int)
theorem eN_3 {e : Nat → Bool} : eN_ e = 3 ↔ (e 0 = true ∧ e 1 = true) := by
  unfold eN_
  cases e 0 <;> cases e 1 <;> simp
theorem eN_r (e : Nat → Bool) : 0 ≤ eN_ e ∧ eN_ e ≤ 3 := by
  unfold eN_
  split <;> split <;> omega
/-- what one tries next -/
def turn_ (e : Nat → Bool) (w : Nat) : Nat := if e (1 - w) = true then w else 1 - w
theorem eN_has (e : Nat → Bool) {w : Nat} (hw : w < 2) : (jb_and (jb_shr (eN_ e) ((1 - w : Nat) : Int)) 1 = 1 ∧ e (1 - w) = true) ∨ (jb_and (jb_shr (eN_ e) ((1 - w : Nat) : Int)) 1 = 0 ∧ e (1 - w) = false) := by
  rcases (show w = 0 ∨ w = 1 by omega) with rfl | rfl
  · unfold eN_
    cases h0 : e 0 <;> cases h1 : e 1 <;> simp [h1] <;> decide
  · unfold eN_
    cases h0 : e 0 <;> cases h1 : e 1 <;> simp [h0] <;> decide
theorem eN_or (e : Nat → Bool) {w : Nat} (hw : w < 2) : jb_or (eN_ e) (jb_shl 1 (w : Int)) = eN_ (fun v => if v = w then true else e v) := by
  rcases (show w = 0 ∨ w = 1 by omega) with rfl | rfl
  · unfold eN_
    cases h0 : e 0 <;> cases h1 : e 1 <;> simp [h0, h1] <;> decide
  · unfold eN_
    cases h0 : e 0 <;> cases h1 : e 1 <;> simp [h0, h1] <;> decide
section MGAME
variable {L d : Nat} {I : jm_I} {K : Option jm_V → jm_I → Prop} {x0 x1 x2 x3 x4 : Int}
theorem c_M_copiesOn {f : Nat → Int} {a : Nat} (ha : a + 18 ≤ 90) (k : ∀ g : Nat → Int, (∀ i, i < a + 9 → g i = f i) → (∀ i, i < 7 → g (a + 9 + i) = f (a + i)) → g (a + 16) = 0 → g (a + 17) = -1000000 → K none (st_ I 187 g)) : Cx (jx_0 L) d md_M_copiesOn [.inr (.inl 167), .inl (a : Int)] (st_ I 187 f) K := by
  refine b_M_copiesOn_0 ?_
  refine lp_up (σ := Nat → Int) (Inv := fun x g => 0 ≤ x ∧ (∀ i, i < a + 9 → g i = f i) ∧ ∀ i : Nat, (i : Int) < x → g (a + 9 + i) = f (a + i)) (G := fun x g => Gx (jx_0 L) d md_M_copiesOn 2 [some (.inr (.inl 167)), some (.inl (a : Int)), some (.inl x)] [] (st_ I 187 g) K) 9 ?_ ?_ 0 f (by omega) ⟨by omega, fun i _ => rfl, fun i hi => by omega⟩
  · intro x g hx hi ih
    obtain ⟨h0, h1, h2⟩ := hi
    obtain ⟨q, rfl⟩ : ∃ q : Nat, x = q := ⟨x.toNat, by omega⟩
    refine b_M_copiesOn_2 (by omega) (fun h => by omega) (fun _ => ?_)
    refine b_M_copiesOn_8 (by omega) ?_
    rw [st_up, st_s, show ((a : Int) + (q : Int)).toNat = a + q by omega, show ((a : Int) + 9 + (q : Int)).toNat = a + 9 + q by omega, h1 (a + q) (by omega)]
    refine ih _ ⟨by omega, fun i hi => ?_, fun i hi => ?_⟩
    · rw [if_neg (by omega)]; exact h1 i hi
    · by_cases e : i = q
      · rw [if_pos (by omega), e]
      · rw [if_neg (by omega)]; exact h2 i (by omega)
  · intro g hi
    obtain ⟨-, h1, h2⟩ := hi
    refine b_M_copiesOn_2 (by omega) (fun _ => ?_) (fun h => by omega)
    refine b_M_copiesOn_33 (by omega) ?_
    rw [st_up, st_up, show ((a : Int) + 9 + 7).toNat = a + 16 by omega, show ((a : Int) + 9 + 8).toNat = a + 17 by omega]
    refine k _ (fun i hi => ?_) (fun i hi => ?_) ?_ ?_
    · rw [if_neg (by omega), if_neg (by omega)]; exact h1 i hi
    · rw [if_neg (by omega), if_neg (by omega)]; exact h2 i (by omega)
    · rw [if_neg (by omega), if_pos rfl]
    · rw [if_pos rfl]
/-- the last rows of triesOn, on the new frame -/
theorem tr_tail {g : Nat → Int} {a w rm : Nat} {x2 x4 x5 x6 ntk nrm nen : Int} {o4 : Option jm_V} {tk : Nat} {r : Nat → Nat} {l : Nat → Int} {e e' : Nat → Bool} (ha : a + 18 ≤ 90) (hw : w < 2) (hx5 : x5 = 0 ∨ x5 = 1) (hg : frS g (a + 9) tk r l e w) (h1 : (if x5 = 0 then jb_or (tk : Int) (jb_shl 1 x2) else jb_or (tk : Int) 0) = ntk) (h2 : (x5 = 0 ∧ (0 ≤ 17 + x2 ∧ 17 + x2 < 27) ∧ nrm = I 171 (17 + x2).toNat) ∨ (¬ x5 = 0 ∧ nrm = x4)) (h3 : (if x5 = 0 then jb_or (eN_ e) 0 else jb_or (eN_ e) (jb_shl 1 (w : Int))) = eN_ e') (k : K (some (.inl 1)) (st_ I 187 (fun j => if j = a + 15 then (turn_ e' w : Int) else if j = a + 14 then eN_ e' else if j = a + 12 + w then l w - x6 else if j = a + 10 + w then nrm else if j = a + 9 then ntk else g j))) : Gx (jx_0 L) (d + 1) md_M_triesOn 110 [some (.inr (.inl 167)), some (.inl (a : Int)), some (.inl x2), some (.inl (w : Int)), some (.inl x4), some (.inl x5), some (.inl x6), none] [] (st_ I 187 g) K := by
  obtain ⟨g0, g1, g2, g3, g4, g5, g6⟩ := hg
  have i0 : ((a : Int) + 9 + 0).toNat = a + 9 := by omega
  have i1 : ((a : Int) + 9 + 1 + (w : Int)).toNat = a + 10 + w := by omega
  have i3 : ((a : Int) + 9 + 3 + (w : Int)).toNat = a + 12 + w := by omega
  have i5 : ((a : Int) + 9 + 5).toNat = a + 14 := by omega
  have i6 : ((a : Int) + 9 + 6).toNat = a + 15 := by omega
  have hl : g (a + 12 + w) = l w := by
    rcases (show w = 0 ∨ w = 1 by omega) with rfl | rfl
    · exact g3
    · exact g4
  have he := eN_has e' hw
  have t4 : ∀ s : Int, s = (if x5 = 0 then 0 else jb_shl 1 (w : Int)) → ∀ f : Nat → Int, f = (fun j => if j = a + 12 + w then l w - x6 else if j = a + 10 + w then nrm else if j = a + 9 then ntk else g j) → Gx (jx_0 L) (d + 1) md_M_triesOn 208 [some (.inr (.inl 167)), some (.inl (a : Int)), some (.inl x2), some (.inl (w : Int)), some (.inl x4), some (.inl x5), some (.inl x6), some (.inl ((a : Int) + 9))] [.inl s, .inl (eN_ e), .inl ((a : Int) + 9 + 5), .inr (.inl 187)] (st_ I 187 f) K := by
    intro s hs f hf
    have hor : jb_or (eN_ e) s = eN_ e' := by
      rw [hs, ← h3]
      split <;> rfl
    refine b_M_triesOn_208 (by omega) ?_
    rw [st_up, i5, st_s, if_pos rfl, hor, show (1 : Int) - (w : Int) = ((1 - w : Nat) : Int) by omega]
    refine c_M_has (fun v hv => ?_)
    unfold jb_has at hv
    have fin : ∀ z : Int, z = (turn_ e' w : Int) → Gx (jx_0 L) (d + 1) md_M_triesOn 244 [some (.inr (.inl 167)), some (.inl (a : Int)), some (.inl x2), some (.inl (w : Int)), some (.inl x4), some (.inl x5), some (.inl x6), some (.inl ((a : Int) + 9))] [.inl z, .inl ((a : Int) + 9 + 6), .inr (.inl 187)] (st_ I 187 (fun j => if j = a + 14 then eN_ e' else f j)) K := by
      intro z hz
      refine b_M_triesOn_244 (by omega) ?_
      rw [st_up, i6, hz, hf]
      exact k
    refine b_M_triesOn_234 (by rcases hv with ⟨q, -⟩ | ⟨q, -⟩ <;> omega) (fun h => ?_) (fun h => ?_)
    · refine b_M_triesOn_241 ?_
      refine fin _ ?_
      have : e' (1 - w) = false := by
        rcases he with ⟨q, -⟩ | ⟨-, q⟩
        · rcases hv with ⟨z, -⟩ | ⟨-, z⟩
          · omega
          · exact absurd q z
        · exact q
      unfold turn_
      rw [this, if_neg (by simp)]
      omega
    · refine b_M_triesOn_237 ?_
      refine fin _ ?_
      have : e' (1 - w) = true := by
        rcases he with ⟨-, q⟩ | ⟨q, -⟩
        · exact q
        · rcases hv with ⟨-, z⟩ | ⟨z, -⟩
          · omega
          · exact absurd z h
      unfold turn_
      rw [this, if_pos rfl]
  have t3 : Gx (jx_0 L) (d + 1) md_M_triesOn 169 [some (.inr (.inl 167)), some (.inl (a : Int)), some (.inl x2), some (.inl (w : Int)), some (.inl x4), some (.inl x5), some (.inl x6), some (.inl ((a : Int) + 9))] [.inl nrm, .inl ((a : Int) + 9 + 1 + (w : Int)), .inr (.inl 187)] (st_ I 187 (fun j => if j = a + 9 then ntk else g j)) K := by
    have s1 : (jm_up (st_ I 187 (fun j => if j = a + 9 then ntk else g j)) 187 ((a : Int) + 9 + 1 + (w : Int)).toNat nrm) 187 ((a : Int) + 9 + 3 + (w : Int)).toNat = l w := by
      rw [st_up, st_s, i1, i3, if_neg (by omega), if_neg (by omega)]
      exact hl
    have s2 : (jm_up (jm_up (st_ I 187 (fun j => if j = a + 9 then ntk else g j)) 187 ((a : Int) + 9 + 1 + (w : Int)).toNat nrm) 187 ((a : Int) + 9 + 3 + (w : Int)).toNat (l w - x6)) = st_ I 187 (fun j => if j = a + 12 + w then l w - x6 else if j = a + 10 + w then nrm else if j = a + 9 then ntk else g j) := by
      rw [st_up, st_up, i1, i3]
    have s3 : (st_ I 187 (fun j => if j = a + 12 + w then l w - x6 else if j = a + 10 + w then nrm else if j = a + 9 then ntk else g j)) 187 ((a : Int) + 9 + 5).toNat = eN_ e := by
      rw [st_s, i5, if_neg (by omega), if_neg (by omega), if_neg (by omega)]
      exact g5
    refine b_M_triesOn_169 (by omega) (fun h => ?_) (fun h => ?_)
    · rw [s1, s2, s3]
      refine b_M_triesOn_207 ?_
      exact t4 0 (by rw [if_pos h]) _ rfl
    · rw [s1, s2, s3]
      refine b_M_triesOn_201 ?_
      exact t4 _ (by rw [if_neg h]) _ rfl
  have t2 : ∀ s : Int, jb_or (tk : Int) s = ntk → Gx (jx_0 L) (d + 1) md_M_triesOn 138 [some (.inr (.inl 167)), some (.inl (a : Int)), some (.inl x2), some (.inl (w : Int)), some (.inl x4), some (.inl x5), some (.inl x6), some (.inl ((a : Int) + 9))] [.inl s, .inl (tk : Int), .inl ((a : Int) + 9 + 0), .inr (.inl 187)] (st_ I 187 g) K := by
    intro s hs
    refine b_M_triesOn_138 (by omega) (fun h => ?_) (fun h => ?_)
    · rw [st_up, i0, hs]
      rcases h2 with ⟨z1, z2, z3⟩ | ⟨z1, -⟩
      · refine b_M_triesOn_160 z2 ?_
        rw [st_a (show (171 : Nat) ≠ 187 by decide), ← z3]
        exact t3
      · exact absurd h z1
    · rw [st_up, i0, hs]
      rcases h2 with ⟨z1, -, -⟩ | ⟨-, z2⟩
      · exact absurd z1 h
      · refine b_M_triesOn_155 ?_
        rw [← z2]
        rw [← z2] at t3
        exact t3
  have s0 : st_ I 187 g 187 ((a : Int) + 9 + 0).toNat = (tk : Int) := by rw [st_s, i0]; exact g0
  refine b_M_triesOn_110 (by omega) (fun h => ?_) (fun h => ?_)
  · rw [s0]
    refine b_M_triesOn_135 ?_
    refine t2 _ ?_
    rw [if_pos h] at h1
    exact h1
  · rw [s0]
    refine b_M_triesOn_131 ?_
    refine t2 _ ?_
    rw [if_neg h] at h1
    exact h1
end MGAME
