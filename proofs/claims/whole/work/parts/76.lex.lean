/-! ===== the text's tokens ===== -/
def skF (f : Nat → Int) (n a : Nat) : Nat := if a < n ∧ f a = 32 then skF f n (a + 1) else a
termination_by n - a
def dgF (f : Nat → Int) (n a : Nat) : Nat := if a < n ∧ 48 ≤ f a ∧ f a ≤ 57 then dgF f n (a + 1) else a
termination_by n - a
theorem sk_s {f : Nat → Int} {n : Nat} : ∀ (m a : Nat), n - a = m → a ≤ skF f n a ∧ (∀ x, a ≤ x → x < skF f n a → x < n ∧ f x = 32) ∧ ¬ (skF f n a < n ∧ f (skF f n a) = 32) ∧ (a ≤ n → skF f n a ≤ n) := by
  intro m
  induction m with
  | zero =>
    intro a h
    have e : skF f n a = a := by rw [skF, if_neg (by omega)]
    rw [e]
    exact ⟨by omega, fun x h1 h2 => by omega, by omega, by omega⟩
  | succ m ih =>
    intro a h
    by_cases hc : a < n ∧ f a = 32
    · have e : skF f n a = skF f n (a + 1) := by rw [skF, if_pos hc]
      obtain ⟨i1, i2, i3, i4⟩ := ih (a + 1) (by omega)
      rw [e]
      refine ⟨by omega, fun x h1 h2 => ?_, i3, fun _ => i4 (by omega)⟩
      by_cases ex : x = a
      · rw [ex]; exact hc
      · exact i2 x (by omega) h2
    · have e : skF f n a = a := by rw [skF, if_neg hc]
      rw [e]
      exact ⟨by omega, fun x h1 h2 => by omega, hc, by omega⟩
theorem dg_s {f : Nat → Int} {n : Nat} : ∀ (m a : Nat), n - a = m → a ≤ dgF f n a ∧ (∀ x, a ≤ x → x < dgF f n a → x < n ∧ 48 ≤ f x ∧ f x ≤ 57) ∧ ¬ (dgF f n a < n ∧ 48 ≤ f (dgF f n a) ∧ f (dgF f n a) ≤ 57) ∧ (a ≤ n → dgF f n a ≤ n) := by
  intro m
  induction m with
  | zero =>
    intro a h
    have e : dgF f n a = a := by rw [dgF, if_neg (by omega)]
    rw [e]
    exact ⟨by omega, fun x h1 h2 => by omega, by omega, by omega⟩
  | succ m ih =>
    intro a h
    by_cases hc : a < n ∧ 48 ≤ f a ∧ f a ≤ 57
    · have e : dgF f n a = dgF f n (a + 1) := by rw [dgF, if_pos hc]
      obtain ⟨i1, i2, i3, i4⟩ := ih (a + 1) (by omega)
      rw [e]
      refine ⟨by omega, fun x h1 h2 => ?_, i3, fun _ => i4 (by omega)⟩
      by_cases ex : x = a
      · rw [ex]; exact hc
      · exact i2 x (by omega) h2
    · have e : dgF f n a = a := by rw [dgF, if_neg hc]
      rw [e]
      exact ⟨by omega, fun x h1 h2 => by omega, hc, by omega⟩
def vaF (f : Nat → Int) (s : Nat) : Nat → Int
  | 0 => 0
  | j + 1 => vaF f s j * 10 + f (s + j) - 48
def knP (x : Int) : Prop := x = 114 ∨ x = 115 ∨ x = 100 ∨ x = 112 ∨ x = 116 ∨ x = 59
def knB (x : Int) : Bool := decide (x = 114 ∨ x = 115 ∨ x = 100 ∨ x = 112 ∨ x = 116 ∨ x = 59)
/-- a token: its first letter's place, the place behind it, what it is, its number -/
def tkS (f : Nat → Int) (n a : Nat) : Nat := skF f n a
def tkD (f : Nat → Int) (n a : Nat) : Nat := dgF f n (skF f n a)
def tkE (f : Nat → Int) (n a : Nat) : Nat := if tkS f n a < tkD f n a then tkD f n a else if tkS f n a < n then tkS f n a + 1 else tkS f n a
def tkK (f : Nat → Int) (n a : Nat) : Int := if tkS f n a < tkD f n a then (if 2 < tkD f n a - tkS f n a ∨ (1 < tkD f n a - tkS f n a ∧ f (tkS f n a) = 48) then 2 else 1) else if tkS f n a < n then (if knB (f (tkS f n a)) = true then f (tkS f n a) else 2) else 0
def tkV (f : Nat → Int) (n a : Nat) : Int := vaF f (tkS f n a) (tkD f n a - tkS f n a)
theorem tk_r {f : Nat → Int} {n a : Nat} (h : a ≤ n) : a ≤ tkS f n a ∧ tkS f n a ≤ n ∧ tkS f n a ≤ tkE f n a ∧ tkE f n a ≤ n ∧ (¬ tkK f n a = 0 → a + 1 ≤ tkE f n a) ∧ (tkS f n a ≤ tkD f n a ∧ tkD f n a ≤ n) := by
  obtain ⟨s1, s2, s3, s4⟩ := sk_s (f := f) (n := n) (n - a) a rfl
  obtain ⟨d1, d2, d3, d4⟩ := dg_s (f := f) (n := n) (n - skF f n a) (skF f n a) rfl
  have hs := s4 h
  have hd := d4 hs
  unfold tkE tkK tkS tkD
  refine ⟨s1, hs, ?_, ?_, fun hk => ?_, d1, hd⟩
  · (repeat' split) <;> omega
  · (repeat' split) <;> omega
  · split
    · omega
    · split
      · omega
      · rename_i h1 h2
        rw [if_neg h1, if_neg h2] at hk
        exact absurd rfl hk
theorem tkV_r {f : Nat → Int} {n a : Nat} (h : tkK f n a = 1) : (0 ≤ tkV f n a ∧ tkV f n a ≤ 99) ∧ tkS f n a < tkD f n a ∧ tkD f n a - tkS f n a ≤ 2 := by
  obtain ⟨d1, d2, d3, d4⟩ := dg_s (f := f) (n := n) (n - skF f n a) (skF f n a) rfl
  unfold tkK at h
  by_cases h1 : tkS f n a < tkD f n a
  · rw [if_pos h1] at h
    by_cases h2 : 2 < tkD f n a - tkS f n a ∨ (1 < tkD f n a - tkS f n a ∧ f (tkS f n a) = 48)
    · rw [if_pos h2] at h; omega
    · refine ⟨?_, h1, by omega⟩
      have hd1 := d2 (tkS f n a) (Nat.le_refl _) h1
      unfold tkV
      rcases (show tkD f n a - tkS f n a = 1 ∨ tkD f n a - tkS f n a = 2 by omega) with e | e
      · rw [e]; simp only [vaF]; rw [Nat.add_zero]; omega
      · have hd2 := d2 (tkS f n a + 1) (show tkS f n a ≤ tkS f n a + 1 by omega) (show tkS f n a + 1 < tkD f n a by omega)
        rw [e]; simp only [vaF]; rw [Nat.add_zero]; omega
  · rw [if_neg h1] at h
    by_cases h2 : tkS f n a < n
    · rw [if_pos h2] at h
      by_cases h3 : knB (f (tkS f n a)) = true
      · rw [if_pos h3] at h
        unfold knB at h3
        simp only [decide_eq_true_eq] at h3
        omega
      · rw [if_neg h3] at h; omega
    · rw [if_neg h2] at h; omega
theorem tkK_r {f : Nat → Int} {n a : Nat} : tkK f n a = 0 ∨ tkK f n a = 1 ∨ tkK f n a = 2 ∨ knP (tkK f n a) := by
  unfold tkK
  split
  · split
    · omega
    · omega
  · split
    · split
      · rename_i h3
        unfold knB at h3
        simp only [decide_eq_true_eq] at h3
        exact Or.inr (Or.inr (Or.inr h3))
      · omega
    · omega
section LEX
variable {L d : Nat} {I J : jm_I} {K : Option jm_V → jm_I → Prop} {x0 x1 x2 x3 x4 : Int} {f : Nat → Int} {n q : Nat}
theorem c_CityReader_isDigit (hz : -2147483648 ≤ x0 ∧ x0 < 2147483648) (k : ∀ v, (v = 1 ∧ 48 ≤ x0 ∧ x0 ≤ 57) ∨ (v = 0 ∧ ¬ (48 ≤ x0 ∧ x0 ≤ 57)) → K (some (.inl v)) I) : Cx (jx_0 L) d md_CityReader_isDigit [.inl x0] I K := by
  refine b_CityReader_isDigit_0 (by omega) (fun hb1 => ?_) (fun hb1 => ?_)
  · refine b_CityReader_isDigit_16 ?_
    refine b_CityReader_isDigit_17 (by omega) ?_
    exact k _ (by omega)
  · refine b_CityReader_isDigit_6 (by omega) (fun hb2 => ?_) (fun hb2 => ?_)
    · refine b_CityReader_isDigit_16 ?_
      refine b_CityReader_isDigit_17 (by omega) ?_
      exact k _ (by omega)
    · refine b_CityReader_isDigit_12 ?_
      refine b_CityReader_isDigit_17 (by omega) ?_
      exact k _ (by omega)
theorem c_CityReader_isKnown (hz : -2147483648 ≤ x0 ∧ x0 < 2147483648) (k : ∀ v, (v = 1 ∧ knP x0) ∨ (v = 0 ∧ ¬ knP x0) → K (some (.inl v)) I) : Cx (jx_0 L) d md_CityReader_isKnown [.inl x0] I K := by
  unfold knP at k
  refine b_CityReader_isKnown_0 (by omega) (fun hb1 => ?_) (fun hb1 => ?_)
  · refine b_CityReader_isKnown_36 ?_
    refine b_CityReader_isKnown_41 (by omega) ?_
    exact k _ (by omega)
  · refine b_CityReader_isKnown_6 (by omega) (fun hb2 => ?_) (fun hb2 => ?_)
    · refine b_CityReader_isKnown_36 ?_
      refine b_CityReader_isKnown_41 (by omega) ?_
      exact k _ (by omega)
    · refine b_CityReader_isKnown_12 (by omega) (fun hb3 => ?_) (fun hb3 => ?_)
      · refine b_CityReader_isKnown_36 ?_
        refine b_CityReader_isKnown_41 (by omega) ?_
        exact k _ (by omega)
      · refine b_CityReader_isKnown_18 (by omega) (fun hb4 => ?_) (fun hb4 => ?_)
        · refine b_CityReader_isKnown_36 ?_
          refine b_CityReader_isKnown_41 (by omega) ?_
          exact k _ (by omega)
        · refine b_CityReader_isKnown_24 (by omega) (fun hb5 => ?_) (fun hb5 => ?_)
          · refine b_CityReader_isKnown_36 ?_
            refine b_CityReader_isKnown_41 (by omega) ?_
            exact k _ (by omega)
          · refine b_CityReader_isKnown_30 (by omega) (fun hb6 => ?_) (fun hb6 => ?_)
            · refine b_CityReader_isKnown_40 ?_
              refine b_CityReader_isKnown_41 (by omega) ?_
              exact k _ (by omega)
            · refine b_CityReader_isKnown_36 ?_
              refine b_CityReader_isKnown_41 (by omega) ?_
              exact k _ (by omega)
/-- the reader's own cell, its text -/
def crT (J : jm_I) (f : Nat → Int) (n : Nat) : Prop := J 42 0 = ((43 : Nat) : Int) ∧ J 42 1 = (n : Int) ∧ n ≤ 200 ∧ ∀ k : Nat, k < 200 → J 43 k = f k ∧ 0 ≤ f k ∧ f k ≤ 255
theorem c_CityReader_nextToken (hT : crT J f n) (h3 : J 42 3 = (q : Int)) (hq : q ≤ n) (k : ∀ J' : jm_I, (∀ a, a ≠ 42 → J' a = J a) → (∀ j, j ≠ 3 → j ≠ 4 → j ≠ 5 → j ≠ 6 → J' 42 j = J 42 j) → J' 42 3 = (tkE f n q : Int) → J' 42 4 = tkK f n q → J' 42 5 = (tkS f n q : Int) → (tkK f n q = 1 → J' 42 6 = tkV f n q) → K none J') : Cx (jx_0 L) (d + 1) md_CityReader_nextToken [.inr (.inl 42)] J K := by
  obtain ⟨t0, t1, tn, tt⟩ := hT
  obtain ⟨s1, s2, s3, s4⟩ := sk_s (f := f) (n := n) (n - q) q rfl
  obtain ⟨d1, d2, d3, d4⟩ := dg_s (f := f) (n := n) (n - skF f n q) (skF f n q) rfl
  have hs := s4 hq
  have hd := d4 hs
  have hk : ∀ J' : jm_I, (∀ a, a ≠ 42 → J' a = J a) → (∀ j, j ≠ 3 → j ≠ 4 → j ≠ 5 → j ≠ 6 → J' 42 j = J 42 j) → J' 42 3 = (tkE f n q : Int) → J' 42 4 = tkK f n q → J' 42 5 = (tkS f n q : Int) → (tkK f n q = 1 → J' 42 6 = tkV f n q) → K none J' := k
  unfold tkE tkK tkV tkS tkD at hk
  generalize hse : skF f n q = s at *
  generalize hde : dgF f n s = e at *
  refine (show Gx (jx_0 L) (d + 1) md_CityReader_nextToken 0 [some (.inr (.inl 42)), none, none] [] J K from ?_)
  -- blanks
  refine lp_up (σ := jm_I) (Inv := fun x J1 => (q : Int) ≤ x ∧ (∀ a, a ≠ 42 → J1 a = J a) ∧ (∀ j, j ≠ 3 → J1 42 j = J 42 j) ∧ J1 42 3 = x) (G := fun x J1 => Gx (jx_0 L) (d + 1) md_CityReader_nextToken 0 [some (.inr (.inl 42)), none, none] [] J1 K) (s : Int) ?_ ?_ (q : Int) J (by omega) ⟨by omega, fun a _ => rfl, fun j _ => rfl, h3⟩
  · intro x J1 hx hi ih
    obtain ⟨h0, o, oj, e3⟩ := hi
    obtain ⟨x, rfl⟩ : ∃ z : Nat, x = z := ⟨x.toNat, by omega⟩
    obtain ⟨z1, z2⟩ := s2 x (by omega) (by omega)
    have e1 : J1 42 1 = (n : Int) := by rw [oj 1 (by decide)]; exact t1
    have e0 : J1 42 0 = ((43 : Nat) : Int) := by rw [oj 0 (by decide)]; exact t0
    have e43 : J1 43 x = 32 := by rw [o 43 (by decide), (tt x (by omega)).1]; exact z2
    refine b_CityReader_nextToken_0 (by rw [e1, e3]; omega) (fun h => by rw [e1, e3] at h; omega) (fun _ => ?_)
    refine b_CityReader_nextToken_11 e0 (by rw [e3, Int.toNat_natCast, e43]; omega) (fun h => by rw [e3, Int.toNat_natCast, e43] at h; exact absurd rfl h) (fun _ => ?_)
    refine b_CityReader_nextToken_25 ?_
    refine ih _ ⟨by omega, fun a ha => by rw [jm_up_o ha, o a ha], fun j hj => by rw [up_k hj, oj j hj], by rw [up_s, e3]⟩
  · intro J1 hi
    obtain ⟨h0, o, oj, e3⟩ := hi
    have e1 : J1 42 1 = (n : Int) := by rw [oj 1 (by decide)]; exact t1
    have e0 : J1 42 0 = ((43 : Nat) : Int) := by rw [oj 0 (by decide)]; exact t0
    have at38 : Gx (jx_0 L) (d + 1) md_CityReader_nextToken 38 [some (.inr (.inl 42)), none, none] [] J1 K := by
      refine b_CityReader_nextToken_38 ?_
      refine lp_up (σ := jm_I) (Inv := fun x J2 => (s : Int) ≤ x ∧ (∀ a, a ≠ 42 → J2 a = J a) ∧ (∀ j, j ≠ 3 → j ≠ 5 → j ≠ 6 → J2 42 j = J 42 j) ∧ J2 42 3 = x ∧ J2 42 5 = (s : Int) ∧ J2 42 6 = vaF f s (x.toNat - s)) (G := fun x J2 => Gx (jx_0 L) (d + 1) md_CityReader_nextToken 51 [some (.inr (.inl 42)), none, none] [] J2 K) (e : Int) ?_ ?_ (s : Int) _ (by omega) ⟨by omega, fun a ha => by rw [jm_up_o ha, jm_up_o ha, o a ha], fun j j1 j2 j3 => by rw [up_k j3, up_k j2, oj j j1], by rw [up_k (by decide), up_k (by decide)]; exact e3, by rw [up_k (by decide), up_s]; exact e3, by rw [up_s, Int.toNat_natCast, Nat.sub_self]; rfl⟩
      · intro x J2 hx hi ih
        obtain ⟨h0, o, oj, e3, e5, e6⟩ := hi
        obtain ⟨x, rfl⟩ : ∃ z : Nat, x = z := ⟨x.toNat, by omega⟩
        rw [Int.toNat_natCast] at e6
        obtain ⟨z1, z2, z3⟩ := d2 x (by omega) (by omega)
        have e1 : J2 42 1 = (n : Int) := by rw [oj 1 (by decide) (by decide) (by decide)]; exact t1
        have e0 : J2 42 0 = ((43 : Nat) : Int) := by rw [oj 0 (by decide) (by decide) (by decide)]; exact t0
        have e43 : J2 43 x = f x := by rw [o 43 (by decide)]; exact (tt x (by omega)).1
        refine b_CityReader_nextToken_51 (by rw [e1, e3]; omega) (fun h => by rw [e1, e3] at h; omega) (fun _ => ?_)
        refine b_CityReader_nextToken_62 e0 (by rw [e3]; omega) ?_
        rw [e3, Int.toNat_natCast, e43]
        refine c_CityReader_isDigit (by omega) (fun v hv => ?_)
        refine b_CityReader_nextToken_74 (by omega) (fun h => by omega) (fun _ => ?_)
        refine b_CityReader_nextToken_77 e0 (by rw [e3]; omega) ?_
        refine ih _ ⟨by omega, fun a ha => by rw [jm_up_o ha, jm_up_o ha, o a ha], fun j j1 j2 j3 => by rw [up_k j1, up_k j3, oj j j1 j2 j3], by rw [up_s, e3], by rw [up_k (by decide), up_k (by decide)]; exact e5, ?_⟩
        rw [up_k (by decide), up_s, e3, Int.toNat_natCast, e43, e6, show ((x : Int) + 1).toNat - s = (x - s) + 1 by omega]
        simp only [vaF]
        rw [show s + (x - s) = x by omega]
      · intro J2 hi
        obtain ⟨h0, o, oj, e3, e5, e6⟩ := hi
        rw [Int.toNat_natCast] at e6
        have e1 : J2 42 1 = (n : Int) := by rw [oj 1 (by decide) (by decide) (by decide)]; exact t1
        have e0 : J2 42 0 = ((43 : Nat) : Int) := by rw [oj 0 (by decide) (by decide) (by decide)]; exact t0
        have at114 : Gx (jx_0 L) (d + 1) md_CityReader_nextToken 114 [some (.inr (.inl 42)), none, none] [] J2 K := by
          refine b_CityReader_nextToken_114 (by rw [e3, e5]; omega) (fun h => ?_) (fun h => ?_)
          · rw [e3, e5] at h
            have hes : ¬ s < e := by omega
            have hee : e = s := by omega
            refine b_CityReader_nextToken_174 (by rw [e3, e1]; omega) (fun h => ?_) (fun h => ?_)
            · rw [e3, e1] at h
              have hsn : s < n := by omega
              have hts := (tt s (by omega)).2
              have e43 : J2 43 s = f s := by rw [o 43 (by decide)]; exact (tt s (by omega)).1
              refine b_CityReader_nextToken_193 e0 (by rw [e3]; omega) ?_
              rw [e3, hee, Int.toNat_natCast, e43]
              refine c_CityReader_isKnown (by omega) (fun v hv => ?_)
              have fin : ∀ z : Int, z = (if knB (f s) = true then f s else 2) → ∀ o1 : Option jm_V, Gx (jx_0 L) (d + 1) md_CityReader_nextToken 222 [some (.inr (.inl 42)), o1, none] [.inl z, .inr (.inl 42)] J2 K := by
                intro z hz o1
                refine b_CityReader_nextToken_222 ?_
                refine b_CityReader_nextToken_235 (hk _ (fun a ha => by rw [jm_up_o ha, jm_up_o ha, o a ha]) (fun j j1 j2 j3 j4 => by rw [up_k j1, up_k j2, oj j j1 j3 j4]) ?_ ?_ ?_ (fun hq => ?_))
                · rw [up_s, e3, if_neg hes, if_pos hsn]; omega
                · rw [up_k (by decide), up_s, if_neg hes, if_pos hsn]; exact hz
                · rw [up_k (by decide), up_k (by decide)]; exact e5
                · rw [if_neg hes, if_pos hsn] at hq
                  exfalso
                  by_cases hkn : knB (f s) = true
                  · rw [if_pos hkn] at hq
                    unfold knB at hkn
                    simp only [decide_eq_true_eq] at hkn
                    omega
                  · rw [if_neg hkn] at hq; omega
              refine b_CityReader_nextToken_206 (by rcases hv with ⟨z, -⟩ | ⟨z, -⟩ <;> omega) (fun h' => ?_) (fun h' => ?_)
              · refine b_CityReader_nextToken_221 ?_
                refine fin 2 ?_ _
                rw [if_neg]
                unfold knB
                simp only [decide_eq_true_eq]
                rcases hv with ⟨z, -⟩ | ⟨-, z⟩
                · omega
                · exact z
              · refine b_CityReader_nextToken_209 e0 (by rw [e3]; omega) ?_
                rw [e3, hee, Int.toNat_natCast, e43]
                refine fin _ ?_ _
                rw [if_pos]
                unfold knB
                simp only [decide_eq_true_eq]
                rcases hv with ⟨-, z⟩ | ⟨z, -⟩
                · exact z
                · exact absurd z h'
            · rw [e3, e1] at h
              have hsn : ¬ s < n := by omega
              refine b_CityReader_nextToken_185 ?_
              refine b_CityReader_nextToken_235 (hk _ (fun a ha => by rw [jm_up_o ha, o a ha]) (fun j j1 j2 j3 j4 => by rw [up_k j2, oj j j1 j3 j4]) ?_ ?_ ?_ (fun hq => ?_))
              · rw [up_k (by decide), e3, if_neg hes, if_neg hsn]; omega
              · rw [up_s, if_neg hes, if_neg hsn]
              · rw [up_k (by decide)]; exact e5
              · rw [if_neg hes, if_neg hsn] at hq; omega
          · rw [e3, e5] at h ⊢
            have hes : s < e := by omega
            have hsn := (d2 s (by omega) hes).1
            have hts := (tt s (by omega)).2
            have e43 : J2 43 s = f s := by rw [o 43 (by decide)]; exact (tt s (by omega)).1
            have fin : ∀ z : Int, z = (if 2 < e - s ∨ (1 < e - s ∧ f s = 48) then 2 else 1) → ∀ o1 o2 : Option jm_V, Gx (jx_0 L) (d + 1) md_CityReader_nextToken 168 [some (.inr (.inl 42)), o1, o2] [.inl z, .inr (.inl 42)] J2 K := by
              intro z hz o1 o2
              refine b_CityReader_nextToken_168 ?_
              refine b_CityReader_nextToken_235 (hk _ (fun a ha => by rw [jm_up_o ha, o a ha]) (fun j j1 j2 j3 j4 => by rw [up_k j2, oj j j1 j3 j4]) ?_ ?_ ?_ (fun hq => ?_))
              · rw [up_k (by decide), e3, if_pos hes]
              · rw [up_s, if_pos hes]; exact hz
              · rw [up_k (by decide)]; exact e5
              · rw [up_k (by decide)]; exact e6
            have tail : ∀ w : Int, ((w = 1 ∧ 1 < e - s ∧ f s = 48) ∨ (w = 0 ∧ ¬ (1 < e - s ∧ f s = 48))) → Gx (jx_0 L) (d + 1) md_CityReader_nextToken 152 [some (.inr (.inl 42)), some (.inl ((e : Int) - (s : Int))), none] [.inl w] J2 K := by
              intro w hw
              refine b_CityReader_nextToken_152 (by omega) (fun h2 => ?_) (fun h2 => ?_)
              · refine b_CityReader_nextToken_163 ?_
                exact fin 2 (by rw [if_pos (Or.inl (by omega))]) _ _
              · refine b_CityReader_nextToken_159 (by omega) (fun h3 => ?_) (fun h3 => ?_)
                · refine b_CityReader_nextToken_167 ?_
                  exact fin 1 (by rw [if_neg (by omega)]) _ _
                · refine b_CityReader_nextToken_163 ?_
                  exact fin 2 (by rw [if_pos (Or.inr (by omega))]) _ _
            refine b_CityReader_nextToken_128 (by omega) (fun h2 => ?_) (fun h2 => ?_)
            · refine b_CityReader_nextToken_151 ?_
              exact tail 0 (Or.inr ⟨rfl, by omega⟩)
            · refine b_CityReader_nextToken_133 e0 (by rw [e5, Int.toNat_natCast, e43]; omega) (fun h3 => ?_) (fun h3 => ?_)
              · rw [e5, Int.toNat_natCast, e43] at h3
                refine b_CityReader_nextToken_151 ?_
                exact tail 0 (Or.inr ⟨rfl, by omega⟩)
              · rw [e5, Int.toNat_natCast, e43] at h3
                refine b_CityReader_nextToken_147 ?_
                exact tail 1 (Or.inl ⟨rfl, by omega, h3⟩)
        refine b_CityReader_nextToken_51 (by rw [e1, e3]; omega) (fun _ => at114) (fun h => ?_)
        rw [e1, e3] at h
        have hte := (tt e (by omega))
        have e43 : J2 43 e = f e := by rw [o 43 (by decide)]; exact hte.1
        refine b_CityReader_nextToken_62 e0 (by rw [e3]; omega) ?_
        rw [e3, Int.toNat_natCast, e43]
        refine c_CityReader_isDigit (by omega) (fun v hv => ?_)
        refine b_CityReader_nextToken_74 (by omega) (fun _ => at114) (fun h' => ?_)
        exfalso
        apply d3
        omega
    refine b_CityReader_nextToken_0 (by rw [e1, e3]; omega) (fun _ => at38) (fun h => ?_)
    rw [e1, e3] at h
    have hte := (tt s (by omega))
    have e43 : J1 43 s = f s := by rw [o 43 (by decide)]; exact hte.1
    refine b_CityReader_nextToken_11 e0 (by rw [e3, Int.toNat_natCast, e43]; omega) (fun _ => at38) (fun h' => ?_)
    rw [e3, Int.toNat_natCast, e43] at h'
    exact absurd ⟨by omega, h'⟩ s3
end LEX
