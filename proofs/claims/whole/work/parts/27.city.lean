/-! ===== the class: a city's distances ===== -/
def adjC (I : jm_I) (c : Nat) (shut : Int) : Nat → Nat → Prop := adj (I c 2) (I (c + 1)) (I (c + 2)) (I (c + 3)) shut
theorem jb_and1 (x : Int) : jb_and x 1 = 0 ∨ jb_and x 1 = 1 := by
  obtain ⟨j, h1, h2⟩ := pk_andE (Int32.ofInt x) (m := Int32.ofInt 1) 1 (by decide)
  unfold jb_and
  rw [h2]
  rcases (show j = 0 ∨ j = 1 by omega) with rfl | rfl <;> decide
def coOk (I : jm_I) (c : Nat) : Prop := (0 ≤ I c 2 ∧ I c 2 ≤ 8) ∧ ∀ e : Nat, (e : Int) < I c 2 → (0 ≤ I (c + 1) e ∧ I (c + 1) e < 6) ∧ (0 ≤ I (c + 2) e ∧ I (c + 2) e < 6) ∧ (I (c + 3) e = 0 ∨ I (c + 3) e = 1)
theorem adjC_in {I : jm_I} {c : Nat} {shut : Int} (h : coOk I c) (q r : Nat) (ha : adjC I c shut q r) : q < 6 ∧ r < 6 := by
  obtain ⟨e, h1, -, -, h4⟩ := ha
  obtain ⟨d1, d2, d3⟩ := h.2 e h1
  rcases h4 with ⟨p1, p2⟩ | ⟨p1, p2⟩ <;> omega
theorem lp_up2 {σ τ : Type} (Inv : Int → σ → τ → Prop) (G : Int → σ → τ → Prop) (N : Int) (step : ∀ x s t, x < N → Inv x s t → (∀ s' t', Inv (x + 1) s' t' → G (x + 1) s' t') → G x s t) (done : ∀ s t, Inv N s t → G N s t) : ∀ x s t, x ≤ N → Inv x s t → G x s t :=
  fun x s t h hi => lp_up (σ := σ × τ) (fun x p => Inv x p.1 p.2) (fun x p => G x p.1 p.2) N (fun x p hx hp ih => step x p.1 p.2 hx hp (fun s' t' h => ih (s', t') h)) (fun p hp => done p.1 p.2 hp) x (s, t) h hi
theorem lp_up3 {σ τ υ : Type} (Inv : Int → σ → τ → υ → Prop) (G : Int → σ → τ → υ → Prop) (N : Int) (step : ∀ x s t u, x < N → Inv x s t u → (∀ s' t' u', Inv (x + 1) s' t' u' → G (x + 1) s' t' u') → G x s t u) (done : ∀ s t u, Inv N s t u → G N s t u) : ∀ x s t u, x ≤ N → Inv x s t u → G x s t u :=
  fun x s t u h hi => lp_up (σ := σ × τ × υ) (fun x p => Inv x p.1 p.2.1 p.2.2) (fun x p => G x p.1 p.2.1 p.2.2) N (fun x p hx hp ih => step x p.1 p.2.1 p.2.2 hx hp (fun s' t' u' h => ih (s', t', u') h)) (fun p hp => done p.1 p.2.1 p.2.2 hp) x (s, t, u) h hi
section CCITY
variable {P : jm_P} {d : Nat} {I : jm_I} {K : Option jm_V → jm_I → Prop} {x0 x1 x2 x3 : Int} {c a n : Nat}
theorem c_Arrays_fill (ha : P.2.1 a = (20, n)) (hn : n < 100000) (k : ∀ g : Nat → Int, (∀ q, q < n → g q = x1) → K none (st_ I a g)) : Cx P d md_Arrays_fill [.inr (.inl a), .inl x1] I K := by
  refine b_Arrays_fill_0 ha ?_
  refine lp_up (σ := Nat → Int) (Inv := fun x g => 0 ≤ x ∧ ∀ q : Nat, (q : Int) < x → g q = x1) (G := fun x g => Gx P d md_Arrays_fill 5 [some (.inr (.inl a)), some (.inl x1), some (.inl x), some (.inl (n : Int))] [] (st_ I a g) K) n ?_ ?_ 0 (I a) (by omega) ⟨by omega, fun q h => by omega⟩ |> fun h => by rw [st_id] at h; exact h
  · intro x g hx hg ih
    obtain ⟨q, rfl⟩ : ∃ q : Nat, x = q := ⟨x.toNat, by omega⟩
    refine b_Arrays_fill_5 (by omega) (fun h => by omega) (fun h => ?_)
    refine b_Arrays_fill_10 ha (by omega) ?_
    rw [st_up]
    refine ih _ ⟨by omega, fun p hp => ?_⟩
    simp only [Int.toNat_natCast]
    by_cases e : p = q
    · rw [if_pos e]
    · rw [if_neg e]; exact hg.2 p (by omega)
  · intro g hg
    refine b_Arrays_fill_5 (by omega) (fun h => ?_) (fun h => by omega)
    refine b_Arrays_fill_20 ?_
    exact k g (fun q hq => hg.2 q (by omega))
/-- one door brings nearer, or not -/
def brN (f f' : Nat → Int) (p q : Nat) (v : Int) : Prop := (v = 1 ∧ f p + 1 < f q ∧ ∀ k, f' k = if k = q then f p + 1 else f k) ∨ (v = 1 ∧ f q + 1 < f p ∧ ∀ k, f' k = if k = p then f q + 1 else f k) ∨ (v = 0 ∧ f q ≤ f p + 1 ∧ f p ≤ f q + 1 ∧ ∀ k, f' k = f k)
theorem c_City_bringsNearer {f : Nat → Int} {e p q : Nat} (hc : jx_City P c) (ha : P.2.1 a = (20, 6)) (he : e < 8) (h1 : st_ I a f (c + 1) e = p) (h2 : st_ I a f (c + 2) e = q) (hp : p < 6) (hq : q < 6) (hf : ∀ k, k < 6 → 0 ≤ f k ∧ f k ≤ 1000) (k : ∀ v f', brN f f' p q v → K (some (.inl v)) (st_ I a f')) : Cx P d md_City_bringsNearer [.inr (.inl c), .inl (e : Int), .inr (.inl a)] (st_ I a f) K := by
  have b1 := hf p hp
  have b2 := hf q hq
  have ne : (e : Int).toNat = e := Int.toNat_natCast e
  have np : (p : Int).toNat = p := Int.toNat_natCast p
  have nq : (q : Int).toNat = q := Int.toNat_natCast q
  refine b_City_bringsNearer_0 hc ha (by rw [ne, h1, h2, np, nq, st_s, st_s]; omega) (fun h => ?_) (fun h => ?_)
  · rw [ne, h1, h2, np, nq, st_s, st_s] at h
    rw [ne, h1, h2]
    refine b_City_bringsNearer_38 ha (by rw [np, nq, st_s, st_s]; omega) (fun h3 => ?_) (fun h3 => ?_)
    · rw [np, nq, st_s, st_s] at h3
      refine b_City_bringsNearer_61 ?_
      exact k 0 f (Or.inr (Or.inr ⟨rfl, h, h3, fun _ => rfl⟩))
    · rw [np, nq, st_s, st_s] at h3
      refine b_City_bringsNearer_50 ha (by omega) ?_
      rw [st_up, np, nq, st_s]
      exact k 1 _ (Or.inr (Or.inl ⟨rfl, by omega, fun _ => rfl⟩))
  · rw [ne, h1, h2, np, nq, st_s, st_s] at h
    rw [ne, h1, h2]
    refine b_City_bringsNearer_27 ha (by omega) ?_
    rw [st_up, np, nq, st_s]
    exact k 1 _ (Or.inl ⟨rfl, by omega, fun _ => rfl⟩)
/-- a row on the way: lengths of walks, or 1000 -/
def rowS (A : Nat → Nat → Prop) (r : Nat) (f : Nat → Int) : Prop := f r = 0 ∧ ∀ s, s < 6 → (0 ≤ f s ∧ f s ≤ 1000) ∧ (f s = 1000 ∨ ∃ n : Nat, f s = n ∧ wk A n r s)
theorem rowS_set {A : Nat → Nat → Prop} {r p q : Nat} {f f' : Nat → Int} (h : rowS A r f) (hp : p < 6) (hq : q < 6) (hA : A p q) (hlt : f p + 1 < f q) (hf : ∀ k, f' k = if k = q then f p + 1 else f k) : rowS A r f' := by
  obtain ⟨h0, hs⟩ := h
  have hbp := (hs p hp).1
  have hbq := (hs q hq).1
  refine ⟨?_, fun s hs6 => ?_⟩
  · rw [hf, if_neg (fun e => by subst e; omega)]
    exact h0
  · rw [hf]
    by_cases e : s = q
    · subst e
      rw [if_pos rfl]
      refine ⟨by omega, Or.inr ?_⟩
      rcases (hs p hp).2 with e1 | ⟨n, e1, e2⟩
      · omega
      · exact ⟨n + 1, by omega, p, e2, hA⟩
    · rw [if_neg e]
      exact hs s hs6
theorem closed_le {A : Nat → Nat → Prop} {r : Nat} {f : Nat → Int} (hA : ∀ q s, A q s → q < 6 ∧ s < 6) (h0 : f r = 0) (hc : ∀ q s, A q s → f s ≤ f q + 1) : ∀ {n s : Nat}, wk A n r s → f s ≤ n
  | 0, s, h => by
    have h : r = s := h
    subst h
    omega
  | n + 1, s, ⟨q, h, ha⟩ => by
    have := closed_le hA h0 hc h
    have := hc q s ha
    omega
theorem c_City_measureFrom {r : Nat} (hc : jx_City P c) (ha : P.2.1 a = (20, 6)) (hco : coOk I c) (hr : r < 6) (hac : a ≠ c ∧ a ≠ c + 1 ∧ a ≠ c + 2 ∧ a ≠ c + 3) (k : ∀ g : Nat → Int, (∀ s, s < 6 → isD (adjC I c x2) 1000 r s (g s)) → K none (st_ I a g)) : Cx P (d + 1) md_City_measureFrom [.inr (.inl c), .inl (r : Int), .inl x2, .inr (.inl a)] I K := by
  have e2 : ∀ f, st_ I a f c 2 = I c 2 := fun f => by rw [st_a (Ne.symm hac.1)]
  have e11 : ∀ f, st_ I a f (c + 1) = I (c + 1) := fun f => st_a (Ne.symm hac.2.1)
  have e12 : ∀ f, st_ I a f (c + 2) = I (c + 2) := fun f => st_a (Ne.symm hac.2.2.1)
  have e13 : ∀ f, st_ I a f (c + 3) = I (c + 3) := fun f => st_a (Ne.symm hac.2.2.2)
  have hA : ∀ q s, adjC I c x2 q s → q < 6 ∧ s < 6 := adjC_in hco
  refine b_City_measureFrom_0 hc ha (c_Arrays_fill ha (by omega) (fun g hg => ?_))
  refine b_City_measureFrom_7 ha (by omega) ?_
  rw [st_up, Int.toNat_natCast]
  have fin : ∀ f : Nat → Int, rowS (adjC I c x2) r f → (∀ n s, s < 6 → wk (adjC I c x2) n r s → f s ≤ n) → K none (st_ I a f) := by
    intro f hf hl
    refine k f (fun s hs => isD_of hA (by omega) hr ?_ (fun n hn => hl n s hs hn))
    rcases (hf.2 s hs).2 with e | e
    · exact Or.inr e
    · exact Or.inl e
  have hst : ∀ (f : Nat → Int) (ch : Int), (ch = 0 ∨ ch = 1) → rowS (adjC I c x2) r f → (∀ n s, n ≤ 6 → s < 6 → wk (adjC I c x2) n r s → f s ≤ n) → K none (st_ I a f) := by
    intro f ch _ hf hl
    refine fin f hf (fun n s hs hw => ?_)
    obtain ⟨j, hj, hwj⟩ := wk_short hA hr hw
    by_cases hn : n ≤ 6
    · exact hl n s hn hs hw
    · have := hl j s (by omega) hs hwj
      omega
  refine lp_up2 (σ := Int) (τ := Nat → Int) (Inv := fun x ch f => 0 ≤ x ∧ (ch = 0 ∨ ch = 1) ∧ rowS (adjC I c x2) r f ∧ (∀ (n q : Nat), (n : Int) ≤ x → q < 6 → wk (adjC I c x2) n r q → f q ≤ n) ∧ (ch = 0 → ∀ p q, adjC I c x2 p q → f q ≤ f p + 1))
    (G := fun x ch f => ∀ (o6 : Option jm_V), Gx P (d + 1) md_City_measureFrom 17 [some (.inr (.inl c)), some (.inl (r : Int)), some (.inl x2), some (.inr (.inl a)), some (.inl ch), some (.inl x), o6] [] (st_ I a f) K) 6 ?_ ?_ 0 1 _ (by omega) ⟨by omega, Or.inr rfl, ⟨if_pos rfl, fun s hs => ?_⟩, fun n q hn hq hw => ?_, fun h => by simp at h⟩ none
  · intro x ch f hx hi ih o6
    obtain ⟨h0, hch, hrow, hlev, hcl⟩ := hi
    refine b_City_measureFrom_17 (by omega) (fun h => by omega) (fun h => ?_)
    refine b_City_measureFrom_24 (by omega) (fun h => ?_) (fun h => ?_)
    · refine b_City_measureFrom_88 ?_
      exact fin f hrow (fun n s hs hw => closed_le hA hrow.1 (hcl h) hw)
    · refine b_City_measureFrom_29 ?_
      refine lp_up2 (σ := Int) (τ := Nat → Int) (Inv := fun y ch g => 0 ≤ y ∧ (ch = 0 ∨ ch = 1) ∧ rowS (adjC I c x2) r g ∧ (∀ q, q < 6 → g q ≤ f q) ∧ (∀ p q, adj y (I (c + 1)) (I (c + 2)) (I (c + 3)) x2 p q → g q ≤ f p + 1) ∧ (ch = 0 → ∀ q, g q = f q))
        (G := fun y ch g => Gx P (d + 1) md_City_measureFrom 35 [some (.inr (.inl c)), some (.inl (r : Int)), some (.inl x2), some (.inr (.inl a)), some (.inl ch), some (.inl x), some (.inl y)] [] (st_ I a g) K) (I c 2) ?_ ?_ 0 0 f (by have := hco.1; omega) ⟨by omega, Or.inl rfl, hrow, fun q hq => Int.le_refl _, fun p q ⟨e, he, _⟩ => by omega, fun _ q => rfl⟩
      · intro y ch2 g hy hi ih2
        obtain ⟨g0, gch, grow, gle, gad, gun⟩ := hi
        obtain ⟨e, rfl⟩ : ∃ e : Nat, y = e := ⟨y.toNat, by omega⟩
        have hb := hco.1
        obtain ⟨d1, d2, d3⟩ := hco.2 e hy
        have ne : (e : Int).toNat = e := Int.toNat_natCast e
        have hand := jb_and1 (jb_shr x2 (e : Int))
        have skip : ¬ (I (c + 3) e = 0 ∧ ¬ jb_has x2 e) → Gx P (d + 1) md_City_measureFrom 76 [some (.inr (.inl c)), some (.inl (r : Int)), some (.inl x2), some (.inr (.inl a)), some (.inl ch2), some (.inl x), some (.inl (e : Int))] [] (st_ I a g) K := by
          intro hno
          refine b_City_measureFrom_76 ?_
          refine ih2 ch2 g ⟨by omega, gch, grow, gle, fun p q hpq => ?_, gun⟩
          rcases adj_next.mp hpq with h | h
          · exact gad p q h
          · exact absurd ⟨h.1, h.2.1⟩ hno
        refine b_City_measureFrom_35 hc (by rw [e2]; omega) (fun h => by rw [e2] at h; omega) (fun h => ?_)
        refine b_City_measureFrom_44 hc (by rw [e13, ne]; omega) (fun h => ?_) (fun h => ?_)
        · rw [e13, ne] at h
          exact skip (fun q => h q.1)
        · rw [e13, ne] at h
          refine b_City_measureFrom_54 (by omega) (fun h2 => ?_) (fun h2 => ?_)
          · exact skip (fun q => q.2 (by unfold jb_has; omega))
          · have hnh : ¬ jb_has x2 e := by unfold jb_has; omega
            obtain ⟨p, hp⟩ : ∃ p : Nat, I (c + 1) e = p := ⟨(I (c + 1) e).toNat, by omega⟩
            obtain ⟨q, hq⟩ : ∃ q : Nat, I (c + 2) e = q := ⟨(I (c + 2) e).toNat, by omega⟩
            have hpq : adjC I c x2 p q := ⟨e, hy, h, hnh, Or.inl ⟨hp, hq⟩⟩
            have hqp : adjC I c x2 q p := ⟨e, hy, h, hnh, Or.inr ⟨hp, hq⟩⟩
            refine b_City_measureFrom_63 hc ha (c_City_bringsNearer hc ha (by omega) (by rw [e11]; exact hp) (by rw [e12]; exact hq) (by omega) (by omega) (fun k hk => (grow.2 k hk).1) (fun v g' hbr => ?_))
            have hp6 : p < 6 := by omega
            have hq6 : q < 6 := by omega
            have glp := gle p hp6
            have glq := gle q hq6
            have nxt : ∀ ch3 : Int, (ch3 = 0 ∨ ch3 = 1) → (ch3 = 0 → v = 0 ∧ ch2 = 0) → Gx P (d + 1) md_City_measureFrom 76 [some (.inr (.inl c)), some (.inl (r : Int)), some (.inl x2), some (.inr (.inl a)), some (.inl ch3), some (.inl x), some (.inl (e : Int))] [] (st_ I a g') K := by
              intro ch3 h3 h4
              have hmon : ∀ s, s < 6 → g' s ≤ g s := by
                intro s hs
                rcases hbr with ⟨b1, b2, b3⟩ | ⟨b1, b2, b3⟩ | ⟨b1, b2, b3, b4⟩
                · rw [b3]; split
                  · rename_i h; subst h; omega
                  · exact Int.le_refl _
                · rw [b3]; split
                  · rename_i h; subst h; omega
                  · exact Int.le_refl _
                · rw [b4]; exact Int.le_refl _
              refine b_City_measureFrom_76 ?_
              refine ih2 ch3 g' ⟨by omega, h3, ?_, fun s hs => by have := hmon s hs; have := gle s hs; omega, fun p' q' hpq' => ?_, fun h5 s => ?_⟩
              · rcases hbr with ⟨b1, b2, b3⟩ | ⟨b1, b2, b3⟩ | ⟨b1, b2, b3, b4⟩
                · exact rowS_set grow hp6 hq6 hpq b2 b3
                · exact rowS_set grow hq6 hp6 hqp b2 b3
                · rw [show g' = g from funext b4]; exact grow
              · rcases adj_next.mp hpq' with h6 | ⟨-, -, h6⟩
                · have h7 := gad p' q' h6
                  have h8 : q' < 6 := by
                    obtain ⟨e', a1, a2, a3, a4⟩ := h6
                    exact (hA p' q' ⟨e', by omega, a2, a3, a4⟩).2
                  have := hmon q' h8
                  omega
                · rw [hp, hq] at h6
                  rcases h6 with ⟨a1, a2⟩ | ⟨a1, a2⟩
                  · have a1 : p = p' := by omega
                    have a2 : q = q' := by omega
                    subst a1; subst a2
                    rcases hbr with ⟨b1, b2, b3⟩ | ⟨b1, b2, b3⟩ | ⟨b1, b2, b3, b4⟩
                    · rw [b3, if_pos rfl]; omega
                    · rw [b3]; split <;> omega
                    · rw [b4]; omega
                  · have a1 : p = q' := by omega
                    have a2 : q = p' := by omega
                    subst a1; subst a2
                    rcases hbr with ⟨b1, b2, b3⟩ | ⟨b1, b2, b3⟩ | ⟨b1, b2, b3, b4⟩
                    · rw [b3]; split <;> omega
                    · rw [b3, if_pos rfl]; omega
                    · rw [b4]; omega
              · obtain ⟨h6, h7⟩ := h4 h5
                rcases hbr with ⟨b1, b2, b3⟩ | ⟨b1, b2, b3⟩ | ⟨b1, b2, b3, b4⟩
                · omega
                · omega
                · rw [b4]; exact gun h7 s
            have hv01 : v = 0 ∨ v = 1 := by
              rcases hbr with ⟨b1, b2, b3⟩ | ⟨b1, b2, b3⟩ | ⟨b1, b2, b3, b4⟩ <;> omega
            refine b_City_measureFrom_70 (by omega) (fun h3 => ?_) (fun h3 => ?_)
            · exact nxt ch2 gch (fun q => ⟨h3, q⟩)
            · refine b_City_measureFrom_73 ?_
              exact nxt 1 (Or.inr rfl) (fun q => by omega)
      · intro ch2 g hi
        obtain ⟨g0, gch, grow, gle, gad, gun⟩ := hi
        refine b_City_measureFrom_35 hc (by rw [e2]; have := hco.1; omega) (fun h => ?_) (fun h => by rw [e2] at h; omega)
        refine b_City_measureFrom_82 ?_
        refine ih ch2 g ⟨by omega, gch, grow, fun n q hn hq hw => ?_, fun h p q hpq => ?_⟩ _
        · cases n with
          | zero =>
            have := hlev 0 q (by omega) hq hw
            have := gle q hq
            omega
          | succ n =>
            obtain ⟨p, hw, hap⟩ := hw
            have h1 := hlev n p (by omega) (hA p q hap).1 hw
            have h2 := gad p q hap
            omega
        · have h2 := gad p q hpq
          have h3 := gun h p
          omega
  · intro ch f hi o6
    obtain ⟨h0, hch, hrow, hlev, hcl⟩ := hi
    refine b_City_measureFrom_17 (by omega) (fun h => ?_) (fun h => by omega)
    refine b_City_measureFrom_88 ?_
    exact hst f ch hch hrow (fun n s hn hs hw => hlev n s (by omega) hs hw)
  · by_cases e : s = r
    · rw [if_pos e]
      exact ⟨by omega, Or.inr ⟨0, rfl, e.symm⟩⟩
    · rw [if_neg e, hg s hs]
      exact ⟨by omega, Or.inl rfl⟩
  · have e : n = 0 := by omega
    subst e
    have hw : r = q := hw
    subst hw
    simp
end CCITY
