/-! ===== guard ===== -/
theorem lp_up4 {σ τ υ φ : Type} (Inv : Int → σ → τ → υ → φ → Prop) (G : Int → σ → τ → υ → φ → Prop) (N : Int) (step : ∀ x s t u w, x < N → Inv x s t u w → (∀ s' t' u' w', Inv (x + 1) s' t' u' w' → G (x + 1) s' t' u' w') → G x s t u w) (done : ∀ s t u w, Inv N s t u w → G N s t u w) : ∀ x s t u w, x ≤ N → Inv x s t u w → G x s t u w :=
  fun x s t u w h hi => lp_up (σ := σ × τ × υ × φ) (fun x p => Inv x p.1 p.2.1 p.2.2.1 p.2.2.2) (fun x p => G x p.1 p.2.1 p.2.2.1 p.2.2.2) N (fun x p hx hp ih => step x p.1 p.2.1 p.2.2.1 p.2.2.2 hx hp (fun s' t' u' w' h => ih (s', t', u', w') h)) (fun p hp => done p.1 p.2.1 p.2.2.1 p.2.2.2 hp) x (s, t, u, w) h hi
def rsF (I : jm_I) : Int := jb_and (jb_shl 1 (I 167 4) - 1) (jb_xor (I 171 16) (-1))
/-- somebody who may press carries the thing there with these doors shut -/
def crP (I : jm_I) (t r s : Int) : Prop := ∃ p : Nat, (p : Int) < I 167 4 ∧ jb_has (rsF I) p ∧ ∃ n m : Nat, wk (adjM I s) n (I 171 (1 + p)).toNat (I 171 (17 + t).toNat).toNat ∧ wk (adjM I s) m (I 171 (17 + t).toNat).toNat r.toNat ∧ ((n + m : Nat) : Int) ≤ I 167 3
theorem crP_k {I J : jm_I} (h1 : J 167 = I 167) (h2 : J 168 = I 168) (h3 : J 171 = I 171) (t r s : Int) : crP J t r s ↔ crP I t r s := by
  unfold crP rsF adjM
  rw [h1, h2, h3]
theorem isD_le {A : Nat → Nat → Prop} {F w1 w2 S : Int} {a b c : Nat} (hF : 100 ≤ F) (hS : S ≤ 20) (h1 : isD A F a b w1) (h2 : isD A F b c w2) : w1 + w2 ≤ S ↔ ∃ n m : Nat, wk A n a b ∧ wk A m b c ∧ ((n + m : Nat) : Int) ≤ S := by
  constructor
  · intro h
    rcases h1 with ⟨n, e1, n6, q1, -⟩ | ⟨e1, -⟩
    · rcases h2 with ⟨m, e2, m6, q2, -⟩ | ⟨e2, -⟩
      · exact ⟨n, m, q1, q2, by omega⟩
      · omega
    · rcases h2 with ⟨m, e2, m6, q2, -⟩ | ⟨e2, -⟩ <;> omega
  · intro ⟨n, m, q1, q2, h⟩
    rcases h1 with ⟨n', e1, n6, -, l1⟩ | ⟨-, l1⟩
    · rcases h2 with ⟨m', e2, m6, -, l2⟩ | ⟨-, l2⟩
      · have := l1 n q1
        have := l2 m q2
        omega
      · exact absurd q2 (l2 m)
    · exact absurd q1 (l1 n)
theorem adjC_M {I : jm_I} {c : Nat} (h : xCity I c) (s : Int) (q r : Nat) : adjC I c s q r ↔ adjM I s q r := by
  obtain ⟨⟨-, -, c2, -⟩, cd, -⟩ := h
  unfold adjC adjM adj
  rw [c2]
  constructor
  · intro ⟨e, h1, h2⟩
    obtain ⟨d1, d2, d3⟩ := cd e h1
    rw [d1, d2, d3] at h2
    exact ⟨e, h1, h2⟩
  · intro ⟨e, h1, h2⟩
    obtain ⟨d1, d2, d3⟩ := cd e h1
    refine ⟨e, h1, ?_⟩
    rw [d1, d2, d3]
    exact h2
section GUARD
variable {L d : Nat} {I : jm_I} {K : Option jm_V → jm_I → Prop} {x0 x1 x2 x3 x4 : Int} {c e : Nat}
theorem c_X_anybodyCarries (hm : mOk I) (hx : xRel I c e) (ht : 0 ≤ x1 ∧ x1 < I 167 5) (hr2 : 0 ≤ x2 ∧ x2 < I 167 0) (k : ∀ g v, (v = 1 ∧ crP I x1 x2 x3) ∨ (v = 0 ∧ ¬ crP I x1 x2 x3) → K (some (.inl v)) (st_ I 156 g)) : Cx (jx_0 L) (d + 3) md_X_anybodyCarries [.inr (.inl 1), .inl x1, .inl x2, .inl x3] I K := by
  obtain ⟨h1, h2, h3, hci, -, hmo, -⟩ := hx
  obtain ⟨hc, -⟩ := ct_of (L := L) h1
  have hcl : 2 ≤ c ∧ c ≤ 22 := by rcases h1 with ⟨rfl, -⟩ | ⟨rfl, -⟩ <;> decide
  have hr := hm.1
  unfold mRng at hr
  obtain ⟨c0, c1, c2, c3, c4⟩ := hci.1
  obtain ⟨n1, n2, n3⟩ := nw_sp hm ht.1 ht.2
  have hsp := mo_sp hmo ht.1 ht.2
  have hco : coOk I c := by
    refine ⟨by omega, fun e he => ?_⟩
    obtain ⟨d1, d2, d3⟩ := hci.2.1 e (by omega)
    have := hm.2.1 e (by omega)
    rw [d1, d2, d3]
    omega
  refine b_X_anybodyCarries_0 h2 hc (c_X_roomOfThing hc h2 (tc_of hm hci ht.1 ht.2) (by rw [hsp]; exact n1) ?_)
  rw [hsp, n2]
  obtain ⟨T, hT⟩ : ∃ T : Nat, I 171 (17 + x1).toNat = T := ⟨(I 171 (17 + x1).toNat).toNat, by omega⟩
  rw [hT]
  refine b_X_anybodyCarries_9 hc (c_City_measureFrom hc rfl hco (by omega) (by omega) (fun g hg => ?_))
  have kk := k g
  have oth : ∀ a, a ≠ 156 → st_ I 156 g a = I a := fun a ha => st_a ha
  have e44 := oth 44 (by decide)
  have e45 := oth 45 (by decide)
  have ec := oth c (by omega)
  have hcg : st_ I 156 g 1 0 = (c : Int) := by rw [oth 1 (by decide)]; exact h2
  have hgr : ∀ s, s < 6 → 0 ≤ g s ∧ g s ≤ 1000 := fun s hs => by
    rcases hg s hs with ⟨n, hn, hn6, -⟩ | ⟨hn, -⟩ <;> omega
  refine b_X_anybodyCarries_17 hcg hc ?_
  refine b_Moment_rested_0 jx_m44 hc ?_
  have hrs : jb_and (jb_shl 1 (st_ I 156 g c 3) - 1) (jb_xor (st_ I 156 g 44 1) (-1)) = rsF I := by
    rw [ec, e44, c3, show I 44 1 = I 171 16 from hmo.2.1]
    rfl
  rw [hrs]
  refine b_X_anybodyCarries_28 ?_
  have hD : ∀ p : Nat, (p : Int) < I 167 4 → (g (I 171 (1 + p)).toNat + g x2.toNat ≤ I 167 3 ↔ ∃ n m : Nat, wk (adjM I x3) n (I 171 (1 + p)).toNat (I 171 (17 + x1).toNat).toNat ∧ wk (adjM I x3) m (I 171 (17 + x1).toNat).toNat x2.toNat ∧ ((n + m : Nat) : Int) ≤ I 167 3) := fun p hp => by
    have hrm := (hm.2.2.2.1.2.2.1 p hp).1
    have a1 := isD_congr (adjC_M hci x3) (hg (I 171 (1 + p)).toNat (by omega))
    have a2 := isD_congr (adjC_M hci x3) (hg x2.toNat (by omega))
    rw [show T = (I 171 (17 + x1).toNat).toNat by omega] at a1 a2
    exact isD_le (by decide) (by omega) (isD_sym (fun q s hq => adj_sym q s hq) a1) a2
  refine lp_up (σ := Unit) (Inv := fun x _ => 0 ≤ x ∧ ∀ p : Nat, (p : Int) < x → ¬ (jb_has (rsF I) p ∧ g (I 171 (1 + p)).toNat + g x2.toNat ≤ I 167 3)) (G := fun x _ => Gx (jx_0 L) (d + 3) md_X_anybodyCarries 33 [some (.inr (.inl 1)), some (.inl x1), some (.inl x2), some (.inl x3), some (.inl (rsF I)), some (.inl x)] [] (st_ I 156 g) K) (I 167 4) ?_ ?_ 0 () (by omega) ⟨by omega, fun p h => by omega⟩
  · intro x _ hx hi ih
    obtain ⟨h0, hi⟩ := hi
    obtain ⟨p, rfl⟩ : ∃ p : Nat, x = p := ⟨x.toNat, by omega⟩
    obtain ⟨⟨p1, -, -⟩, p4, -⟩ := mo_pe hm hmo (p := (p : Int)) h0 hx
    rw [show (1 + (p : Int)).toNat = 1 + p by omega, Int.toNat_natCast] at p1
    rw [show (1 + (p : Int)).toNat = 1 + p by omega] at p4
    have ha := jb_and1 (jb_shr (rsF I) p)
    have next : ¬ (jb_has (rsF I) p ∧ g (I 171 (1 + p)).toNat + g x2.toNat ≤ I 167 3) → Gx (jx_0 L) (d + 3) md_X_anybodyCarries 89 [some (.inr (.inl 1)), some (.inl x1), some (.inl x2), some (.inl x3), some (.inl (rsF I)), some (.inl (p : Int))] [] (st_ I 156 g) K := by
      intro hno
      refine b_X_anybodyCarries_89 ?_
      refine ih () ⟨by omega, fun p' hp' => ?_⟩
      by_cases ep : p' = p
      · subst ep; exact hno
      · exact hi p' (by omega)
    refine b_X_anybodyCarries_33 hcg hc (by rw [ec]; omega) (fun h => by rw [ec] at h; omega) (fun h => ?_)
    refine b_X_anybodyCarries_45 (by omega) (fun h => ?_) (fun h => ?_)
    · exact next (fun hq => by have := hq.1; unfold jb_has at this; omega)
    · have g1 := hgr (I 171 (1 + p)).toNat (by omega)
      have g2 := hgr x2.toNat (by omega)
      have s45 : st_ I 156 g 45 (p : Int).toNat = I 171 (1 + p) := by rw [e45, Int.toNat_natCast, p1]
      have s1 : st_ I 156 g 156 (st_ I 156 g 45 (p : Int).toNat).toNat + st_ I 156 g 156 x2.toNat = g (I 171 (1 + p)).toNat + g x2.toNat := by rw [s45, st_s, st_s]
      refine b_X_anybodyCarries_55 hcg hc (by rw [s1, s45, ec]; omega) (fun h' => ?_) (fun h' => ?_)
      · rw [s1, ec, c1] at h'
        exact next (fun hq => by have := hq.2; omega)
      · rw [s1, ec, c1] at h'
        refine b_X_anybodyCarries_87 (kk 1 (Or.inl ⟨rfl, p, hx, ?_, (hD p hx).1 (by omega)⟩))
        unfold jb_has
        omega
  · intro _ hi
    obtain ⟨-, hi⟩ := hi
    refine b_X_anybodyCarries_33 hcg hc (by rw [ec]; omega) (fun h => ?_) (fun h => by rw [ec] at h; omega)
    refine b_X_anybodyCarries_95 (kk 0 (Or.inr ⟨rfl, fun ⟨p, hp, hq, hw⟩ => hi p hp ⟨hq, (hD p hp).2 hw⟩⟩))
end GUARD
