/-! ===== presses, both sides ===== -/
theorem orF_more {f : Nat → Bool} {m : Nat} : ∀ {n : Nat}, m ≤ n → (∀ k, m ≤ k → k < n → f k = false) → orF f n = orF f m
  | 0, h, _ => by rw [show m = 0 by omega]
  | n + 1, h, hf => by
    by_cases e : m = n + 1
    · rw [e]
    · simp only [orF]
      rw [hf n (by omega) (by omega), if_neg (by simp)]
      exact orF_more (by omega) (fun k h1 h2 => hf k h1 (by omega))
section PRESSES
variable {L d : Nat} {I J : jm_I} {K : Option jm_V → jm_I → Prop} {x0 x1 x2 x3 x4 t : Int} {c e : Nat}
theorem c_M_presses (hm : mOk I) (hz : (-2147483648 ≤ x1 ∧ x1 < 2147483648) ∧ (-2147483648 ≤ x2 ∧ x2 < 2147483648) ∧ (-2147483648 ≤ x3 ∧ x3 < 2147483648) ∧ (-2147483648 ≤ x4 ∧ x4 < 2147483648)) (k0 : ¬ prOk I x1 x2 x3 x4 → K (some (.inl (-1))) I) (k : prOk I x1 x2 x3 x4 → ∀ (g : Nat → Int) (A : jm_I) (v : Int), pmC (st_ I 182 g) A → ((x4 = 0 ∧ mnP (fun s => subP I s ∧ rcP (st_ I 182 g) x1 x2 x3.toNat s) v) ∨ (x4 = 1 ∧ ∃ w : Nat → Bool, v = orF w (I 167 4).toNat ∧ ∀ p : Nat, (p : Int) < I 167 4 → (w p = true ↔ jb_has (rsF I) p ∧ (rcP (st_ I 182 g) x1 x2 x3.toNat 0 ∨ rcP (st_ I 182 g) x1 x2 x3.toNat (2 ^ p))))) → K (some (.inl v)) A) : Cx (jx_0 L) (d + 5) md_M_presses [.inr (.inl 167), .inl x1, .inl x2, .inl x3, .inl x4] I K := by
  have hr := hm.1
  unfold mRng at hr
  unfold prOk at k0 k
  refine b_M_presses_0 (c_M_isThing (by omega) (fun v1 hv1 => ?_))
  refine b_M_presses_5 (by omega) (fun hb2 => ?_) (fun hb2 => ?_)
  · refine b_M_presses_36 ?_
    exact k0 (by omega)
  · refine b_M_presses_8 (c_M_isRoom (by omega) (fun v3 hv3 => ?_))
    refine b_M_presses_13 (by omega) (fun hb4 => ?_) (fun hb4 => ?_)
    · refine b_M_presses_36 ?_
      exact k0 (by omega)
    · refine b_M_presses_16 (c_M_in (by omega) (fun v5 hv5 => ?_))
      refine b_M_presses_23 (by omega) (fun hb6 => ?_) (fun hb6 => ?_)
      · refine b_M_presses_36 ?_
        exact k0 (by omega)
      · refine b_M_presses_26 (c_M_in (by omega) (fun v7 hv7 => ?_))
        refine b_M_presses_33 (by omega) (fun hb8 => ?_) (fun hb8 => ?_)
        · have hk := k (by omega)
          obtain ⟨N, rfl⟩ : ∃ N : Nat, x3 = N := ⟨x3.toNat, by omega⟩
          rw [Int.toNat_natCast] at hk
          refine b_M_presses_38 (c_M_findFar (by omega) hm.2.1 (fun g hg => ?_))
          have hk := hk g
          have o : ∀ a, a ≠ 182 → st_ I 182 g a = I a := fun a ha => st_a ha
          have mk : mKeep I (st_ I 182 g) := ⟨fun k _ => by rw [o 167 (by decide)], fun a a1 a2 => o a (by omega)⟩
          have hmB := mOk_keep mk hm
          have hgB : farOk (st_ I 182 g) := fun i j hi hj => by
            rw [st_s, adjM_keep mk]
            exact hg i j hi hj
          have hpB : pmC (st_ I 182 g) (st_ I 182 g) := ⟨fun _ _ _ _ => rfl, fun _ _ => rfl⟩
          have e167 := o 167 (by decide)
          have e171 := o 171 (by decide)
          have hrsB : ∀ A : jm_I, pmC (st_ I 182 g) A → jb_and (jb_shl 1 (A 167 4) - 1) (jb_xor (A 171 16) (-1)) = rsF I := fun A hA => by
            rw [hA.2 4 (by decide), hA.1 171 (by decide) (by decide) (by decide), e167, e171]
            rfl
          refine b_M_presses_43 (by omega) (fun h => ?_) (fun h => ?_)
          · refine b_M_presses_60 ?_
            refine lp_up3 (σ := jm_I) (τ := Nat → Bool) (υ := Option jm_V) (Inv := fun x A w _ => 0 ≤ x ∧ pmC (st_ I 182 g) A ∧ ∀ p : Nat, (p : Int) < x → (w p = true ↔ jb_has (rsF I) p ∧ (rcP (st_ I 182 g) x1 x2 N 0 ∨ rcP (st_ I 182 g) x1 x2 N (2 ^ p)))) (G := fun x A w o7 => Gx (jx_0 L) (d + 5) md_M_presses 66 [some (.inr (.inl 167)), some (.inl x1), some (.inl x2), some (.inl (N : Int)), some (.inl x4), some (.inl (orF w x.toNat)), some (.inl x), o7] [] A K) (I 167 4) ?_ ?_ 0 _ (fun _ => false) none (by omega) ⟨by omega, hpB, fun p hp => by omega⟩
            · intro x A w o7 hx hi ih
              obtain ⟨h0, hA, hi⟩ := hi
              obtain ⟨p, rfl⟩ : ∃ p : Nat, x = p := ⟨x.toNat, by omega⟩
              have e4 : A 167 4 = I 167 4 := by rw [hA.2 4 (by decide), e167]
              rw [Int.toNat_natCast]
              have hor := orF_r w p
              have next : ∀ (b : Bool) (A' : jm_I), pmC (st_ I 182 g) A' → (b = true ↔ jb_has (rsF I) p ∧ (rcP (st_ I 182 g) x1 x2 N 0 ∨ rcP (st_ I 182 g) x1 x2 N (2 ^ p))) → ∀ o7, Gx (jx_0 L) (d + 5) md_M_presses 108 [some (.inr (.inl 167)), some (.inl x1), some (.inl x2), some (.inl (N : Int)), some (.inl x4), some (.inl (orF w p)), some (.inl (p : Int)), o7] [.inl (if b = true then 1 else 0)] A' K := by
                intro b A' hA' hb o7
                have eo : jb_or (orF w p) (if b = true then jb_shl 1 p else 0) = orF (fun q => if q = p then b else w q) ((p : Int) + 1).toNat := by
                  rw [show ((p : Int) + 1).toNat = p + 1 by omega]
                  simp only [orF, if_true]
                  rw [orF_congr (f := fun q => if q = p then b else w q) (g := w) (n := p) (fun q hq => if_neg (by omega))]
                  by_cases hb : b = true
                  · rw [if_pos hb, if_pos hb]
                  · rw [if_neg hb, if_neg hb, jb_or0 hor]
                have go : ∀ o7, Gx (jx_0 L) (d + 5) md_M_presses 125 [some (.inr (.inl 167)), some (.inl x1), some (.inl x2), some (.inl (N : Int)), some (.inl x4), some (.inl (orF w p)), some (.inl (p : Int)), o7] [.inl (if b = true then jb_shl 1 p else 0), .inl (orF w p)] A' K := by
                  intro o7
                  refine b_M_presses_125 ?_
                  rw [eo]
                  refine ih _ (fun q => if q = p then b else w q) _ ⟨by omega, hA', fun p' hp' => ?_⟩
                  by_cases ep : p' = p
                  · rw [ep]; simp only [if_true]; exact hb
                  · simp only [if_neg ep]; exact hi p' (by omega)
                by_cases hbt : b = true
                · rw [if_pos hbt]
                  refine b_M_presses_108 (by omega) (fun h => by omega) (fun _ => ?_)
                  refine b_M_presses_117 ?_
                  have := go (some (.inl 1))
                  rw [if_pos hbt] at this
                  exact this
                · rw [if_neg hbt]
                  refine b_M_presses_108 (by omega) (fun _ => ?_) (fun h => by omega)
                  refine b_M_presses_124 ?_
                  have := go (some (.inl 0))
                  rw [if_neg hbt] at this
                  exact this
              refine b_M_presses_66 (by rw [e4]; omega) (fun h => by rw [e4] at h; omega) (fun _ => ?_)
              refine b_M_presses_75 (b_M_mayPress_0 ?_)
              rw [hrsB A hA]
              refine b_M_presses_79 (c_M_has (fun v hv => ?_))
              refine b_M_presses_84 (by rcases hv with ⟨q, -⟩ | ⟨q, -⟩ <;> omega) (fun h' => ?_) (fun h' => ?_)
              · refine b_M_presses_107 ?_
                refine next false A hA ⟨fun q => by simp at q, fun q => ?_⟩ _
                rcases hv with ⟨u, -⟩ | ⟨-, u⟩
                · omega
                · exact absurd q.1 u
              · have hhas : jb_has (rsF I) p := by
                  rcases hv with ⟨-, q⟩ | ⟨q, -⟩
                  · exact q
                  · exact absurd q h'
                have hsh : jb_shl 1 (p : Int) = ((2 ^ p : Nat) : Int) := jb_shl1 ⟨p, by omega⟩
                have hp2 : 2 ^ p < 32 := Nat.pow_lt_pow_right (n := 5) (by decide) (by omega)
                refine b_M_presses_87 (c_M_fewest (I := st_ I 182 g) (who := fun q => q = p) hmB hA hgB (by rw [e167]; omega) (by omega) (by omega) (fun q hq => ?_) (fun A' v hA' hv' => ?_))
                · have hb := jn_bit (a := 2 ^ p) (h := q) (by omega) (by omega)
                  rw [hsh]
                  unfold jb_has
                  rw [Nat.testBit_two_pow] at hb
                  rcases hb with ⟨u1, u2⟩ | ⟨u1, u2⟩
                  · exact ⟨fun _ => (decide_eq_true_iff.1 u2).symm, fun _ => u1⟩
                  · exact ⟨fun q => by omega, fun q => absurd q.symm (decide_eq_false_iff_not.1 u2)⟩
                · have hvr := mn_r hv'
                  refine b_M_presses_98 (by omega) (fun h9 => ?_) (fun h9 => ?_)
                  · refine b_M_presses_107 ?_
                    refine next false A' hA' ⟨fun q => by simp at q, fun q => ?_⟩ _
                    exfalso
                    rcases hv' with ⟨-, u⟩ | ⟨s, u1, u2, u3, u4⟩
                    · rcases q.2 with q | q
                      · exact u 0 (by decide) ⟨fun z hz => by rw [Nat.zero_testBit] at hz; simp at hz, q⟩
                      · refine u (2 ^ p) hp2 ⟨fun z hz => ?_, q⟩
                        rw [Nat.testBit_two_pow, decide_eq_true_iff] at hz
                        exact hz.symm
                    · have : 0 ≤ bcF (s : Int) ∧ bcF (s : Int) ≤ 5 := pbc_tab ⟨s, u1⟩
                      omega
                  · refine b_M_presses_103 ?_
                    refine next true A' hA' ⟨fun _ => ⟨hhas, ?_⟩, fun _ => rfl⟩ _
                    rcases hv' with ⟨u, -⟩ | ⟨s, u1, ⟨u2, u3⟩, -, -⟩
                    · exact absurd u h9
                    · by_cases hb : s.testBit p = true
                      · right
                        have : s = 2 ^ p := by
                          apply Nat.eq_of_testBit_eq
                          intro z
                          rw [Nat.testBit_two_pow]
                          by_cases ez : p = z
                          · rw [← ez, hb]; simp
                          · rw [decide_eq_false ez]
                            cases hsz : s.testBit z
                            · rfl
                            · exact absurd (u2 z hsz).symm ez
                        rw [← this]; exact u3
                      · left
                        have : s = 0 := by
                          apply Nat.eq_of_testBit_eq
                          intro z
                          rw [Nat.zero_testBit]
                          cases hsz : s.testBit z
                          · rfl
                          · exact absurd (by rw [u2 z hsz] at hsz; exact hsz) hb
                        rw [← this]; exact u3
            · intro A w o7 hi
              obtain ⟨-, hA, hi⟩ := hi
              have e4 : A 167 4 = I 167 4 := by rw [hA.2 4 (by decide), e167]
              refine b_M_presses_66 (by rw [e4]; omega) (fun _ => ?_) (fun h => by rw [e4] at h; omega)
              exact b_M_presses_134 (hk A _ hA (Or.inr ⟨by omega, w, rfl, hi⟩))
          · refine b_M_presses_48 (b_M_mayPress_0 ?_)
            rw [hrsB _ hpB]
            refine b_M_presses_56 (c_M_fewest (I := st_ I 182 g) (who := fun p => jb_has (rsF I) p) hmB hpB hgB (by rw [e167]; omega) (by omega) (by omega) (fun q hq => Iff.rfl) (fun A' v hA' hv' => ?_))
            exact b_M_presses_59 (hk A' v hA' (Or.inl ⟨h, hv'⟩))
        · refine b_M_presses_36 ?_
          exact k0 (by omega)
theorem rcP_k {I J : jm_I} (h1 : J 167 = I 167) (h2 : J 168 = I 168) (h3 : J 169 = I 169) (h4 : J 170 = I 170) (h5 : J 171 = I 171) : rcP J = rcP I := by
  have e1 : cyP J = cyP I := by
    funext t h p r
    unfold cyP adjM roF
    rw [h1, h2, h4, h5]
  have e2 : puF J = puF I := by funext t r; exact puF_k h3 h4 t r
  have e3 : nwF J = nwF I := by funext t; exact nwF_k h5 t
  have e4 : laF J = laF I := by funext t s n; exact laF_k h3 t s n
  have e5 : roF J = roF I := by funext t r; exact roF_k h4 t r
  have e6 : pxS J = pxS I := by
    funext t who V s h
    unfold pxS pxP
    rw [e1, e2, h1]
  have e7 : ∀ (t : Int) (who : Nat → Prop) (n : Nat), pxW J t who n = pxW I t who n := by
    intro t who n
    induction n with
    | zero =>
      show pxS J t who _ = pxS I t who _
      rw [e6, e3]
    | succ n ih =>
      show pxS J t who _ = pxS I t who _
      rw [e6, e4, ih]
  funext t room n s
  unfold rcP
  rw [e5]
  simp only [e7]
theorem g_presses (h : Rel I) (hz : (-2147483648 ≤ x1 ∧ x1 < 2147483648) ∧ (-2147483648 ≤ x2 ∧ x2 < 2147483648) ∧ (-2147483648 ≤ x3 ∧ x3 < 2147483648) ∧ (-2147483648 ≤ x4 ∧ x4 < 2147483648)) : Two L d md_X_presses md_M_presses [.inl x1, .inl x2, .inl x3, .inl x4] I := by
  obtain ⟨hm, c, e, hx⟩ := id h
  have hr := hm.1
  unfold mRng at hr
  refine c_X_presses hm hx hz (fun q => ?_) (fun q J v o hv => ?_)
  · exact ⟨_, rfl, c_M_presses hm hz (fun _ => ⟨rfl, h, rfl⟩) (fun p => absurd p q)⟩
  · have mk : mKeep I J := ⟨fun k _ => by rw [o 167 (by omega)], fun a a1 a2 => o a (by omega)⟩
    have hmJ := mOk_keep mk hm
    have e167 := o 167 (by omega)
    have epr : prOk J x1 x2 x3 x4 ↔ prOk I x1 x2 x3 x4 := by unfold prOk; rw [e167]
    refine ⟨_, rfl, c_M_presses hmJ hz (fun p => absurd (epr.2 q) p) (fun _ g A v' hA hv' => ⟨?_, ?_⟩)⟩
    · have oB : ∀ a, a ≠ 182 → (a < 107 ∨ 147 < a) → st_ J 182 g a = I a := fun a a1 a2 => by rw [st_a a1, o a a2]
      have hrc : rcP (st_ J 182 g) = rcP I := rcP_k (oB _ (by decide) (by omega)) (oB _ (by decide) (by omega)) (oB _ (by decide) (by omega)) (oB _ (by decide) (by omega)) (oB _ (by decide) (by omega))
      have hrsJ : rsF J = rsF I := by unfold rsF; rw [e167, o 171 (by omega)]
      have hsb : ∀ s, subP J s ↔ subP I s := fun s => by unfold subP; rw [hrsJ]
      rw [hrc, hrsJ, e167] at hv'
      refine congrArg (fun z => some (Sum.inl z)) ?_
      rcases hv with ⟨w1, w2⟩ | ⟨w1, w2⟩
      · rcases hv' with ⟨-, u2⟩ | ⟨u1, -⟩
        · exact (mn_eq (fun s _ => by rw [hsb]) w2 u2).symm
        · omega
      · rcases hv' with ⟨u1, -⟩ | ⟨-, w', u2, u3⟩
        · omega
        · rw [u2]
          rcases w2 with ⟨z1, z2⟩ | ⟨z1, w, z2, z3⟩
          · rw [z2, ← (rs_of hm).2.2]
            refine orF_congr (fun p hp => ?_)
            have := u3 p (by omega)
            by_cases hh : jb_has (rsF I) p
            · rw [this.2 ⟨hh, Or.inl z1⟩]
              exact (decide_eq_true (show jb_and (jb_shr (rsF I) (p : Int)) 1 = 1 from hh)).symm
            · have e1 : w' p = false := by
                cases hw : w' p
                · rfl
                · exact absurd (this.1 hw).1 hh
              rw [e1]
              exact (decide_eq_false (show ¬ jb_and (jb_shr (rsF I) (p : Int)) 1 = 1 from hh)).symm
          · rw [z2, orF_more (f := w) (m := (I 167 4).toNat) (n := 5) (by omega) (fun k k1 k2 => ?_)]
            · refine orF_congr (fun p hp => ?_)
              have a1 := u3 p (by omega)
              have a2 := z3 p (by omega)
              have a3 : w' p = true ↔ w p = true := by
                rw [a1, a2]
                exact ⟨fun q => ⟨q.1, q.2.resolve_left z1⟩, fun q => ⟨q.1, Or.inr q.2⟩⟩
              cases hwp : w p <;> cases hwp' : w' p <;> simp_all
            · cases hw : w k
              · rfl
              · have := (rs_of hm).2.1 k k2 ((z3 k k2).1 hw).1
                omega
    · refine rel_scr h (fun a a0 a1 a2 => ?_) (fun k hk => ?_)
      · rw [hA.1 a a1 (by omega) (by omega), st_a (by omega), o a (by omega)]
      · rw [hA.2 k (by omega), st_a (by decide), e167]
end PRESSES
