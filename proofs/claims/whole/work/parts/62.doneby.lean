/-! ===== doneBy, both sides ===== -/
theorem slR_c {I J : jm_I} {c : Nat} {t : Int} {T : Nat} {f g : Nat → Int} (hn : 2 ≤ I c 0 ∧ I c 0 ≤ 6) (hT : (T : Int) < I c 0) (o : ∀ a, a ≤ 176 → (a < 107 ∨ 156 < a) → J a = I a) (hcl : c ≤ 22) (h : slR J c t T f g) : slR I c t T f g := by
  obtain ⟨b, h1, h2, h3⟩ := h
  have so : ∀ how, soP J t how ↔ soP I t how := soP_k (o _ (by decide) (by decide)) (o _ (by decide) (by decide)) (o _ (by decide) (by decide)) (o _ (by decide) (by decide)) t
  have ec := o c (by omega) (by omega)
  have e48 := o 48 (by decide) (by decide)
  refine ⟨b, fun q hq => ?_, fun q hq => ?_, fun q q1 q2 => h3 q (by rw [ec]; exact q1) q2⟩
  · have := h1 q hq
    rw [so, e48] at this
    exact this
  · have := h2 q (by rw [ec]; exact hq)
    have em : mlF (fun x y => J (c + 14 + x) y) f T q (J c 0).toNat = mlF (fun x y => I (c + 14 + x) y) f T q (I c 0).toNat := by
      rw [ec]
      refine mlF_congr ?_ (fun i hi => ⟨rfl, ?_⟩)
      · show J (c + 14 + T) q = _
        rw [o (c + 14 + T) (by omega) (by omega)]
      · show J (c + 14 + i) T = _
        rw [o (c + 14 + i) (by omega) (by omega)]
    rw [so, em, puF_k (o _ (by decide) (by decide)) (o _ (by decide) (by decide))] at this
    exact this
theorem slN_c {I J : jm_I} {c : Nat} {p : Int} (hm : mOk I) (hci : I c 0 = I 167 0) (hcl : 2 ≤ c ∧ c ≤ 22) (o : ∀ a, a ≤ 176 → (a < 107 ∨ 156 < a) → J a = I a) : ∀ (n : Nat) (f : Nat → Int), (n : Int) ≤ I 167 5 → slN J c p n f → slN I c p n f
  | 0, f, _, h => by
    intro q hq
    have := h q hq
    rw [o 171 (by decide) (by decide), o 167 (by decide) (by decide)] at this
    exact this
  | n + 1, f, hn, ⟨f0, h1, h2⟩ => by
    have hr := hm.1
    unfold mRng at hr
    refine ⟨f0, slN_c hm hci hcl o n f0 (by omega) h1, ?_⟩
    rw [fdP_k (o 167 (by decide) (by decide)) (o 175 (by decide) (by decide)), o 171 (by decide) (by decide)] at h2
    rcases h2 with ⟨a, b⟩ | h2
    · have n3 := (nw_sp hm (t := (n : Int)) (by omega) (by omega)).2.2
      rw [show (17 + (n : Int)).toNat = 17 + n by omega] at n3
      exact Or.inl ⟨a, slR_c (by omega) (by omega) o hcl.2 b⟩
    · exact Or.inr h2
theorem fcN_k {I J : jm_I} {p : Int} (o : ∀ a, a ≠ 185 → a ≠ 186 → J a = I a) : ∀ (n : Nat) (f : Nat → Int), fcN J p n f → fcN I p n f
  | 0, f, h => by
    intro q hq
    have := h q hq
    rw [o 171 (by decide) (by decide)] at this
    exact this
  | n + 1, f, ⟨f0, h1, h2⟩ => by
    refine ⟨f0, fcN_k o n f0 h1, ?_⟩
    rw [fdP_k (o 167 (by decide) (by decide)) (o 175 (by decide) (by decide))] at h2
    rcases h2 with ⟨a, b⟩ | h2
    · exact Or.inl ⟨a, fcR_k o b⟩
    · exact Or.inr h2
section DONEBY
variable {L d : Nat} {I : jm_I} {K : Option jm_V → jm_I → Prop} {x0 x1 x2 x3 x4 : Int} {c e : Nat}
theorem c_X_doneBy (hm : mOk I) (hx : xRel I c e) (k : ∀ (J : jm_I) (w : Nat → Bool), (∀ a, a ≠ 149 → a ≠ 150 → J a = I a) → (∀ p : Nat, (p : Int) < I 167 4 → (¬ jb_has (rsF I) p ∧ w p = false) ∨ (jb_has (rsF I) p ∧ ∃ f, slN I c p (I 167 5).toNat f ∧ (w p = true ↔ ∃ r : Nat, (r : Int) < I 167 0 ∧ ¬ f r = -1))) → K (some (.inl (orF w (I 167 4).toNat))) J) : Cx (jx_0 L) (d + 6) md_X_doneBy [.inr (.inl 1)] I K := by
  have hx0 := hx
  obtain ⟨h1, h2, h3, hci, -, hmo, -⟩ := hx
  obtain ⟨hc, -⟩ := ct_of (L := L) h1
  have hcl : 2 ≤ c ∧ c ≤ 22 := by rcases h1 with ⟨rfl, -⟩ | ⟨rfl, -⟩ <;> decide
  have hr := hm.1
  unfold mRng at hr
  obtain ⟨c0, c1, c2, c3, c4⟩ := hci.1
  refine b_X_doneBy_0 h2 hc ?_
  refine b_Moment_rested_0 jx_m44 hc ?_
  have hrs : jb_and (jb_shl 1 (I c 3) - 1) (jb_xor (I 44 1) (-1)) = rsF I := by
    rw [c3, show I 44 1 = I 171 16 from hmo.2.1]
    rfl
  rw [hrs]
  refine b_X_doneBy_11 ?_
  refine lp_up2 (σ := jm_I) (τ := Nat → Bool) (Inv := fun x J w => 0 ≤ x ∧ (∀ a, a ≠ 149 → a ≠ 150 → J a = I a) ∧ ∀ p : Nat, (p : Int) < x → (¬ jb_has (rsF I) p ∧ w p = false) ∨ (jb_has (rsF I) p ∧ ∃ f, slN I c p (I 167 5).toNat f ∧ (w p = true ↔ ∃ r : Nat, (r : Int) < I 167 0 ∧ ¬ f r = -1))) (G := fun x J w => Gx (jx_0 L) (d + 6) md_X_doneBy 16 [some (.inr (.inl 1)), some (.inl (rsF I)), some (.inl (orF w x.toNat)), some (.inl x)] [] J K) (I 167 4) ?_ ?_ 0 I (fun _ => false) (by omega) ⟨by omega, fun a _ _ => rfl, fun p hp => by omega⟩
  · intro x J w hx hi ih
    obtain ⟨h0, o, hi⟩ := hi
    obtain ⟨p, rfl⟩ : ∃ p : Nat, x = p := ⟨x.toNat, by omega⟩
    have ec := o c (by omega) (by omega)
    have e167 := o 167 (by decide) (by decide)
    have mk : mKeep I J := ⟨fun k _ => by rw [e167], fun a a1 a2 => o a (by omega) (by omega)⟩
    have hmJ := mOk_keep mk hm
    have hxJ : xRel J c e := xRel_keep mk ⟨o 1 (by decide) (by decide), fun a a1 a2 => o a (by omega) (by omega), fun a a1 a2 => o a (by omega) (by omega), fun a a1 a2 => o a (by omega) (by omega)⟩ hm.1 hx0
    have h2J : J 1 0 = (c : Int) := by rw [o 1 (by decide) (by decide)]; exact h2
    have ha := jb_and1 (jb_shr (rsF I) p)
    rw [Int.toNat_natCast]
    have next : ∀ (b : Bool) (J' : jm_I), (∀ a, a ≠ 149 → a ≠ 150 → J' a = I a) → ((¬ jb_has (rsF I) p ∧ b = false) ∨ (jb_has (rsF I) p ∧ ∃ f, slN I c p (I 167 5).toNat f ∧ (b = true ↔ ∃ r : Nat, (r : Int) < I 167 0 ∧ ¬ f r = -1))) → Gx (jx_0 L) (d + 6) md_X_doneBy 64 [some (.inr (.inl 1)), some (.inl (rsF I)), some (.inl (if b = true then jb_or (orF w p) (jb_shl 1 p) else orF w p)), some (.inl (p : Int))] [] J' K := by
      intro b J' o' hb
      have eo : (if b = true then jb_or (orF w p) (jb_shl 1 p) else orF w p) = orF (fun q => if q = p then b else w q) ((p : Int) + 1).toNat := by
        rw [show ((p : Int) + 1).toNat = p + 1 by omega]
        simp only [orF, if_true]
        rw [orF_congr (f := fun q => if q = p then b else w q) (g := w) (n := p) (fun q hq => if_neg (by omega))]
      rw [eo]
      refine b_X_doneBy_64 ?_
      refine ih _ (fun q => if q = p then b else w q) ⟨by omega, o', fun p' hp' => ?_⟩
      by_cases ep : p' = p
      · rw [ep]; simp only [if_true]; exact hb
      · simp only [if_neg ep]; exact hi p' (by omega)
    refine b_X_doneBy_16 h2J hc (by rw [ec]; omega) (fun h => by rw [ec] at h; omega) (fun h => ?_)
    refine b_X_doneBy_27 (by omega) (fun h => ?_) (fun h => ?_)
    · exact next false J o (Or.inl ⟨fun hq => by unfold jb_has at hq; omega, rfl⟩)
    · have hhas : jb_has (rsF I) p := by unfold jb_has; omega
      refine b_X_doneBy_35 h2J hc (c_DoneSearch_couldHave hmJ hxJ (by rw [e167]; omega) (fun f g' v hf hv => ?_))
      rw [e167] at hf hv
      have hf := slN_c hm c0 hcl (fun a _ a2 => o a (by omega) (by omega)) _ f (by omega) hf
      have o' : ∀ a, a ≠ 149 → a ≠ 150 → st_ (st_ J 150 g') 149 f a = I a := fun a a1 a2 => by rw [st_a a1, st_a a2, o a a1 a2]
      refine b_X_doneBy_55 (by rcases hv with ⟨q, -⟩ | ⟨q, -⟩ <;> omega) (fun h' => ?_) (fun h' => ?_)
      · refine next false _ o' (Or.inr ⟨hhas, f, hf, ?_⟩)
        rcases hv with ⟨q, -⟩ | ⟨-, q⟩
        · omega
        · exact ⟨fun z => by simp at z, fun ⟨r, r1, r2⟩ => absurd (q r r1) r2⟩
      · refine b_X_doneBy_58 ?_
        refine next true _ o' (Or.inr ⟨hhas, f, hf, ?_⟩)
        rcases hv with ⟨-, q⟩ | ⟨q, -⟩
        · exact ⟨fun _ => q, fun _ => rfl⟩
        · exact absurd q h'
  · intro J w hi
    obtain ⟨-, o, hi⟩ := hi
    have ec := o c (by omega) (by omega)
    have h2J : J 1 0 = (c : Int) := by rw [o 1 (by decide) (by decide)]; exact h2
    refine b_X_doneBy_16 h2J hc (by rw [ec]; omega) (fun h => ?_) (fun h => by rw [ec] at h; omega)
    exact b_X_doneBy_70 (k J w o hi)
theorem c_M_doneBy (hm : mOk I) (k : ∀ (J : jm_I) (g : Nat → Int) (w : Nat → Bool), (∀ i j, i < 6 → j < 6 → isD (adjM I 0) 10000 i j (g (6 * i + j))) → (∀ a, a ≠ 182 → a ≠ 185 → a ≠ 186 → J a = I a) → (∀ p : Nat, (p : Int) < I 167 4 → (¬ jb_has (rsF I) p ∧ w p = false) ∨ (jb_has (rsF I) p ∧ ∃ f, fcN (st_ I 182 g) p (I 167 5).toNat f ∧ (w p = true ↔ ∃ r : Nat, (r : Int) < I 167 0 ∧ f r ≤ I 167 3))) → K (some (.inl (orF w (I 167 4).toNat))) J) : Cx (jx_0 L) (d + 4) md_M_doneBy [.inr (.inl 167)] I K := by
  have hr := hm.1
  unfold mRng at hr
  refine b_M_doneBy_0 (c_M_findFar (by omega) hm.2.1 (fun g hg => ?_))
  refine b_M_doneBy_5 ?_
  have o0 : ∀ a, a ≠ 182 → st_ I 182 g a = I a := fun a ha => st_a ha
  have mk0 : mKeep I (st_ I 182 g) := ⟨fun k _ => by rw [o0 167 (by decide)], fun a a1 a2 => o0 a (by omega)⟩
  have hD : ∀ i j, i < 6 → j < 6 → 0 ≤ g (6 * i + j) ∧ g (6 * i + j) ≤ 10000 := fun i j hi hj => by
    rcases hg i j hi hj with ⟨n, hn, hn6, -⟩ | ⟨hn, -⟩ <;> omega
  refine lp_up2 (σ := jm_I) (τ := Nat → Bool) (Inv := fun x J w => 0 ≤ x ∧ (∀ a, a ≠ 185 → a ≠ 186 → J a = st_ I 182 g a) ∧ ∀ p : Nat, (p : Int) < x → (¬ jb_has (rsF I) p ∧ w p = false) ∨ (jb_has (rsF I) p ∧ ∃ f, fcN (st_ I 182 g) p (I 167 5).toNat f ∧ (w p = true ↔ ∃ r : Nat, (r : Int) < I 167 0 ∧ f r ≤ I 167 3))) (G := fun x J w => Gx (jx_0 L) (d + 4) md_M_doneBy 9 [some (.inr (.inl 167)), some (.inl (orF w x.toNat)), some (.inl x)] [] J K) (I 167 4) ?_ ?_ 0 (st_ I 182 g) (fun _ => false) (by omega) ⟨by omega, fun a _ _ => rfl, fun p hp => by omega⟩
  · intro x J w hx hi ih
    obtain ⟨h0, o, hi⟩ := hi
    obtain ⟨p, rfl⟩ : ∃ p : Nat, x = p := ⟨x.toNat, by omega⟩
    have e167 : J 167 = I 167 := by rw [o 167 (by decide) (by decide), o0 167 (by decide)]
    have e171 : J 171 = I 171 := by rw [o 171 (by decide) (by decide), o0 171 (by decide)]
    have mk : mKeep I J := ⟨fun k _ => by rw [e167], fun a a1 a2 => by rw [o a (by omega) (by omega), o0 a (by omega)]⟩
    have hmJ := mOk_keep mk hm
    rw [Int.toNat_natCast]
    have hor := orF_r w p
    have next : ∀ (b : Bool) (J' : jm_I), (∀ a, a ≠ 185 → a ≠ 186 → J' a = st_ I 182 g a) → ((¬ jb_has (rsF I) p ∧ b = false) ∨ (jb_has (rsF I) p ∧ ∃ f, fcN (st_ I 182 g) p (I 167 5).toNat f ∧ (b = true ↔ ∃ r : Nat, (r : Int) < I 167 0 ∧ f r ≤ I 167 3))) → Gx (jx_0 L) (d + 4) md_M_doneBy 44 [some (.inr (.inl 167)), some (.inl (orF w p)), some (.inl (p : Int))] [.inl (if b = true then jb_shl 1 p else 0), .inl (orF w p)] J' K := by
      intro b J' o' hb
      refine b_M_doneBy_44 ?_
      have eo : jb_or (orF w p) (if b = true then jb_shl 1 p else 0) = orF (fun q => if q = p then b else w q) ((p : Int) + 1).toNat := by
        rw [show ((p : Int) + 1).toNat = p + 1 by omega]
        simp only [orF, if_true]
        rw [orF_congr (f := fun q => if q = p then b else w q) (g := w) (n := p) (fun q hq => if_neg (by omega))]
        by_cases hb : b = true
        · rw [if_pos hb, if_pos hb]
        · rw [if_neg hb, if_neg hb, jb_or0 hor]
      rw [eo]
      refine ih _ (fun q => if q = p then b else w q) ⟨by omega, o', fun p' hp' => ?_⟩
      by_cases ep : p' = p
      · rw [ep]; simp only [if_true]; exact hb
      · simp only [if_neg ep]; exact hi p' (by omega)
    refine b_M_doneBy_9 (by rw [e167]; omega) (fun h => by rw [e167] at h; omega) (fun h => ?_)
    refine b_M_doneBy_17 (b_M_mayPress_0 ?_)
    have hrs : jb_and (jb_shl 1 (J 167 4) - 1) (jb_xor (J 171 16) (-1)) = rsF I := by rw [e167, e171]; rfl
    rw [hrs]
    refine b_M_doneBy_22 (c_M_has (fun v hv => ?_))
    refine b_M_doneBy_26 (by rcases hv with ⟨q, -⟩ | ⟨q, -⟩ <;> omega) (fun h' => ?_) (fun h' => ?_)
    · refine b_M_doneBy_43 ?_
      refine next false J o (Or.inl ⟨?_, rfl⟩)
      rcases hv with ⟨q, -⟩ | ⟨-, q⟩
      · omega
      · exact q
    · have hhas : jb_has (rsF I) p := by
        rcases hv with ⟨-, q⟩ | ⟨q, -⟩
        · exact q
        · exact absurd q h'
      refine b_M_doneBy_29 (c_M_canHave hmJ (by rw [e167]; omega) (fun i j hi hj => by rw [o 182 (by decide) (by decide), st_s]; exact hD i j hi hj) (fun J' v o' hf hv => ?_))
      rw [e167] at hf hv
      have hf := fcN_k o _ _ hf
      have o'' : ∀ a, a ≠ 185 → a ≠ 186 → J' a = st_ I 182 g a := fun a a1 a2 => by rw [o' a a1 a2, o a a1 a2]
      refine b_M_doneBy_34 (by rcases hv with ⟨q, -⟩ | ⟨q, -⟩ <;> omega) (fun h' => ?_) (fun h' => ?_)
      · refine b_M_doneBy_43 ?_
        refine next false _ o'' (Or.inr ⟨hhas, _, hf, ?_⟩)
        rcases hv with ⟨q, -⟩ | ⟨-, q⟩
        · omega
        · exact ⟨fun z => by simp at z, fun ⟨r, r1, r2⟩ => absurd r2 (q r r1)⟩
      · refine b_M_doneBy_37 ?_
        refine next true _ o'' (Or.inr ⟨hhas, _, hf, ?_⟩)
        rcases hv with ⟨-, q⟩ | ⟨q, -⟩
        · exact ⟨fun _ => q, fun _ => rfl⟩
        · exact absurd q h'
  · intro J w hi
    obtain ⟨-, o, hi⟩ := hi
    have e167 : J 167 = I 167 := by rw [o 167 (by decide) (by decide), o0 167 (by decide)]
    refine b_M_doneBy_9 (by rw [e167]; omega) (fun h => ?_) (fun h => by rw [e167] at h; omega)
    exact b_M_doneBy_52 (k J g w hg (fun a a1 a2 a3 => by rw [o a a2 a3, o0 a a1]) hi)
theorem g_doneBy (h : Rel I) : Two L d md_X_doneBy md_M_doneBy [] I := by
  obtain ⟨hm, c, e, hx⟩ := id h
  have hr := hm.1
  unfold mRng at hr
  have hcl : 2 ≤ c ∧ c ≤ 22 := by rcases hx.1 with ⟨rfl, -⟩ | ⟨rfl, -⟩ <;> decide
  refine c_X_doneBy hm hx (fun J w o hw => ?_)
  have e167 := o 167 (by decide) (by decide)
  have mk : mKeep I J := ⟨fun k _ => by rw [e167], fun a a1 a2 => o a (by omega) (by omega)⟩
  have hmJ := mOk_keep mk hm
  refine ⟨_, rfl, c_M_doneBy hmJ (fun A g w' hg oA hw' => ?_)⟩
  have oI : ∀ a, a ≠ 149 → a ≠ 150 → a ≠ 182 → a ≠ 185 → a ≠ 186 → A a = I a := fun a a1 a2 a3 a4 a5 => by rw [oA a a3 a4 a5, o a a1 a2]
  refine ⟨?_, rel_scr h (fun a a0 a1 a2 => oI a (by omega) (by omega) (by omega) (by omega) (by omega)) (fun k hk => by rw [oI 167 (by decide) (by decide) (by decide) (by decide) (by decide)])⟩
  rw [e167] at hw' ⊢
  have hrsJ : rsF J = rsF I := by unfold rsF; rw [e167, o 171 (by decide) (by decide)]
  refine congrArg (fun z => some (Sum.inl z)) (orF_congr (fun p hp => ?_))
  have hpp : 0 ≤ (p : Int) ∧ (p : Int) < I 167 4 := by omega
  have hnn : ((I 167 5).toNat : Int) ≤ I 167 5 := by omega
  have hw1 := hw p (by omega)
  have hw2 := hw' p (by omega)
  rw [hrsJ] at hw2
  rcases hw1 with ⟨a1, a2⟩ | ⟨a1, f, hf, ha⟩
  · rcases hw2 with ⟨-, b2⟩ | ⟨b1, -⟩
    · rw [a2, b2]
    · exact absurd b1 a1
  · rcases hw2 with ⟨b1, -⟩ | ⟨-, g1, hg1, hb⟩
    · exact absurd a1 b1
    · have oB : ∀ a, a ≠ 182 → a ≠ 149 → a ≠ 150 → st_ J 182 g a = I a := fun a q1 q2 q3 => by rw [st_a q1, o a q2 q3]
      have mkB : mKeep I (st_ J 182 g) := ⟨fun k _ => by rw [oB 167 (by decide) (by decide) (by decide)], fun a q1 q2 => oB a (by omega) (by omega) (by omega)⟩
      have hxB : xRel (st_ J 182 g) c e := xRel_keep mkB ⟨oB 1 (by decide) (by decide) (by decide), fun a a1 a2 => oB a (by omega) (by omega) (by omega), fun a a1 a2 => oB a (by omega) (by omega) (by omega), fun a a1 a2 => oB a (by omega) (by omega) (by omega)⟩ hm.1 hx
      have eB := oB 167 (by decide) (by decide) (by decide)
      have haB : adjM (st_ J 182 g) 0 = adjM J 0 := by unfold adjM; rw [st_a (show (167 : Nat) ≠ 182 by decide), st_a (show (168 : Nat) ≠ 182 by decide)]
      have hslB : slN (st_ J 182 g) c p (I 167 5).toNat f := by
        exact slN_c (mOk_keep mkB hm) hxB.2.2.2.1.1.1 hcl (fun a q1 q2 => (oB a (by omega) (by omega) (by omega)).symm) _ f (by rw [eB]; exact hnn) hf
      have key := sl_fc (I := st_ J 182 g) (c := c) (p := (p : Int)) (mOk_keep mkB hm) hxB.2.2.2.2.2.1 hxB.2.2.2.1 (by rw [eB]; exact hpp) (fun i j hi hj => by rw [haB, st_s]; exact hg i j hi hj) (I 167 5).toNat (by rw [eB]; exact hnn) f g1 hslB hg1
      rw [eB] at key
      have hiff : (∃ r : Nat, (r : Int) < I 167 0 ∧ ¬ f r = -1) ↔ ∃ r : Nat, (r : Int) < I 167 0 ∧ g1 r ≤ I 167 3 := by
        constructor
        · intro ⟨r, r1, r2⟩
          obtain ⟨k1, k2, k3⟩ := key r r1
          refine ⟨r, r1, ?_⟩
          unfold LfF at k1
          split at k1
          · assumption
          · exact absurd k1 r2
        · intro ⟨r, r1, r2⟩
          obtain ⟨k1, k2, k3⟩ := key r r1
          refine ⟨r, r1, ?_⟩
          unfold LfF at k1
          rw [if_pos r2] at k1
          omega
      have : w' p = true ↔ w p = true := by rw [ha, hb, hiff]
      cases hwp : w p <;> cases hwp' : w' p <;> simp_all
end DONEBY
