/-! ===== doneBy: a person could have, the class ===== -/
theorem slR_r {I : jm_I} {c : Nat} {t : Int} {T : Nat} {f g : Nat → Int} (hn : 2 ≤ I c 0 ∧ I c 0 ≤ 6) (hd : diOk I c) (hT : (T : Int) < I c 0) (hf : ∀ i : Nat, i < 6 → -1 ≤ f i ∧ f i ≤ 20) (h : slR I c t T f g) : ∀ i : Nat, i < 6 → -1 ≤ g i ∧ g i ≤ 20 := by
  obtain ⟨b, h1, h2, h3⟩ := h
  intro i hi
  have hb : -1 ≤ b i ∧ b i ≤ 20 := by
    have := hf i hi
    rcases h1 i hi with ⟨-, q⟩ | ⟨-, q⟩ <;> omega
  by_cases e : (i : Int) < I c 0
  · have a2 := mlF_r (D := fun x y => I (c + 14 + x) y) (f := f) (T := T) (r := i) (n := (I c 0).toNat) (fun j hj => ⟨(hf j (by omega)).2, (hd j T (by omega) (by omega)).1, (hd T i (by omega) (by omega)).1⟩)
    rcases h2 i e with ⟨-, q⟩ | ⟨-, q⟩ <;> omega
  · rw [h3 i (by omega) hi]; exact hb
theorem slR_k {I J : jm_I} {c : Nat} {t : Int} {T : Nat} {f g : Nat → Int} (hn : 2 ≤ I c 0 ∧ I c 0 ≤ 6) (hT : (T : Int) < I c 0) (o : ∀ a, a ≠ 149 → a ≠ 150 → J a = I a) (hcl : c ≤ 22) (h : slR J c t T f g) : slR I c t T f g := by
  obtain ⟨b, h1, h2, h3⟩ := h
  have so : ∀ how, soP J t how ↔ soP I t how := soP_k (o _ (by decide) (by decide)) (o _ (by decide) (by decide)) (o _ (by decide) (by decide)) (o _ (by decide) (by decide)) t
  have ec := o c (by omega) (by omega)
  have e48 := o 48 (by decide) (by decide)
  refine ⟨b, fun q hq => ?_, fun q hq => ?_, fun q q1 q2 => h3 q (by rw [ec]; exact q1) q2⟩
  · have := h1 q hq
    rw [so, e48] at this
    exact this
  · have := h2 q (by rw [ec]; exact hq)
    have em : mlF (fun x y => J (c + 14 + x) y) f T q (J c 0).toNat = mlF (fun x y => I (c + 14 + x) y) f T q (I c 0).toNat := by
      rw [ec]
      refine mlF_congr ?_ (fun i hi => ⟨rfl, ?_⟩)
      · show J (c + 14 + T) q = _
        rw [o (c + 14 + T) (by omega) (by omega)]
      · show J (c + 14 + i) T = _
        rw [o (c + 14 + i) (by omega) (by omega)]
    rw [so, em, puF_k (o _ (by decide) (by decide)) (o _ (by decide) (by decide))] at this
    exact this
/-- the row of steps left behind the first n things -/
def slN (I : jm_I) (c : Nat) (p : Int) : Nat → (Nat → Int) → Prop
  | 0, f => ∀ q, q < 6 → f q = if q = (I 171 (1 + p).toNat).toNat then I 167 3 else -1
  | t + 1, f => ∃ f0, slN I c p t f0 ∧ ((fdP I t ∧ slR I c t (I 171 (17 + t)).toNat f0 f) ∨ (¬ fdP I t ∧ f = f0))
section COULD
variable {L d : Nat} {I : jm_I} {K : Option jm_V → jm_I → Prop} {x0 x1 x2 x3 x4 : Int} {c e : Nat}
theorem c_DoneSearch_couldHave (hm : mOk I) (hx : xRel I c e) (hp : 0 ≤ x4 ∧ x4 < I 167 4) (k : ∀ f g' v, slN I c x4 (I 167 5).toNat f → (v = 1 ∧ ∃ r : Nat, (r : Int) < I 167 0 ∧ ¬ f r = -1) ∨ (v = 0 ∧ ∀ r : Nat, (r : Int) < I 167 0 → f r = -1) → K (some (.inl v)) (st_ (st_ I 150 g') 149 f)) : Cx (jx_0 L) (d + 5) md_DoneSearch_couldHave [.inr (.inl 148), .inr (.inl c), .inr (.inl 44), .inr (.inl 103), .inl x4] I K := by
  have hF := (rel_parts hm hx).2.2.2.1
  obtain ⟨h1, h2, h3, hci, -, hmo, -⟩ := hx
  obtain ⟨hc, -⟩ := ct_of (L := L) h1
  have hcl : 2 ≤ c ∧ c ≤ 22 := by rcases h1 with ⟨rfl, -⟩ | ⟨rfl, -⟩ <;> decide
  have hr0 := hm.1
  have hr := hm.1
  unfold mRng at hr
  obtain ⟨c0, c1, c2, c3, c4⟩ := hci.1
  have hd : diOk I c := fun r s a b => by
    rcases hci.2.2.2 r s (by omega) (by omega) with ⟨n, q, q6, -⟩ | ⟨q, -⟩ <;> omega
  obtain ⟨⟨p1, -, -⟩, p4, -⟩ := mo_pe hm hmo hp.1 hp.2
  have oth : ∀ g f a, a ≠ 149 → a ≠ 150 → st_ (st_ I 150 g) 149 f a = I a := fun g f a a1 a2 => by rw [st_a a1, st_a a2]
  refine b_DoneSearch_couldHave_0 hc jx_m44 (c_Arrays_fill (n := 6) rfl (by decide) (fun g0 hg0 => ?_))
  have e45 : st_ I 149 g0 (44 + 1) x4.toNat = I 171 (1 + x4).toNat := by rw [st_a (by decide)]; exact p1
  refine b_DoneSearch_couldHave_8 hc jx_m44 (by rw [e45]; omega) ?_
  rw [e45, st_a (show c ≠ 149 by omega), c1, st_up]
  have est : st_ I 149 (fun j => if j = (I 171 (1 + x4).toNat).toNat then I 167 3 else g0 j) = st_ (st_ I 150 (I 150)) 149 (fun j => if j = (I 171 (1 + x4).toNat).toNat then I 167 3 else g0 j) := by rw [st_id]
  rw [est]
  refine lp_up2 (σ := Nat → Int) (τ := Nat → Int) (Inv := fun x f _ => 0 ≤ x ∧ slN I c x4 x.toNat f ∧ ∀ i : Nat, i < 6 → -1 ≤ f i ∧ f i ≤ 20) (G := fun x f g => Gx (jx_0 L) (d + 5) md_DoneSearch_couldHave 27 [some (.inr (.inl 148)), some (.inr (.inl c)), some (.inr (.inl 44)), some (.inr (.inl 103)), some (.inl x4), some (.inl x)] [] (st_ (st_ I 150 g) 149 f) K) (I 167 5) ?_ ?_ 0 _ (I 150) (by omega) ⟨by omega, fun q hq => ?_, fun i hi => ?_⟩
  · intro x f g hx hi ih
    obtain ⟨h0, hi, hfr⟩ := hi
    obtain ⟨t, rfl⟩ : ∃ t : Nat, x = t := ⟨x.toNat, by omega⟩
    rw [Int.toNat_natCast] at hi
    have o := oth g f
    have ec := o c (by omega) (by omega)
    have e167 := o 167 (by decide) (by decide)
    have e175 := o 175 (by decide) (by decide)
    have hbs : base I (st_ (st_ I 150 g) 149 f) := base_of (fun k _ => by rw [e167]) (o _ (by decide) (by decide)) (o _ (by decide) (by decide)) (o _ (by decide) (by decide))
    have hF2 : FD (st_ (st_ I 150 g) 149 f) := FD_k hbs (by rw [e167]) e175 (fun a a1 a2 => o a (by omega) (by omega)) hF
    have hR2 : mRng (st_ (st_ I 150 g) 149 f) := by unfold mRng; rw [e167]; exact hr
    obtain ⟨n1, n2, n3⟩ := nw_sp hm (t := (t : Int)) (by omega) hx
    have hsp := mo_sp hmo (t := (t : Int)) (by omega) hx
    rw [show (17 + (t : Int)).toNat = 17 + t by omega] at n2 n3
    rw [Int.toNat_natCast] at hsp
    refine b_DoneSearch_couldHave_27 hc (by rw [ec]; omega) (fun h => by rw [ec] at h; omega) (fun h => ?_)
    refine b_DoneSearch_couldHave_36 (c_Finds_tellOf hF2 hR2 (by omega) (fun v hv => ?_))
    rw [fdP_k e167 e175] at hv
    refine b_DoneSearch_couldHave_42 (by rcases hv with ⟨q, -⟩ | ⟨q, -⟩ <;> omega) (fun h' => ?_) (fun h' => ?_)
    · refine b_DoneSearch_couldHave_54 ?_
      refine ih _ _ ⟨by omega, ?_, hfr⟩
      rw [show ((t : Int) + 1).toNat = t + 1 by omega]
      refine ⟨f, hi, Or.inr ⟨?_, rfl⟩⟩
      rcases hv with ⟨q1, -⟩ | ⟨-, q2⟩
      · omega
      · exact q2
    · have hfd : fdP I t := by
        rcases hv with ⟨-, q2⟩ | ⟨q1, -⟩
        · exact q2
        · exact absurd q1 h'
      have hdk : diOk (st_ (st_ I 150 g) 149 f) c := fun r s h1 h2 => by
        rw [ec] at h1 h2
        rw [o (c + 14 + r) (by omega) (by omega)]
        exact hd r s h1 h2
      have e149 : st_ (st_ I 150 g) 149 f 149 = f := by funext q; rw [st_s]
      refine b_DoneSearch_couldHave_45 hc jx_m44 (c_DoneSearch_settleThing (T := (I 171 (17 + t)).toNat) hc hcl (by rw [ec]; omega) hdk (by rw [e149]; exact hfr) hF2 hR2 (tcOk_k (o _ (by decide) (by decide)) (o _ (by decide) (by decide)) (fun a a1 a2 => o a (by omega) (by omega)) (tc_of hm hci (by omega) hx)) (spOk_k (o _ (by decide) (by decide)) (by rw [o 48 (by decide) (by decide), Int.toNat_natCast, hsp]; exact n1)) (by rw [roF_k (o _ (by decide) (by decide)), o 48 (by decide) (by decide), Int.toNat_natCast, hsp, n2]; omega) (by rw [ec]; omega) (fun f2 g2 h2 => ?_))
      rw [e149] at h2
      have h3 := slR_k (by omega) (by omega) o hcl.2 h2
      have emem : st_ (st_ (st_ (st_ I 150 g) 149 f) 150 g2) 149 f2 = st_ (st_ I 150 g2) 149 f2 := by
        funext a q
        by_cases a1 : a = 149
        · subst a1; rw [st_s, st_s]
        · by_cases a2 : a = 150
          · subst a2; rw [st_a a1, st_a a1, st_s, st_s]
          · rw [st_a a1, st_a a2, st_a a1, st_a a2, st_a a1, st_a a2]
      rw [emem]
      refine b_DoneSearch_couldHave_54 ?_
      refine ih _ _ ⟨by omega, ?_, slR_r (by omega) hd (by omega) hfr h3⟩
      rw [show ((t : Int) + 1).toNat = t + 1 by omega]
      exact ⟨f, hi, Or.inl ⟨hfd, h3⟩⟩
  · intro f g hi
    obtain ⟨-, hi, hfr⟩ := hi
    have o := oth g f
    have ec := o c (by omega) (by omega)
    refine b_DoneSearch_couldHave_27 hc (by rw [ec]; omega) (fun h => ?_) (fun h => by rw [ec] at h; omega)
    refine b_DoneSearch_couldHave_60 ?_
    refine lp_up (σ := Unit) (Inv := fun x _ => 0 ≤ x ∧ ∀ r : Nat, (r : Int) < x → f r = -1) (G := fun x _ => Gx (jx_0 L) (d + 5) md_DoneSearch_couldHave 63 [some (.inr (.inl 148)), some (.inr (.inl c)), some (.inr (.inl 44)), some (.inr (.inl 103)), some (.inl x4), some (.inl x)] [] (st_ (st_ I 150 g) 149 f) K) (I 167 0) ?_ ?_ 0 () (by omega) ⟨by omega, fun r h => by omega⟩
    · intro x _ hx hj ih
      obtain ⟨h0, hj⟩ := hj
      obtain ⟨r, rfl⟩ : ∃ r : Nat, x = r := ⟨x.toNat, by omega⟩
      have hrr := hfr r (by omega)
      refine b_DoneSearch_couldHave_63 hc (by rw [ec]; omega) (fun h => by rw [ec] at h; omega) (fun h => ?_)
      refine b_DoneSearch_couldHave_72 (by rw [st_s, Int.toNat_natCast]; omega) (fun h => ?_) (fun h => ?_)
      · rw [st_s, Int.toNat_natCast] at h
        refine b_DoneSearch_couldHave_85 ?_
        refine ih () ⟨by omega, fun r' hr' => ?_⟩
        by_cases er : r' = r
        · rw [er]; exact h
        · exact hj r' (by omega)
      · rw [st_s, Int.toNat_natCast] at h
        exact b_DoneSearch_couldHave_83 (k f g 1 hi (Or.inl ⟨rfl, r, hx, h⟩))
    · intro _ hj
      obtain ⟨-, hj⟩ := hj
      refine b_DoneSearch_couldHave_63 hc (by rw [ec]; omega) (fun h => ?_) (fun h => by rw [ec] at h; omega)
      exact b_DoneSearch_couldHave_91 (k f g 0 hi (Or.inr ⟨rfl, hj⟩))
  · show (if q = _ then _ else _) = _
    by_cases e : q = (I 171 (1 + x4).toNat).toNat
    · rw [if_pos e, if_pos e]
    · rw [if_neg e, if_neg e]; exact hg0 q hq
  · show -1 ≤ (if i = _ then _ else _) ∧ (if i = _ then _ else _) ≤ 20
    have := hg0 i hi
    split <;> omega
end COULD
