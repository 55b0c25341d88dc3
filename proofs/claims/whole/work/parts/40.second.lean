/-! ===== second ===== -/
def gbC (I J : jm_I) (n : Int) : Prop := (∀ a, a ≠ 47 → a ≠ 48 → J a = I a) ∧ (∀ q, q < 5 → J 47 q = -9) ∧ ∀ t : Nat, (t : Int) < n → J 48 t = laF I t (I 48 t) 1
section SECOND
variable {L d : Nat} {I : jm_I} {K : Option jm_V → jm_I → Prop} {x0 x1 x2 x3 x4 : Int} {c e : Nat}
theorem spOk_k {I J : jm_I} {t s : Int} (h : J 169 = I 169) (hs : spOk I t s) : spOk J t s := by unfold spOk at *; rw [h]; exact hs
theorem goBy25 {o2 : Option jm_V} (hc : jx_City (jx_0 L) c) (hcl : c ≤ 22) (h4 : 0 ≤ I c 4 ∧ I c 4 ≤ 5) (ht : ∀ t : Nat, (t : Int) < I c 4 → tcOk I c t ∧ spOk I t (I 48 t)) (k : ∀ J, gbC I J (I c 4) → K none J) : Gx (jx_0 L) (d + 1) md_Moment_goBy 25 [some (.inr (.inl 44)), some (.inr (.inl c)), o2] [] I K := by
  refine b_Moment_goBy_25 jx_m44 (c_Arrays_fill (n := 5) rfl (by decide) (fun g hg => ?_))
  refine b_Moment_goBy_34 ?_
  have e48 : st_ I (44 + 3) g 48 = I 48 := st_a (by decide)
  have start : st_ (st_ I (44 + 3) g) 48 (I 48) = st_ I (44 + 3) g := by
    have := st_id (I := st_ I (44 + 3) g) (a := 48)
    rw [e48] at this
    exact this
  rw [← start]
  have oth : ∀ f a, a ≠ 47 → a ≠ 48 → st_ (st_ I (44 + 3) g) 48 f a = I a := fun f a a1 a2 => by rw [st_a a2, st_a a1]
  refine lp_up (σ := Nat → Int) (Inv := fun x f => 0 ≤ x ∧ (∀ t : Nat, (t : Int) < x → f t = laF I t (I 48 t) 1) ∧ ∀ t : Nat, x ≤ (t : Int) → f t = I 48 t) (G := fun x f => Gx (jx_0 L) (d + 1) md_Moment_goBy 36 [some (.inr (.inl 44)), some (.inr (.inl c)), some (.inl x)] [] (st_ (st_ I (44 + 3) g) 48 f) K) (I c 4) ?_ ?_ 0 (I 48) (by omega) ⟨by omega, fun t h => by omega, fun t _ => rfl⟩
  · intro x f hx hf ih
    obtain ⟨h0, f1, f2⟩ := hf
    obtain ⟨t, rfl⟩ : ∃ t : Nat, x = t := ⟨x.toNat, by omega⟩
    obtain ⟨t1, t2⟩ := ht t hx
    have hcc : st_ (st_ I (44 + 3) g) 48 f c 4 = I c 4 := by rw [oth f c (by omega) (by omega)]
    have hk1 := oth f 169 (by decide) (by decide)
    have hk2 := oth f 170 (by decide) (by decide)
    have hf48 : st_ (st_ I (44 + 3) g) 48 f (44 + 4) (t : Int).toNat = I 48 t := by rw [Int.toNat_natCast]; show st_ _ 48 f 48 t = _; rw [st_s, f2 t (by omega)]
    refine b_Moment_goBy_36 hc (by rw [hcc]; omega) (fun h => by rw [hcc] at h; omega) (fun h => ?_)
    refine b_Moment_goBy_44 jx_m44 hc (by omega) ?_
    rw [hf48]
    refine c_City_spotIn hc (tcOk_k hk1 hk2 (fun a a1 a2 => oth f a (by omega) (by omega)) t1) (spOk_k hk1 t2) (by omega) ?_
    refine b_Moment_goBy_61 (nb0 := 5) rfl (by omega) ?_
    show Gx _ _ _ _ _ _ (jm_up (st_ (st_ I (44 + 3) g) 48 f) 48 _ _) _
    rw [st_up]
    refine ih _ ⟨by omega, fun t' ht' => ?_, fun t' ht' => ?_⟩
    · by_cases e : t' = t
      · subst e
        rw [if_pos (by omega)]
        unfold laF
        rw [hk1]
      · rw [if_neg (by omega)]
        exact f1 t' (by omega)
    · rw [if_neg (by omega)]
      exact f2 t' (by omega)
  · intro f hf
    obtain ⟨-, f1, -⟩ := hf
    have hcc : st_ (st_ I (44 + 3) g) 48 f c 4 = I c 4 := by rw [oth f c (by omega) (by omega)]
    refine b_Moment_goBy_36 hc (by rw [hcc]; omega) (fun h => ?_) (fun h => by rw [hcc] at h; omega)
    refine b_Moment_goBy_68 (k _ ⟨oth f, fun q hq => ?_, fun t htt => ?_⟩)
    · rw [st_a (by decide)]
      show st_ I 47 g 47 q = _
      rw [st_s]
      exact hg q hq
    · rw [st_s]
      exact f1 t htt
def gyC (I J : jm_I) (n : Int) : Prop := (∀ a, a ≠ 44 → a ≠ 47 → a ≠ 48 → J a = I a) ∧ (J 44 0 = I 44 0 + 1 ∧ J 44 1 = if (I 44 0 + 1) % 20 = 0 then 0 else I 44 1) ∧ (∀ q, q < 5 → J 47 q = -9) ∧ ∀ t : Nat, (t : Int) < n → J 48 t = laF I t (I 48 t) 1
theorem c_Moment_goBy (hc : jx_City (jx_0 L) c) (hcl : c ≤ 22) (h4 : 0 ≤ I c 4 ∧ I c 4 ≤ 5) (hs : 0 ≤ I 44 0 ∧ I 44 0 ≤ 9999) (ht : ∀ t : Nat, (t : Int) < I c 4 → tcOk I c t ∧ spOk I t (I 48 t)) (k : ∀ J, gyC I J (I c 4) → K none J) : Cx (jx_0 L) (d + 1) md_Moment_goBy [.inr (.inl 44), .inr (.inl c)] I K := by
  have step : ∀ I1 : jm_I, (∀ a, a ≠ 44 → I1 a = I a) → I1 44 0 = I 44 0 + 1 → I1 44 1 = (if (I 44 0 + 1) % 20 = 0 then 0 else I 44 1) → Gx (jx_0 L) (d + 1) md_Moment_goBy 25 [some (.inr (.inl 44)), some (.inr (.inl c)), none] [] I1 K := by
    intro I1 o1 o2 o3
    have ec : I1 c = I c := o1 c (by omega)
    have e48 : I1 48 = I 48 := o1 48 (by decide)
    have e169 : I1 169 = I 169 := o1 169 (by decide)
    have e170 : I1 170 = I 170 := o1 170 (by decide)
    refine goBy25 hc hcl (by rw [ec]; exact h4) (fun t htt => ?_) (fun J hJ => ?_)
    · rw [ec] at htt
      rw [e48]
      exact ⟨tcOk_k e169 e170 (fun a a1 a2 => o1 a (by omega)) (ht t htt).1, spOk_k e169 (ht t htt).2⟩
    · obtain ⟨j1, j2, j3⟩ := hJ
      refine k J ⟨fun a a1 a2 a3 => by rw [j1 a a2 a3, o1 a a1], ⟨by rw [j1 44 (by decide) (by decide), o2], by rw [j1 44 (by decide) (by decide), o3]⟩, j2, fun t htt => ?_⟩
      rw [j3 t (by rw [ec]; exact htt), e48]
      unfold laF
      rw [e169]
  refine b_Moment_goBy_0 jx_m44 hc (by rw [up_s]; omega) (fun h => ?_) (fun h => ?_)
  · rw [up_s] at h
    refine step _ (fun a a1 => jm_up_o a1) up_s ?_
    rw [up_k (by decide), if_neg h]
  · rw [up_s] at h
    refine b_Moment_goBy_20 jx_m44 ?_
    refine step _ (fun a a1 => by rw [jm_up_o a1, jm_up_o a1]) (by rw [up_k (by decide), up_s]) ?_
    rw [up_s, if_pos h]
theorem c_X_second (hm : mOk I) (hx : xRel I c e) (k0 : I 44 0 = 9999 → K (some (.inl (-2))) I) (k : ¬ I 44 0 = 9999 → ∀ J J2, rmC I J → gyC J J2 (I 167 5) → K (some (.inl (I 44 0 + 1))) J2) : Cx (jx_0 L) (d + 2) md_X_second [.inr (.inl 1)] I K := by
  obtain ⟨h1, h2, h3, hci, -, hmo, ⟨hh, hnx, -⟩, -⟩ := hx
  obtain ⟨hc, -⟩ := ct_of (L := L) h1
  have hcl : c ≤ 22 := by rcases h1 with ⟨rfl, -⟩ | ⟨rfl, -⟩ <;> decide
  have hr := hm.1
  unfold mRng at hr
  have c4 := hci.1.2.2.2.2
  have hs0 := hm.2.2.2.1.1
  have m0 : I 44 0 = I 171 0 := hmo.1
  refine b_X_second_0 (by omega) (fun h => ?_) (fun h => ?_)
  · refine b_X_second_16 (c_History_remember (by omega) (fun J hJ => ?_))
    have oJ : ∀ a, (a < 49 ∨ 100 < a) → J a = I a := fun a ha => hJ.1 a (by omega) (by omega)
    refine b_X_second_27 (by rw [oJ 1 (by decide)]; exact h2) hc ?_
    refine c_Moment_goBy hc hcl (by rw [oJ c (by omega)]; omega) (by rw [oJ 44 (by decide)]; omega) (fun t htt => ?_) (fun J2 hJ2 => ?_)
    · rw [oJ c (by omega), c4] at htt
      refine ⟨tcOk_k (oJ 169 (by decide)) (oJ 170 (by decide)) (fun a a1 a2 => oJ a (by omega)) (tc_of hm hci (by omega) htt), spOk_k (oJ 169 (by decide)) ?_⟩
      rw [oJ 48 (by decide)]
      have := mo_sp hmo (t := (t : Int)) (by omega) htt
      rw [Int.toNat_natCast] at this
      rw [this]
      exact (nw_sp hm (by omega) htt).1
    · rw [oJ c (by omega), c4] at hJ2
      refine b_X_second_38 ?_
      rw [hJ2.2.1.1, oJ 44 (by decide)]
      exact k (by omega) J J2 hJ hJ2
  · refine b_X_second_13 ?_
    exact k0 (by omega)
end SECOND
