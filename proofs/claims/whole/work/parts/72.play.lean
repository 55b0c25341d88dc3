/-! ===== taking: the class, the whole ===== -/
def takW (I : jm_I) (D : Nat → Nat → Int) (p q : Int) : Int := tgW (I 167 5).toNat D (fun t => (I 171 (17 + t)).toNat) 7 0 (I 171 (1 + p).toNat).toNat (I 167 3) (I 171 (1 + q).toNat).toNat (I 167 3) false
def takOk (I : jm_I) (p q : Int) : Prop := (0 ≤ p ∧ p < I 167 4) ∧ (0 ≤ q ∧ q < I 167 4) ∧ ¬ p = q
section PLAY
variable {L d : Nat} {I : jm_I} {K : Option jm_V → jm_I → Prop} {x0 x1 x2 x3 x4 : Int} {c e : Nat}
theorem c_TakingGame_play (hm : mOk I) (hx : xRel I c e) (hp : 0 ≤ x3 ∧ x3 < I 167 4) (hq : 0 ≤ x4 ∧ x4 < I 167 4) (k : ∀ J : jm_I, (∀ a, a < 151 ∨ 155 < a → J a = I a) → K (some (.inl (takW I (fun a b => I (c + 14 + a) b) x3 x4))) J) : Cx (jx_0 L) (d + 24) md_TakingGame_play [.inr (.inl 151), .inr (.inl c), .inr (.inl 44), .inl x3, .inl x4] I K := by
  obtain ⟨h1, h2, h3, hci, -, hmo, -⟩ := hx
  obtain ⟨hc, -⟩ := ct_of (L := L) h1
  have hcl : 2 ≤ c ∧ c ≤ 22 := by rcases h1 with ⟨rfl, -⟩ | ⟨rfl, -⟩ <;> decide
  have hr := hm.1
  unfold mRng at hr
  obtain ⟨c0, c1, c2, c3, c4⟩ := hci.1
  obtain ⟨⟨p1, -, -⟩, p4, -⟩ := mo_pe hm hmo hp.1 hp.2
  obtain ⟨⟨r1, -, -⟩, r4, -⟩ := mo_pe hm hmo hq.1 hq.2
  have hTr : ∀ t : Nat, (t : Int) < I 167 5 → 0 ≤ I 171 (17 + t) ∧ I 171 (17 + t) < I 167 0 := fun t ht => by
    have := (nw_sp hm (t := (t : Int)) (by omega) ht).2.2
    rw [show (17 + (t : Int)).toNat = 17 + t by omega] at this
    exact this
  have hB : tgB I c (I 167 5).toNat (I 167 0).toNat (fun t => (I 171 (17 + t)).toNat) := by
    refine ⟨by omega, by omega, fun t ht => ?_, fun a b ha hb => ?_⟩
    · have := hTr t (by omega)
      show (I 171 (17 + t)).toNat < _
      omega
    · rcases hci.2.2.2 a b (by omega) (by omega) with ⟨n, q, q6, -⟩ | ⟨q, -⟩ <;> omega
  refine b_TakingGame_play_0 hc jx_m44 ?_
  generalize hJ1 : jm_up (jm_up I 151 0 ((c : Nat) : Int)) 151 1 0 = J1
  have o1 : ∀ a, a ≠ 151 → J1 a = I a := fun a ha => by rw [← hJ1, jm_up_o ha, jm_up_o ha]
  have f0 : J1 151 0 = (c : Int) := by rw [← hJ1, up_k (by decide), up_s]
  have f1 : J1 151 1 = 0 := by rw [← hJ1, up_s]
  rw [← st_id (I := J1) (a := 152)]
  refine lp_up (σ := Nat → Int) (Inv := fun x f => 0 ≤ x ∧ ∀ t : Nat, (t : Int) < x → f t = I 171 (17 + t)) (G := fun x f => Gx (jx_0 L) (d + 24) md_TakingGame_play 13 [some (.inr (.inl 151)), some (.inr (.inl c)), some (.inr (.inl 44)), some (.inl x3), some (.inl x4), some (.inl x)] [] (st_ J1 152 f) K) (I 167 5) ?_ ?_ 0 _ (by omega) ⟨by omega, fun t ht => by omega⟩
  · intro x f hx hi ih
    obtain ⟨h0, hi⟩ := hi
    obtain ⟨t, rfl⟩ : ∃ t : Nat, x = t := ⟨x.toNat, by omega⟩
    have o : ∀ a, a ≠ 151 → a ≠ 152 → st_ J1 152 f a = I a := fun a a1 a2 => by rw [st_a a2, o1 a a1]
    have g0 : st_ J1 152 f 151 0 = (c : Int) := by rw [st_a (by decide)]; exact f0
    have ec := o c (by omega) (by omega)
    obtain ⟨n1, n2, n3⟩ := nw_sp hm (t := (t : Int)) (by omega) hx
    have hsp := mo_sp hmo (t := (t : Int)) (by omega) hx
    rw [show (17 + (t : Int)).toNat = 17 + t by omega] at n2
    refine b_TakingGame_play_13 g0 hc (by rw [ec]; omega) (fun h => by rw [ec] at h; omega) (fun _ => ?_)
    refine b_TakingGame_play_25 jx_m44 g0 hc (by omega) ?_
    rw [o (44 + 4) (by decide) (by decide), show I (44 + 4) (t : Int).toNat = nwF I t from hsp]
    refine c_City_roomOfSpot hc (tcOk_k (o _ (by decide) (by decide)) (o _ (by decide) (by decide)) (fun a a1 a2 => o a (by omega) (by omega)) (tc_of hm hci (by omega) hx)) (spOk_k (o _ (by decide) (by decide)) n1) ?_
    rw [roF_k (o 170 (by decide) (by decide)), n2]
    refine b_TakingGame_play_47 (by omega) ?_
    rw [st_up, Int.toNat_natCast]
    refine ih _ ⟨by omega, fun t' ht' => ?_⟩
    by_cases et : t' = t
    · rw [if_pos et, et]
    · rw [if_neg et]; exact hi t' (by omega)
  · intro f hi
    obtain ⟨-, hi⟩ := hi
    have o : ∀ a, a ≠ 151 → a ≠ 152 → st_ J1 152 f a = I a := fun a a1 a2 => by rw [st_a a2, o1 a a1]
    have g0 : st_ J1 152 f 151 0 = (c : Int) := by rw [st_a (by decide)]; exact f0
    have ec := o c (by omega) (by omega)
    refine b_TakingGame_play_13 g0 hc (by rw [ec]; omega) (fun _ => ?_) (fun h => by rw [ec] at h; omega)
    refine b_TakingGame_play_54 jx_m44 g0 hc (by omega) ?_
    have w0 : st_ J1 152 f (44 + 1) x3.toNat = I 171 (1 + x3).toNat := by rw [o 45 (by decide) (by decide)]; exact p1
    rw [w0]
    have w1 : jm_up (st_ J1 152 f) 153 0 (I 171 (1 + x3).toNat) (44 + 1) x4.toNat = I 171 (1 + x4).toNat := by rw [up_a (by decide), o 45 (by decide) (by decide)]; exact r1
    rw [w1]
    have w2 : jm_up (jm_up (st_ J1 152 f) 153 0 (I 171 (1 + x3).toNat)) 153 1 (I 171 (1 + x4).toNat) c 1 = I 167 3 := by rw [up_a (by omega), up_a (by omega), ec]; exact c1
    rw [w2]
    refine c_Arrays_fill (n := 2) rfl (by decide) (fun g hg => ?_)
    refine b_TakingGame_play_93 ?_
    generalize hJ : jm_up (jm_up (st_ (jm_up (jm_up (st_ J1 152 f) 153 0 (I 171 (1 + x3).toNat)) 153 1 (I 171 (1 + x4).toNat)) 154 g) 155 0 0) 155 1 0 = J
    have oJ : ∀ a, a < 151 ∨ 155 < a → J a = I a := fun a ha => by rw [← hJ, jm_up_o (by omega), jm_up_o (by omega), st_a (by omega), jm_up_o (by omega), jm_up_o (by omega), o a (by omega) (by omega)]
    have hS : tgS I J c (I 167 5).toNat (I 167 0).toNat (fun t => (I 171 (17 + t)).toNat) 0 (fun w => if w = 0 then (I 171 (1 + x3).toNat).toNat else (I 171 (1 + x4).toNat).toNat) (fun _ => I 167 3) (fun _ => false) := by
      refine ⟨fun a ha => oJ a (by omega), ?_, ?_, fun t ht => ?_, fun w hw => ?_, by decide, fun w hw => ?_⟩
      · rw [← hJ, up_a (by decide), up_a (by decide), st_a (by decide), up_a (by decide), up_a (by decide)]; exact g0
      · rw [← hJ, up_a (by decide), up_a (by decide), st_a (by decide), up_a (by decide), up_a (by decide), st_a (by decide)]; exact f1
      · have := hTr t (by omega)
        rw [← hJ, up_a (by decide), up_a (by decide), st_a (by decide), up_a (by decide), up_a (by decide), st_s, hi t (by omega)]
        show I 171 (17 + t) = ((I 171 (17 + t)).toNat : Int)
        omega
      · rcases (show w = 0 ∨ w = 1 by omega) with rfl | rfl
        · refine ⟨?_, ?_, ?_⟩
          · rw [← hJ, up_a (by decide), up_a (by decide), st_a (by decide), up_k (by decide), up_s]
            show I 171 (1 + x3).toNat = ((I 171 (1 + x3).toNat).toNat : Int)
            omega
          · rw [← hJ, up_a (by decide), up_a (by decide), st_s]; exact hg 0 (by decide)
          · rw [← hJ, up_k (by decide), up_s]; rfl
        · refine ⟨?_, ?_, ?_⟩
          · rw [← hJ, up_a (by decide), up_a (by decide), st_a (by decide), up_s]
            show I 171 (1 + x4).toNat = ((I 171 (1 + x4).toNat).toNat : Int)
            omega
          · rw [← hJ, up_a (by decide), up_a (by decide), st_s]; exact hg 1 (by decide)
          · rw [← hJ, up_s]; rfl
      · refine ⟨?_, show 0 ≤ I 167 3 by omega, show I 167 3 ≤ 20 by omega⟩
        show (if w = 0 then (I 171 (1 + x3).toNat).toNat else (I 171 (1 + x4).toNat).toNat) < _
        split <;> omega
    have hun := ((un_tab ⟨0, by decide⟩ ⟨(I 167 5).toNat, by omega⟩).1).2
    have hun : unF 0 (I 167 5).toNat ≤ ((I 167 5).toNat : Int) := hun
    refine tl_main hB hc 7 (by decide) (d + 1) J 0 _ _ _ 0 0 _ hS (by decide) rfl ?_ (by omega) ?_
    · unfold tgM
      simp only [Bool.false_eq_true, if_false]
      omega
    · refine b_TakingGame_play_113 ?_
      have := k J oJ
      unfold takW at this
      simp only [sg_, if_true, Int.one_mul, show (1 - 0 = 0) = False from eq_false (by decide), if_false]
      exact this
theorem c_X_taking (hm : mOk I) (hx : xRel I c e) (hz : (-2147483648 ≤ x1 ∧ x1 < 2147483648) ∧ (-2147483648 ≤ x2 ∧ x2 < 2147483648)) (k0 : ¬ takOk I x1 x2 → K (some (.inl (-1000000))) I) (k : takOk I x1 x2 → ∀ J : jm_I, (∀ a, a < 151 ∨ 155 < a → J a = I a) → K (some (.inl (takW I (fun a b => I (c + 14 + a) b) x1 x2))) J) : Cx (jx_0 L) (d + 25) md_X_taking [.inr (.inl 1), .inl x1, .inl x2] I K := by
  have hx0 := hx
  obtain ⟨h1, h2, h3, hci, -, hmo, -⟩ := hx
  obtain ⟨hc, -⟩ := ct_of (L := L) h1
  have hr := hm.1
  unfold mRng at hr
  have c3 := hci.1.2.2.2.1
  unfold takOk at k0 k
  refine b_X_taking_0 (c_X_isPerson hc h2 (by omega) (fun v1 hv1 => ?_))
  refine b_X_taking_5 (by omega) (fun hb2 => ?_) (fun hb2 => ?_)
  · refine b_X_taking_21 ?_
    exact k0 (by omega)
  · refine b_X_taking_8 (c_X_isPerson hc h2 (by omega) (fun v3 hv3 => ?_))
    refine b_X_taking_13 (by omega) (fun hb4 => ?_) (fun hb4 => ?_)
    · refine b_X_taking_21 ?_
      exact k0 (by omega)
    · refine b_X_taking_16 (by omega) (fun hb5 => ?_) (fun hb5 => ?_)
      · refine b_X_taking_24 h2 hc (c_TakingGame_play hm hx0 (by omega) (by omega) (fun J oJ => ?_))
        exact b_X_taking_41 (k (by omega) J oJ)
      · refine b_X_taking_21 ?_
        exact k0 (by omega)
end PLAY
