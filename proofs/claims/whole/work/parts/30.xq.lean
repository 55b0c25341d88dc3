/-! ===== the class: what is asked, small; both sides together ===== -/
/-- the class and the model are asked alike: alike answers, and all stands as before -/
def Two (L d : Nat) (mx mm : jm_Md) (as : List jm_V) (I : jm_I) : Prop := Cx (jx_0 L) (d + 100) mx (.inr (.inl 1) :: as) I (fun v J => ∃ x : Int, v = some (.inl x) ∧ Cx (jx_0 L) (d + 100) mm (.inr (.inl 167) :: as) J (fun w A => w = some (.inl x) ∧ Rel A ∧ A 0 = I 0))
theorem two_q {L d : Nat} {mx mm : jm_Md} {as : List jm_V} {I : jm_I} {q : Int} (h : Rel I) (hx : ∀ K : Option jm_V → jm_I → Prop, K (some (.inl q)) I → Cx (jx_0 L) (d + 100) mx (.inr (.inl 1) :: as) I K) (hm : ∀ K : Option jm_V → jm_I → Prop, K (some (.inl q)) I → Cx (jx_0 L) (d + 100) mm (.inr (.inl 167) :: as) I K) : Two L d mx mm as I :=
  hx _ ⟨q, rfl, hm _ ⟨rfl, h, rfl⟩⟩
section XQ
variable {L d : Nat} {I : jm_I} {K : Option jm_V → jm_I → Prop} {x0 x1 x2 x3 : Int} {c e : Nat}
theorem c_X_door (hm : mOk I) (hx : xRel I c e) (hz : (-2147483648 ≤ x1 ∧ x1 < 2147483648) ∧ (-2147483648 ≤ x2 ∧ x2 < 2147483648)) (k : K (some (.inl (q_door I x1 x2))) I) : Cx (jx_0 L) (d + 1) md_X_door [.inr (.inl 1), .inl x1, .inl x2] I K := by
  obtain ⟨h1, h2, h3, ⟨⟨c0, c1, c2, c3, c4⟩, cd, -⟩, -⟩ := hx
  obtain ⟨hc, -⟩ := ct_of (L := L) h1
  have hr := hm.1
  unfold mRng at hr
  have hd : ∀ w : Nat, w < 3 → 0 ≤ x1 → x1 < I 167 1 → (3 * x1 + w).toNat = 3 * x1.toNat + w := fun w _ _ _ => by omega
  have key : 0 ≤ x1 → x1 < I 167 1 → I (c + 1) x1.toNat = I 168 (3 * x1).toNat ∧ I (c + 2) x1.toNat = I 168 (3 * x1 + 1).toNat ∧ I (c + 3) x1.toNat = I 168 (3 * x1 + 2).toNat := fun a b => by
    have := cd x1.toNat (by omega)
    rw [show (3 * x1).toNat = 3 * x1.toNat by omega, show (3 * x1 + 1).toNat = 3 * x1.toNat + 1 by omega, show (3 * x1 + 2).toNat = 3 * x1.toNat + 2 by omega]
    exact this
  refine b_X_door_0 (by first | assumption | rfl) (by first | assumption | rfl) (c_X_within (by omega) (fun v1 hv1 => ?_))
  refine b_X_door_14 (by omega) (fun hb2 => ?_) (fun hb2 => ?_)
  · refine b_X_door_19 (by omega) (fun hb3 => ?_) (fun hb3 => ?_) (fun hb3 => ?_) (fun hb3 => ?_)
    · refine b_X_door_48 (by first | assumption | rfl) (by first | assumption | rfl) (by omega) ?_
      exact cv_ (by unfold q_door; rw [if_pos (by omega), (key (by omega) (by omega)).1]; congr 1; omega) k
    · refine b_X_door_58 (by first | assumption | rfl) (by first | assumption | rfl) (by omega) ?_
      exact cv_ (by unfold q_door; rw [if_pos (by omega), (key (by omega) (by omega)).2.1]; congr 1; omega) k
    · refine b_X_door_68 (by first | assumption | rfl) (by first | assumption | rfl) (by omega) ?_
      exact cv_ (by unfold q_door; rw [if_pos (by omega), (key (by omega) (by omega)).2.2]; congr 1; omega) k
    · refine b_X_door_78 ?_
      exact cv_ (by unfold q_door; rw [if_neg (by omega)]) k
  · refine b_X_door_17 ?_
    exact cv_ (by unfold q_door; rw [if_neg (by omega)]) k
theorem g_door (h : Rel I) (hz : (-2147483648 ≤ x1 ∧ x1 < 2147483648) ∧ (-2147483648 ≤ x2 ∧ x2 < 2147483648)) : Two L d md_X_door md_M_door [.inl x1, .inl x2] I := by
  obtain ⟨hm, c, e, hx⟩ := id h
  have hr := hm.1
  unfold mRng at hr
  exact two_q h (fun K k => c_X_door hm hx hz k) (fun K k => c_M_door (by omega) k)
theorem c_X_person (hm : mOk I) (hx : xRel I c e) (hz : (-2147483648 ≤ x1 ∧ x1 < 2147483648) ∧ (-2147483648 ≤ x2 ∧ x2 < 2147483648)) (k : K (some (.inl (q_person I x1 x2))) I) : Cx (jx_0 L) (d + 2) md_X_person [.inr (.inl 1), .inl x1, .inl x2] I K := by
  obtain ⟨h1, h2, h3, ⟨⟨c0, c1, c2, c3, c4⟩, -⟩, -, hmo, -⟩ := hx
  obtain ⟨hc, -⟩ := ct_of (L := L) h1
  have hr := hm.1
  unfold mRng at hr
  have hp := fun a b => mo_pe hm hmo (p := x1) a b
  have hpr : I 44 1 = I 171 16 := hmo.2.1
  have ha := jb_and1 (jb_shr (I 171 16) x1)
  refine b_X_person_0 (c_X_isPerson hc h2 (by omega) (fun v1 hv1 => ?_))
  refine b_X_person_5 (by omega) (fun hb2 => ?_) (fun hb2 => ?_)
  · refine b_X_person_10 (by omega) (fun hb3 => ?_) (fun hb3 => ?_) (fun hb3 => ?_) (fun hb3 => ?_) (fun hb3 => ?_)
    · have hp := hp (by omega) (by omega)
      refine b_X_person_40 (by omega) ?_
      exact cv_ (by unfold q_person; (repeat' split) <;> first | rfl | omega | (rw [hpr]; omega)) k
    · have hp := hp (by omega) (by omega)
      refine b_X_person_50 (by omega) ?_
      exact cv_ (by unfold q_person; (repeat' split) <;> first | rfl | omega | (rw [hpr]; omega)) k
    · have hp := hp (by omega) (by omega)
      refine b_X_person_60 ?_
      exact cv_ (by unfold q_person; (repeat' split) <;> first | rfl | omega | (rw [hpr]; omega)) k
    · have hp := hp (by omega) (by omega)
      refine b_X_person_72 (by omega) ?_
      exact cv_ (by unfold q_person; (repeat' split) <;> first | rfl | omega | (rw [hpr]; omega)) k
    · refine b_X_person_82 ?_
      exact cv_ (by unfold q_person; (repeat' split) <;> first | rfl | omega | (rw [hpr]; omega)) k
  · refine b_X_person_8 ?_
    exact cv_ (by unfold q_person; (repeat' split) <;> first | rfl | omega | (rw [hpr]; omega)) k
theorem g_person (h : Rel I) (hz : (-2147483648 ≤ x1 ∧ x1 < 2147483648) ∧ (-2147483648 ≤ x2 ∧ x2 < 2147483648)) : Two L d md_X_person md_M_person [.inl x1, .inl x2] I := by
  obtain ⟨hm, c, e, hx⟩ := id h
  have hr := hm.1
  unfold mRng at hr
  exact two_q h (fun K k => c_X_person hm hx hz k) (fun K k => c_M_person (by omega) k)
theorem c_X_thing (hm : mOk I) (hx : xRel I c e) (hz : (-2147483648 ≤ x1 ∧ x1 < 2147483648) ∧ (-2147483648 ≤ x2 ∧ x2 < 2147483648)) (k : K (some (.inl (q_thing I x1 x2))) I) : Cx (jx_0 L) (d + 2) md_X_thing [.inr (.inl 1), .inl x1, .inl x2] I K := by
  obtain ⟨h1, h2, h3, hci, -, hmo, -⟩ := hx
  obtain ⟨hc, -⟩ := ct_of (L := L) h1
  have hr := hm.1
  unfold mRng at hr
  have c4 := hci.1.2.2.2.2
  have hs := fun a b => mo_sp hmo (t := x1) a b
  have hn := fun a b => nw_sp hm (t := x1) a b
  have ht := fun a b => tc_of hm hci (t := x1) a b
  have hnw : nwF I x1 = (if I 171 (22 + x1).toNat = -9 then 4 + I 171 (17 + x1).toNat else I 171 (22 + x1).toNat) := rfl
  refine b_X_thing_0 (c_X_isThing hc h2 (by omega) (fun v1 hv1 => ?_))
  refine b_X_thing_5 (by omega) (fun hb2 => ?_) (fun hb2 => ?_)
  · have hs := hs (by omega) (by omega)
    have hn := hn (by omega) (by omega)
    have ht := ht (by omega) (by omega)
    have hth := (th_of hm (t := x1) (by omega) (by omega)).2.2.2
    have hsp : spOk I x1 (I 48 x1.toNat) := by rw [hs]; exact hn.1
    unfold spOk at hsp
    have ht3 := ht.2.2.1
    have ht2 := ht.2.1
    refine b_X_thing_10 (by omega) (fun hb3 => ?_) (fun hb3 => ?_) (fun hb3 => ?_) (fun hb3 => ?_)
    · refine b_X_thing_36 (c_X_roomOfThing hc h2 ht (by rw [hs]; exact hn.1) ?_)
      refine b_X_thing_41 ?_
      exact cv_ (by unfold q_thing; rw [if_pos (by omega), if_pos (by omega), hs, hn.2.1]) k
    · refine b_X_thing_42 (by omega) (fun hb5 => ?_) (fun hb5 => ?_)
      · refine b_X_thing_67 ?_
        refine b_X_thing_69 ?_
        exact cv_ (by unfold q_thing; rw [if_pos (by omega), if_neg (by omega), if_pos (by omega)]; split at hnw <;> omega) k
      · refine b_X_thing_55 (by omega) ?_
        refine b_X_thing_69 ?_
        exact cv_ (by unfold q_thing; rw [if_pos (by omega), if_neg (by omega), if_pos (by omega)]; split at hnw <;> omega) k
    · refine b_X_thing_70 (by first | assumption | rfl) (by first | assumption | rfl) (by omega) ?_
      exact cv_ (by unfold q_thing; rw [if_pos (by omega), if_neg (by omega), if_neg (by omega), if_pos (by omega), ht2]) k
    · refine b_X_thing_80 ?_
      exact cv_ (by unfold q_thing; (repeat' split) <;> omega) k
  · refine b_X_thing_8 ?_
    exact cv_ (by unfold q_thing; rw [if_neg (by omega)]) k
theorem g_thing (h : Rel I) (hz : (-2147483648 ≤ x1 ∧ x1 < 2147483648) ∧ (-2147483648 ≤ x2 ∧ x2 < 2147483648)) : Two L d md_X_thing md_M_thing [.inl x1, .inl x2] I := by
  obtain ⟨hm, c, e, hx⟩ := id h
  have hr := hm.1
  unfold mRng at hr
  exact two_q h (fun K k => c_X_thing hm hx hz k) (fun K k => c_M_thing (by omega) k)
theorem c_X_upPeople (hm : mOk I) (hx : xRel I c e) (k : K (some (.inl (orF (upF I) (I 167 4).toNat))) I) : Cx (jx_0 L) (d + 1) md_X_upPeople [.inr (.inl 1)] I K := by
  obtain ⟨h1, h2, h3, hci, -, hmo, -⟩ := hx
  obtain ⟨hc, -⟩ := ct_of (L := L) h1
  have hr := hm.1
  unfold mRng at hr
  have c3 := hci.1.2.2.2.1
  refine b_X_upPeople_0 ?_
  refine lp_up (σ := Int) (Inv := fun x u => 0 ≤ x ∧ u = orF (upF I) x.toNat) (G := fun x u => Gx (jx_0 L) (d + 1) md_X_upPeople 4 [some (.inr (.inl 1)), some (.inl u), some (.inl x)] [] I K) (I 167 4) ?_ ?_ 0 0 (by omega) ⟨by omega, rfl⟩
  · intro x u hx hu ih
    obtain ⟨h0, rfl⟩ := hu
    obtain ⟨p, rfl⟩ : ∃ p : Nat, x = p := ⟨x.toNat, by omega⟩
    obtain ⟨⟨p1, p2, p3⟩, p4, p5⟩ := mo_pe hm hmo (p := (p : Int)) h0 hx
    have hpe : (11 + (p : Int)).toNat = 11 + p := by omega
    refine b_X_upPeople_4 h2 hc (by omega) (fun h => by omega) (fun h => ?_)
    refine b_X_upPeople_15 (c_X_isUp (by rw [p3]; omega) (fun v hv => ?_))
    rw [p3, hpe] at hv
    refine b_X_upPeople_20 (by omega) (fun h => ?_) (fun h => ?_)
    · refine b_X_upPeople_29 ?_
      refine ih _ ⟨by omega, ?_⟩
      rw [show ((p : Int) + 1).toNat = p + 1 by omega, Int.toNat_natCast]
      have : I 171 (11 + p) = -9 := by omega
      simp [orF, upF, this]
    · refine b_X_upPeople_23 ?_
      refine b_X_upPeople_29 ?_
      refine ih _ ⟨by omega, ?_⟩
      rw [show ((p : Int) + 1).toNat = p + 1 by omega, Int.toNat_natCast]
      have : ¬ I 171 (11 + p) = -9 := by omega
      simp [orF, upF, this]
  · intro u hu
    obtain ⟨-, rfl⟩ := hu
    refine b_X_upPeople_4 h2 hc (by omega) (fun h => ?_) (fun h => by omega)
    refine b_X_upPeople_35 ?_
    exact k
theorem c_X_now (hm : mOk I) (hx : xRel I c e) (hz : -2147483648 ≤ x1 ∧ x1 < 2147483648) (k : K (some (.inl (q_now I x1))) I) : Cx (jx_0 L) (d + 2) md_X_now [.inr (.inl 1), .inl x1] I K := by
  have hx0 := hx
  obtain ⟨h1, h2, h3, hci, -, hmo, ⟨hh, -⟩, -⟩ := hx
  have hs := hm.2.2.2.1.1
  have m0 : I 44 0 = I 171 0 := hmo.1
  have m1 : I 44 1 = I 171 16 := hmo.2.1
  refine b_X_now_0 (by omega) (fun hb1 => ?_) (fun hb1 => ?_) (fun hb1 => ?_) (fun hb1 => ?_) (fun hb1 => ?_) (fun hb1 => ?_)
  · refine b_X_now_36 ?_
    exact cv_ (by unfold q_now; (repeat' split) <;> first | rfl | omega) k
  · refine b_X_now_44 (by omega) ?_
    exact cv_ (by unfold q_now; (repeat' split) <;> first | rfl | omega) k
  · refine b_X_now_55 (c_X_upPeople hm hx0 ?_)
    refine b_X_now_59 ?_
    exact cv_ (by unfold q_now; (repeat' split) <;> first | rfl | omega) k
  · refine b_X_now_60 ?_
    exact cv_ (by unfold q_now; (repeat' split) <;> first | rfl | omega) k
  · refine b_X_now_68 ?_
    exact cv_ (by unfold q_now; (repeat' split) <;> first | rfl | omega) k
  · refine b_X_now_76 ?_
    exact cv_ (by unfold q_now; (repeat' split) <;> first | rfl | omega) k
theorem g_now (h : Rel I) (hz : -2147483648 ≤ x1 ∧ x1 < 2147483648) : Two L d md_X_now md_M_now [.inl x1] I := by
  obtain ⟨hm, c, e, hx⟩ := id h
  have hr := hm.1
  unfold mRng at hr
  have hs := hm.2.2.2.1
  refine two_q h (fun K k => c_X_now hm hx hz k) (fun K k => c_M_now ⟨by omega, hs.1, hz⟩ (fun p hp => ?_) k)
  have := (hs.2.2.1 p hp).2
  omega
theorem c_X_where (hm : mOk I) (hx : xRel I c e) (hz : (-2147483648 ≤ x1 ∧ x1 < 2147483648) ∧ (-2147483648 ≤ x2 ∧ x2 < 2147483648)) (k : K (some (.inl (q_where I x1 x2))) I) : Cx (jx_0 L) (d + 2) md_X_where [.inr (.inl 1), .inl x1, .inl x2] I K := by
  obtain ⟨h1, h2, h3, hci, -, hmo, -⟩ := hx
  obtain ⟨hc, -⟩ := ct_of (L := L) h1
  have hr := hm.1
  unfold mRng at hr
  have c4 := hci.1.2.2.2.2
  refine b_X_where_0 (c_X_isThing hc h2 (by omega) (fun v1 hv1 => ?_))
  refine b_X_where_5 (by omega) (fun hb2 => ?_) (fun hb2 => ?_)
  · refine b_X_where_18 ?_
    exact cv_ (by unfold q_where; rw [if_neg (by omega)]) k
  · refine b_X_where_8 (c_X_within (by omega) (fun v3 hv3 => ?_))
    refine b_X_where_15 (by omega) (fun hb4 => ?_) (fun hb4 => ?_)
    · refine b_X_where_20 (by first | assumption | rfl) (by first | assumption | rfl) (by omega) (c_City_roomIn hc (tc_of hm hci (by omega) (by omega)) (by rw [mo_sp hmo (by omega) (by omega)]; exact (nw_sp hm (by omega) (by omega)).1) (by omega) ?_)
      refine b_X_where_38 ?_
      exact cv_ (by unfold q_where riF; rw [if_pos (by omega), mo_sp hmo (by omega) (by omega)]) k
    · refine b_X_where_18 ?_
      exact cv_ (by unfold q_where; rw [if_neg (by omega)]) k
theorem g_where (h : Rel I) (hz : (-2147483648 ≤ x1 ∧ x1 < 2147483648) ∧ (-2147483648 ≤ x2 ∧ x2 < 2147483648)) : Two L d md_X_where md_M_where [.inl x1, .inl x2] I := by
  obtain ⟨hm, c, e, hx⟩ := id h
  have hr := hm.1
  unfold mRng at hr
  exact two_q h (fun K k => c_X_where hm hx hz k) (fun K k => c_M_where (by omega) (fun q => th_of hm q.1 q.2) k)
theorem c_X_upon (hm : mOk I) (hx : xRel I c e) (hz : (-2147483648 ≤ x1 ∧ x1 < 2147483648) ∧ (-2147483648 ≤ x2 ∧ x2 < 2147483648)) (k : K (some (.inl (q_upon I x1 x2))) I) : Cx (jx_0 L) (d + 2) md_X_upon [.inr (.inl 1), .inl x1, .inl x2] I K := by
  obtain ⟨h1, h2, h3, hci, -, hmo, -⟩ := hx
  obtain ⟨hc, -⟩ := ct_of (L := L) h1
  have hr := hm.1
  unfold mRng at hr
  have c4 := hci.1.2.2.2.2
  have c3 := hci.1.2.2.2.1
  refine b_X_upon_0 (c_X_isThing hc h2 (by omega) (fun v1 hv1 => ?_))
  refine b_X_upon_5 (by omega) (fun hb2 => ?_) (fun hb2 => ?_)
  · refine b_X_upon_16 ?_
    exact cv_ (by unfold q_upon; rw [if_neg (by omega)]) k
  · refine b_X_upon_8 (c_X_isPerson hc h2 (by omega) (fun v3 hv3 => ?_))
    refine b_X_upon_13 (by omega) (fun hb4 => ?_) (fun hb4 => ?_)
    · have ht := th_of hm (t := x1) (by omega) (by omega)
      have hsp := mo_sp hmo (t := x1) (by omega) (by omega)
      have hnw := (nw_sp hm (t := x1) (by omega) (by omega)).1
      have htc := tc_of hm hci (t := x1) (by omega) (by omega)
      obtain ⟨⟨p1, -, -⟩, p4, -⟩ := mo_pe hm hmo (p := x2) (by omega) (by omega)
      have hk : K (some (.inl (upoF I x1 x2))) I := by
        refine cv_ ?_ k
        unfold q_upon
        rw [if_pos (by omega)]
      refine b_X_upon_18 ?_
      refine lp_up (σ := Unit) (Inv := fun x _ => 0 ≤ x ∧ ∀ n : Nat, (n : Int) < x → riF I x1 n ≠ I 171 (1 + x2).toNat) (G := fun x _ => Gx (jx_0 L) (d + 2) md_X_upon 20 [some (.inr (.inl 1)), some (.inl x1), some (.inl x2), some (.inl x)] [] I K) 21 ?_ ?_ 0 () (by omega) ⟨by omega, fun n h => by omega⟩
      · intro x _ hx hi ih
        obtain ⟨h0, hi⟩ := hi
        have hr := riF_r ht h0
        have hri : roF I x1 (laF I x1 (I 48 x1.toNat) x) = riF I x1 x := by unfold riF; rw [hsp]
        refine b_X_upon_20 (by omega) (fun h => by omega) (fun h => ?_)
        refine b_X_upon_26 h2 hc (by omega) (c_City_roomIn hc htc (by rw [hsp]; exact hnw) (by omega) ?_)
        rw [hri]
        refine b_X_upon_44 (by rw [p1]; omega) (fun h => ?_) (fun h => ?_)
        · rw [p1] at h
          refine b_X_upon_58 ?_
          refine ih () ⟨by omega, fun n hn => ?_⟩
          by_cases e : (n : Int) = x
          · rw [e]; exact h
          · exact hi n (by omega)
        · rw [p1] at h
          refine b_X_upon_56 ?_
          refine cv_ ?_ hk
          unfold upoF
          rw [fst_at (f := fun n : Nat => riF I x1 n) (j := x.toNat) (by show riF I x1 ((x.toNat : Nat) : Int) = _; rw [show ((x.toNat : Nat) : Int) = x by omega]; assumption) (fun n hn => hi n (by omega)) (by omega)]
          omega
      · intro _ hi
        obtain ⟨-, hi⟩ := hi
        refine b_X_upon_20 (by omega) (fun h => ?_) (fun h => by omega)
        refine b_X_upon_64 ?_
        refine cv_ ?_ hk
        unfold upoF
        rw [fst_no (f := fun n : Nat => riF I x1 n) (fun n hn => hi n (by omega))]
    · refine b_X_upon_16 ?_
      exact cv_ (by unfold q_upon; rw [if_neg (by omega)]) k
theorem g_upon (h : Rel I) (hz : (-2147483648 ≤ x1 ∧ x1 < 2147483648) ∧ (-2147483648 ≤ x2 ∧ x2 < 2147483648)) : Two L d md_X_upon md_M_upon [.inl x1, .inl x2] I := by
  obtain ⟨hm, c, e, hx⟩ := id h
  have hr := hm.1
  unfold mRng at hr
  refine two_q h (fun K k => c_X_upon hm hx hz k) (fun K k => c_M_upon (by omega) (fun q => th_of hm q.1 q.2) (fun q => ?_) k)
  have := (mo_pe hm hx.2.2.2.2.2.1 q.1 q.2).2.1
  omega
theorem c_X_count (hm : mOk I) (hx : xRel I c e) (hz : -2147483648 ≤ x1 ∧ x1 < 2147483648) (k : K (some (.inl (q_count I x1))) I) : Cx (jx_0 L) d md_X_count [.inr (.inl 1), .inl x1] I K := by
  obtain ⟨h1, h2, h3, ⟨⟨c0, c1, c2, c3, c4⟩, -⟩, ⟨hl, -⟩, -, -, -, ⟨hf, -⟩, -⟩ := hx
  obtain ⟨hc, -⟩ := ct_of (L := L) h1
  refine b_X_count_0 (by omega) (fun hb1 => ?_) (fun hb1 => ?_) (fun hb1 => ?_) (fun hb1 => ?_) (fun hb1 => ?_) (fun hb1 => ?_) (fun hb1 => ?_) (fun hb1 => ?_)
  · refine b_X_count_44 (by first | assumption | rfl) (by first | assumption | rfl) ?_
    exact cv_ (by unfold q_count; (repeat' split) <;> first | rfl | omega) k
  · refine b_X_count_52 (by first | assumption | rfl) (by first | assumption | rfl) ?_
    exact cv_ (by unfold q_count; (repeat' split) <;> first | rfl | omega) k
  · refine b_X_count_60 (by first | assumption | rfl) (by first | assumption | rfl) ?_
    exact cv_ (by unfold q_count; (repeat' split) <;> first | rfl | omega) k
  · refine b_X_count_68 (by first | assumption | rfl) (by first | assumption | rfl) ?_
    exact cv_ (by unfold q_count; (repeat' split) <;> first | rfl | omega) k
  · refine b_X_count_76 (by first | assumption | rfl) (by first | assumption | rfl) ?_
    exact cv_ (by unfold q_count; (repeat' split) <;> first | rfl | omega) k
  · refine b_X_count_84 ?_
    exact cv_ (by unfold q_count; (repeat' split) <;> first | rfl | omega) k
  · refine b_X_count_92 ?_
    exact cv_ (by unfold q_count; (repeat' split) <;> first | rfl | omega) k
  · refine b_X_count_97 ?_
    exact cv_ (by unfold q_count; (repeat' split) <;> first | rfl | omega) k
theorem g_count (h : Rel I) (hz : -2147483648 ≤ x1 ∧ x1 < 2147483648) : Two L d md_X_count md_M_count [.inl x1] I := by
  obtain ⟨hm, c, e, hx⟩ := id h
  exact two_q h (fun K k => c_X_count hm hx hz k) (fun K k => c_M_count hz k)
end XQ
