/-! ===== the model: what is asked and told, small ===== -/
theorem jb_or0 {a : Int} (h : -2147483648 ≤ a ∧ a < 2147483648) : jb_or a 0 = a := by
  unfold jb_or
  rw [show Int32.ofInt 0 = 0 from rfl, Int32.or_zero, Int32.toInt_ofInt_of_le h.1 h.2]
/-- the bits of those that have a property -/
def orF (f : Nat → Bool) : Nat → Int
  | 0 => 0
  | n + 1 => if f n = true then jb_or (orF f n) (jb_shl 1 n) else orF f n
theorem orF_r (f : Nat → Bool) : ∀ n, -2147483648 ≤ orF f n ∧ orF f n < 2147483648
  | 0 => by simp [orF]
  | n + 1 => by
    simp only [orF]
    split
    · exact jb_or_r _ _
    · exact orF_r f n
theorem orF_congr {f g : Nat → Bool} : ∀ {n : Nat}, (∀ k, k < n → f k = g k) → orF f n = orF g n
  | 0, _ => rfl
  | n + 1, h => by
    simp only [orF]
    rw [orF_congr (n := n) (fun k hk => h k (by omega)), h n (by omega)]
/-- how many have a property -/
def cnF (f : Nat → Bool) : Nat → Int
  | 0 => 0
  | n + 1 => cnF f n + (if f n = true then 1 else 0)
theorem cnF_congr {f g : Nat → Bool} : ∀ {n : Nat}, (∀ k, k < n → f k = g k) → cnF f n = cnF g n
  | 0, _ => rfl
  | n + 1, h => by
    simp only [cnF]
    rw [cnF_congr (n := n) (fun k hk => h k (by omega)), h n (by omega)]
section MPUB
variable {L d : Nat} {I : jm_I} {K : Option jm_V → jm_I → Prop} {x0 x1 x2 x3 : Int}
def typF (I : jm_I) (x : Int) : jm_I := jm_up (jm_up I 176 (I 167 17).toNat x) 167 17 (I 167 17 + 1)
theorem c_M_type (hz : (0 ≤ I 167 17 ∧ I 167 17 ≤ 200) ∧ (-2147483648 ≤ x1 ∧ x1 < 2147483648)) (k0 : ¬ (0 ≤ x1 ∧ x1 ≤ 255) → K (some (.inl (-1))) I) (k1 : 0 ≤ x1 ∧ x1 ≤ 255 → I 167 17 = 200 → K (some (.inl (-3))) I) (k2 : 0 ≤ x1 ∧ x1 ≤ 255 → ¬ I 167 17 = 200 → K (some (.inl (I 167 17 + 1))) (typF I x1)) : Cx (jx_0 L) (d + 1) md_M_type [.inr (.inl 167), .inl x1] I K := by
  refine b_M_type_0 (c_M_in (by omega) (fun v1 hv1 => ?_))
  refine b_M_type_8 (by omega) (fun hb2 => ?_) (fun hb2 => ?_)
  · refine b_M_type_13 (by omega) (fun hb3 => ?_) (fun hb3 => ?_)
    · refine b_M_type_26 (by omega) ?_
      exact k2 (by omega) (by omega)
    · refine b_M_type_23 ?_
      exact k1 (by omega) (by omega)
  · refine b_M_type_11 ?_
    exact k0 (by omega)
theorem c_M_clear (k : K (some (.inl (I 167 17))) (jm_up I 167 17 0)) : Cx (jx_0 L) d md_M_clear [.inr (.inl 167)] I K := by
  refine b_M_clear_0 ?_
  exact k
def q_door (I : jm_I) (a w : Int) : Int := if 0 ≤ a ∧ a < I 167 1 ∧ 0 ≤ w ∧ w ≤ 2 then I 168 (3 * a + w).toNat else -1
theorem c_M_door (hz : (0 ≤ I 167 1 ∧ I 167 1 ≤ 8) ∧ (-2147483648 ≤ x1 ∧ x1 < 2147483648) ∧ (-2147483648 ≤ x2 ∧ x2 < 2147483648)) (k : K (some (.inl (q_door I x1 x2))) I) : Cx (jx_0 L) (d + 1) md_M_door [.inr (.inl 167), .inl x1, .inl x2] I K := by
  refine b_M_door_0 (c_M_in (by omega) (fun v1 hv1 => ?_))
  refine b_M_door_11 (by omega) (fun hb2 => ?_) (fun hb2 => ?_)
  · refine b_M_door_36 ?_
    refine b_M_door_37 ?_
    exact cv_ (by unfold q_door; split <;> first | rfl | omega) k
  · refine b_M_door_14 (c_M_in (by omega) (fun v3 hv3 => ?_))
    refine b_M_door_20 (by omega) (fun hb4 => ?_) (fun hb4 => ?_)
    · refine b_M_door_36 ?_
      refine b_M_door_37 ?_
      exact cv_ (by unfold q_door; split <;> first | rfl | omega) k
    · refine b_M_door_23 (by omega) ?_
      refine b_M_door_37 ?_
      exact cv_ (by unfold q_door; split <;> first | rfl | omega) k
def q_person (I : jm_I) (p w : Int) : Int := if 0 ≤ p ∧ p < I 167 4 then (if w = 0 then I 171 (1 + p).toNat else if w = 1 then I 171 (6 + p).toNat else if w = 2 then (if jb_and (jb_shr (I 171 16) p) 1 = 1 then 1 else 0) else if w = 3 then I 171 (11 + p).toNat else -1) else -1
theorem c_M_person (hz : (0 ≤ I 167 4 ∧ I 167 4 ≤ 5) ∧ (-2147483648 ≤ x1 ∧ x1 < 2147483648) ∧ (-2147483648 ≤ x2 ∧ x2 < 2147483648)) (k : K (some (.inl (q_person I x1 x2))) I) : Cx (jx_0 L) (d + 2) md_M_person [.inr (.inl 167), .inl x1, .inl x2] I K := by
  refine b_M_person_0 (c_M_isPerson (by omega) (fun v1 hv1 => ?_))
  refine b_M_person_5 (by omega) (fun hb2 => ?_) (fun hb2 => ?_)
  · refine b_M_person_10 (by omega) (fun hb3 => ?_) (fun hb3 => ?_) (fun hb3 => ?_) (fun hb3 => ?_) (fun hb3 => ?_)
    · refine b_M_person_40 (by omega) ?_
      exact cv_ (by unfold q_person; (repeat' split) <;> first | rfl | omega) k
    · refine b_M_person_49 (by omega) ?_
      exact cv_ (by unfold q_person; (repeat' split) <;> first | rfl | omega) k
    · refine b_M_person_59 (c_M_has (fun w hw => ?_))
      unfold jb_has at hw
      refine b_M_person_70 (by omega) (fun hb5 => ?_) (fun hb5 => ?_)
      · refine b_M_person_77 ?_
        refine b_M_person_78 ?_
        exact cv_ (by unfold q_person; (repeat' split) <;> first | rfl | omega) k
      · refine b_M_person_73 ?_
        refine b_M_person_78 ?_
        exact cv_ (by unfold q_person; (repeat' split) <;> first | rfl | omega) k
    · refine b_M_person_79 (by omega) ?_
      exact cv_ (by unfold q_person; (repeat' split) <;> first | rfl | omega) k
    · refine b_M_person_89 ?_
      exact cv_ (by unfold q_person; (repeat' split) <;> first | rfl | omega) k
  · refine b_M_person_8 ?_
    exact cv_ (by unfold q_person; (repeat' split) <;> first | rfl | omega) k
def q_thing (I : jm_I) (t w : Int) : Int := if 0 ≤ t ∧ t < I 167 5 then (if w = 0 then I 171 (17 + t).toNat else if w = 1 then I 171 (22 + t).toNat else if w = 2 then I 169 t.toNat else -1) else -1
theorem c_M_thing (hz : (0 ≤ I 167 5 ∧ I 167 5 ≤ 5) ∧ (-2147483648 ≤ x1 ∧ x1 < 2147483648) ∧ (-2147483648 ≤ x2 ∧ x2 < 2147483648)) (k : K (some (.inl (q_thing I x1 x2))) I) : Cx (jx_0 L) (d + 2) md_M_thing [.inr (.inl 167), .inl x1, .inl x2] I K := by
  refine b_M_thing_0 (c_M_isThing (by omega) (fun v1 hv1 => ?_))
  refine b_M_thing_5 (by omega) (fun hb2 => ?_) (fun hb2 => ?_)
  · refine b_M_thing_17 ?_
    exact cv_ (by unfold q_thing; (repeat' split) <;> first | rfl | omega) k
  · refine b_M_thing_8 (c_M_in (by omega) (fun v3 hv3 => ?_))
    refine b_M_thing_14 (by omega) (fun hb4 => ?_) (fun hb4 => ?_)
    · refine b_M_thing_19 (by omega) (fun hb5 => ?_) (fun hb5 => ?_)
      · refine b_M_thing_35 (by omega) (fun hb6 => ?_) (fun hb6 => ?_)
        · refine b_M_thing_52 (by omega) ?_
          refine b_M_thing_58 ?_
          exact cv_ (by unfold q_thing; (repeat' split) <;> first | rfl | omega) k
        · refine b_M_thing_40 (by omega) ?_
          refine b_M_thing_58 ?_
          exact cv_ (by unfold q_thing; (repeat' split) <;> first | rfl | omega) k
      · refine b_M_thing_23 (by omega) ?_
        refine b_M_thing_58 ?_
        exact cv_ (by unfold q_thing; (repeat' split) <;> first | rfl | omega) k
    · refine b_M_thing_17 ?_
      exact cv_ (by unfold q_thing; (repeat' split) <;> first | rfl | omega) k
def upF (I : jm_I) : Nat → Bool := fun p => decide (¬ I 171 (11 + p) = -9)
def q_now (I : jm_I) (w : Int) : Int := if w = 0 then I 171 0 else if w = 1 then I 171 0 / 20 else if w = 2 then orF (upF I) (I 167 4).toNat else if w = 3 then I 171 16 else if w = 4 then I 167 10 else -1
theorem c_M_now (hz : (0 ≤ I 167 4 ∧ I 167 4 ≤ 5) ∧ (0 ≤ I 171 0 ∧ I 171 0 ≤ 9999) ∧ (-2147483648 ≤ x1 ∧ x1 < 2147483648)) (hl : ∀ p : Nat, (p : Int) < I 167 4 → -9 ≤ I 171 (11 + p) ∧ I 171 (11 + p) < 100) (k : K (some (.inl (q_now I x1))) I) : Cx (jx_0 L) d md_M_now [.inr (.inl 167), .inl x1] I K := by
  refine b_M_now_0 (by omega) (fun h1 => ?_) (fun h1 => ?_) (fun h1 => ?_) (fun h1 => ?_) (fun h1 => ?_) (fun h1 => ?_)
  · refine b_M_now_36 ?_
    exact cv_ (by unfold q_now; (repeat' split) <;> first | rfl | omega) k
  · refine b_M_now_43 (by omega) ?_
    exact cv_ (by unfold q_now; (repeat' split) <;> first | rfl | omega) k
  · refine b_M_now_53 ?_
    refine lp_up (σ := Int) (Inv := fun x u => 0 ≤ x ∧ u = orF (upF I) x.toNat) (G := fun x u => Gx (jx_0 L) d md_M_now 57 [some (.inr (.inl 167)), some (.inl x1), some (.inl u), some (.inl x)] [] I K) (I 167 4) ?_ ?_ 0 0 (by omega) ⟨by omega, rfl⟩
    · intro x u hx hu ih
      obtain ⟨h0, rfl⟩ := hu
      obtain ⟨p, rfl⟩ : ∃ p : Nat, x = p := ⟨x.toNat, by omega⟩
      have hp := hl p hx
      have hpe : (11 + (p : Int)).toNat = 11 + p := by omega
      have hor := orF_r (upF I) p
      refine b_M_now_57 (by omega) (fun h => by omega) (fun h => ?_)
      refine b_M_now_65 (by rw [hpe]; omega) (fun h => ?_) (fun h => ?_)
      · rw [hpe] at h
        refine b_M_now_84 ?_
        refine b_M_now_87 ?_
        refine ih _ ⟨by omega, ?_⟩
        rw [show ((p : Int) + 1).toNat = p + 1 by omega, Int.toNat_natCast]
        simp [orF, upF, h]
      · rw [hpe] at h
        refine b_M_now_80 ?_
        refine b_M_now_87 ?_
        refine ih _ ⟨by omega, ?_⟩
        rw [show ((p : Int) + 1).toNat = p + 1 by omega, Int.toNat_natCast, jb_or0 hor]
        simp [orF, upF, h]
    · intro u hu
      obtain ⟨-, rfl⟩ := hu
      refine b_M_now_57 (by omega) (fun h => ?_) (fun h => by omega)
      refine b_M_now_95 ?_
      exact cv_ (by unfold q_now; (repeat' split) <;> first | rfl | omega) k
  · refine b_M_now_97 ?_
    exact cv_ (by unfold q_now; (repeat' split) <;> first | rfl | omega) k
  · refine b_M_now_105 ?_
    exact cv_ (by unfold q_now; (repeat' split) <;> first | rfl | omega) k
  · refine b_M_now_110 ?_
    exact cv_ (by unfold q_now; (repeat' split) <;> first | rfl | omega) k
def q_count (I : jm_I) (w : Int) : Int := if w = 0 then I 167 0 else if w = 1 then I 167 1 else if w = 2 then I 167 3 else if w = 3 then I 167 4 else if w = 4 then I 167 5 else if w = 5 then I 167 13 else if w = 6 then I 167 17 else -1
theorem c_M_count (hz : -2147483648 ≤ x1 ∧ x1 < 2147483648) (k : K (some (.inl (q_count I x1))) I) : Cx (jx_0 L) d md_M_count [.inr (.inl 167), .inl x1] I K := by
  refine b_M_count_0 (by omega) (fun hb1 => ?_) (fun hb1 => ?_) (fun hb1 => ?_) (fun hb1 => ?_) (fun hb1 => ?_) (fun hb1 => ?_) (fun hb1 => ?_) (fun hb1 => ?_)
  · refine b_M_count_44 ?_
    exact cv_ (by unfold q_count; (repeat' split) <;> first | rfl | omega) k
  · refine b_M_count_49 ?_
    exact cv_ (by unfold q_count; (repeat' split) <;> first | rfl | omega) k
  · refine b_M_count_54 ?_
    exact cv_ (by unfold q_count; (repeat' split) <;> first | rfl | omega) k
  · refine b_M_count_59 ?_
    exact cv_ (by unfold q_count; (repeat' split) <;> first | rfl | omega) k
  · refine b_M_count_64 ?_
    exact cv_ (by unfold q_count; (repeat' split) <;> first | rfl | omega) k
  · refine b_M_count_69 ?_
    exact cv_ (by unfold q_count; (repeat' split) <;> first | rfl | omega) k
  · refine b_M_count_74 ?_
    exact cv_ (by unfold q_count; (repeat' split) <;> first | rfl | omega) k
  · refine b_M_count_79 ?_
    exact cv_ (by unfold q_count; (repeat' split) <;> first | rfl | omega) k
theorem c_M_trace (k : K (some (.inr (.inr (I 167 15)))) I) : Cx (jx_0 L) d md_M_trace [.inr (.inl 167)] I K := by
  refine b_M_trace_0 ?_
  exact k
theorem c_M_forget (k : K (some (.inl (I 167 13))) (jm_up I 167 13 0)) : Cx (jx_0 L) d md_M_forget [.inr (.inl 167)] I K := by
  refine b_M_forget_0 ?_
  exact k
def fouF (I : jm_I) (t r n : Int) : jm_I := jm_up (jm_up (jm_up (jm_up I 175 (3 * I 167 13).toNat t) 175 (3 * I 167 13 + 1).toNat r) 175 (3 * I 167 13 + 2).toNat n) 167 13 (I 167 13 + 1)
def fouOk (I : jm_I) (t r n : Int) : Prop := (0 ≤ t ∧ t < I 167 5) ∧ (0 ≤ r ∧ r < I 167 0) ∧ (0 ≤ n ∧ n ≤ 20)
theorem c_M_found (hz : (2 ≤ I 167 0 ∧ I 167 0 ≤ 6) ∧ (0 ≤ I 167 5 ∧ I 167 5 ≤ 5) ∧ (0 ≤ I 167 13 ∧ I 167 13 ≤ 4) ∧ (-2147483648 ≤ x1 ∧ x1 < 2147483648) ∧ (-2147483648 ≤ x2 ∧ x2 < 2147483648) ∧ (-2147483648 ≤ x3 ∧ x3 < 2147483648)) (k0 : ¬ fouOk I x1 x2 x3 → K (some (.inl (-1))) I) (k1 : fouOk I x1 x2 x3 → I 167 13 = 4 → K (some (.inl (-3))) I) (k2 : fouOk I x1 x2 x3 → ¬ I 167 13 = 4 → K (some (.inl (I 167 13 + 1))) (fouF I x1 x2 x3)) : Cx (jx_0 L) (d + 2) md_M_found [.inr (.inl 167), .inl x1, .inl x2, .inl x3] I K := by
  unfold fouOk at *
  refine b_M_found_0 (c_M_isThing (by omega) (fun v1 hv1 => ?_))
  refine b_M_found_5 (by omega) (fun hb2 => ?_) (fun hb2 => ?_)
  · refine b_M_found_26 ?_
    exact k0 (by omega)
  · refine b_M_found_8 (c_M_isRoom (by omega) (fun v3 hv3 => ?_))
    refine b_M_found_13 (by omega) (fun hb4 => ?_) (fun hb4 => ?_)
    · refine b_M_found_26 ?_
      exact k0 (by omega)
    · refine b_M_found_16 (c_M_in (by omega) (fun v5 hv5 => ?_))
      refine b_M_found_23 (by omega) (fun hb6 => ?_) (fun hb6 => ?_)
      · refine b_M_found_28 (by omega) (fun hb7 => ?_) (fun hb7 => ?_)
        · refine b_M_found_39 (by omega) ?_
          exact k2 (by omega) (by omega)
        · refine b_M_found_36 ?_
          exact k1 (by omega) (by omega)
      · refine b_M_found_26 ?_
        exact k0 (by omega)
/-- upon: the first second in which the thing is there -/
def upoF (I : jm_I) (t p : Int) : Int := fst_ (fun n => riF I t n) (I 171 (1 + p).toNat) 21
def q_upon (I : jm_I) (t p : Int) : Int := if 0 ≤ t ∧ t < I 167 5 ∧ 0 ≤ p ∧ p < I 167 4 then upoF I t p else -1
theorem riF_r {t n : Int} (ht : thOk I t) (hn : 0 ≤ n) : 0 ≤ riF I t n ∧ riF I t n < 6 := by
  obtain ⟨h1, h2, h3, h4⟩ := ht
  have hv : 0 ≤ nwF I t ∧ nwF I t < 10 ∧ (nwF I t < 4 → nwF I t < I 169 t.toNat) := by unfold nwF; split <;> omega
  have hw : 0 ≤ laF I t (nwF I t) n ∧ laF I t (nwF I t) n < 10 ∧ (laF I t (nwF I t) n < 4 → laF I t (nwF I t) n < I 169 t.toNat) := by
    unfold laF
    split
    · have c1 := Int.emod_nonneg (nwF I t + n) (show I 169 t.toNat ≠ 0 by omega)
      have c2 := Int.emod_lt_of_pos (nwF I t + n) (show 0 < I 169 t.toNat by omega)
      omega
    · omega
  unfold riF roF
  split
  · have := h3 (laF I t (nwF I t) n).toNat (by omega)
    rwa [show 4 * t + ((laF I t (nwF I t) n).toNat : Int) = 4 * t + laF I t (nwF I t) n by omega] at this
  · omega
theorem c_M_upon (hz : (0 ≤ I 167 5 ∧ I 167 5 ≤ 5) ∧ (0 ≤ I 167 4 ∧ I 167 4 ≤ 5) ∧ (-2147483648 ≤ x1 ∧ x1 < 2147483648) ∧ (-2147483648 ≤ x2 ∧ x2 < 2147483648)) (ht : 0 ≤ x1 ∧ x1 < I 167 5 → thOk I x1) (hp : 0 ≤ x2 ∧ x2 < I 167 4 → 0 ≤ I 171 (1 + x2).toNat ∧ I 171 (1 + x2).toNat < 6) (k : K (some (.inl (q_upon I x1 x2))) I) : Cx (jx_0 L) (d + 2) md_M_upon [.inr (.inl 167), .inl x1, .inl x2] I K := by
  refine b_M_upon_0 (c_M_isThing (by omega) (fun v1 hv1 => ?_))
  refine b_M_upon_5 (by omega) (fun hb2 => ?_) (fun hb2 => ?_)
  · refine b_M_upon_16 ?_
    exact cv_ (by unfold q_upon; split <;> first | rfl | omega) k
  · refine b_M_upon_8 (c_M_isPerson (by omega) (fun v3 hv3 => ?_))
    refine b_M_upon_13 (by omega) (fun hb4 => ?_) (fun hb4 => ?_)
    · have ht := ht (by omega)
      have hp := hp (by omega)
      have hk : K (some (.inl (upoF I x1 x2))) I := by
        refine cv_ ?_ k
        unfold q_upon
        rw [if_pos (by omega)]
      refine b_M_upon_18 ?_
      refine lp_up (σ := Unit) (Inv := fun x _ => 0 ≤ x ∧ ∀ n : Nat, (n : Int) < x → riF I x1 n ≠ I 171 (1 + x2).toNat) (G := fun x _ => Gx (jx_0 L) (d + 2) md_M_upon 20 [some (.inr (.inl 167)), some (.inl x1), some (.inl x2), some (.inl x)] [] I K) 21 ?_ ?_ 0 () (by omega) ⟨by omega, fun n h => by omega⟩
      · intro x _ hx hi ih
        obtain ⟨h0, hi⟩ := hi
        have hr := riF_r ht h0
        refine b_M_upon_20 (by omega) (fun h => by omega) (fun h => ?_)
        refine b_M_upon_26 (c_M_roomIn ht (by omega) ?_)
        refine b_M_upon_32 (by omega) (fun h => ?_) (fun h => ?_)
        · refine b_M_upon_49 (by omega) (fun h => ?_) (fun h => by omega)
          refine b_M_upon_60 ?_
          refine b_M_upon_61 ?_
          refine cv_ ?_ hk
          unfold upoF
          rw [fst_at (f := fun n : Nat => riF I x1 n) (j := x.toNat) (by show riF I x1 ((x.toNat : Nat) : Int) = _; rw [show ((x.toNat : Nat) : Int) = x by omega]; assumption) (fun n hn => hi n (by omega)) (by omega)]
          omega
        · refine b_M_upon_43 ?_
          refine ih () ⟨by omega, fun n hn => ?_⟩
          by_cases e : (n : Int) = x
          · rw [e]; exact h
          · exact hi n (by omega)
      · intro _ hi
        obtain ⟨-, hi⟩ := hi
        refine b_M_upon_20 (by omega) (fun h => ?_) (fun h => by omega)
        refine b_M_upon_49 (by omega) (fun h => by omega) (fun h => ?_)
        refine b_M_upon_55 ?_
        refine b_M_upon_61 ?_
        refine cv_ ?_ hk
        unfold upoF
        rw [fst_no (f := fun n : Nat => riF I x1 n) (fun n hn => hi n (by omega))]
    · refine b_M_upon_16 ?_
      exact cv_ (by unfold q_upon; split <;> first | rfl | omega) k
end MPUB
