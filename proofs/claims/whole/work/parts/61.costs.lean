/-! ===== doneBy: costs against steps left ===== -/
/-- what a thing's settling makes of the row of costs -/
def fcR (I : jm_I) (t : Int) (f g : Nat → Int) : Prop := ∃ b : Nat → Int, (∀ q : Nat, (q : Int) < I 167 0 → (soP I t (nwF I t) ∧ b q = f q) ∨ (¬ soP I t (nwF I t) ∧ b q = 10000)) ∧ ∀ q : Nat, (q : Int) < I 167 0 → (soP I t (puF I t q) ∧ g q = mcF (fun a c => I 182 (6 * a + c)) f (I 171 (17 + t).toNat).toNat q (I 167 0).toNat (b q)) ∨ (¬ soP I t (puF I t q) ∧ g q = b q)
theorem nwF_k {I J : jm_I} (h : J 171 = I 171) (t : Int) : nwF J t = nwF I t := by
  unfold nwF
  rw [h]
theorem fcR_k {I J : jm_I} {t : Int} {f g : Nat → Int} (o : ∀ a, a ≠ 185 → a ≠ 186 → J a = I a) (h : fcR J t f g) : fcR I t f g := by
  obtain ⟨b, h1, h2⟩ := h
  have e167 := o 167 (by decide) (by decide)
  have so : ∀ how, soP J t how ↔ soP I t how := soP_k e167 (o _ (by decide) (by decide)) (o _ (by decide) (by decide)) (o _ (by decide) (by decide)) t
  have hn := nwF_k (o 171 (by decide) (by decide)) t
  refine ⟨b, fun q hq => ?_, fun q hq => ?_⟩
  · have := h1 q (by rw [e167]; exact hq)
    rw [so, hn] at this
    exact this
  · have := h2 q (by rw [e167]; exact hq)
    rw [so, puF_k (o _ (by decide) (by decide)) (o _ (by decide) (by decide)), e167, o 171 (by decide) (by decide), o 182 (by decide) (by decide)] at this
    exact this
theorem fcR_r {I : jm_I} {t : Int} {f g : Nat → Int} (hR : 2 ≤ I 167 0 ∧ I 167 0 ≤ 6) (hT : 0 ≤ I 171 (17 + t).toNat ∧ I 171 (17 + t).toNat < I 167 0) (hD : ∀ i j, i < 6 → j < 6 → 0 ≤ I 182 (6 * i + j) ∧ I 182 (6 * i + j) ≤ 10000) (hf : ∀ q : Nat, (q : Int) < I 167 0 → 0 ≤ f q ∧ f q ≤ 10000) (h : fcR I t f g) : ∀ q : Nat, (q : Int) < I 167 0 → 0 ≤ g q ∧ g q ≤ 10000 := by
  obtain ⟨b, h1, h2⟩ := h
  intro q hq
  have hb : 0 ≤ b q ∧ b q ≤ 10000 := by
    have := hf q hq
    rcases h1 q hq with ⟨-, w⟩ | ⟨-, w⟩ <;> omega
  rcases h2 q hq with ⟨-, w⟩ | ⟨-, w⟩
  · rw [w]
    exact mcF_r hb (fun i hi => ⟨(hf i (by omega)).1, (hD i _ (by omega) (by omega)).1, (hD _ q (by omega) (by omega)).1⟩)
  · rw [w]; exact hb
/-- the row of costs behind the first n things -/
def fcN (I : jm_I) (p : Int) : Nat → (Nat → Int) → Prop
  | 0, f => ∀ q, q < 6 → f q = if q = (I 171 (1 + p).toNat).toNat then 0 else 10000
  | t + 1, f => ∃ f0, fcN I p t f0 ∧ ((fdP I t ∧ fcR I t f0 f) ∨ (¬ fdP I t ∧ f = f0))
theorem mcF_b {D : Nat → Nat → Int} {f : Nat → Int} {T r : Nat} {b B : Int} (h : b ≤ B) : ∀ {n : Nat}, mcF D f T r n b = min b (mcF D f T r n B)
  | 0 => by simp only [mcF]; omega
  | n + 1 => by
    have := mcF_b (D := D) (f := f) (T := T) (r := r) h (n := n)
    simp only [mcF]
    omega
theorem sl_fc {I : jm_I} {c : Nat} {p : Int} (hm : mOk I) (hmo : xMom I 44 (I 171)) (hci : xCity I c) (hp : 0 ≤ p ∧ p < I 167 4) (hg : ∀ i j, i < 6 → j < 6 → isD (adjM I 0) 10000 i j (I 182 (6 * i + j))) : ∀ n : Nat, (n : Int) ≤ I 167 5 → ∀ f g, slN I c p n f → fcN I p n g → ∀ q : Nat, (q : Int) < I 167 0 → f q = LfF (I 167 3) (g q) ∧ 0 ≤ g q ∧ g q ≤ 10000 := by
  have hr := hm.1
  unfold mRng at hr
  have c0 := hci.1.1
  have hD : ∀ i j, i < 6 → j < 6 → 0 ≤ I 182 (6 * i + j) ∧ I 182 (6 * i + j) ≤ 10000 := fun i j hi hj => by
    rcases hg i j hi hj with ⟨n, hn, hn6, -⟩ | ⟨hn, -⟩ <;> omega
  intro n
  induction n with
  | zero =>
    intro _ f g h1 h2 q hq
    have a1 := h1 q (by omega)
    have a2 := h2 q (by omega)
    unfold LfF
    by_cases e : q = (I 171 (1 + p).toNat).toNat
    · rw [if_pos e] at a1 a2
      rw [a1, a2, if_pos (by omega)]
      omega
    · rw [if_neg e] at a1 a2
      rw [a1, a2, if_neg (by omega)]
      omega
  | succ n ih =>
    intro hn f g ⟨f0, hf0, hf⟩ ⟨g0, hg0, hg1⟩ q hq
    have ih := ih (by omega) f0 g0 hf0 hg0
    obtain ⟨n1, n2, n3⟩ := nw_sp hm (t := (n : Int)) (by omega) (by omega)
    have hsp := mo_sp hmo (t := (n : Int)) (by omega) (by omega)
    rcases hf with ⟨w1, hf⟩ | ⟨w1, rfl⟩
    · rcases hg1 with ⟨-, hg1⟩ | ⟨w2, -⟩
      · have hgr := fcR_r (by omega) n3 hD (fun q hq => (ih q hq).2) hg1 q hq
        refine ⟨?_, hgr⟩
        obtain ⟨b, s1, s2, s3⟩ := hf
        obtain ⟨b', t1, t2⟩ := hg1
        rw [hsp] at s1
        rw [show (17 + (n : Int)).toNat = 17 + n by omega] at t2 n3
        have hbb : b q = LfF (I 167 3) (b' q) ∧ b' q ≤ 10000 := by
          have i1 := ih q hq
          rcases s1 q (by omega) with ⟨v1, v2⟩ | ⟨v1, v2⟩
          · rcases t1 q hq with ⟨-, u2⟩ | ⟨u1, -⟩
            · rw [v2, u2]; exact ⟨i1.1, i1.2.2⟩
            · exact absurd v1 u1
          · rcases t1 q hq with ⟨u1, -⟩ | ⟨-, u2⟩
            · exact absurd u1 v1
            · rw [v2, u2]
              unfold LfF
              rw [if_neg (by omega)]
              omega
        rcases s2 q (by omega) with ⟨v1, v2⟩ | ⟨v1, v2⟩
        · rcases t2 q hq with ⟨-, u2⟩ | ⟨u1, -⟩
          · have hfx : ∀ i j : Nat, (i : Int) < I 167 0 → (j : Int) < I 167 0 → (I (c + 14 + i) j = I 182 (6 * i + j) ∧ 0 ≤ I 182 (6 * i + j) ∧ I 182 (6 * i + j) < 6) ∨ (I (c + 14 + i) j = 1000 ∧ I 182 (6 * i + j) = 10000) := fun i j hi hj => by
              have := far_x hm hci (r := (i : Int)) (s := (j : Int)) (by omega) (by omega) (w := I 182 (6 * i + j)) (by rw [Int.toNat_natCast, Int.toNat_natCast]; exact hg i j (by omega) (by omega))
              rw [Int.toNat_natCast, Int.toNat_natCast] at this
              exact this
            have hml := ml_mc (D := fun x y => I (c + 14 + x) y) (D' := fun a c => I 182 (6 * a + c)) (f := f0) (g := g0) (S := I 167 3) (T := (I 171 (17 + n)).toNat) (r := q) (by omega) (n := (I 167 0).toNat) (fun i hi => ⟨(ih i (by omega)).1, (ih i (by omega)).2.1, by
              have a1 := hfx i (I 171 (17 + n)).toNat (by omega) (by omega)
              have a2 := hfx (I 171 (17 + n)).toNat q (by omega) hq
              show (I (c + 14 + i) (I 171 (17 + n)).toNat + I (c + 14 + (I 171 (17 + n)).toNat) q = I 182 (6 * i + (I 171 (17 + n)).toNat) + I 182 (6 * (I 171 (17 + n)).toNat + q) ∧ _) ∨ _
              omega⟩) 10000 (by omega)
            rw [v2, u2, mcF_b hbb.2, c0, hml.1, hbb.1]
            rcases Lf_min (I 167 3) (b' q) (mcF (fun a c => I 182 (6 * a + c)) g0 (I 171 (17 + n)).toNat q (I 167 0).toNat 10000) with z | z
            · exact z.symm
            · omega
          · exact absurd v1 u1
        · rcases t2 q hq with ⟨u1, -⟩ | ⟨-, u2⟩
          · exact absurd u1 v1
          · rw [v2, u2]; exact hbb.1
      · exact absurd w1 w2
    · rcases hg1 with ⟨w2, -⟩ | ⟨-, rfl⟩
      · exact absurd w2 w1
      · exact ih q hq
section COSTS
variable {L d : Nat} {I : jm_I} {K : Option jm_V → jm_I → Prop} {x0 x1 x2 x3 x4 : Int} {c e : Nat}
theorem c_M_findCosts (hm : mOk I) (ht : 0 ≤ x1 ∧ x1 < I 167 5) (hD : ∀ i j, i < 6 → j < 6 → 0 ≤ I 182 (6 * i + j) ∧ I 182 (6 * i + j) ≤ 10000) (hf : ∀ q : Nat, (q : Int) < I 167 0 → 0 ≤ I 185 q ∧ I 185 q ≤ 10000) (k : ∀ J : jm_I, (∀ a, a ≠ 185 → a ≠ 186 → J a = I a) → fcR I x1 (I 185) (J 185) → K none J) : Cx (jx_0 L) (d + 2) md_M_findCosts [.inr (.inl 167), .inl x1] I K := by
  have hr := hm.1
  unfold mRng at hr
  refine fc_first hm ht (fun b hb => ?_)
  refine fc_second hm ht hD hf (fun q hq => ?_) (fun h x a2 a3 a4 hh => ?_)
  · have := hf q hq
    rcases hb q (by omega) with ⟨-, w⟩ | ⟨-, w⟩ <;> omega
  · refine fc_third (fun f hf3 => ?_)
    refine k _ (fun a a1 a2 => by rw [st_a a1, st_a a2]) ⟨b, fun q hq => hb q (by omega), fun q hq => ?_⟩
    rw [st_s, hf3 q (by omega)]
    exact hh q hq
theorem c_M_canHave (hm : mOk I) (hp : 0 ≤ x1 ∧ x1 < I 167 4) (hD : ∀ i j, i < 6 → j < 6 → 0 ≤ I 182 (6 * i + j) ∧ I 182 (6 * i + j) ≤ 10000) (k : ∀ (J : jm_I) (v : Int), (∀ a, a ≠ 185 → a ≠ 186 → J a = I a) → fcN I x1 (I 167 5).toNat (J 185) → (v = 1 ∧ ∃ r : Nat, (r : Int) < I 167 0 ∧ J 185 r ≤ I 167 3) ∨ (v = 0 ∧ ∀ r : Nat, (r : Int) < I 167 0 → ¬ J 185 r ≤ I 167 3) → K (some (.inl v)) J) : Cx (jx_0 L) (d + 3) md_M_canHave [.inr (.inl 167), .inl x1] I K := by
  have hr := hm.1
  unfold mRng at hr
  have hpr := (hm.2.2.2.1.2.2.1 x1.toNat (by omega)).1
  rw [show 1 + x1.toNat = (1 + x1).toNat by omega] at hpr
  refine b_M_canHave_0 ?_
  rw [← st_id (I := I) (a := 185)]
  refine lp_up (σ := Nat → Int) (Inv := fun x f => 0 ≤ x ∧ ∀ q : Nat, (q : Int) < x → f q = if q = (I 171 (1 + x1).toNat).toNat then 0 else 10000) (G := fun x f => Gx (jx_0 L) (d + 3) md_M_canHave 2 [some (.inr (.inl 167)), some (.inl x1), some (.inl x), none] [] (st_ I 185 f) K) 6 ?_ ?_ 0 _ (by omega) ⟨by omega, fun q hq => by omega⟩
  · intro x f hx hi ih
    obtain ⟨h0, hi⟩ := hi
    have e171 : st_ I 185 f 171 = I 171 := st_a (by decide)
    have fin : ∀ z, z = (if x.toNat = (I 171 (1 + x1).toNat).toNat then 0 else 10000) → Gx (jx_0 L) (d + 3) md_M_canHave 32 [some (.inr (.inl 167)), some (.inl x1), some (.inl x), none] [.inl z, .inl x, .inr (.inl 185)] (st_ I 185 f) K := by
      intro z hz
      refine b_M_canHave_32 (by omega) ?_
      rw [st_up]
      refine ih _ ⟨by omega, fun q hq => ?_⟩
      by_cases eq : q = x.toNat
      · rw [if_pos eq, eq]; exact hz
      · rw [if_neg eq]; exact hi q (by omega)
    refine b_M_canHave_2 (by omega) (fun h => by omega) (fun h => ?_)
    refine b_M_canHave_8 (by rw [e171]; omega) (fun h => ?_) (fun h => ?_)
    · rw [e171] at h
      exact b_M_canHave_29 (fin _ (by rw [if_neg (by omega)]))
    · rw [e171] at h
      exact b_M_canHave_25 (fin _ (by rw [if_pos (by omega)]))
  · intro f hi
    obtain ⟨-, hi⟩ := hi
    refine b_M_canHave_2 (by omega) (fun h => ?_) (fun h => by omega)
    refine b_M_canHave_39 ?_
    refine lp_up (σ := jm_I) (Inv := fun x J => 0 ≤ x ∧ (∀ a, a ≠ 185 → a ≠ 186 → J a = I a) ∧ fcN I x1 x.toNat (J 185) ∧ ∀ q : Nat, (q : Int) < I 167 0 → 0 ≤ J 185 q ∧ J 185 q ≤ 10000) (G := fun x J => Gx (jx_0 L) (d + 3) md_M_canHave 41 [some (.inr (.inl 167)), some (.inl x1), some (.inl x), none] [] J K) (I 167 5) ?_ ?_ 0 _ (by omega) ⟨by omega, fun a a1 _ => st_a a1, fun q hq => ?_, fun q hq => ?_⟩
    · intro x J hx hj ih
      obtain ⟨h0, o, hj, hjr⟩ := hj
      obtain ⟨t, rfl⟩ : ∃ t : Nat, x = t := ⟨x.toNat, by omega⟩
      rw [Int.toNat_natCast] at hj
      have e167 := o 167 (by decide) (by decide)
      have e175 := o 175 (by decide) (by decide)
      have mk : mKeep I J := ⟨fun k _ => by rw [e167], fun a a1 a2 => o a (by omega) (by omega)⟩
      have hmJ := mOk_keep mk hm
      refine b_M_canHave_41 (by rw [e167]; omega) (fun h => by rw [e167] at h; omega) (fun h => ?_)
      refine b_M_canHave_49 (c_M_isFound hmJ.2.2.2.2.2.2.1 hmJ.1 (by omega) (fun v hv => ?_))
      rw [fdP_k e167 e175] at hv
      refine b_M_canHave_54 (by rcases hv with ⟨q, -⟩ | ⟨q, -⟩ <;> omega) (fun h' => ?_) (fun h' => ?_)
      · refine b_M_canHave_62 ?_
        refine ih _ ⟨by omega, o, ?_, hjr⟩
        rw [show ((t : Int) + 1).toNat = t + 1 by omega]
        refine ⟨_, hj, Or.inr ⟨?_, rfl⟩⟩
        rcases hv with ⟨q1, -⟩ | ⟨-, q2⟩
        · omega
        · exact q2
      · have hfd : fdP I t := by
          rcases hv with ⟨-, q2⟩ | ⟨q1, -⟩
          · exact q2
          · exact absurd q1 h'
        refine b_M_canHave_57 (c_M_findCosts hmJ (by rw [e167]; omega) (by rw [o 182 (by decide) (by decide)]; exact hD) (by rw [e167]; exact hjr) (fun J' o' h2 => ?_))
        have h3 := fcR_k o h2
        refine b_M_canHave_62 ?_
        refine ih _ ⟨by omega, fun a a1 a2 => by rw [o' a a1 a2, o a a1 a2], ?_, fcR_r (by omega) (nw_sp hm (t := (t : Int)) (by omega) hx).2.2 hD hjr h3⟩
        rw [show ((t : Int) + 1).toNat = t + 1 by omega]
        exact ⟨_, hj, Or.inl ⟨hfd, h3⟩⟩
    · intro J hj
      obtain ⟨-, o, hj, hjr⟩ := hj
      have e167 := o 167 (by decide) (by decide)
      refine b_M_canHave_41 (by rw [e167]; omega) (fun h => ?_) (fun h => by rw [e167] at h; omega)
      refine b_M_canHave_68 ?_
      refine lp_up (σ := Int) (Inv := fun x v => 0 ≤ x ∧ ((v = 1 ∧ ∃ r : Nat, (r : Int) < I 167 0 ∧ J 185 r ≤ I 167 3) ∨ (v = 0 ∧ ∀ r : Nat, (r : Int) < x → ¬ J 185 r ≤ I 167 3))) (G := fun x v => Gx (jx_0 L) (d + 3) md_M_canHave 72 [some (.inr (.inl 167)), some (.inl x1), some (.inl v), some (.inl x)] [] J K) (I 167 0) ?_ ?_ 0 0 (by omega) ⟨by omega, Or.inr ⟨rfl, fun r hr => by omega⟩⟩
      · intro x v hx hv ih
        obtain ⟨h0, hv⟩ := hv
        have hv01 : v = 0 ∨ v = 1 := by rcases hv with ⟨q, -⟩ | ⟨q, -⟩ <;> omega
        have hjx := hjr x.toNat (by omega)
        refine b_M_canHave_72 (by rw [e167]; omega) (fun h => by rw [e167] at h; omega) (fun h => ?_)
        refine b_M_canHave_80 (by omega) (fun h => ?_) (fun h => ?_)
        · refine b_M_canHave_97 ?_
          refine b_M_canHave_102 ?_
          refine ih _ ⟨by omega, Or.inl ⟨rfl, ?_⟩⟩
          rcases hv with ⟨-, q⟩ | ⟨q, -⟩
          · exact q
          · exact absurd q h
        · have hno : ∀ r : Nat, (r : Int) < x → ¬ J 185 r ≤ I 167 3 := by
            rcases hv with ⟨q, -⟩ | ⟨-, q⟩
            · omega
            · exact q
          refine b_M_canHave_84 (by rw [e167]; omega) (fun h' => ?_) (fun h' => ?_)
          · rw [e167] at h'
            refine b_M_canHave_101 ?_
            refine b_M_canHave_102 ?_
            refine ih _ ⟨by omega, Or.inr ⟨rfl, fun r hr => ?_⟩⟩
            by_cases er : r = x.toNat
            · rw [er]; omega
            · exact hno r (by omega)
          · rw [e167] at h'
            refine b_M_canHave_97 ?_
            refine b_M_canHave_102 ?_
            exact ih _ ⟨by omega, Or.inl ⟨rfl, x.toNat, by omega, by omega⟩⟩
      · intro v hv
        obtain ⟨-, hv⟩ := hv
        refine b_M_canHave_72 (by rw [e167]; omega) (fun h => ?_) (fun h => by rw [e167] at h; omega)
        exact b_M_canHave_109 (by rcases hv with ⟨q, -⟩ | ⟨q, -⟩ <;> omega) (k J v o hj hv)
    · rw [st_s]; exact hi q (by omega)
    · rw [st_s, hi q (by omega)]
      split <;> omega
end COSTS
