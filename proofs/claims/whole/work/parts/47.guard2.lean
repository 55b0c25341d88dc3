/-! ===== guard: the loops over the sets of doors ===== -/
def guC (I : jm_I) (op t r : Int) (s : Nat) (b : Int) : Prop := jb_and (s : Int) (jb_xor op (-1)) = 0 ∧ (b = -9 ∨ bcF (s : Int) < bcF b) ∧ ¬ crP I t r s
/-- the best of the first n sets -/
def guR (I : jm_I) (op t r : Int) : Nat → Int → Prop
  | 0, b => b = -9
  | s + 1, b => ∃ b0, guR I op t r s b0 ∧ ((guC I op t r s b0 ∧ b = s) ∨ (¬ guC I op t r s b0 ∧ b = b0))
theorem guR_r {I : jm_I} {op t r : Int} : ∀ {n : Nat} {b : Int}, guR I op t r n b → b = -9 ∨ (0 ≤ b ∧ b < n)
  | 0, b, h => Or.inl h
  | n + 1, b, ⟨b0, h1, h2⟩ => by
    have ih := guR_r h1
    rcases h2 with ⟨-, q⟩ | ⟨-, q⟩
    · right; omega
    · omega
theorem guR_u {I : jm_I} {op t r : Int} : ∀ {n : Nat} {b b' : Int}, guR I op t r n b → guR I op t r n b' → b = b'
  | 0, b, b', h, h' => by rw [h, h']
  | n + 1, b, b', ⟨b0, h1, h2⟩, ⟨b1, h3, h4⟩ => by
    obtain rfl := guR_u h1 h3
    rcases h2 with ⟨q1, q2⟩ | ⟨q1, q2⟩
    · rcases h4 with ⟨q3, q4⟩ | ⟨q3, q4⟩
      · rw [q2, q4]
      · exact absurd q1 q3
    · rcases h4 with ⟨q3, q4⟩ | ⟨q3, q4⟩
      · exact absurd q3 q1
      · rw [q2, q4]
theorem guR_ext {I : jm_I} {op t r b : Int} {m : Nat} (ho : 0 ≤ op ∧ op < (m : Int)) (hm : m ≤ 256) (h : guR I op t r m b) : ∀ j, m + j ≤ 256 → guR I op t r (m + j) b
  | 0, _ => h
  | j + 1, hj => by
    show guR I op t r ((m + j) + 1) b
    refine ⟨b, guR_ext ho hm h j (by omega), Or.inr ⟨fun hc => ?_, rfl⟩⟩
    have := jb_sub (by omega) (by omega) hc.1
    omega
def opF (I : jm_I) : Int := orF (fun e => decide (I 168 (3 * e + 2) = 0)) (I 167 1).toNat
section GUARD2
variable {L d : Nat} {I : jm_I} {K : Option jm_V → jm_I → Prop} {x0 x1 x2 x3 x4 : Int} {c e : Nat}
theorem c_City_openDoors (hm : mOk I) (hc : jx_City (jx_0 L) c) (hci : xCity I c) (k : K (some (.inl (opF I))) I) : Cx (jx_0 L) d md_City_openDoors [.inr (.inl c)] I K := by
  have hr := hm.1
  unfold mRng at hr
  have c2 := hci.1.2.2.1
  refine b_City_openDoors_0 hc ?_
  refine lp_up (σ := Int) (Inv := fun x u => 0 ≤ x ∧ u = orF (fun e => decide (I 168 (3 * e + 2) = 0)) x.toNat) (G := fun x u => Gx (jx_0 L) d md_City_openDoors 4 [some (.inr (.inl c)), some (.inl u), some (.inl x)] [] I K) (I 167 1) ?_ ?_ 0 0 (by omega) ⟨by omega, rfl⟩
  · intro x u hx hu ih
    obtain ⟨h0, rfl⟩ := hu
    obtain ⟨q, rfl⟩ : ∃ q : Nat, x = q := ⟨x.toNat, by omega⟩
    have hd := (hci.2.1 q hx).2.2
    have hs := (hm.2.1 q hx).2.2.1
    refine b_City_openDoors_4 hc (by omega) (fun h => by omega) (fun h => ?_)
    refine b_City_openDoors_12 hc (by rw [Int.toNat_natCast, hd]; omega) (fun h => ?_) (fun h => ?_)
    · rw [Int.toNat_natCast, hd] at h
      refine b_City_openDoors_27 ?_
      refine ih _ ⟨by omega, ?_⟩
      rw [show ((q : Int) + 1).toNat = q + 1 by omega, Int.toNat_natCast]
      simp only [orF]
      rw [if_neg (by simp only [decide_eq_true_eq]; omega)]
    · rw [Int.toNat_natCast, hd] at h
      refine b_City_openDoors_21 ?_
      refine b_City_openDoors_27 ?_
      refine ih _ ⟨by omega, ?_⟩
      rw [show ((q : Int) + 1).toNat = q + 1 by omega, Int.toNat_natCast]
      simp only [orF]
      rw [if_pos (by simp only [decide_eq_true_eq]; omega)]
  · intro u hu
    obtain ⟨-, rfl⟩ := hu
    refine b_City_openDoors_4 hc (by omega) (fun h => ?_) (fun h => by omega)
    exact b_City_openDoors_33 k
theorem c_X_guard (hm : mOk I) (hx : xRel I c e) (hz : (-2147483648 ≤ x1 ∧ x1 < 2147483648) ∧ (-2147483648 ≤ x2 ∧ x2 < 2147483648)) (k0 : ¬ ((0 ≤ x1 ∧ x1 < I 167 5) ∧ (0 ≤ x2 ∧ x2 < I 167 0)) → K (some (.inl (-1))) I) (k : (0 ≤ x1 ∧ x1 < I 167 5) ∧ (0 ≤ x2 ∧ x2 < I 167 0) → ∀ g b, guR I (opF I) x1 x2 256 b → K (some (.inl b)) (st_ I 156 g)) : Cx (jx_0 L) (d + 4) md_X_guard [.inr (.inl 1), .inl x1, .inl x2] I K := by
  have hx0 := hx
  obtain ⟨h1, h2, h3, hci, -, hmo, -⟩ := hx
  obtain ⟨hc, -⟩ := ct_of (L := L) h1
  have hcl : 2 ≤ c ∧ c ≤ 22 := by rcases h1 with ⟨rfl, -⟩ | ⟨rfl, -⟩ <;> decide
  have hr := hm.1
  unfold mRng at hr
  obtain ⟨c0, c1, c2, c3, c4⟩ := hci.1
  refine b_X_guard_0 (c_X_isThing hc h2 (by omega) (fun v1 hv1 => ?_))
  refine b_X_guard_5 (by omega) (fun hb2 => ?_) (fun hb2 => ?_)
  · refine b_X_guard_16 ?_
    exact k0 (by omega)
  · refine b_X_guard_8 (c_X_isRoom hc h2 (by omega) (fun v3 hv3 => ?_))
    refine b_X_guard_13 (by omega) (fun hb4 => ?_) (fun hb4 => ?_)
    · have hk := k (by omega)
      refine b_X_guard_18 h2 hc (c_City_openDoors hm hc hci ?_)
      refine b_X_guard_25 ?_
      rw [← st_id (I := I) (a := 156)]
      refine lp_up4 (σ := Int) (τ := Int) (υ := Nat → Int) (φ := Option jm_V) (Inv := fun x f b _ _ => 0 ≤ x ∧ guR I (opF I) x1 x2 x.toNat b ∧ ((b = -9 ∧ f = 9) ∨ (¬ b = -9 ∧ f = bcF b))) (G := fun x f b g o => Gx (jx_0 L) (d + 4) md_X_guard 37 [some (.inr (.inl 1)), some (.inl x1), some (.inl x2), some (.inl (opF I)), some (.inl f), some (.inl b), some (.inl x), o] [] (st_ I 156 g) K) 256 ?_ ?_ 0 9 (-9) (I 156) none (by omega) ⟨by omega, rfl, Or.inl ⟨rfl, rfl⟩⟩
      · intro x f b g o hx hi ih
        obtain ⟨x0, hg, hf⟩ := hi
        obtain ⟨s, rfl⟩ : ∃ s : Nat, x = s := ⟨x.toNat, by omega⟩
        rw [Int.toNat_natCast] at hg
        have hbr := guR_r hg
        have hbs := bc_r (x := (s : Int)) (by omega)
        have hfr : 0 ≤ f ∧ f ≤ 9 := by
          rcases hf with ⟨-, q⟩ | ⟨q1, q2⟩
          · omega
          · have := bc_r (x := b) (by omega)
            omega
        have hfb : (f ≤ bcF (s : Int)) ↔ ¬ (b = -9 ∨ bcF (s : Int) < bcF b) := by
          rcases hf with ⟨q1, q2⟩ | ⟨q1, q2⟩ <;> omega
        have stay : ∀ g' o', ¬ guC I (opF I) x1 x2 s b → Gx (jx_0 L) (d + 4) md_X_guard 98 [some (.inr (.inl 1)), some (.inl x1), some (.inl x2), some (.inl (opF I)), some (.inl f), some (.inl b), some (.inl (s : Int)), o'] [] (st_ I 156 g') K := by
          intro g' o' hno
          refine b_X_guard_98 ?_
          refine ih _ _ _ _ ⟨by omega, ?_, hf⟩
          rw [show ((s : Int) + 1).toNat = s + 1 by omega]
          exact ⟨b, hg, Or.inr ⟨hno, rfl⟩⟩
        refine b_X_guard_37 (by omega) (fun h => by omega) (fun h => ?_)
        refine b_X_guard_45 (jb_and_r _ _) (fun h => ?_) (fun ha => ?_)
        · refine b_X_guard_68 ?_
          refine b_X_guard_69 (by omega) (fun _ => stay _ _ (fun hc => h hc.1)) (fun h => by omega)
        · refine b_X_guard_54 (c_Integer_bitCount ?_)
          refine b_X_guard_59 (by omega) (fun h => ?_) (fun hl => ?_)
          · refine b_X_guard_68 ?_
            refine b_X_guard_69 (by omega) (fun _ => stay _ _ (fun hc => hfb.1 h hc.2.1)) (fun h => by omega)
          · refine b_X_guard_64 ?_
            refine b_X_guard_69 (by omega) (fun h => by omega) (fun _ => ?_)
            have oth : ∀ a, a ≠ 156 → st_ I 156 g a = I a := fun a ha => st_a ha
            have mk : mKeep I (st_ I 156 g) := ⟨fun k _ => by rw [oth 167 (by decide)], fun a a1 a2 => oth a (by omega)⟩
            have xk : xKeep I (st_ I 156 g) c := ⟨oth 1 (by decide), fun a a1 a2 => oth a (by omega), fun a a1 a2 => oth a (by omega), fun a a1 a2 => oth a (by omega)⟩
            refine b_X_guard_76 (c_X_anybodyCarries (mOk_keep mk hm) (xRel_keep mk xk hm.1 hx0) (by rw [oth 167 (by decide)]; omega) (by rw [oth 167 (by decide)]; omega) (fun g' v hv => ?_))
            rw [crP_k (oth 167 (by decide)) (oth 168 (by decide)) (oth 171 (by decide))] at hv
            rw [st_st]
            have hv1 : ¬ v = 0 → crP I x1 x2 s := fun q => by
              rcases hv with a | a
              · exact a.2
              · exact absurd a.1 q
            have hv0 : v = 0 → ¬ crP I x1 x2 s := fun q => by
              rcases hv with a | a
              · omega
              · exact a.2
            refine b_X_guard_84 (by omega) (fun h => stay _ _ (fun hc => hc.2.2 (hv1 h))) (fun h => ?_)
            refine b_X_guard_87 (c_Integer_bitCount ?_)
            refine b_X_guard_92 ?_
            refine b_X_guard_98 ?_
            refine ih _ _ _ _ ⟨by omega, ?_, Or.inr ⟨by omega, rfl⟩⟩
            rw [show ((s : Int) + 1).toNat = s + 1 by omega]
            exact ⟨b, hg, Or.inl ⟨⟨ha, Classical.not_not.mp (fun q => hl (hfb.2 q)), hv0 h⟩, rfl⟩⟩
      · intro f b g o hi
        obtain ⟨-, hg, -⟩ := hi
        refine b_X_guard_37 (by omega) (fun h => ?_) (fun h => by omega)
        exact b_X_guard_104 (hk g b hg)
    · refine b_X_guard_16 ?_
      exact k0 (by omega)
end GUARD2
