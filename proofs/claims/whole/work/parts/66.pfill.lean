/-! ===== presses: the class ===== -/
def rsN (a b : Int) : Int := jb_and (jb_shl 1 a - 1) (jb_xor b (-1))
theorem prs_tab : ∀ np : Fin 6, ∀ pr : Fin 32, (0 ≤ rsN np.1 pr.1 ∧ rsN np.1 pr.1 < 32) ∧ (∀ p : Fin 5, jb_and (jb_shr (rsN np.1 pr.1) (p.1 : Int)) 1 = 1 → p.1 < np.1) ∧ orF (fun p => decide (jb_and (jb_shr (rsN np.1 pr.1) (p : Int)) 1 = 1)) np.1 = rsN np.1 pr.1 := by decide +kernel
theorem sub_tab : ∀ s r : Fin 32, (jb_and (s.1 : Int) (jb_xor (r.1 : Int) (-1)) = 0) ↔ ∀ p : Fin 5, s.1.testBit p.1 = true → jb_and (jb_shr (r.1 : Int) (p.1 : Int)) 1 = 1 := by decide +kernel
theorem pbc_tab : ∀ s : Fin 32, 0 ≤ bcF (s.1 : Int) ∧ bcF (s.1 : Int) ≤ 5 := by decide +kernel
/-- who may press: a number below 32 -/
theorem rs_of {I : jm_I} (hm : mOk I) : (0 ≤ rsF I ∧ rsF I < 32) ∧ (∀ p : Nat, p < 5 → jb_has (rsF I) p → (p : Int) < I 167 4) ∧ orF (fun p => decide (jb_and (jb_shr (rsF I) (p : Int)) 1 = 1)) (I 167 4).toNat = rsF I := by
  have hr := hm.1
  unfold mRng at hr
  have hs := hm.2.2.2.1.2.1
  obtain ⟨n, hn⟩ : ∃ n : Nat, I 167 4 = n := ⟨(I 167 4).toNat, by omega⟩
  obtain ⟨q, hq⟩ : ∃ q : Nat, I 171 16 = q := ⟨(I 171 16).toNat, by omega⟩
  have e : rsF I = rsN (n : Int) (q : Int) := by unfold rsF rsN; rw [hn, hq]
  obtain ⟨t1, t2, t3⟩ := prs_tab ⟨n, by omega⟩ ⟨q, by omega⟩
  rw [e, hn, Int.toNat_natCast]
  refine ⟨t1, fun p hp h => ?_, t3⟩
  have := t2 ⟨p, hp⟩ h
  have : p < n := this
  omega
def subP (I : jm_I) (s : Nat) : Prop := ∀ p : Nat, s.testBit p = true → jb_has (rsF I) p
theorem sub_of {I : jm_I} (hm : mOk I) {s : Nat} (hs : s < 32) : jb_and (s : Int) (jb_xor (rsF I) (-1)) = 0 ↔ subP I s := by
  have h1 := (rs_of hm).1
  obtain ⟨r, hr⟩ : ∃ r : Nat, rsF I = r := ⟨(rsF I).toNat, by omega⟩
  have := sub_tab ⟨s, hs⟩ ⟨r, by omega⟩
  unfold subP jb_has
  rw [hr, this]
  constructor
  · intro h p hp
    by_cases h5 : p < 5
    · exact h ⟨p, h5⟩ hp
    · rw [sx_hi hs h5] at hp; simp at hp
  · intro h p hp
    exact h p.1 hp
theorem sub_x {I : jm_I} {s p : Nat} (hs : s < 32) (hp : s.testBit p = true) (h : subP I s) : subP I (s ^^^ 2 ^ p) := by
  intro q hq
  refine h q ?_
  have hp5 : p < 5 := by
    by_cases h5 : p < 5
    · exact h5
    · rw [sx_hi hs h5] at hp; simp at hp
  by_cases e : q = p
  · rw [e, (sx_1 hs hp5 hp).2.2] at hq; simp at hq
  · rw [Nat.testBit_xor, Nat.testBit_two_pow_of_ne (fun z => e z.symm), Bool.xor_false] at hq
    exact hq
section PFILL
variable {L d : Nat} {I J : jm_I} {K : Option jm_V → jm_I → Prop} {x0 x1 x2 x3 x4 t : Int} {c e : Nat}
theorem c_PressTable_fill {N : Nat} {room : Int} (hm : mOk I) (hx : xRel I c e) (ht : 0 ≤ t ∧ t < I 167 5) (hroom : 0 ≤ room ∧ room < I 167 0) (hN : N ≤ 12) (k : ∀ J : jm_I, (∀ a, a < 107 ∨ 147 < a → J a = I a) → J 107 3 = rsF I → (∀ s : Nat, s < 32 → (J 147 s = 1 ∧ subP I s ∧ rcP I t room N s) ∨ (J 147 s = 0 ∧ ¬ (subP I s ∧ rcP I t room N s))) → K none J) : Cx (jx_0 L) (d + 3) md_PressTable_fill [.inr (.inl 107), .inr (.inl c), .inr (.inl 44), .inl t, .inl room, .inl (N : Int)] I K := by
  have hx0 := hx
  obtain ⟨h1, h2, h3, hci, -, hmo, -⟩ := hx
  obtain ⟨hc, -⟩ := ct_of (L := L) h1
  have hcl : 2 ≤ c ∧ c ≤ 22 := by rcases h1 with ⟨rfl, -⟩ | ⟨rfl, -⟩ <;> decide
  have hr := hm.1
  unfold mRng at hr
  have hrs0 := rs_of hm
  obtain ⟨c0, c1, c2, c3, c4⟩ := hci.1
  refine b_PressTable_fill_0 hc jx_m44 ?_
  refine b_Moment_rested_0 jx_m44 hc ?_
  refine b_PressTable_fill_27 ?_
  have hrs : jb_and (jb_shl 1 (jm_up (jm_up (jm_up I 107 0 ((c : Nat) : Int)) 107 1 ((44 : Nat) : Int)) 107 2 t c 3) - 1) (jb_xor (jm_up (jm_up (jm_up I 107 0 ((c : Nat) : Int)) 107 1 ((44 : Nat) : Int)) 107 2 t 44 1) (-1)) = rsF I := by
    rw [up_a (show c ≠ 107 by omega), up_a (show c ≠ 107 by omega), up_a (show c ≠ 107 by omega), up_a (show (44 : Nat) ≠ 107 by decide), up_a (show (44 : Nat) ≠ 107 by decide), up_a (show (44 : Nat) ≠ 107 by decide), c3, show I 44 1 = I 171 16 from hmo.2.1]
    rfl
  rw [hrs]
  generalize hJ : jm_up (jm_up (jm_up (jm_up I 107 0 ((c : Nat) : Int)) 107 1 ((44 : Nat) : Int)) 107 2 t) 107 3 (rsF I) = J1
  have oJ : ∀ a, a ≠ 107 → J1 a = I a := fun a ha => by rw [← hJ, jm_up_o ha, jm_up_o ha, jm_up_o ha, jm_up_o ha]
  have f0 : J1 107 0 = (c : Int) := by rw [← hJ, up_k (by decide), up_k (by decide), up_k (by decide), up_s]
  have f1 : J1 107 1 = ((44 : Nat) : Int) := by rw [← hJ, up_k (by decide), up_k (by decide), up_s]
  have f2 : J1 107 2 = t := by rw [← hJ, up_k (by decide), up_s]
  have f3 : J1 107 3 = rsF I := by rw [← hJ, up_s]
  have hp1 : ptC I J1 c e t := ⟨hm, hx0, ht, fun a ha => oJ a (by omega), f0, f1, f2⟩
  refine c_PressTable_fillCarried hp1 (fun J2 o2 hca => ?_)
  have hp2 : ptC I J2 c e t := pt_mv hp1 (fun a ha => o2 a (by omega))
  refine b_PressTable_fill_34 (c_PressTable_spotsInRoom hp2 (by omega) (fun g hg => ?_))
  refine b_PressTable_fill_40 ?_
  refine lp_up (σ := jm_I) (Inv := fun x J => 0 ≤ x ∧ (∀ a, a < 109 ∨ (140 < a ∧ a ≠ 147) → J a = J2 a) ∧ (∀ s : Nat, (s : Int) < x → subP I s → srP I J t N s) ∧ ∀ s : Nat, (s : Int) < x → (J 147 s = 1 ∧ subP I s ∧ rcP I t room N s) ∨ (J 147 s = 0 ∧ ¬ (subP I s ∧ rcP I t room N s))) (G := fun x J => Gx (jx_0 L) (d + 3) md_PressTable_fill 45 [some (.inr (.inl 107)), some (.inr (.inl c)), some (.inr (.inl 44)), some (.inl t), some (.inl room), some (.inl (N : Int)), some (.inl (g : Int)), some (.inl x)] [] J K) 32 ?_ ?_ 0 J2 (by omega) ⟨by omega, fun a _ => rfl, fun s hs => by omega, fun s hs => by omega⟩
  · intro x J hx2 hi ih
    obtain ⟨h0, oj, hi1, hi2⟩ := hi
    obtain ⟨s, rfl⟩ : ∃ s : Nat, x = s := ⟨x.toNat, by omega⟩
    have hs : s < 32 := by omega
    have hpJ : ptC I J c e t := pt_mv hp2 (fun a ha => oj a (by omega))
    have e3 : J 107 3 = rsF I := by rw [oj 107 (by omega), o2 107 (by omega)]; exact f3
    have hsb := sub_of hm hs
    have har := jb_and_r (s : Int) (jb_xor (rsF I) (-1))
    have fin : ∀ (J' : jm_I) (v : Int), (∀ a, a ≠ 109 + s → J' a = J a) → (subP I s → srP I J' t N s) → ((v = 1 ∧ subP I s ∧ rcP I t room N s) ∨ (v = 0 ∧ ¬ (subP I s ∧ rcP I t room N s))) → Gx (jx_0 L) (d + 3) md_PressTable_fill 88 [some (.inr (.inl 107)), some (.inr (.inl c)), some (.inr (.inl 44)), some (.inl t), some (.inl room), some (.inl (N : Int)), some (.inl (g : Int)), some (.inl (s : Int))] [.inl v, .inl (s : Int), .inr (.inl 147)] J' K := by
      intro J' v o' hsr hv
      refine b_PressTable_fill_88 (by rcases hv with ⟨q, -⟩ | ⟨q, -⟩ <;> omega) ?_
      rw [Int.toNat_natCast]
      refine ih _ ⟨by omega, fun a ha => by rw [jm_up_o (by omega), o' a (by omega), oj a ha], fun s' h1 h2 n hn => ?_, fun s' h1 => ?_⟩
      · by_cases es : s' = s
        · subst es
          obtain ⟨a, w1, w2⟩ := hsr h2 n hn
          exact ⟨a, by rw [jm_up_o (by omega)]; exact w1, w2⟩
        · obtain ⟨a, w1, w2⟩ := hi1 s' (by omega) h2 n hn
          exact ⟨a, by rw [jm_up_o (by omega), o' _ (by omega)]; exact w1, w2⟩
      · by_cases es : s' = s
        · subst es
          rw [up_s]; exact hv
        · rw [up_k es, o' 147 (by omega)]
          exact hi2 s' (by omega)
    refine b_PressTable_fill_45 (by omega) (fun h => by omega) (fun _ => ?_)
    refine b_PressTable_fill_52 (by rw [e3]; omega) (fun h => ?_) (fun h => ?_)
    · rw [e3] at h
      refine b_PressTable_fill_87 ?_
      exact fin J 0 (fun a _ => rfl) (fun q => absurd (hsb.2 q) h) (Or.inr ⟨rfl, fun q => h (hsb.2 q.1)⟩)
    · rw [e3] at h
      have hsub := hsb.1 h
      refine b_PressTable_fill_70 (c_PressTable_fillRow hpJ hN hs (fun p h w1 w2 => ?_) hg (fun p w => ⟨?_, ?_⟩) (fun J' v o' hsr hv => ?_))
      · obtain ⟨b, u1, u2⟩ := hca p h w1 w2
        exact ⟨b, by rw [oj (142 + p) (by omega)]; exact u1, u2⟩
      · have hp5 : p < 5 := by
          by_cases h5 : p < 5
          · exact h5
          · rw [sx_hi hs h5] at w; simp at w
        exact hrs0.2.1 p hp5 (hsub p w)
      · have hp5 : p < 5 := by
          by_cases h5 : p < 5
          · exact h5
          · rw [sx_hi hs h5] at w; simp at w
        have := (sx_1 hs hp5 w).1
        exact hi1 _ (by omega) (sub_x hs w hsub)
      · refine b_PressTable_fill_80 (by rcases hv with ⟨q, -⟩ | ⟨q, -⟩ <;> omega) (fun h' => ?_) (fun h' => ?_)
        · refine b_PressTable_fill_87 ?_
          refine fin J' 0 o' (fun _ => hsr) (Or.inr ⟨rfl, fun q => ?_⟩)
          rcases hv with ⟨w, -⟩ | ⟨-, w⟩
          · omega
          · exact w q.2
        · refine b_PressTable_fill_83 ?_
          refine fin J' 1 o' (fun _ => hsr) (Or.inl ⟨rfl, hsub, ?_⟩)
          rcases hv with ⟨-, w⟩ | ⟨w, -⟩
          · exact w
          · exact absurd w h'
  · intro J hi
    obtain ⟨-, oj, -, hi2⟩ := hi
    refine b_PressTable_fill_45 (by omega) (fun _ => ?_) (fun h => by omega)
    refine b_PressTable_fill_95 (k J (fun a ha => ?_) ?_ (fun s hs => hi2 s (by omega)))
    · rw [oj a (by omega), o2 a (by omega), oJ a (by omega)]
    · rw [oj 107 (by omega), o2 107 (by omega)]; exact f3
theorem c_PressTable_fewest {Q : Nat → Prop} (hq : ∀ s : Nat, s < 32 → (J 147 s = 1 ∧ Q s) ∨ (J 147 s = 0 ∧ ¬ Q s)) (k : ∀ v, mnP Q v → K (some (.inl v)) J) : Cx (jx_0 L) (d + 1) md_PressTable_fewest [.inr (.inl 107)] J K := by
  refine b_PressTable_fewest_0 ?_
  refine lp_up (σ := Int) (Inv := fun x u => 0 ≤ x ∧ ((u = 6 ∧ ∀ s : Nat, (s : Int) < x → ¬ Q s) ∨ ∃ s : Nat, (s : Int) < x ∧ Q s ∧ u = bcF (s : Int) ∧ ∀ s' : Nat, (s' : Int) < x → Q s' → bcF (s : Int) ≤ bcF (s' : Int))) (G := fun x u => Gx (jx_0 L) (d + 1) md_PressTable_fewest 5 [some (.inr (.inl 107)), some (.inl u), some (.inl x)] [] J K) 32 ?_ ?_ 0 6 (by omega) ⟨by omega, Or.inl ⟨rfl, fun s hs => by omega⟩⟩
  · intro x u hx hi ih
    obtain ⟨h0, hi⟩ := hi
    obtain ⟨s, rfl⟩ : ∃ s : Nat, x = s := ⟨x.toNat, by omega⟩
    have hs : s < 32 := by omega
    have hqs := hq s hs
    have hbs := pbc_tab ⟨s, hs⟩
    have hbs : 0 ≤ bcF (s : Int) ∧ bcF (s : Int) ≤ 5 := hbs
    have hu : 0 ≤ u ∧ u ≤ 6 := by
      rcases hi with ⟨w, -⟩ | ⟨s', w1, -, w2, -⟩
      · omega
      · have : 0 ≤ bcF (s' : Int) ∧ bcF (s' : Int) ≤ 5 := pbc_tab ⟨s', by omega⟩
        omega
    refine b_PressTable_fewest_5 (by omega) (fun h => by omega) (fun _ => ?_)
    refine b_PressTable_fewest_11 (by rw [Int.toNat_natCast]; rcases hqs with ⟨q, -⟩ | ⟨q, -⟩ <;> omega) (fun h => ?_) (fun h => ?_)
    · rw [Int.toNat_natCast] at h
      have hno : ¬ Q s := by
        rcases hqs with ⟨q, -⟩ | ⟨-, q⟩
        · omega
        · exact q
      refine b_PressTable_fewest_29 ?_
      refine ih _ ⟨by omega, ?_⟩
      rcases hi with ⟨w1, w2⟩ | ⟨s', w1, w2, w3, w4⟩
      · refine Or.inl ⟨w1, fun s' hs' q => ?_⟩
        by_cases es : s' = s
        · subst es; exact hno q
        · exact w2 s' (by omega) q
      · refine Or.inr ⟨s', by omega, w2, w3, fun s2 hs2 q => ?_⟩
        by_cases es : s2 = s
        · subst es; exact absurd q hno
        · exact w4 s2 (by omega) q
    · rw [Int.toNat_natCast] at h
      have hy : Q s := by
        rcases hqs with ⟨-, q⟩ | ⟨q, -⟩
        · exact q
        · exact absurd q h
      refine b_PressTable_fewest_20 (c_Integer_bitCount ?_)
      refine b_PressTable_fewest_25 (by omega) ?_
      refine b_PressTable_fewest_29 ?_
      refine ih _ ⟨by omega, Or.inr ?_⟩
      rcases hi with ⟨w1, w2⟩ | ⟨s', w1, w2, w3, w4⟩
      · refine ⟨s, by omega, hy, by omega, fun s' hs' q => ?_⟩
        by_cases es : s' = s
        · subst es; omega
        · exact absurd q (w2 s' (by omega))
      · by_cases hle : u ≤ bcF (s : Int)
        · refine ⟨s', by omega, w2, by omega, fun s2 hs2 q => ?_⟩
          by_cases es : s2 = s
          · subst es; omega
          · exact w4 s2 (by omega) q
        · refine ⟨s, by omega, hy, by omega, fun s2 hs2 q => ?_⟩
          by_cases es : s2 = s
          · subst es; omega
          · have := w4 s2 (by omega) q; omega
  · intro u hi
    obtain ⟨-, hi⟩ := hi
    refine b_PressTable_fewest_5 (by omega) (fun _ => ?_) (fun h => by omega)
    rcases hi with ⟨w1, w2⟩ | ⟨s', w1, w2, w3, w4⟩
    · refine b_PressTable_fewest_35 (by omega) (fun h => by omega) (fun _ => ?_)
      refine b_PressTable_fewest_40 ?_
      exact b_PressTable_fewest_46 (k _ (Or.inl ⟨rfl, fun s hs => w2 s (by omega)⟩))
    · have hb : 0 ≤ bcF (s' : Int) ∧ bcF (s' : Int) ≤ 5 := pbc_tab ⟨s', by omega⟩
      refine b_PressTable_fewest_35 (by omega) (fun _ => ?_) (fun h => by omega)
      refine b_PressTable_fewest_45 ?_
      exact b_PressTable_fewest_46 (k _ (Or.inr ⟨s', by omega, w2, w3, fun s2 hs2 q => w4 s2 (by omega) q⟩))
theorem c_PressTable_alone (hq : ∀ s : Nat, s < 32 → J 147 s = 1 ∨ J 147 s = 0) (k0 : ¬ J 147 0 = 0 → K (some (.inl (J 107 3))) J) (k : J 147 0 = 0 → K (some (.inl (orF (fun p => decide (¬ J 147 (2 ^ p) = 0)) 5))) J) : Cx (jx_0 L) d md_PressTable_alone [.inr (.inl 107)] J K := by
  refine b_PressTable_alone_0 (by rcases hq 0 (by decide) with q | q <;> omega) (fun h => ?_) (fun h => ?_)
  · refine b_PressTable_alone_14 ?_
    refine lp_up (σ := Int) (Inv := fun x u => 0 ≤ x ∧ u = orF (fun p => decide (¬ J 147 (2 ^ p) = 0)) x.toNat) (G := fun x u => Gx (jx_0 L) d md_PressTable_alone 18 [some (.inr (.inl 107)), some (.inl u), some (.inl x)] [] J K) 5 ?_ ?_ 0 0 (by omega) ⟨by omega, rfl⟩
    · intro x u hx hi ih
      obtain ⟨h0, rfl⟩ := hi
      obtain ⟨p, rfl⟩ : ∃ p : Nat, x = p := ⟨x.toNat, by omega⟩
      have hsh : jb_shl 1 (p : Int) = ((2 ^ p : Nat) : Int) := jb_shl1 ⟨p, by omega⟩
      have hp2 : 2 ^ p < 32 := Nat.pow_lt_pow_right (n := 5) (by decide) (by omega)
      have hq2 := hq (2 ^ p) hp2
      have hnx : ((p : Int) + 1).toNat = p + 1 := by omega
      refine b_PressTable_alone_18 (by omega) (fun h => by omega) (fun _ => ?_)
      refine b_PressTable_alone_23 (by rw [hsh, Int.toNat_natCast]; generalize 2 ^ p = z at hp2 hq2 ⊢; omega) (fun h' => ?_) (fun h' => ?_)
      · rw [hsh, Int.toNat_natCast] at h'
        refine b_PressTable_alone_40 ?_
        refine ih _ ⟨by omega, ?_⟩
        rw [hnx, Int.toNat_natCast]
        simp [orF, h']
      · rw [hsh, Int.toNat_natCast] at h'
        refine b_PressTable_alone_34 ?_
        refine b_PressTable_alone_40 ?_
        refine ih _ ⟨by omega, ?_⟩
        rw [hnx, Int.toNat_natCast]
        simp [orF, h']
    · intro u hi
      obtain ⟨-, rfl⟩ := hi
      refine b_PressTable_alone_18 (by omega) (fun _ => ?_) (fun h => by omega)
      exact b_PressTable_alone_46 (k h)
  · exact b_PressTable_alone_9 (k0 h)
def prOk (I : jm_I) (t r n w : Int) : Prop := (0 ≤ t ∧ t < I 167 5) ∧ (0 ≤ r ∧ r < I 167 0) ∧ (0 ≤ n ∧ n ≤ 12) ∧ (0 ≤ w ∧ w ≤ 1)
theorem c_X_presses (hm : mOk I) (hx : xRel I c e) (hz : (-2147483648 ≤ x1 ∧ x1 < 2147483648) ∧ (-2147483648 ≤ x2 ∧ x2 < 2147483648) ∧ (-2147483648 ≤ x3 ∧ x3 < 2147483648) ∧ (-2147483648 ≤ x4 ∧ x4 < 2147483648)) (k0 : ¬ prOk I x1 x2 x3 x4 → K (some (.inl (-1))) I) (k : prOk I x1 x2 x3 x4 → ∀ (J : jm_I) (v : Int), (∀ a, a < 107 ∨ 147 < a → J a = I a) → ((x4 = 0 ∧ mnP (fun s => subP I s ∧ rcP I x1 x2 x3.toNat s) v) ∨ (x4 = 1 ∧ ((rcP I x1 x2 x3.toNat 0 ∧ v = rsF I) ∨ (¬ rcP I x1 x2 x3.toNat 0 ∧ ∃ w : Nat → Bool, v = orF w 5 ∧ ∀ p : Nat, p < 5 → (w p = true ↔ jb_has (rsF I) p ∧ rcP I x1 x2 x3.toNat (2 ^ p)))))) → K (some (.inl v)) J) : Cx (jx_0 L) (d + 4) md_X_presses [.inr (.inl 1), .inl x1, .inl x2, .inl x3, .inl x4] I K := by
  have hx0 := hx
  obtain ⟨h1, h2, h3, hci, -, hmo, -⟩ := hx
  obtain ⟨hc, -⟩ := ct_of (L := L) h1
  have hr := hm.1
  unfold mRng at hr
  have c0 := hci.1.1
  have c4 := hci.1.2.2.2.2
  unfold prOk at k0 k
  refine b_X_presses_0 (c_X_isThing hc h2 (by omega) (fun v1 hv1 => ?_))
  refine b_X_presses_5 (by omega) (fun hb2 => ?_) (fun hb2 => ?_)
  · refine b_X_presses_36 ?_
    exact k0 (by omega)
  · refine b_X_presses_8 (c_X_isRoom hc h2 (by omega) (fun v3 hv3 => ?_))
    refine b_X_presses_13 (by omega) (fun hb4 => ?_) (fun hb4 => ?_)
    · refine b_X_presses_36 ?_
      exact k0 (by omega)
    · refine b_X_presses_16 (c_X_within (by omega) (fun v5 hv5 => ?_))
      refine b_X_presses_23 (by omega) (fun hb6 => ?_) (fun hb6 => ?_)
      · refine b_X_presses_36 ?_
        exact k0 (by omega)
      · refine b_X_presses_26 (c_X_within (by omega) (fun v7 hv7 => ?_))
        refine b_X_presses_33 (by omega) (fun hb8 => ?_) (fun hb8 => ?_)
        · have hk := k (by omega)
          obtain ⟨N, rfl⟩ : ∃ N : Nat, x3 = N := ⟨x3.toNat, by omega⟩
          rw [Int.toNat_natCast] at hk
          refine b_X_presses_38 h2 hc (c_PressTable_fill hm hx0 (by omega) (by omega) (by omega) (fun J o e3 hq => ?_))
          refine b_X_presses_56 (by omega) (fun h => ?_) (fun h => ?_)
          · refine b_X_presses_71 (c_PressTable_alone (fun s hs => ?_) (fun hn => ?_) (fun hn => ?_))
            · rcases hq s hs with ⟨w, -⟩ | ⟨w, -⟩
              · exact Or.inl w
              · exact Or.inr w
            · refine b_X_presses_78 (hk J _ o (Or.inr ⟨by omega, Or.inl ⟨?_, e3⟩⟩))
              rcases hq 0 (by decide) with ⟨-, -, w⟩ | ⟨w, -⟩
              · exact w
              · exact absurd w hn
            · refine b_X_presses_78 (hk J _ o (Or.inr ⟨by omega, Or.inr ⟨?_, _, rfl, fun p hp => ?_⟩⟩))
              · rcases hq 0 (by decide) with ⟨w, -⟩ | ⟨-, w⟩
                · omega
                · exact fun q => w ⟨fun p hp => by rw [Nat.zero_testBit] at hp; simp at hp, q⟩
              · have hp2 : 2 ^ p < 32 := Nat.pow_lt_pow_right (n := 5) (by decide) (by omega)
                have hsp : subP I (2 ^ p) ↔ jb_has (rsF I) p := by
                  constructor
                  · intro w
                    exact w p Nat.testBit_two_pow_self
                  · intro w q hq2
                    rw [Nat.testBit_two_pow, decide_eq_true_iff] at hq2
                    rw [← hq2]; exact w
                rw [decide_eq_true_iff, ← hsp]
                rcases hq (2 ^ p) hp2 with ⟨w1, w2⟩ | ⟨w1, w2⟩
                · exact ⟨fun _ => w2, fun _ => by omega⟩
                · exact ⟨fun q => absurd w1 q, fun q => absurd q w2⟩
          · refine b_X_presses_61 (c_PressTable_fewest (Q := fun s => subP I s ∧ rcP I x1 x2 N s) hq (fun v hv => ?_))
            refine b_X_presses_68 ?_
            exact b_X_presses_78 (hk J v o (Or.inl ⟨h, hv⟩))
        · refine b_X_presses_36 ?_
          exact k0 (by omega)
end PFILL
