/-! ===== guard: the model, both sides ===== -/
section GUARD3
variable {L d : Nat} {I : jm_I} {K : Option jm_V → jm_I → Prop} {x0 x1 x2 x3 x4 : Int} {c e : Nat}
/-- the model asks everybody -/
theorem mg_ask {g : Nat → Int} {b v6 op : Int} {s : Nat} (hm : mOk I) (ht : 0 ≤ x1 ∧ x1 < I 167 5) (hr2 : 0 ≤ x2 ∧ x2 < I 167 0) (hg : ∀ i j, i < 6 → j < 6 → isD (adjM I (s : Int)) 10000 i j (g (6 * i + j))) (k : ∀ v x8, (v = 1 ∧ crP I x1 x2 s) ∨ (v = 0 ∧ ¬ crP I x1 x2 s) → Gx (jx_0 L) (d + 2) md_M_guard 184 [some (.inr (.inl 167)), some (.inl x1), some (.inl x2), some (.inl op), some (.inl b), some (.inl (s : Int)), some (.inl v6), some (.inl v), some (.inl x8)] [] (st_ I 182 g) K) : Gx (jx_0 L) (d + 2) md_M_guard 134 [some (.inr (.inl 167)), some (.inl x1), some (.inl x2), some (.inl op), some (.inl b), some (.inl (s : Int)), some (.inl v6), some (.inl 0), some (.inl 0)] [] (st_ I 182 g) K := by
  have hr := hm.1
  unfold mRng at hr
  have e171 : st_ I 182 g 171 = I 171 := st_a (by decide)
  have e167 : st_ I 182 g 167 = I 167 := st_a (by decide)
  have n3 := (nw_sp hm ht.1 ht.2).2.2
  have hD : ∀ p : Nat, (p : Int) < I 167 4 → (g (6 * (I 171 (1 + p)).toNat + (I 171 (17 + x1).toNat).toNat) + g (6 * (I 171 (17 + x1).toNat).toNat + x2.toNat) ≤ I 167 3 ↔ ∃ n m : Nat, wk (adjM I (s : Int)) n (I 171 (1 + p)).toNat (I 171 (17 + x1).toNat).toNat ∧ wk (adjM I (s : Int)) m (I 171 (17 + x1).toNat).toNat x2.toNat ∧ ((n + m : Nat) : Int) ≤ I 167 3) := fun p hp => by
    have hrm := (hm.2.2.2.1.2.2.1 p hp).1
    exact isD_le (by decide) (by omega) (hg _ _ (by omega) (by omega)) (hg _ _ (by omega) (by omega))
  refine lp_up (σ := Int) (Inv := fun x v => 0 ≤ x ∧ ((v = 1 ∧ crP I x1 x2 s) ∨ (v = 0 ∧ ∀ p : Nat, (p : Int) < x → ¬ (jb_has (rsF I) p ∧ g (6 * (I 171 (1 + p)).toNat + (I 171 (17 + x1).toNat).toNat) + g (6 * (I 171 (17 + x1).toNat).toNat + x2.toNat) ≤ I 167 3)))) (G := fun x v => Gx (jx_0 L) (d + 2) md_M_guard 134 [some (.inr (.inl 167)), some (.inl x1), some (.inl x2), some (.inl op), some (.inl b), some (.inl (s : Int)), some (.inl v6), some (.inl v), some (.inl x)] [] (st_ I 182 g) K) (I 167 4) ?_ ?_ 0 0 (by omega) ⟨by omega, Or.inr ⟨rfl, fun p h => by omega⟩⟩
  · intro x v hx hi ih
    obtain ⟨h0, hi⟩ := hi
    obtain ⟨p, rfl⟩ : ∃ p : Nat, x = p := ⟨x.toNat, by omega⟩
    have hv01 : v = 0 ∨ v = 1 := by rcases hi with ⟨q, -⟩ | ⟨q, -⟩ <;> omega
    have hrm := (hm.2.2.2.1.2.2.1 p hx).1
    have p1 : (1 + (p : Int)).toNat = 1 + p := by omega
    refine b_M_guard_134 (by rw [e167]; omega) (fun h => by rw [e167] at h; omega) (fun h => ?_)
    refine b_M_guard_143 (by omega) (fun h => ?_) (fun h => ?_)
    · refine b_M_guard_171 ?_
      refine b_M_guard_176 ?_
      refine ih _ ⟨by omega, Or.inl ⟨rfl, ?_⟩⟩
      rcases hi with ⟨-, q⟩ | ⟨q, -⟩
      · exact q
      · exact absurd q h
    · have hno : ∀ p' : Nat, (p' : Int) < (p : Int) → ¬ (jb_has (rsF I) p' ∧ g (6 * (I 171 (1 + p')).toNat + (I 171 (17 + x1).toNat).toNat) + g (6 * (I 171 (17 + x1).toNat).toNat + x2.toNat) ≤ I 167 3) := by
        rcases hi with ⟨q, -⟩ | ⟨-, q⟩
        · omega
        · exact q
      have next : ¬ (jb_has (rsF I) p ∧ g (6 * (I 171 (1 + p)).toNat + (I 171 (17 + x1).toNat).toNat) + g (6 * (I 171 (17 + x1).toNat).toNat + x2.toNat) ≤ I 167 3) → Gx (jx_0 L) (d + 2) md_M_guard 175 [some (.inr (.inl 167)), some (.inl x1), some (.inl x2), some (.inl op), some (.inl b), some (.inl (s : Int)), some (.inl v6), some (.inl v), some (.inl (p : Int))] [] (st_ I 182 g) K := by
        intro hnp
        refine b_M_guard_175 ?_
        refine b_M_guard_176 ?_
        refine ih _ ⟨by omega, Or.inr ⟨rfl, fun p' hp' => ?_⟩⟩
        by_cases ep : p' = p
        · subst ep; exact hnp
        · exact hno p' (by omega)
      refine b_M_guard_148 (b_M_mayPress_0 ?_)
      have hrs : jb_and (jb_shl 1 (st_ I 182 g 167 4) - 1) (jb_xor (st_ I 182 g 171 16) (-1)) = rsF I := by rw [e167, e171]; rfl
      rw [hrs]
      refine b_M_guard_152 (c_M_has (fun w hw => ?_))
      refine b_M_guard_157 (by rcases hw with ⟨q, -⟩ | ⟨q, -⟩ <;> omega) (fun h' => ?_) (fun h' => ?_)
      · refine next (fun hq => ?_)
        rcases hw with ⟨q, -⟩ | ⟨-, q⟩
        · omega
        · exact q hq.1
      · have hhas : jb_has (rsF I) p := by
          rcases hw with ⟨-, q⟩ | ⟨q, -⟩
          · exact q
          · exact absurd q h'
        have hd1 := hg (I 171 (1 + p)).toNat (I 171 (17 + x1).toNat).toNat (by omega) (by omega)
        have hd2 := hg (I 171 (17 + x1).toNat).toNat x2.toNat (by omega) (by omega)
        have r1 : 0 ≤ g (6 * (I 171 (1 + p)).toNat + (I 171 (17 + x1).toNat).toNat) ∧ g (6 * (I 171 (1 + p)).toNat + (I 171 (17 + x1).toNat).toNat) ≤ 10000 := by
          rcases hd1 with ⟨n, hn, hn6, -⟩ | ⟨hn, -⟩ <;> omega
        have r2 : 0 ≤ g (6 * (I 171 (17 + x1).toNat).toNat + x2.toNat) ∧ g (6 * (I 171 (17 + x1).toNat).toNat + x2.toNat) ≤ 10000 := by
          rcases hd2 with ⟨n, hn, hn6, -⟩ | ⟨hn, -⟩ <;> omega
        refine b_M_guard_160 (c_M_canCarry (w := g (6 * (I 171 (1 + p)).toNat + (I 171 (17 + x1).toNat).toNat) + g (6 * (I 171 (17 + x1).toNat).toNat + x2.toNat)) (by rw [e171, e167, p1]; omega) (by rw [st_s, st_s, e171, p1]) (by omega) (fun y hy => ?_))
        rw [e167] at hy
        refine b_M_guard_168 (by omega) (fun h'' => ?_) (fun h'' => ?_)
        · exact next (fun hq => by have := hq.2; omega)
        · refine b_M_guard_171 ?_
          refine b_M_guard_176 ?_
          exact ih _ ⟨by omega, Or.inl ⟨rfl, p, hx, hhas, (hD p hx).1 (by omega)⟩⟩
  · intro v hi
    obtain ⟨-, hi⟩ := hi
    have hv01 : v = 0 ∨ v = 1 := by rcases hi with ⟨q, -⟩ | ⟨q, -⟩ <;> omega
    refine b_M_guard_134 (by rw [e167]; omega) (fun h => ?_) (fun h => by rw [e167] at h; omega)
    refine k _ _ ?_
    rcases hi with q | ⟨q1, q2⟩
    · exact Or.inl q
    · exact Or.inr ⟨q1, fun ⟨p, hp, hq, hw⟩ => q2 p hp ⟨hq, (hD p hp).2 hw⟩⟩
theorem c_M_guard (hm : mOk I) (hz : (-2147483648 ≤ x1 ∧ x1 < 2147483648) ∧ (-2147483648 ≤ x2 ∧ x2 < 2147483648)) (k0 : ¬ ((0 ≤ x1 ∧ x1 < I 167 5) ∧ (0 ≤ x2 ∧ x2 < I 167 0)) → K (some (.inl (-1))) I) (k : (0 ≤ x1 ∧ x1 < I 167 5) ∧ (0 ≤ x2 ∧ x2 < I 167 0) → ∀ g b, guR I (opF I) x1 x2 (2 ^ (I 167 1).toNat) b → K (some (.inl b)) (st_ I 182 g)) : Cx (jx_0 L) (d + 2) md_M_guard [.inr (.inl 167), .inl x1, .inl x2] I K := by
  have hr := hm.1
  unfold mRng at hr
  refine b_M_guard_0 (c_M_isThing (by omega) (fun v1 hv1 => ?_))
  refine b_M_guard_5 (by omega) (fun hb2 => ?_) (fun hb2 => ?_)
  · refine b_M_guard_16 ?_
    exact k0 (by omega)
  · refine b_M_guard_8 (c_M_isRoom (by omega) (fun v3 hv3 => ?_))
    refine b_M_guard_13 (by omega) (fun hb4 => ?_) (fun hb4 => ?_)
    · have hk := k (by omega)
      have ht : 0 ≤ x1 ∧ x1 < I 167 5 := by omega
      have hr2 : 0 ≤ x2 ∧ x2 < I 167 0 := by omega
      obtain ⟨D, hD⟩ : ∃ D : Nat, I 167 1 = D := ⟨(I 167 1).toNat, by omega⟩
      have hsh : jb_shl 1 (I 167 1) = ((2 ^ D : Nat) : Int) := by rw [hD]; exact jb_shl1 ⟨D, by omega⟩
      have hp2 : 2 ^ D ≤ 2 ^ 8 := Nat.pow_le_pow_right (by decide) (by omega)
      have hp0 : 0 < 2 ^ D := Nat.pow_pos (by decide)
      rw [show (I 167 1).toNat = D by omega] at hk
      refine b_M_guard_18 ?_
      refine lp_up (σ := Int) (Inv := fun x u => 0 ≤ x ∧ u = orF (fun e => decide (I 168 (3 * e + 2) = 0)) x.toNat) (G := fun x u => Gx (jx_0 L) (d + 2) md_M_guard 23 [some (.inr (.inl 167)), some (.inl x1), some (.inl x2), some (.inl u), some (.inl x), none, none, none, none] [] I K) (I 167 1) ?_ ?_ 0 0 (by omega) ⟨by omega, rfl⟩
      · intro x u hx hu ih
        obtain ⟨h0, rfl⟩ := hu
        obtain ⟨q, rfl⟩ : ∃ q : Nat, x = q := ⟨x.toNat, by omega⟩
        have hs := (hm.2.1 q hx).2.2.1
        have e3 : (3 * (q : Int) + 2).toNat = 3 * q + 2 := by omega
        refine b_M_guard_23 (by omega) (fun h => by omega) (fun h => ?_)
        refine b_M_guard_32 (by rw [e3]; omega) (fun h => ?_) (fun h => ?_)
        · rw [e3] at h
          refine b_M_guard_54 ?_
          refine b_M_guard_55 ?_
          rw [jb_or0 (orF_r _ _)]
          refine ih _ ⟨by omega, ?_⟩
          rw [show ((q : Int) + 1).toNat = q + 1 by omega, Int.toNat_natCast]
          simp only [orF]
          rw [if_neg (by simp only [decide_eq_true_eq]; omega)]
        · rw [e3] at h
          refine b_M_guard_47 ?_
          refine b_M_guard_55 ?_
          refine ih _ ⟨by omega, ?_⟩
          rw [show ((q : Int) + 1).toNat = q + 1 by omega, Int.toNat_natCast]
          simp only [orF]
          rw [if_pos (by simp only [decide_eq_true_eq]; omega)]
      · intro u hu
        obtain ⟨-, hu⟩ := hu
        obtain rfl : u = opF I := hu
        refine b_M_guard_23 (by omega) (fun h => ?_) (fun h => by omega)
        refine b_M_guard_63 ?_
        rw [← st_id (I := I) (a := 182)]
        refine lp_up4 (σ := Int) (τ := Nat → Int) (υ := Option jm_V) (φ := Option jm_V × Option jm_V) (Inv := fun x b _ _ _ => 0 ≤ x ∧ guR I (opF I) x1 x2 x.toNat b) (G := fun x b g o o2 => Gx (jx_0 L) (d + 2) md_M_guard 70 [some (.inr (.inl 167)), some (.inl x1), some (.inl x2), some (.inl (opF I)), some (.inl b), some (.inl x), o, o2.1, o2.2] [] (st_ I 182 g) K) (((2 ^ D : Nat) : Int)) ?_ ?_ 0 (-9) (I 182) none (none, none) (by omega) ⟨by omega, rfl⟩
        · intro x b g o o2 hx hi ih
          obtain ⟨h0, hg⟩ := hi
          obtain ⟨s, rfl⟩ : ∃ s : Nat, x = s := ⟨x.toNat, by omega⟩
          rw [Int.toNat_natCast] at hg
          have hbr := guR_r hg
          have hbs := bc_r (x := (s : Int)) (by omega)
          have oth : ∀ a, a ≠ 182 → st_ I 182 g a = I a := fun a ha => st_a ha
          have e167 := oth 167 (by decide)
          have stay : ∀ g' o' (o2' : Option jm_V × Option jm_V), ¬ guC I (opF I) x1 x2 s b → Gx (jx_0 L) (d + 2) md_M_guard 198 [some (.inr (.inl 167)), some (.inl x1), some (.inl x2), some (.inl (opF I)), some (.inl b), some (.inl (s : Int)), o', o2'.1, o2'.2] [] (st_ I 182 g') K := by
            intro g' o' o2' hno
            refine b_M_guard_198 ?_
            refine ih _ _ _ o2' ⟨by omega, ?_⟩
            rw [show ((s : Int) + 1).toNat = s + 1 by omega]
            exact ⟨b, hg, Or.inr ⟨hno, rfl⟩⟩
          have go : jb_and (s : Int) (jb_xor (opF I) (-1)) = 0 → (b = -9 ∨ bcF (s : Int) < bcF b) → Gx (jx_0 L) (d + 2) md_M_guard 110 [some (.inr (.inl 167)), some (.inl x1), some (.inl x2), some (.inl (opF I)), some (.inl b), some (.inl (s : Int)), o, o2.1, o2.2] [] (st_ I 182 g) K := by
            intro ha hl
            refine b_M_guard_110 ?_
            refine b_M_guard_115 (by omega) (fun h => by omega) (fun _ => ?_)
            have mk : mKeep I (st_ I 182 g) := ⟨fun k _ => by rw [e167], fun a a1 a2 => oth a (by omega)⟩
            refine b_M_guard_122 (c_M_findFar (by rw [e167]; omega) (mOk_keep mk hm).2.1 (fun g' hg' => ?_))
            rw [adjM_keep mk] at hg'
            rw [st_st]
            refine b_M_guard_128 ?_
            refine mg_ask hm ht hr2 hg' (fun v x8 hv => ?_)
            have hv1 : ¬ v = 0 → crP I x1 x2 s := fun q => by
              rcases hv with a | a
              · exact a.2
              · exact absurd a.1 q
            have hv0 : v = 0 → ¬ crP I x1 x2 s := fun q => by
              rcases hv with a | a
              · omega
              · exact a.2
            refine b_M_guard_184 (by rcases hv with ⟨q, -⟩ | ⟨q, -⟩ <;> omega) (fun h => ?_) (fun h => ?_)
            · refine b_M_guard_194 ?_
              refine b_M_guard_196 ?_
              refine b_M_guard_198 ?_
              refine ih _ _ _ (some (.inl v), some (.inl x8)) ⟨by omega, ?_⟩
              rw [show ((s : Int) + 1).toNat = s + 1 by omega]
              exact ⟨b, hg, Or.inl ⟨⟨ha, hl, hv0 h⟩, rfl⟩⟩
            · refine b_M_guard_189 ?_
              refine b_M_guard_196 ?_
              exact stay _ _ (some (.inl v), some (.inl x8)) (fun hc => hc.2.2 (hv1 h))
          refine b_M_guard_70 (by rw [e167, hsh]; omega) (fun h => by rw [e167, hsh] at h; omega) (fun h => ?_)
          refine b_M_guard_81 (jb_and_r _ _) (fun h => ?_) (fun ha => ?_)
          · refine b_M_guard_114 ?_
            refine b_M_guard_115 (by omega) (fun _ => stay _ _ o2 (fun hc => h hc.1)) (fun h => by omega)
          · refine b_M_guard_90 (by omega) (fun h => go ha (Or.inl h)) (fun h9 => ?_)
            have hbb := bc_r (x := b) (by omega)
            refine b_M_guard_97 (c_M_bits (by omega) ?_)
            refine b_M_guard_102 (c_M_bits (by omega) ?_)
            refine b_M_guard_107 (by omega) (fun h => ?_) (fun h => ?_)
            · refine b_M_guard_114 ?_
              refine b_M_guard_115 (by omega) (fun _ => stay _ _ o2 (fun hc => by have := hc.2.1; omega)) (fun h => by omega)
            · exact go ha (Or.inr (by omega))
        · intro b g o o2 hi
          obtain ⟨-, hg⟩ := hi
          rw [Int.toNat_natCast] at hg
          have e167 : st_ I 182 g 167 = I 167 := st_a (by decide)
          refine b_M_guard_70 (by rw [e167, hsh]; omega) (fun h => ?_) (fun h => by rw [e167, hsh] at h; omega)
          exact b_M_guard_204 (hk g b hg)
    · refine b_M_guard_16 ?_
      exact k0 (by omega)
theorem guR_k {I J : jm_I} (h1 : J 167 = I 167) (h2 : J 168 = I 168) (h3 : J 171 = I 171) (op t r : Int) : ∀ n b, guR J op t r n b ↔ guR I op t r n b
  | 0, b => Iff.rfl
  | n + 1, b => by
    have hc : ∀ b0, guC J op t r n b0 ↔ guC I op t r n b0 := fun b0 => by unfold guC; rw [crP_k h1 h2 h3]
    simp only [guR, guR_k h1 h2 h3 op t r n, hc]
theorem g_guard (h : Rel I) (hz : (-2147483648 ≤ x1 ∧ x1 < 2147483648) ∧ (-2147483648 ≤ x2 ∧ x2 < 2147483648)) : Two L d md_X_guard md_M_guard [.inl x1, .inl x2] I := by
  obtain ⟨hm, c, e, hx⟩ := id h
  have hr := hm.1
  unfold mRng at hr
  refine c_X_guard hm hx hz (fun q => ?_) (fun q g b hb => ?_)
  · exact ⟨_, rfl, c_M_guard hm hz (fun _ => ⟨rfl, h, rfl⟩) (fun p => absurd p q)⟩
  · have oth : ∀ a, a ≠ 156 → st_ I 156 g a = I a := fun a ha => st_a ha
    have e167 := oth 167 (by decide)
    have e168 := oth 168 (by decide)
    have e171 := oth 171 (by decide)
    have mk : mKeep I (st_ I 156 g) := ⟨fun k _ => by rw [e167], fun a a1 a2 => oth a (by omega)⟩
    refine ⟨_, rfl, c_M_guard (mOk_keep mk hm) hz (fun p => absurd (by rw [e167]; exact q) p) (fun _ g' b' hb' => ⟨?_, rel_scr h (fun a a0 a1 a2 => by rw [st_a (by omega), st_a (by omega)]) (fun k hk => by rw [st_a (by decide), st_a (by decide)])⟩)⟩
    have hop : opF (st_ I 156 g) = opF I := by unfold opF; rw [e167, e168]
    rw [hop, e167, guR_k e167 e168 e171] at hb'
    have hlt := orF_lt (fun e => decide (I 168 (3 * e + 2) = 0)) (I 167 1).toNat (by omega)
    have hp2 : 2 ^ (I 167 1).toNat ≤ 2 ^ 8 := Nat.pow_le_pow_right (by decide) (by omega)
    have hext := guR_ext hlt hp2 hb' (256 - 2 ^ (I 167 1).toNat) (by omega)
    rw [show 2 ^ (I 167 1).toNat + (256 - 2 ^ (I 167 1).toNat) = 256 by omega] at hext
    rw [guR_u hext hb]
end GUARD3
