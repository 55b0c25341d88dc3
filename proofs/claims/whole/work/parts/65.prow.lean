/-! ===== presses: the class's table, a row, the whole ===== -/
/-- a row of the table -/
def srP (I J : jm_I) (t : Int) (N s : Nat) : Prop := ∀ n : Nat, n ≤ N → ∃ a : Nat, J (109 + s) n = (a : Int) ∧ bsP a (pxW I t (fun _ => True) n s)
section PROW
variable {L d : Nat} {I J : jm_I} {K : Option jm_V → jm_I → Prop} {x0 x1 x2 x3 x4 t : Int} {c e : Nat}
theorem c_PressTable_fillRow {s N g : Nat} {room : Int} (hp : ptC I J c e t) (hN : N ≤ 12) (hs : s < 32) (hca : ∀ p h : Nat, (p : Int) < I 167 4 → h < 10 → caP I J t p h) (hg : bsP g (fun h => vsP I t h ∧ roF I t h = room)) (hsub : ∀ p : Nat, s.testBit p = true → (p : Int) < I 167 4 ∧ srP I J t N (s ^^^ 2 ^ p)) (k : ∀ (J' : jm_I) (v : Int), (∀ a, a ≠ 109 + s → J' a = J a) → srP I J' t N s → ((v = 1 ∧ rcP I t room N s) ∨ (v = 0 ∧ ¬ rcP I t room N s)) → K (some (.inl v)) J') : Cx (jx_0 L) (d + 2) md_PressTable_fillRow [.inr (.inl 107), .inl (s : Int), .inl (N : Int), .inl (g : Int)] J K := by
  obtain ⟨hc, hcl, hci, hr, hl, ec, -⟩ := pt_get L hp
  obtain ⟨hm, hx, ht, o, q0, q1, q2⟩ := id hp
  have hvs := fun (n : Nat) {s h : Nat} => px_vs (who := fun _ => True) hm ht n (s := s) (h := h)
  have hnow : I 48 t.toNat = nwF I t := mo_sp hx.2.2.2.2.2.1 ht.1 ht.2
  have rest : ∀ a0 : Nat, bsP a0 (pxV I t (fun _ => True) 0 s) → Gx (jx_0 L) (d + 2) md_PressTable_fillRow 25 [some (.inr (.inl 107)), some (.inl (s : Int)), some (.inl (N : Int)), some (.inl (g : Int)), some (.inl 0), none, none, none] [.inl (a0 : Int)] J K := by
    intro a0 ha0
    refine b_PressTable_fillRow_25 ?_
    rw [← st_id (I := J) (a := 109 + s)]
    refine lp_up4 (σ := Nat → Int) (τ := Nat) (υ := Int) (φ := Option jm_V) (Inv := fun x f a v _ => 0 ≤ x ∧ bsP a (pxV I t (fun _ => True) x.toNat s) ∧ (∀ n : Nat, (n : Int) < x → ∃ b : Nat, f n = (b : Int) ∧ bsP b (pxW I t (fun _ => True) n s)) ∧ ((v = 1 ∧ ∃ m h : Nat, (m : Int) < x ∧ pxW I t (fun _ => True) m s h ∧ roF I t h = room) ∨ (v = 0 ∧ ¬ ∃ m h : Nat, (m : Int) < x ∧ pxW I t (fun _ => True) m s h ∧ roF I t h = room))) (G := fun x f a v o7 => Gx (jx_0 L) (d + 2) md_PressTable_fillRow 30 [some (.inr (.inl 107)), some (.inl (s : Int)), some (.inl (N : Int)), some (.inl (g : Int)), some (.inl v), some (.inl (a : Int)), some (.inl x), o7] [] (st_ J (109 + s) f) K) ((N : Int) + 1) ?_ ?_ 0 _ a0 0 none (by omega) ⟨by omega, ha0, fun n hn => by omega, Or.inr ⟨rfl, fun ⟨m, h, w, _⟩ => by omega⟩⟩
    · intro x f a v o7 hx2 hi ih
      obtain ⟨h0, ha, hf, hv⟩ := hi
      obtain ⟨n, rfl⟩ : ∃ n : Nat, x = n := ⟨x.toNat, by omega⟩
      rw [Int.toNat_natCast] at ha
      have hv01 : v = 0 ∨ v = 1 := by rcases hv with ⟨q, -⟩ | ⟨q, -⟩ <;> omega
      have oj : ∀ b, b ≠ 109 + s → st_ J (109 + s) f b = J b := fun b hb => st_a hb
      have hp2 : ptC I (st_ J (109 + s) f) c e t := pt_mv hp (fun b hb => oj b (by omega))
      have q0' := hp2.2.2.2.2.1
      have ec' : st_ J (109 + s) f c = I c := by rw [oj c (by omega), ec]
      refine b_PressTable_fillRow_30 (by omega) (fun h => by omega) (fun _ => ?_)
      refine b_PressTable_fillRow_36 ?_
      refine lp_up (σ := Nat) (Inv := fun y b => 0 ≤ y ∧ bsP b (fun h => pxV I t (fun _ => True) n s h ∨ ∃ p : Nat, (p : Int) < y ∧ s.testBit p = true ∧ ∃ h' r : Nat, pxW I t (fun _ => True) n (s ^^^ 2 ^ p) h' ∧ (r : Int) < I 167 0 ∧ cyP I t h' p r ∧ h = (puF I t r).toNat)) (G := fun y b => Gx (jx_0 L) (d + 2) md_PressTable_fillRow 39 [some (.inr (.inl 107)), some (.inl (s : Int)), some (.inl (N : Int)), some (.inl (g : Int)), some (.inl v), some (.inl (b : Int)), some (.inl (n : Int)), some (.inl y)] [] (st_ J (109 + s) f) K) (I 167 4) ?_ ?_ 0 a (by omega) ⟨by omega, bs_c ha (fun h _ => ⟨fun w => by
          rcases w with w | ⟨p, w, _⟩
          · exact w
          · omega, fun w => Or.inl w⟩)⟩
      · intro y b hy hb ih2
        obtain ⟨y0, hb⟩ := hb
        obtain ⟨p, rfl⟩ : ∃ p : Nat, y = p := ⟨y.toNat, by omega⟩
        have hbit := jn_bit (a := s) (h := p) (by omega) (by omega)
        refine b_PressTable_fillRow_39 q0' hc (by rw [ec']; omega) (fun h => by rw [ec'] at h; omega) (fun _ => ?_)
        refine b_PressTable_fillRow_51 (by rcases hbit with ⟨q, -⟩ | ⟨q, -⟩ <;> omega) (fun h' => ?_) (fun h' => ?_)
        · refine b_PressTable_fillRow_85 ?_
          have hn : s.testBit p = false := by
            rcases hbit with ⟨q, -⟩ | ⟨-, q⟩
            · omega
            · exact q
          refine ih2 _ ⟨by omega, bs_c hb (fun h _ => ?_)⟩
          constructor
          · rintro (w | ⟨p', w1, w2, w3⟩)
            · exact Or.inl w
            · refine Or.inr ⟨p', ?_, w2, w3⟩
              by_cases ep : p' = p
              · subst ep; rw [hn] at w2; simp at w2
              · omega
          · rintro (w | ⟨p', w1, w2⟩)
            · exact Or.inl w
            · exact Or.inr ⟨p', by omega, w2⟩
        · have hyb : s.testBit p = true := by
            rcases hbit with ⟨-, q⟩ | ⟨q, -⟩
            · exact q
            · exact absurd q h'
          obtain ⟨x1, x2, x3⟩ := sx_1 hs (show p < 5 by omega) hyb
          have hsh : jb_shl 1 (p : Int) = ((2 ^ p : Nat) : Int) := jb_shl1 ⟨p, by omega⟩
          have hp2 : 2 ^ p < 2147483648 := by
            have : 2 ^ p < 2 ^ 31 := Nat.pow_lt_pow_right (by decide) (by omega)
            omega
          have hxo : jb_xor (s : Int) (jb_shl 1 (p : Int)) = ((s ^^^ 2 ^ p : Nat) : Int) := by rw [hsh, jn_xor (by omega) hp2]
          obtain ⟨a', g1, g2⟩ := (hsub p hyb).2 n (by omega)
          refine b_PressTable_fillRow_60 (by rw [hxo]; omega) ?_
          rw [hxo, Int.toNat_natCast, Int.toNat_natCast, oj (109 + (s ^^^ 2 ^ p)) (by omega), g1]
          refine c_PressTable_carriedFrom (I := I) (t := t) (by omega) (fun h hh => ?_) g2.1 (fun b' hb' => ?_)
          · obtain ⟨b2, w1, w2⟩ := hca p h hy hh
            exact ⟨b2, by rw [oj (142 + p) (by omega)]; exact w1, w2⟩
          · refine b_PressTable_fillRow_82 ?_
            refine b_PressTable_fillRow_85 ?_
            obtain ⟨w1, w2⟩ := bs_or (S := fun h => pxV I t (fun _ => True) n s h ∨ ∃ p' : Nat, (p' : Int) < (p : Int) + 1 ∧ s.testBit p' = true ∧ ∃ h' r : Nat, pxW I t (fun _ => True) n (s ^^^ 2 ^ p') h' ∧ (r : Int) < I 167 0 ∧ cyP I t h' p' r ∧ h = (puF I t r).toNat) hb hb' (fun h _ => by
              constructor
              · rintro (w | ⟨p', w1, w2, hq, r, w3, w4, w5, w6⟩)
                · exact Or.inl (Or.inl w)
                · by_cases ep : p' = p
                  · subst ep
                    have hv' := ((hvs n).2 w3).1
                    have h10 := vs_10 (by omega) (by omega) hv'
                    exact Or.inr ⟨hq, h10, (g2.2 hq h10).2 w3, hv', r, w4, w5, w6⟩
                  · exact Or.inl (Or.inr ⟨p', by omega, w2, hq, r, w3, w4, w5, w6⟩)
              · rintro ((w | ⟨p', w1, w2⟩) | ⟨h', w1, w2, w3, r, w4, w5, w6⟩)
                · exact Or.inl w
                · exact Or.inr ⟨p', by omega, w2⟩
                · exact Or.inr ⟨p, by omega, hyb, h', r, (g2.2 h' w1).1 w2, w4, w5, w6⟩)
            rw [w2]
            exact ih2 _ ⟨by omega, w1⟩
      · intro b hb
        obtain ⟨-, hb⟩ := hb
        have hbW : bsP b (pxW I t (fun _ => True) n s) := bs_c hb (fun h _ => by
          rw [pxW_eq, pxS_fix (by omega) (fun s h q => ((hvs n).1 q).2) hs]
          constructor
          · rintro (w | ⟨p, h', r, w1, w2, w3, w4⟩)
            · exact Or.inl w
            · exact Or.inr ⟨p, w3.1, w1, h', r, w2, w3.2.2.2.1, w3.2.2.2.2, w4⟩
          · rintro (w | ⟨p, w1, w2, h', r, w3, w4, w5, w6⟩)
            · exact Or.inl w
            · exact Or.inr ⟨p, h', r, w2, w3, ⟨w1, trivial, (sx_1 hs (show p < 5 by omega) w2).2.2, w4, w5⟩, w6⟩)
        refine b_PressTable_fillRow_39 q0' hc (by rw [ec']; omega) (fun _ => ?_) (fun h => by rw [ec'] at h; omega)
        have last : ∀ v' : Int, ((v' = 1 ∧ ∃ m h : Nat, (m : Int) < (n : Int) + 1 ∧ pxW I t (fun _ => True) m s h ∧ roF I t h = room) ∨ (v' = 0 ∧ ¬ ∃ m h : Nat, (m : Int) < (n : Int) + 1 ∧ pxW I t (fun _ => True) m s h ∧ roF I t h = room)) → ∀ v0 o7, Gx (jx_0 L) (d + 2) md_PressTable_fillRow 119 [some (.inr (.inl 107)), some (.inl (s : Int)), some (.inl (N : Int)), some (.inl (g : Int)), some (.inl v0), some (.inl (b : Int)), some (.inl (n : Int)), o7] [.inl v'] (jm_up (st_ J (109 + s) f) (109 + s) n (b : Int)) K := by
          intro v' hv' v0 o7
          rw [st_up]
          have hp3 : ptC I (st_ J (109 + s) (fun j => if j = n then (b : Int) else f j)) c e t := pt_mv hp (fun b hb => st_a (by omega))
          refine b_PressTable_fillRow_119 (c_PressTable_aSecondLater hp3 hbW.1 (fun h hh w => ((hvs n).2 ((hbW.2 h hh).1 w)).1) (fun b2 hb2 => ?_))
          refine b_PressTable_fillRow_127 ?_
          refine ih _ _ _ _ ⟨by omega, ?_, fun m hm2 => ?_, hv'⟩
          · rw [show ((n : Int) + 1).toNat = n + 1 by omega]
            refine bs_c hb2 (fun h _ => ?_)
            constructor
            · intro ⟨h', w1, w2⟩
              have h10 := vs_10 (by omega) (by omega) ((hvs n).2 w1).1
              exact ⟨h', h10, (hbW.2 h' h10).2 w1, w2⟩
            · intro ⟨h', w1, w2, w3⟩
              exact ⟨h', (hbW.2 h' w1).1 w2, w3⟩
          · by_cases em : m = n
            · subst em
              exact ⟨b, if_pos rfl, hbW⟩
            · obtain ⟨b3, w1, w2⟩ := hf m (by omega)
              exact ⟨b3, by rw [if_neg em]; exact w1, w2⟩
        have hand := bs_and hbW hg
        refine b_PressTable_fillRow_91 (by omega) (fun h => ?_) (fun h => ?_)
        · rw [Int.toNat_natCast, Int.toNat_natCast]
          refine b_PressTable_fillRow_114 ?_
          refine last 1 (Or.inl ⟨rfl, ?_⟩) _ _
          rcases hv with ⟨-, m, h2, w1, w2⟩ | ⟨w, -⟩
          · exact ⟨m, h2, by omega, w2⟩
          · exact absurd w h
        · have hno : ¬ ∃ m h : Nat, (m : Int) < (n : Int) ∧ pxW I t (fun _ => True) m s h ∧ roF I t h = room := by
            rcases hv with ⟨w, -⟩ | ⟨-, w⟩
            · omega
            · exact w
          rw [Int.toNat_natCast, Int.toNat_natCast]
          have har := jb_and_r (b : Int) (g : Int)
          refine b_PressTable_fillRow_107 (by omega) (fun h' => ?_) (fun h' => ?_)
          · refine b_PressTable_fillRow_118 ?_
            refine last 0 (Or.inr ⟨rfl, fun ⟨m, h2, w1, w2, w3⟩ => ?_⟩) _ _
            by_cases em : m = n
            · subst em
              have hv2 := ((hvs m).2 w2).1
              exact hand.1 h' h2 (vs_10 (by omega) (by omega) hv2) ⟨w2, hv2, w3⟩
            · exact hno ⟨m, h2, by omega, w2, w3⟩
          · refine b_PressTable_fillRow_114 ?_
            refine last 1 (Or.inl ⟨rfl, ?_⟩) _ _
            have := fun q => h' (hand.2 q)
            obtain ⟨h2, w⟩ := Classical.not_forall.mp this
            obtain ⟨w1, w2⟩ := Classical.not_imp.mp w
            have w3 := Classical.not_not.mp w2
            exact ⟨n, h2, by omega, w3.1, w3.2.2⟩
    · intro f a v o7 hi
      obtain ⟨-, ha, hf, hv⟩ := hi
      refine b_PressTable_fillRow_30 (by omega) (fun _ => ?_) (fun h => by omega)
      refine b_PressTable_fillRow_135 (by rcases hv with ⟨q, -⟩ | ⟨q, -⟩ <;> omega) (k _ v (fun b hb => st_a hb) (fun n hn => ?_) ?_)
      · obtain ⟨b, w1, w2⟩ := hf n (by omega)
        exact ⟨b, by rw [st_s]; exact w1, w2⟩
      · rcases hv with ⟨w1, m, h, w2, w3⟩ | ⟨w1, w2⟩
        · exact Or.inl ⟨w1, m, h, by omega, w3⟩
        · exact Or.inr ⟨w1, fun ⟨m, h, u1, u2⟩ => w2 ⟨m, h, by omega, u2⟩⟩
  refine b_PressTable_fillRow_0 (by omega) (fun h => ?_) (fun h => ?_)
  · refine b_PressTable_fillRow_24 ?_
    exact rest 0 (bs_0 (fun h2 _ w => h (by rw [w.1]; rfl)))
  · refine b_PressTable_fillRow_7 q1 (by rw [q2]; omega) ?_
    have hs0 : s = 0 := by omega
    rw [q2, o 48 (by omega), hnow]
    obtain ⟨n1, -⟩ := nw_sp hm ht.1 ht.2
    have hn10 : 0 ≤ nwF I t ∧ nwF I t < 10 := by unfold spOk at n1; omega
    obtain ⟨s1, s2⟩ := bs_1 (k0 := (nwF I t).toNat) (by omega) (Q := pxV I t (fun _ => True) 0 s) (fun k _ => ⟨fun w => w.2, fun w => ⟨hs0, w⟩⟩)
    rw [show nwF I t = (((nwF I t).toNat : Nat) : Int) by omega, s2]
    exact rest _ s1
end PROW
