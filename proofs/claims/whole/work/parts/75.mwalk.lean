/-! ===== taking: the model's walk, the whole; both sides ===== -/
def mgA (L d : Nat) (I : jm_I) (K : Option jm_V → jm_I → Prop) (x1 x2 : Int) (nt R : Nat) (T : Nat → Nat) (n : Nat) : Prop := ∀ (f : Nat → Int) (a tk : Nat) (r : Nat → Nat) (l : Nat → Int) (e : Nat → Bool) (w : Nat) (o4 o5 : Option jm_V), frS f a tk r l e w → f (a + 7) = 0 → f (a + 8) = -1000000 → a + 9 * (n + 1) ≤ 90 → mgR R tk r l → w < 2 → e w = false → tgM nt tk (e (1 - w)) ≤ n → (∀ (g : Nat → Int) (o4 o5 : Option jm_V), (∀ i, i < a + 7 → g i = f i) → g (a + 7) = (nt : Int) + 1 → g (a + 8) = sg_ w * tgW nt (fun i j => I 182 (6 * i + j)) T n tk (r w) (l w) (r (1 - w)) (l (1 - w)) (e (1 - w)) → Gx (jx_0 L) (d + 2) md_M_taking 109 [some (.inr (.inl 167)), some (.inl x1), some (.inl x2), some (.inl (a : Int)), o4, o5] [] (st_ I 187 g) K) → Gx (jx_0 L) (d + 2) md_M_taking 109 [some (.inr (.inl 167)), some (.inl x1), some (.inl x2), some (.inl (a : Int)), o4, o5] [] (st_ I 187 f) K
section MWALK
variable {L d : Nat} {I : jm_I} {K : Option jm_V → jm_I → Prop} {x0 x1 x2 x3 x4 : Int} {nt R : Nat} {T : Nat → Nat}
theorem frS_mv {f g : Nat → Int} {a tk w : Nat} {r : Nat → Nat} {l : Nat → Int} {e : Nat → Bool} (h : frS f a tk r l e w) (o : ∀ i, i < a + 7 → g i = f i) : frS g a tk r l e w := by
  obtain ⟨f0, f1, f2, f3, f4, f5, f6⟩ := h
  exact ⟨by rw [o a (by omega)]; exact f0, by rw [o _ (by omega)]; exact f1, by rw [o _ (by omega)]; exact f2, by rw [o _ (by omega)]; exact f3, by rw [o _ (by omega)]; exact f4, by rw [o _ (by omega)]; exact f5, by rw [o _ (by omega)]; exact f6⟩
theorem not3 {e : Nat → Bool} {w : Nat} (hw : w < 2) (h : e w = false) : ¬ eN_ e = 3 := by
  rw [eN_3]
  intro ⟨q0, q1⟩
  rcases (show w = 0 ∨ w = 1 by omega) with rfl | rfl
  · rw [h] at q0; simp at q0
  · rw [h] at q1; simp at q1
/-- the child of a frame, till its worth is known -/
theorem mg_child {n a tk w : Nat} {f : Nat → Int} {r : Nat → Nat} {l : Nat → Int} {e : Nat → Bool} {o4 o5 : Option jm_V} (hB : mgB I nt R T) (hA : mgA L d I K x1 x2 nt R T n) (hR : mgR R tk r l) (hf : frS f a tk r l e (turn_ e w)) (f7 : f (a + 7) = 0) (f8 : f (a + 8) = -1000000) (ha : 0 < a ∧ a + 9 * (n + 1) ≤ 90) (hw : w < 2) (hM1 : e (1 - w) = true → e w = false → unF tk nt + 1 ≤ n) (hM2 : e (1 - w) = false → tgM nt tk (e w) ≤ n) (k : ∀ (g : Nat → Int) (o4 o5 : Option jm_V), (∀ i, i < a → g i = f i) → Gx (jx_0 L) (d + 2) md_M_taking 185 [some (.inr (.inl 167)), some (.inl x1), some (.inl x2), some (.inl (a : Int)), o4, o5] [.inl (nxV nt (fun i j => I 182 (6 * i + j)) T n tk r l e w)] (st_ I 187 g) K) : Gx (jx_0 L) (d + 2) md_M_taking 109 [some (.inr (.inl 167)), some (.inl x1), some (.inl x2), some (.inl (a : Int)), o4, o5] [] (st_ I 187 f) K := by
  obtain ⟨⟨b1, b2⟩, bn, bT, bD⟩ := id hB
  have e5 : ∀ g : Nat → Int, st_ I 187 g 167 5 = (nt : Int) := fun g => by rw [st_a (by decide)]; exact bn
  have i5 : ((a : Int) + 5).toNat = a + 5 := by omega
  have i7 : ((a : Int) + 7).toNat = a + 7 := by omega
  have i8 : ((a : Int) + 8).toNat = a + 8 := by omega
  have her := eN_r e
  by_cases hov : e (1 - w) = true ∧ e w = true
  · have h3 : eN_ e = 3 := by
      rw [eN_3]
      rcases (show w = 0 ∨ w = 1 by omega) with rfl | rfl
      · exact ⟨hov.2, hov.1⟩
      · exact ⟨hov.1, hov.2⟩
    have g5 := hf.2.2.2.2.2.1
    refine b_M_taking_109 (by omega) (fun _ => ?_) (fun h => by omega)
    refine b_M_taking_127 (by rw [i5, st_s, g5]; omega) (fun h => by rw [i5, st_s, g5] at h; exact absurd h3 h) (fun _ => ?_)
    refine b_M_taking_139 ?_
    refine b_M_taking_144 (by omega) (fun _ => ?_) (fun h => by omega)
    refine b_M_taking_167 (by omega) (fun h => by omega) (fun _ => ?_)
    refine b_M_taking_172 ?_
    have := k f (some (.inl 1)) o5 (fun i _ => rfl)
    unfold nxV at this
    rw [if_pos hov.1, if_pos hov.2] at this
    exact this
  · -- the mover of the child has not ended
    have hturn : turn_ e w < 2 ∧ e (turn_ e w) = false := by
      unfold turn_
      cases h1 : e (1 - w)
      · rw [if_neg (by simp)]
        exact ⟨by omega, h1⟩
      · rw [if_pos rfl]
        refine ⟨hw, ?_⟩
        cases h2 : e w
        · rfl
        · exact absurd ⟨h1, h2⟩ hov
    have hval : sg_ (turn_ e w) * tgW nt (fun i j => I 182 (6 * i + j)) T n tk (r (turn_ e w)) (l (turn_ e w)) (r (1 - turn_ e w)) (l (1 - turn_ e w)) (e (1 - turn_ e w)) = nxV nt (fun i j => I 182 (6 * i + j)) T n tk r l e w := by
      unfold nxV turn_
      cases h1 : e (1 - w)
      · simp only [Bool.false_eq_true, if_false]
        rw [show 1 - (1 - w) = w by omega]
      · simp only [if_true]
        have h2 : e w = false := by
          cases h2 : e w
          · rfl
          · exact absurd ⟨h1, h2⟩ hov
        rw [h2, h1]
        simp only [Bool.false_eq_true, if_false]
    refine hA f a tk r l e (turn_ e w) o4 o5 hf f7 f8 ha.2 hR hturn.1 hturn.2 ?_ (fun g o4 o5 q1 q2 q3 => ?_)
    · unfold turn_
      cases h1 : e (1 - w)
      · rw [if_neg (by simp), show 1 - (1 - w) = w by omega]
        exact hM2 h1
      · rw [if_pos rfl, h1]
        have h2 : e w = false := by
          cases h2 : e w
          · rfl
          · exact absurd ⟨h1, h2⟩ hov
        have := hM1 h1 h2
        unfold tgM
        rw [if_pos rfl]
        exact this
    · have g5 : g (a + 5) = eN_ e := by rw [q1 (a + 5) (by omega)]; exact hf.2.2.2.2.2.1
      have h3 := not3 hturn.1 hturn.2
      refine b_M_taking_109 (by omega) (fun _ => ?_) (fun h => by omega)
      refine b_M_taking_127 (by rw [i5, st_s, g5]; omega) (fun _ => ?_) (fun h => by rw [i5, st_s, g5] at h; exact absurd h h3)
      refine b_M_taking_143 ?_
      refine b_M_taking_144 (by omega) (fun h => by omega) (fun _ => ?_)
      refine b_M_taking_151 (by rw [i7, st_s, q2, e5]; omega) (fun h => by rw [i7, st_s, q2, e5] at h; omega) (fun _ => ?_)
      refine b_M_taking_167 (by omega) (fun _ => ?_) (fun h => by omega)
      refine b_M_taking_176 (by omega) ?_
      rw [i8, st_s, q3, hval]
      exact k g _ _ (fun i hi => q1 i (by omega))
theorem mg_main (hB : mgB I nt R T) : ∀ n : Nat, n ≤ 7 → mgA L d I K x1 x2 nt R T n := by
  intro n
  induction n with
  | zero =>
    intro _ f a tk r l e w o4 o5 hf f7 f8 ha hR hw hew hM
    exfalso
    have := (un_tab ⟨tk, hR.1⟩ ⟨nt, by have := hB.1; omega⟩).1
    have : 0 ≤ unF tk nt := this.1
    unfold tgM at hM
    split at hM <;> omega
  | succ n ih =>
    intro hn7 f a tk r l e w o4 o5 hf f7 f8 ha hR hw hew hM k
    have hA := ih (by omega)
    obtain ⟨⟨b1, b2⟩, bn, bT, bD⟩ := id hB
    have hM' : tgM nt tk (e (1 - w)) ≤ (n : Int) + 1 := by omega
    have h3 := not3 hw hew
    have her := eN_r e
    have hsg : sg_ w = 1 ∨ sg_ w = -1 := by unfold sg_; split <;> omega
    have htr : ∀ t, -((n : Int) + 1) ≤ tgT nt (fun i j => I 182 (6 * i + j)) T n tk (r w) (l w) (r (1 - w)) (l (1 - w)) (e (1 - w)) t ∧ tgT nt (fun i j => I 182 (6 * i + j)) T n tk (r w) (l w) (r (1 - w)) (l (1 - w)) (e (1 - w)) t ≤ (n : Int) + 1 := fun t => tgT_r
    have hEr : -((n : Int) + 1) ≤ tgE nt (fun i j => I 182 (6 * i + j)) T n tk (r w) (l w) (r (1 - w)) (l (1 - w)) (e (1 - w)) ∧ tgE nt (fun i j => I 182 (6 * i + j)) T n tk (r w) (l w) (r (1 - w)) (l (1 - w)) (e (1 - w)) ≤ (n : Int) + 1 := tgE_r
    have i5 : ((a : Int) + 5).toNat = a + 5 := by omega
    have i7 : ((a : Int) + 7).toNat = a + 7 := by omega
    have e5 : ∀ g : Nat → Int, st_ I 187 g 167 5 = (nt : Int) := fun g => by rw [st_a (by decide)]; exact bn
    have hnx1 : ∀ t, t < nt → tgC (fun i j => I 182 (6 * i + j)) T tk (r w) (l w) t = true → nxV nt (fun i j => I 182 (6 * i + j)) T n (tk ||| 2 ^ t) (fun v => if v = w then T t else r v) (fun v => if v = w then l w - I 182 (6 * r w + T t) else l v) e w + sg_ w = sg_ w * tgT nt (fun i j => I 182 (6 * i + j)) T n tk (r w) (l w) (r (1 - w)) (l (1 - w)) (e (1 - w)) t := by
      intro t _ _
      unfold nxV tgT
      rw [sg_o hw, hew]
      simp only [if_neg (show ¬ 1 - w = w by omega)]
      cases e (1 - w)
      · simp only [Bool.false_eq_true, if_false, if_true]
        rw [Int.mul_add, Int.mul_one, Int.mul_neg, Int.neg_mul]
        omega
      · simp only [if_true, Bool.false_eq_true, if_false]
        rw [Int.mul_add, Int.mul_one]
        omega
    have hnx2 : nxV nt (fun i j => I 182 (6 * i + j)) T n tk r l (fun v => if v = w then true else e v) w = sg_ w * tgE nt (fun i j => I 182 (6 * i + j)) T n tk (r w) (l w) (r (1 - w)) (l (1 - w)) (e (1 - w)) := by
      unfold nxV tgE
      rw [sg_o hw]
      simp only [if_neg (show ¬ 1 - w = w by omega), if_true]
      cases e (1 - w)
      · simp only [Bool.false_eq_true, if_false]
        rw [Int.neg_mul, Int.mul_neg]
      · simp
    rw [tgW_s] at k
    generalize hCe : tgC (fun i j => I 182 (6 * i + j)) T tk (r w) (l w) = C at *
    generalize hFe : tgT nt (fun i j => I 182 (6 * i + j)) T n tk (r w) (l w) (r (1 - w)) (l (1 - w)) (e (1 - w)) = F at *
    generalize hEe : tgE nt (fun i j => I 182 (6 * i + j)) T n tk (r w) (l w) (r (1 - w)) (l (1 - w)) (e (1 - w)) = E at *
    refine lp_up3 (σ := Nat → Int) (τ := Option jm_V) (υ := Option jm_V) (Inv := fun x g _ _ => 0 ≤ x ∧ (∀ i, i < a + 7 → g i = f i) ∧ g (a + 7) = x ∧ ((x ≤ nt ∧ ((g (a + 8) = -1000000 ∧ ∀ t : Nat, (t : Int) < x → C t = false) ∨ ∃ m, g (a + 8) = sg_ w * m ∧ (-8 ≤ m ∧ m ≤ 8) ∧ bsR C F x.toNat m)) ∨ (x = (nt : Int) + 1 ∧ g (a + 8) = sg_ w * mxF C F E nt))) (G := fun x g o4 o5 => Gx (jx_0 L) (d + 2) md_M_taking 109 [some (.inr (.inl 167)), some (.inl x1), some (.inl x2), some (.inl (a : Int)), o4, o5] [] (st_ I 187 g) K) ((nt : Int) + 1) ?_ ?_ 0 f o4 o5 (by omega) ⟨by omega, fun i _ => rfl, f7, Or.inl ⟨by omega, Or.inl ⟨f8, fun t ht => by omega⟩⟩⟩
    · intro x g o4 o5 hx hi ih2
      obtain ⟨h0, g1, g7, hi⟩ := hi
      obtain ⟨t, rfl⟩ : ∃ t : Nat, x = t := ⟨x.toNat, by omega⟩
      have hi : (g (a + 8) = -1000000 ∧ ∀ u : Nat, u < t → C u = false) ∨ ∃ m, g (a + 8) = sg_ w * m ∧ (-8 ≤ m ∧ m ≤ 8) ∧ bsR C F t m := by
        rcases hi with ⟨-, q⟩ | ⟨q, -⟩
        · rw [Int.toNat_natCast] at q
          rcases q with ⟨q1, q2⟩ | q
          · exact Or.inl ⟨q1, fun u hu => q2 u (by omega)⟩
          · exact Or.inr q
        · omega
      have hfg : frS g a tk r l e w := frS_mv hf g1
      have g5 : g (a + 5) = eN_ e := hfg.2.2.2.2.2.1
      have hbr : g (a + 8) = -1000000 ∨ (-8 ≤ g (a + 8) ∧ g (a + 8) ≤ 8) := by
        rcases hi with ⟨q, -⟩ | ⟨m, q, q2, -⟩
        · exact Or.inl q
        · right
          rcases hsg with z | z <;> rw [z] at q <;> omega
      -- into the loop
      have enter : Gx (jx_0 L) (d + 2) md_M_taking 127 [some (.inr (.inl 167)), some (.inl x1), some (.inl x2), some (.inl (a : Int)), o4, o5] [] (st_ I 187 g) K → Gx (jx_0 L) (d + 2) md_M_taking 109 [some (.inr (.inl 167)), some (.inl x1), some (.inl x2), some (.inl (a : Int)), o4, o5] [] (st_ I 187 g) K := by
        intro q
        refine b_M_taking_109 (by omega) (fun _ => q) (fun h => ?_)
        have ha0 : a = 0 := by omega
        have g70 : st_ I 187 g 187 7 = (t : Int) := by rw [st_s]; rw [ha0] at g7; exact g7
        exact b_M_taking_113 (by rw [g70, e5]; omega) (fun h => by rw [g70, e5] at h; omega) (fun _ => q)
      refine enter ?_
      refine b_M_taking_127 (by rw [i5, st_s, g5]; omega) (fun _ => ?_) (fun h => by rw [i5, st_s, g5] at h; exact absurd h h3)
      refine b_M_taking_143 ?_
      refine b_M_taking_144 (by omega) (fun h => by omega) (fun _ => ?_)
      refine b_M_taking_151 (by rw [i7, st_s, g7, e5]; omega) (fun _ => ?_) (fun h => by rw [i7, st_s, g7, e5] at h; omega)
      refine b_M_taking_200 (by omega) ?_
      rw [i7, st_s, g7, st_up]
      have hfg2 : frS (fun j => if j = a + 7 then (t : Int) + 1 else g j) a tk r l e w := frS_mv hfg (fun i hi => if_neg (by omega))
      -- a child's worth comes back
      have back : ∀ (v : Int) (g2 : Nat → Int) (o4 o5 : Option jm_V), (∀ i, i < a + 9 → g2 i = if i = a + 7 then (t : Int) + 1 else g i) → -8 ≤ v ∧ v ≤ 8 → ((t < nt ∧ C t = true ∧ v + sg_ w = sg_ w * F t) ∨ (t = nt ∧ v = sg_ w * E)) → Gx (jx_0 L) (d + 2) md_M_taking 185 [some (.inr (.inl 167)), some (.inl x1), some (.inl x2), some (.inl ((a + 9 : Nat) : Int)), o4, o5] [.inl v] (st_ I 187 g2) K := by
        intro v g2 o4 o5 hg2 hv hcase
        have q6 : g2 (a + 6) = (w : Int) := by rw [hg2 (a + 6) (by omega), if_neg (by omega)]; exact hfg.2.2.2.2.2.2
        have q7 : g2 (a + 7) = (t : Int) + 1 := by rw [hg2 (a + 7) (by omega), if_pos rfl]
        have q8 : g2 (a + 8) = g (a + 8) := by rw [hg2 (a + 8) (by omega), if_neg (by omega)]
        refine b_M_taking_185 ?_
        rw [show ((a + 9 : Nat) : Int) + (-9) = (a : Int) by omega]
        refine c_M_comesBack (nt := nt) (k := t) (w := w) (b := g (a + 8)) (by exact bn) b1 (by omega) (by omega) hw q6 q7 q8 hbr hv (fun gain b' hgain hb' => ?_)
        refine b_M_taking_197 ?_
        refine b_M_taking_243 ?_
        refine ih2 _ _ _ ⟨by omega, fun i hi => ?_, ?_, ?_⟩
        · rw [if_neg (by omega), hg2 i (by omega), if_neg (by omega)]; exact g1 i hi
        · rw [if_neg (by omega)]; exact q7
        · rw [if_pos rfl]
          rcases hcase with ⟨z1, z2, z3⟩ | ⟨z1, z2⟩
          · have hgF : gain = sg_ w * F t := by rw [hgain, if_neg (by omega)]; exact z3
            have hFt := htr t
            left
            refine ⟨by omega, Or.inr ?_⟩
            rw [show ((t : Int) + 1).toNat = t + 1 by omega]
            rcases hi with ⟨y1, y2⟩ | ⟨m, y1, y2, y3⟩
            · rw [if_pos y1] at hb'
              exact ⟨F t, by rw [hb', hgF], by omega, bsR_1 y2 z2⟩
            · have hne : ¬ g (a + 8) = -1000000 := by rcases hsg with z | z <;> rw [z] at y1 <;> omega
              rw [if_neg hne, hgF, y1] at hb'
              refine ⟨max m (F t), ?_, by omega, bsR_up y3 z2⟩
              rw [hb']
              rcases (show w = 0 ∨ w = 1 by omega) with rfl | rfl
              · rw [if_pos rfl, show sg_ 0 = 1 from rfl]; omega
              · rw [if_neg (by decide), show sg_ 1 = -1 from rfl]; omega
          · have hgE : gain = sg_ w * E := by rw [hgain, if_pos z1]; exact z2
            right
            refine ⟨by omega, ?_⟩
            rcases hi with ⟨y1, y2⟩ | ⟨m, y1, y2, y3⟩
            · rw [if_pos y1] at hb'
              rw [hb', hgE, mx_no (fun u hu => y2 u (by omega))]
            · have hne : ¬ g (a + 8) = -1000000 := by rcases hsg with z | z <;> rw [z] at y1 <;> omega
              rw [if_neg hne, hgE, y1] at hb'
              rw [z1] at y3
              rw [hb', mx_bs y3]
              rcases (show w = 0 ∨ w = 1 by omega) with rfl | rfl
              · rw [if_pos rfl, show sg_ 0 = 1 from rfl]; omega
              · rw [if_neg (by decide), show sg_ 1 = -1 from rfl]; omega
      refine c_M_triesOn hB hR hfg2 hw (by omega) (by omega) (fun hk hc => ?_) (fun hk hc g2 c1 c2 c3 c4 => ?_) (fun hk g2 c1 c2 c3 c4 => ?_)
      · rw [hCe] at hc
        refine b_M_taking_232 (by omega) (fun _ => ?_) (fun h => by omega)
        refine b_M_taking_240 ?_
        refine b_M_taking_241 ?_
        refine b_M_taking_243 ?_
        rw [show (a : Int) + 0 = (a : Int) by omega]
        refine ih2 _ _ _ ⟨by omega, fun i hi => ?_, if_pos rfl, ?_⟩
        · rw [if_neg (by omega)]; exact g1 i hi
        · simp only [if_neg (show ¬ a + 8 = a + 7 by omega)]
          left
          refine ⟨by omega, ?_⟩
          rw [show ((t : Int) + 1).toNat = t + 1 by omega]
          rcases hi with ⟨y1, y2⟩ | ⟨m, y1, y2, y3⟩
          · refine Or.inl ⟨y1, fun u hu => ?_⟩
            by_cases eu : u = t
            · rw [eu]; exact hc
            · exact y2 u (by omega)
          · exact Or.inr ⟨m, y1, y2, bsR_no y3 hc⟩
      · rw [hCe] at hc
        have hcd : tk.testBit t = false ∧ I 182 (6 * r w + T t) ≤ l w := by
          rw [← hCe] at hc
          exact tgC_i.1 hc
        obtain ⟨t1, t2⟩ := bT t hk
        have hun := (un_tab ⟨tk, hR.1⟩ ⟨nt, by omega⟩).2 ⟨t, by omega⟩ hk hcd.1
        have hun : unF (tk ||| 2 ^ t) nt + 1 = unF tk nt := hun
        obtain ⟨u1, u2, u3⟩ := hR.2 w hw
        have hDr := bD (r w) (T t) (by omega) (by omega)
        refine b_M_taking_232 (by omega) (fun h => by omega) (fun _ => ?_)
        refine b_M_taking_235 ?_
        refine b_M_taking_241 ?_
        refine b_M_taking_243 ?_
        rw [show (a : Int) + 9 = ((a + 9 : Nat) : Int) by omega]
        refine mg_child (w := w) hB hA ⟨(sx_0 hR.1 (by omega) hcd.1).2.1, fun v hv => ?_⟩ c2 c3 c4 (by omega) hw (fun q1 _ => ?_) (fun q1 => ?_) (fun g3 o4 o5 q => ?_)
        · by_cases ev : v = w
          · simp only [if_pos ev]
            exact ⟨t2, by omega, by omega⟩
          · simp only [if_neg ev]
            exact hR.2 v hv
        · unfold tgM at hM'
          rw [q1, if_pos rfl] at hM'
          omega
        · unfold tgM at hM' ⊢
          rw [q1, if_neg (by simp)] at hM'
          rw [hew, if_neg (by simp)]
          omega
        · have hv := hnx1 t hk hc
          have hFt := htr t
          refine back _ g3 _ _ (fun i hi => by rw [q i hi]; exact c1 i hi) ?_ (Or.inl ⟨hk, hc, hv⟩)
          rcases hsg with z | z <;> rw [z] at hv <;> omega
      · refine b_M_taking_232 (by omega) (fun h => by omega) (fun _ => ?_)
        refine b_M_taking_235 ?_
        refine b_M_taking_241 ?_
        refine b_M_taking_243 ?_
        rw [show (a : Int) + 9 = ((a + 9 : Nat) : Int) by omega]
        refine mg_child (w := w) hB hA hR c2 c3 c4 (by omega) hw (fun q1 q2 => ?_) (fun q1 => ?_) (fun g3 o4 o5 q => ?_)
        · simp at q2
        · simp only [if_neg (show ¬ 1 - w = w by omega)] at q1
          unfold tgM at hM' ⊢
          rw [q1, if_neg (by simp)] at hM'
          simp only [if_true]
          omega
        · rw [hnx2]
          refine back _ g3 _ _ (fun i hi => by rw [q i hi]; exact c1 i hi) ?_ (Or.inr ⟨hk, rfl⟩)
          rcases hsg with z | z <;> rw [z] <;> omega
    · intro g o4 o5 hi
      obtain ⟨-, g1, g7, hi⟩ := hi
      refine k g o4 o5 g1 g7 ?_
      rcases hi with ⟨q, -⟩ | ⟨-, q⟩
      · omega
      · exact q
end MWALK
section TAKING
variable {L d : Nat} {I : jm_I} {K : Option jm_V → jm_I → Prop} {x0 x1 x2 x3 x4 : Int} {c e : Nat}
theorem c_M_taking (hm : mOk I) (hz : (-2147483648 ≤ x1 ∧ x1 < 2147483648) ∧ (-2147483648 ≤ x2 ∧ x2 < 2147483648)) (k0 : ¬ takOk I x1 x2 → K (some (.inl (-1000000))) I) (k : takOk I x1 x2 → ∀ (g f : Nat → Int), (∀ i j, i < 6 → j < 6 → isD (adjM I 0) 10000 i j (g (6 * i + j))) → K (some (.inl (takW I (fun i j => g (6 * i + j)) x1 x2))) (st_ (st_ I 182 g) 187 f)) : Cx (jx_0 L) (d + 2) md_M_taking [.inr (.inl 167), .inl x1, .inl x2] I K := by
  have hr := hm.1
  unfold mRng at hr
  unfold takOk at k0 k
  refine b_M_taking_0 (c_M_isPerson (by omega) (fun v1 hv1 => ?_))
  refine b_M_taking_5 (by omega) (fun hb2 => ?_) (fun hb2 => ?_)
  · refine b_M_taking_21 ?_
    exact k0 (by omega)
  · refine b_M_taking_8 (c_M_isPerson (by omega) (fun v3 hv3 => ?_))
    refine b_M_taking_13 (by omega) (fun hb4 => ?_) (fun hb4 => ?_)
    · refine b_M_taking_21 ?_
      exact k0 (by omega)
    · refine b_M_taking_16 (by omega) (fun hb5 => ?_) (fun hb5 => ?_)
      · have hk := k (by omega)
        refine b_M_taking_24 (c_M_findFar (by omega) hm.2.1 (fun g hg => ?_))
        have hp1 := (hm.2.2.2.1.2.2.1 x1.toNat (by omega)).1
        have hp2 := (hm.2.2.2.1.2.2.1 x2.toNat (by omega)).1
        rw [show 1 + x1.toNat = (1 + x1).toNat by omega] at hp1
        rw [show 1 + x2.toNat = (1 + x2).toNat by omega] at hp2
        have hB : mgB (st_ I 182 g) (I 167 5).toNat (I 167 0).toNat (fun t => (I 171 (17 + t)).toNat) := by
          refine ⟨by omega, by rw [st_a (by decide)]; omega, fun t ht => ?_, fun i j hi hj => ?_⟩
          · have := (nw_sp hm (t := (t : Int)) (by omega) (by omega)).2.2
            rw [show (17 + (t : Int)).toNat = 17 + t by omega] at this
            rw [st_a (by decide)]
            show I 171 (17 + t) = ((I 171 (17 + t)).toNat : Int) ∧ (I 171 (17 + t)).toNat < _
            omega
          · rw [st_s]
            rcases hg i j hi hj with ⟨n, hn, hn6, -⟩ | ⟨hn, -⟩ <;> omega
        refine b_M_taking_29 ?_
        rw [← st_id (I := st_ I 182 g) (a := 187)]
        refine lp_up (σ := Nat → Int) (Inv := fun x f => 0 ≤ x ∧ ∀ i : Nat, (i : Int) < x → f i = 0) (G := fun x f => Gx (jx_0 L) (d + 2) md_M_taking 31 [some (.inr (.inl 167)), some (.inl x1), some (.inl x2), some (.inl x), none, none] [] (st_ (st_ I 182 g) 187 f) K) 9 ?_ ?_ 0 _ (by omega) ⟨by omega, fun i hi => by omega⟩
        · intro x f hx hi ih
          obtain ⟨h0, hi⟩ := hi
          refine b_M_taking_31 (by omega) (fun h => by omega) (fun _ => ?_)
          refine b_M_taking_37 (by omega) ?_
          rw [st_up]
          refine ih _ ⟨by omega, fun i hi2 => ?_⟩
          by_cases ei : i = x.toNat
          · rw [if_pos ei]
          · rw [if_neg ei]; exact hi i (by omega)
        · intro f hi
          obtain ⟨-, hi⟩ := hi
          refine b_M_taking_31 (by omega) (fun _ => ?_) (fun h => by omega)
          refine b_M_taking_50 (by omega) ?_
          simp only [st_up, st_a (show (171 : Nat) ≠ 187 by decide), st_a (show (171 : Nat) ≠ 182 by decide), st_a (show (167 : Nat) ≠ 187 by decide), st_a (show (167 : Nat) ≠ 182 by decide)]
          have hun := ((un_tab ⟨0, by decide⟩ ⟨(I 167 5).toNat, by omega⟩).1).2
          have hun : unF 0 (I 167 5).toNat ≤ ((I 167 5).toNat : Int) := hun
          refine mg_main hB 7 (by decide) _ 0 0 (fun w => if w = 0 then (I 171 (1 + x1).toNat).toNat else (I 171 (1 + x2).toNat).toNat) (fun _ => I 167 3) (fun _ => false) 0 none none ⟨?_, ?_, ?_, ?_, ?_, ?_, ?_⟩ ?_ ?_ (by decide) ⟨by decide, fun w hw => ?_⟩ (by decide) rfl ?_ (fun g2 o4 o5 q1 q2 q3 => ?_)
          · have := hi 0 (by omega)
            simp [this]
          · simp; omega
          · simp; omega
          · simp
          · simp
          · have := hi 5 (by omega)
            simp [this, eN_]
          · have := hi 6 (by omega)
            simp [this]
          · have := hi 7 (by omega)
            simp [this]
          · simp
          · refine ⟨?_, show 0 ≤ I 167 3 by omega, show I 167 3 ≤ 20 by omega⟩
            show (if w = 0 then (I 171 (1 + x1).toNat).toNat else (I 171 (1 + x2).toNat).toNat) < _
            split <;> omega
          · unfold tgM
            simp only [Bool.false_eq_true, if_false]
            omega
          · have e7 : st_ (st_ I 182 g) 187 g2 187 7 = ((I 167 5).toNat : Int) + 1 := by rw [st_s]; exact q2
            have e5 : st_ (st_ I 182 g) 187 g2 167 5 = I 167 5 := by rw [st_a (by decide), st_a (by decide)]
            refine b_M_taking_109 (by omega) (fun h => by omega) (fun _ => ?_)
            refine b_M_taking_113 (by rw [e7, e5]; omega) (fun _ => ?_) (fun h => by rw [e7, e5] at h; omega)
            refine b_M_taking_246 ?_
            have e8 : st_ (st_ I 182 g) 187 g2 187 8 = takW I (fun i j => g (6 * i + j)) x1 x2 := by
              rw [st_s]
              rw [show (0 : Nat) + 8 = 8 from rfl] at q3
              rw [q3]
              unfold takW
              simp only [sg_, if_true, Int.one_mul, show (1 - 0 = 0) = False from eq_false (by decide), if_false, st_s]
            rw [e8]
            exact hk g g2 hg
      · refine b_M_taking_21 ?_
        exact k0 (by omega)
theorem g_taking (h : Rel I) (hz : (-2147483648 ≤ x1 ∧ x1 < 2147483648) ∧ (-2147483648 ≤ x2 ∧ x2 < 2147483648)) : Two L d md_X_taking md_M_taking [.inl x1, .inl x2] I := by
  obtain ⟨hm, c, e, hx⟩ := id h
  have hr := hm.1
  unfold mRng at hr
  refine c_X_taking hm hx hz (fun q => ?_) (fun q J o => ?_)
  · exact ⟨_, rfl, c_M_taking hm hz (fun _ => ⟨rfl, h, rfl⟩) (fun p => absurd p q)⟩
  · have e167 := o 167 (by omega)
    have e171 := o 171 (by omega)
    have mk : mKeep I J := ⟨fun k _ => by rw [e167], fun a a1 a2 => o a (by omega)⟩
    have hmJ := mOk_keep mk hm
    have epr : takOk J x1 x2 ↔ takOk I x1 x2 := by unfold takOk; rw [e167]
    refine ⟨_, rfl, c_M_taking hmJ hz (fun p => absurd (epr.2 q) p) (fun _ g f hg => ⟨?_, ?_⟩)⟩
    · rw [adjM_keep mk] at hg
      refine congrArg (fun z => some (Sum.inl z)) ?_
      unfold takW
      rw [e167, e171]
      unfold takOk at q
      have hp1 := (hm.2.2.2.1.2.2.1 x1.toNat (by omega)).1
      have hp2 := (hm.2.2.2.1.2.2.1 x2.toNat (by omega)).1
      rw [show 1 + x1.toNat = (1 + x1).toNat by omega] at hp1
      rw [show 1 + x2.toNat = (1 + x2).toNat by omega] at hp2
      refine tg_c (R := (I 167 0).toNat) (fun t ht => ?_) (fun a b ha hb => ?_) (by omega) (by omega) (by omega) (by omega)
      · have := (nw_sp hm (t := (t : Int)) (by omega) (by omega)).2.2
        rw [show (17 + (t : Int)).toNat = 17 + t by omega] at this
        show (I 171 (17 + t)).toNat < _
        omega
      · have := far_x hm hx.2.2.2.1 (r := (a : Int)) (s := (b : Int)) (by omega) (by omega) (w := g (6 * a + b)) (by rw [Int.toNat_natCast, Int.toNat_natCast]; exact hg a b (by omega) (by omega))
        rw [Int.toNat_natCast, Int.toNat_natCast] at this
        show (g (6 * a + b) = I (c + 14 + a) b ∧ 0 ≤ g (6 * a + b)) ∨ (20 < g (6 * a + b) ∧ 20 < I (c + 14 + a) b)
        omega
    · refine rel_scr h (fun a a0 a1 a2 => ?_) (fun k hk => ?_)
      · rw [st_a (by omega), st_a (by omega), o a (by omega)]
      · rw [st_a (by decide), st_a (by decide), e167]
end TAKING
