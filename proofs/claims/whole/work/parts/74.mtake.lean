/-! ===== taking: the model's walk ===== -/
/-- the rooms of a game -/
def mgB (I : jm_I) (nt R : Nat) (T : Nat → Nat) : Prop := (nt ≤ 5 ∧ R ≤ 6) ∧ I 167 5 = (nt : Int) ∧ (∀ t : Nat, t < nt → I 171 (17 + t) = (T t : Int) ∧ T t < R) ∧ ∀ i j : Nat, i < 6 → j < 6 → 0 ≤ I 182 (6 * i + j) ∧ I 182 (6 * i + j) ≤ 10000
def mgR (R tk : Nat) (r : Nat → Nat) (l : Nat → Int) : Prop := tk < 32 ∧ ∀ w : Nat, w < 2 → r w < R ∧ 0 ≤ l w ∧ l w ≤ 20
section MTAKE
variable {L d : Nat} {I : jm_I} {K : Option jm_V → jm_I → Prop} {x0 x1 x2 x3 x4 : Int} {nt R : Nat} {T : Nat → Nat}
theorem c_M_triesOn {f : Nat → Int} {a k tk w : Nat} {r : Nat → Nat} {l : Nat → Int} {e : Nat → Bool} (hB : mgB I nt R T) (hR : mgR R tk r l) (hf : frS f a tk r l e w) (hw : w < 2) (ha : a + 18 ≤ 90) (hk : k ≤ nt) (k0 : k < nt → tgC (fun i j => I 182 (6 * i + j)) T tk (r w) (l w) k = false → K (some (.inl 0)) (st_ I 187 f)) (k1 : k < nt → tgC (fun i j => I 182 (6 * i + j)) T tk (r w) (l w) k = true → ∀ g : Nat → Int, (∀ i, i < a + 9 → g i = f i) → frS g (a + 9) (tk ||| 2 ^ k) (fun v => if v = w then T k else r v) (fun v => if v = w then l w - I 182 (6 * r w + T k) else l v) e (turn_ e w) → g (a + 16) = 0 → g (a + 17) = -1000000 → K (some (.inl 1)) (st_ I 187 g)) (k2 : k = nt → ∀ g : Nat → Int, (∀ i, i < a + 9 → g i = f i) → frS g (a + 9) tk r l (fun v => if v = w then true else e v) (turn_ (fun v => if v = w then true else e v) w) → g (a + 16) = 0 → g (a + 17) = -1000000 → K (some (.inl 1)) (st_ I 187 g)) : Cx (jx_0 L) (d + 1) md_M_triesOn [.inr (.inl 167), .inl (a : Int), .inl (k : Int)] (st_ I 187 f) K := by
  obtain ⟨⟨b1, b2⟩, bn, bT, bD⟩ := hB
  obtain ⟨htk, hrl⟩ := hR
  obtain ⟨f0, f1, f2, f3, f4, f5, f6⟩ := id hf
  obtain ⟨u1, u2, u3⟩ := hrl w hw
  have e6 : st_ I 187 f 187 ((a : Int) + 6).toNat = (w : Int) := by rw [st_s, show ((a : Int) + 6).toNat = a + 6 by omega]; exact f6
  have e1 : st_ I 187 f 187 ((a : Int) + 1 + (w : Int)).toNat = (r w : Int) := by
    rw [st_s, show ((a : Int) + 1 + (w : Int)).toNat = a + 1 + w by omega]
    rcases (show w = 0 ∨ w = 1 by omega) with rfl | rfl
    · exact f1
    · exact f2
  have e3 : st_ I 187 f 187 ((a : Int) + 3 + (w : Int)).toNat = l w := by
    rw [st_s, show ((a : Int) + 3 + (w : Int)).toNat = a + 3 + w by omega]
    rcases (show w = 0 ∨ w = 1 by omega) with rfl | rfl
    · exact f3
    · exact f4
  have e0 : st_ I 187 f 187 ((a : Int) + 0).toNat = (tk : Int) := by rw [st_s, show ((a : Int) + 0).toNat = a by omega]; exact f0
  have e5 : st_ I 187 f 167 5 = (nt : Int) := by rw [st_a (by decide)]; exact bn
  refine b_M_triesOn_0 (by rw [e6, e5]; omega) (fun h => ?_) (fun h => ?_)
  · rw [e6, e1]
    rw [e5] at h
    have hkn : k < nt := by omega
    obtain ⟨t1, t2⟩ := bT k hkn
    have hDr := bD (r w) (T k) (by omega) (by omega)
    refine b_M_triesOn_34 ?_
    refine b_M_triesOn_35 (by omega) (fun _ => ?_) (fun h => by omega)
    have e17 : st_ I 187 f 171 (17 + (k : Int)).toNat = (T k : Int) := by rw [st_a (by decide), show (17 + (k : Int)).toNat = 17 + k by omega]; exact t1
    refine b_M_triesOn_46 (by rw [e17]; omega) ?_
    have e182 : st_ I 187 f 182 (6 * (r w : Int) + st_ I 187 f 171 (17 + (k : Int)).toNat).toNat = I 182 (6 * r w + T k) := by
      rw [e17, st_a (by decide), show (6 * (r w : Int) + (T k : Int)).toNat = 6 * r w + T k by omega]
    rw [e182]
    refine b_M_triesOn_66 (by omega) (fun h => by omega) (fun _ => ?_)
    refine b_M_triesOn_73 (by omega) ?_
    rw [e0]
    have hbit := jn_bit (a := tk) (h := k) (by omega) (by omega)
    refine c_M_has (fun v hv => ?_)
    unfold jb_has at hv
    have no : ¬ (tk.testBit k = false ∧ I 182 (6 * r w + T k) ≤ l w) → K (some (.inl 0)) (st_ I 187 f) := fun q => by
      refine k0 hkn ?_
      cases hb : tgC (fun i j => I 182 (6 * i + j)) T tk (r w) (l w) k
      · rfl
      · exact absurd (tgC_i.1 hb) q
    refine b_M_triesOn_85 (by rcases hv with ⟨q, -⟩ | ⟨q, -⟩ <;> omega) (fun h1 => ?_) (fun h1 => ?_)
    · refine b_M_triesOn_103 (no (fun q => ?_))
      rcases hbit with ⟨-, z⟩ | ⟨z, -⟩
      · rw [q.1] at z; simp at z
      · rcases hv with ⟨-, y⟩ | ⟨y, -⟩
        · omega
        · exact h1 y
    · have hb0 : tk.testBit k = false := by
        rcases hbit with ⟨z, -⟩ | ⟨-, z⟩
        · rcases hv with ⟨y, -⟩ | ⟨-, y⟩
          · omega
          · exact absurd z y
        · exact z
      refine b_M_triesOn_88 (by rw [e3]; omega) (fun h2 => ?_) (fun h2 => ?_)
      · rw [e3] at h2
        have hC : tgC (fun i j => I 182 (6 * i + j)) T tk (r w) (l w) k = true := tgC_i.2 ⟨hb0, h2⟩
        refine b_M_triesOn_105 (c_M_copiesOn ha (fun g c1 c2 c3 c4 => ?_))
        have hg : frS g (a + 9) tk r l e w := ⟨by rw [c2 0 (by omega)]; exact f0, by rw [c2 1 (by omega)]; exact f1, by rw [c2 2 (by omega)]; exact f2, by rw [c2 3 (by omega)]; exact f3, by rw [c2 4 (by omega)]; exact f4, by rw [c2 5 (by omega)]; exact f5, by rw [c2 6 (by omega)]; exact f6⟩
        have hor : jb_or (tk : Int) (jb_shl 1 (k : Int)) = ((tk ||| 2 ^ k : Nat) : Int) := (un_back ⟨tk, htk⟩ ⟨k, by omega⟩ hb0).2
        refine tr_tail (rm := 0) (e' := e) (tk := tk) (r := r) (l := l) (e := e) (ntk := ((tk ||| 2 ^ k : Nat) : Int)) (nrm := (T k : Int)) (nen := 0) (o4 := none) ha hw (Or.inl rfl) hg (by rw [if_pos rfl]; exact hor) (Or.inl ⟨rfl, by omega, by rw [show (17 + (k : Int)).toNat = 17 + k by omega]; exact t1.symm⟩) (by rw [if_pos rfl]; exact jb_or0 (by have := eN_r e; omega)) ?_
        obtain ⟨g0, g1, g2, g3, g4, g5, g6⟩ := hg
        refine k1 hkn hC _ (fun i hi => ?_) ⟨?_, ?_, ?_, ?_, ?_, ?_, ?_⟩ ?_ ?_
        · simp only [if_neg (show ¬ i = a + 15 by omega), if_neg (show ¬ i = a + 14 by omega), if_neg (show ¬ i = a + 12 + w by omega), if_neg (show ¬ i = a + 10 + w by omega), if_neg (show ¬ i = a + 9 by omega)]
          exact c1 i hi
        · simp only [if_neg (show ¬ a + 9 = a + 15 by omega), if_neg (show ¬ a + 9 = a + 14 by omega), if_neg (show ¬ a + 9 = a + 12 + w by omega), if_neg (show ¬ a + 9 = a + 10 + w by omega), if_true]
        · show (if a + 10 = a + 15 then _ else _) = _
          simp only [if_neg (show ¬ a + 10 = a + 15 by omega), if_neg (show ¬ a + 10 = a + 14 by omega), if_neg (show ¬ a + 10 = a + 12 + w by omega), if_neg (show ¬ a + 10 = a + 9 by omega)]
          by_cases ew : 0 = w
          · rw [if_pos (by omega), if_pos ew]
          · rw [if_neg (by omega), if_neg ew]; exact g1
        · show (if a + 11 = a + 15 then _ else _) = _
          simp only [if_neg (show ¬ a + 11 = a + 15 by omega), if_neg (show ¬ a + 11 = a + 14 by omega), if_neg (show ¬ a + 11 = a + 12 + w by omega), if_neg (show ¬ a + 11 = a + 9 by omega)]
          by_cases ew : 1 = w
          · rw [if_pos (by omega), if_pos ew]
          · rw [if_neg (by omega), if_neg ew]; exact g2
        · show (if a + 12 = a + 15 then _ else _) = _
          simp only [if_neg (show ¬ a + 12 = a + 15 by omega), if_neg (show ¬ a + 12 = a + 14 by omega), if_neg (show ¬ a + 12 = a + 10 + w by omega), if_neg (show ¬ a + 12 = a + 9 by omega)]
          by_cases ew : 0 = w
          · rw [if_pos (by omega), if_pos ew]
          · rw [if_neg (by omega), if_neg ew]; exact g3
        · show (if a + 13 = a + 15 then _ else _) = _
          simp only [if_neg (show ¬ a + 13 = a + 15 by omega), if_neg (show ¬ a + 13 = a + 14 by omega), if_neg (show ¬ a + 13 = a + 10 + w by omega), if_neg (show ¬ a + 13 = a + 9 by omega)]
          by_cases ew : 1 = w
          · rw [if_pos (by omega), if_pos ew]
          · rw [if_neg (by omega), if_neg ew]; exact g4
        · show (if a + 14 = a + 15 then _ else _) = _
          simp only [if_neg (show ¬ a + 14 = a + 15 by omega), if_true]
        · show (if a + 15 = a + 15 then _ else _) = _
          simp only [if_true]
        · show (if a + 16 = a + 15 then _ else _) = _
          simp only [if_neg (show ¬ a + 16 = a + 15 by omega), if_neg (show ¬ a + 16 = a + 14 by omega), if_neg (show ¬ a + 16 = a + 12 + w by omega), if_neg (show ¬ a + 16 = a + 10 + w by omega), if_neg (show ¬ a + 16 = a + 9 by omega)]
          exact c3
        · show (if a + 17 = a + 15 then _ else _) = _
          simp only [if_neg (show ¬ a + 17 = a + 15 by omega), if_neg (show ¬ a + 17 = a + 14 by omega), if_neg (show ¬ a + 17 = a + 12 + w by omega), if_neg (show ¬ a + 17 = a + 10 + w by omega), if_neg (show ¬ a + 17 = a + 9 by omega)]
          exact c4
      · rw [e3] at h2
        exact b_M_triesOn_103 (no (fun q => h2 q.2))
  · rw [e6, e1]
    rw [e5] at h
    refine b_M_triesOn_30 ?_
    refine b_M_triesOn_35 (by omega) (fun h => by omega) (fun _ => ?_)
    refine b_M_triesOn_42 ?_
    refine b_M_triesOn_66 (by omega) (fun _ => ?_) (fun h => by omega)
    refine b_M_triesOn_105 (c_M_copiesOn ha (fun g c1 c2 c3 c4 => ?_))
    have hg : frS g (a + 9) tk r l e w := ⟨by rw [c2 0 (by omega)]; exact f0, by rw [c2 1 (by omega)]; exact f1, by rw [c2 2 (by omega)]; exact f2, by rw [c2 3 (by omega)]; exact f3, by rw [c2 4 (by omega)]; exact f4, by rw [c2 5 (by omega)]; exact f5, by rw [c2 6 (by omega)]; exact f6⟩
    refine tr_tail (rm := 0) (e' := fun v => if v = w then true else e v) (tk := tk) (r := r) (l := l) (e := e) (ntk := (tk : Int)) (nrm := (r w : Int)) (nen := 0) (o4 := none) ha hw (Or.inr rfl) hg (by rw [if_neg (by omega)]; exact jb_or0 (by omega)) (Or.inr ⟨by omega, rfl⟩) (by rw [if_neg (by omega)]; exact eN_or e hw) ?_
    obtain ⟨g0, g1, g2, g3, g4, g5, g6⟩ := hg
    refine k2 (by omega) _ (fun i hi => ?_) ⟨?_, ?_, ?_, ?_, ?_, ?_, ?_⟩ ?_ ?_
    · simp only [if_neg (show ¬ i = a + 15 by omega), if_neg (show ¬ i = a + 14 by omega), if_neg (show ¬ i = a + 12 + w by omega), if_neg (show ¬ i = a + 10 + w by omega), if_neg (show ¬ i = a + 9 by omega)]
      exact c1 i hi
    · simp only [if_neg (show ¬ a + 9 = a + 15 by omega), if_neg (show ¬ a + 9 = a + 14 by omega), if_neg (show ¬ a + 9 = a + 12 + w by omega), if_neg (show ¬ a + 9 = a + 10 + w by omega), if_true]
    · show (if a + 10 = a + 15 then _ else _) = _
      simp only [if_neg (show ¬ a + 10 = a + 15 by omega), if_neg (show ¬ a + 10 = a + 14 by omega), if_neg (show ¬ a + 10 = a + 12 + w by omega), if_neg (show ¬ a + 10 = a + 9 by omega)]
      by_cases ew : 0 = w
      · rw [if_pos (by omega), ← ew]
      · rw [if_neg (by omega)]; exact g1
    · show (if a + 11 = a + 15 then _ else _) = _
      simp only [if_neg (show ¬ a + 11 = a + 15 by omega), if_neg (show ¬ a + 11 = a + 14 by omega), if_neg (show ¬ a + 11 = a + 12 + w by omega), if_neg (show ¬ a + 11 = a + 9 by omega)]
      by_cases ew : 1 = w
      · rw [if_pos (by omega), ← ew]
      · rw [if_neg (by omega)]; exact g2
    · show (if a + 12 = a + 15 then _ else _) = _
      simp only [if_neg (show ¬ a + 12 = a + 15 by omega), if_neg (show ¬ a + 12 = a + 14 by omega), if_neg (show ¬ a + 12 = a + 10 + w by omega), if_neg (show ¬ a + 12 = a + 9 by omega)]
      by_cases ew : 0 = w
      · rw [if_pos (by omega), ← ew]; omega
      · rw [if_neg (by omega)]; exact g3
    · show (if a + 13 = a + 15 then _ else _) = _
      simp only [if_neg (show ¬ a + 13 = a + 15 by omega), if_neg (show ¬ a + 13 = a + 14 by omega), if_neg (show ¬ a + 13 = a + 10 + w by omega), if_neg (show ¬ a + 13 = a + 9 by omega)]
      by_cases ew : 1 = w
      · rw [if_pos (by omega), ← ew]; omega
      · rw [if_neg (by omega)]; exact g4
    · show (if a + 14 = a + 15 then _ else _) = _
      simp only [if_neg (show ¬ a + 14 = a + 15 by omega), if_true]
    · show (if a + 15 = a + 15 then _ else _) = _
      simp only [if_true]
    · show (if a + 16 = a + 15 then _ else _) = _
      simp only [if_neg (show ¬ a + 16 = a + 15 by omega), if_neg (show ¬ a + 16 = a + 14 by omega), if_neg (show ¬ a + 16 = a + 12 + w by omega), if_neg (show ¬ a + 16 = a + 10 + w by omega), if_neg (show ¬ a + 16 = a + 9 by omega)]
      exact c3
    · show (if a + 17 = a + 15 then _ else _) = _
      simp only [if_neg (show ¬ a + 17 = a + 15 by omega), if_neg (show ¬ a + 17 = a + 14 by omega), if_neg (show ¬ a + 17 = a + 12 + w by omega), if_neg (show ¬ a + 17 = a + 10 + w by omega), if_neg (show ¬ a + 17 = a + 9 by omega)]
      exact c4
theorem c_M_comesBack {f : Nat → Int} {a k w : Nat} {v b : Int} (hn : I 167 5 = (nt : Int)) (hnt : nt ≤ 5) (ha : a + 9 ≤ 90) (hk : k ≤ nt) (hw : w < 2) (f6 : f (a + 6) = (w : Int)) (f7 : f (a + 7) = (k : Int) + 1) (f8 : f (a + 8) = b) (hb : b = -1000000 ∨ (-8 ≤ b ∧ b ≤ 8)) (hv : -8 ≤ v ∧ v ≤ 8) (kk : ∀ (gain b' : Int), gain = (if k = nt then v else v + sg_ w) → b' = (if b = -1000000 then gain else if w = 0 then max b gain else min b gain) → K none (st_ I 187 (fun j => if j = a + 8 then b' else f j))) : Cx (jx_0 L) d md_M_comesBack [.inr (.inl 167), .inl (a : Int), .inl v] (st_ I 187 f) K := by
  have e5 : st_ I 187 f 167 5 = (nt : Int) := by rw [st_a (by decide)]; exact hn
  have e7 : st_ I 187 f 187 ((a : Int) + 7).toNat = (k : Int) + 1 := by rw [st_s, show ((a : Int) + 7).toNat = a + 7 by omega]; exact f7
  have e6 : st_ I 187 f 187 ((a : Int) + 6).toNat = (w : Int) := by rw [st_s, show ((a : Int) + 6).toNat = a + 6 by omega]; exact f6
  have e8 : st_ I 187 f 187 ((a : Int) + 8).toNat = b := by rw [st_s, show ((a : Int) + 8).toNat = a + 8 by omega]; exact f8
  have i8 : ((a : Int) + 8).toNat = a + 8 := by omega
  have rest : ∀ gain : Int, gain = (if k = nt then v else v + sg_ w) → Gx (jx_0 L) d md_M_comesBack 49 [some (.inr (.inl 167)), some (.inl (a : Int)), some (.inl v), some (.inl ((k : Int) + 1 - 1)), some (.inl (w : Int)), none, none, none] [.inl gain] (st_ I 187 f) K := by
    intro gain hgain
    have hgr : -9 ≤ gain ∧ gain ≤ 9 := by
      have : sg_ w = 1 ∨ sg_ w = -1 := by unfold sg_; split <;> omega
      rw [hgain]; split <;> omega
    have yes : b = -1000000 ∨ (¬ b = -1000000 ∧ ((w = 0 ∧ b < gain) ∨ (w = 1 ∧ gain < b))) → Gx (jx_0 L) d md_M_comesBack 91 [some (.inr (.inl 167)), some (.inl (a : Int)), some (.inl v), some (.inl ((k : Int) + 1 - 1)), some (.inl (w : Int)), some (.inl gain), some (.inl b), none] [] (st_ I 187 f) K := by
      intro hy
      refine b_M_comesBack_91 ?_
      refine b_M_comesBack_96 (by omega) (fun h => by omega) (fun _ => ?_)
      refine b_M_comesBack_111 ?_
      refine b_M_comesBack_118 (by omega) ?_
      rw [st_up, i8]
      refine kk gain gain hgain ?_
      rcases hy with q | ⟨q, q2⟩
      · rw [if_pos q]
      · rw [if_neg q]
        rcases q2 with ⟨z1, z2⟩ | ⟨z1, z2⟩
        · rw [if_pos z1]; omega
        · rw [if_neg (by omega)]; omega
    have nope : ¬ b = -1000000 → ((w = 0 ∧ gain ≤ b) ∨ (w = 1 ∧ b ≤ gain)) → Gx (jx_0 L) d md_M_comesBack 95 [some (.inr (.inl 167)), some (.inl (a : Int)), some (.inl v), some (.inl ((k : Int) + 1 - 1)), some (.inl (w : Int)), some (.inl gain), some (.inl b), none] [] (st_ I 187 f) K := by
      intro q hy
      refine b_M_comesBack_95 ?_
      refine b_M_comesBack_96 (by omega) (fun _ => ?_) (fun h => by omega)
      refine b_M_comesBack_116 ?_
      refine b_M_comesBack_118 (by omega) ?_
      rw [st_up, i8]
      refine kk gain b hgain ?_
      rw [if_neg q]
      rcases hy with ⟨z1, z2⟩ | ⟨z1, z2⟩
      · rw [if_pos z1]; omega
      · rw [if_neg (by omega)]; omega
    refine b_M_comesBack_49 (by rw [e8]; omega) (fun h => ?_) (fun h => ?_)
    · rw [e8] at h ⊢
      exact yes (Or.inl h)
    · rw [e8] at h ⊢
      refine b_M_comesBack_69 (by omega) (fun h1 => ?_) (fun h1 => ?_)
      · refine b_M_comesBack_84 (by omega) (fun h2 => ?_) (fun h2 => ?_)
        · exact nope h (Or.inr ⟨by omega, h2⟩)
        · exact yes (Or.inr ⟨h, Or.inr ⟨by omega, by omega⟩⟩)
      · refine b_M_comesBack_74 (by omega) (fun h2 => ?_) (fun h2 => ?_)
        · exact nope h (Or.inl ⟨by omega, h2⟩)
        · refine b_M_comesBack_81 ?_
          exact yes (Or.inr ⟨h, Or.inl ⟨by omega, by omega⟩⟩)
  refine b_M_comesBack_0 (by rw [e7, e5]; omega) (fun h => ?_) (fun h => ?_)
  · rw [e7, e5] at h
    rw [e7, e6]
    refine b_M_comesBack_35 (by omega) (fun h1 => ?_) (fun h1 => ?_)
    · refine b_M_comesBack_46 ?_
      refine rest _ ?_
      unfold sg_
      rw [if_neg (by omega), if_neg (by omega)]
      omega
    · refine b_M_comesBack_40 ?_
      refine rest _ ?_
      unfold sg_
      rw [if_neg (by omega), if_pos (by omega)]
  · rw [e7, e5] at h
    rw [e7, e6]
    refine b_M_comesBack_31 ?_
    refine rest _ ?_
    rw [if_pos (by omega)]
end MTAKE
