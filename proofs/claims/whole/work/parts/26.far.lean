/-! ===== the model: how far ===== -/
def adj (n : Int) (a b s : Nat → Int) (shut : Int) (q r : Nat) : Prop := ∃ e : Nat, (e : Int) < n ∧ s e = 0 ∧ ¬ jb_has shut e ∧ ((a e = q ∧ b e = r) ∨ (a e = r ∧ b e = q))
def adjM (I : jm_I) (shut : Int) : Nat → Nat → Prop := adj (I 167 1) (fun e => I 168 (3 * e)) (fun e => I 168 (3 * e + 1)) (fun e => I 168 (3 * e + 2)) shut
theorem adj_sym {n : Int} {a b s : Nat → Int} {shut : Int} (q r : Nat) (h : adj n a b s shut q r) : adj n a b s shut r q := by
  obtain ⟨e, h1, h2, h3, h4⟩ := h
  exact ⟨e, h1, h2, h3, h4.symm⟩
theorem adj_next {x : Nat} {a b s : Nat → Int} {shut : Int} {q r : Nat} : adj ((x : Int) + 1) a b s shut q r ↔ (adj (x : Int) a b s shut q r ∨ (s x = 0 ∧ ¬ jb_has shut x ∧ ((a x = q ∧ b x = r) ∨ (a x = r ∧ b x = q)))) := by
  constructor
  · rintro ⟨e, h1, h2⟩
    by_cases he : e = x
    · subst he; exact Or.inr h2
    · exact Or.inl ⟨e, by omega, h2⟩
  · rintro (⟨e, h1, h2⟩ | h)
    · exact ⟨e, by omega, h2⟩
    · exact ⟨x, by omega, h⟩
/-- the doors are in order -/
def doOk (I : jm_I) : Prop := ∀ e : Nat, (e : Int) < I 167 1 → (0 ≤ I 168 (3 * e) ∧ I 168 (3 * e) < I 167 0) ∧ (0 ≤ I 168 (3 * e + 1) ∧ I 168 (3 * e + 1) < I 167 0) ∧ (I 168 (3 * e + 2) = 0 ∨ I 168 (3 * e + 2) = 1) ∧ I 168 (3 * e) ≠ I 168 (3 * e + 1)
theorem adjM_in {I : jm_I} {shut : Int} (h : doOk I) {q r : Nat} (ha : adjM I shut q r) : (q : Int) < I 167 0 ∧ (r : Int) < I 167 0 ∧ q ≠ r := by
  obtain ⟨e, h1, -, -, h4⟩ := ha
  obtain ⟨d1, d2, d3, d4⟩ := h e h1
  rcases h4 with ⟨p1, p2⟩ | ⟨p1, p2⟩ <;> simp only at p1 p2 <;> omega
section MFAR
variable {L d : Nat} {I : jm_I} {K : Option jm_V → jm_I → Prop} {x0 x1 x2 x3 : Int}
/-- the last loops -/
theorem l_M_findFar_133 (hz : (2 ≤ I 167 0 ∧ I 167 0 ≤ 6)) {A : Nat → Nat → Prop} (hA : ∀ q s, A q s → (q : Int) < I 167 0 ∧ (s : Int) < I 167 0) (k : ∀ g : Nat → Int, (∀ i j, i < 6 → j < 6 → isD A 10000 i j (g (6 * i + j))) → K none (st_ I 182 g)) {f0 : Nat → Int} (hf0 : fwI A f0 0) {o1 o3 o4 : Option jm_V} : Gx (jx_0 L) d md_M_findFar 133 [some (.inr (.inl 167)), o1, some (.inl 0), o3, o4] [] (st_ I 182 f0) K := by
  refine lp_up (σ := Nat → Int) (Inv := fun x f => 0 ≤ x ∧ fwI A f x.toNat) (G := fun x f => ∀ p3 p4 : Option jm_V, Gx (jx_0 L) d md_M_findFar 133 [some (.inr (.inl 167)), o1, some (.inl x), p3, p4] [] (st_ I 182 f) K) (I 167 0) ?_ ?_ 0 f0 (by omega) ⟨by omega, hf0⟩ o3 o4
  · intro x f hx hi ih p3 p4
    obtain ⟨h0, hf⟩ := hi
    obtain ⟨b, rfl⟩ : ∃ b : Nat, x = b := ⟨x.toNat, by omega⟩
    rw [Int.toNat_natCast] at hf
    have hb : b < 6 := by omega
    have e0 : ∀ g, st_ I 182 g 167 0 = I 167 0 := fun g => by rw [st_a (by decide)]
    refine b_M_findFar_133 (by rw [e0]; omega) (fun h => by rw [e0] at h; omega) (fun h => ?_)
    refine b_M_findFar_141 ?_
    have hin : ∀ (g : Nat → Int) (y : Int), (0 ≤ y ∧ ∀ k : Nat, k < 36 → g k = if (k : Int) < y then fwN f b k else f k) → ∀ q : Nat, q < 36 → g (6 * (q / 6) + b) = f (6 * (q / 6) + b) ∧ g (6 * b + q % 6) = f (6 * b + q % 6) := by
      intro g y hg q hq
      obtain ⟨r1, r2⟩ := fw_row hb hq hf
      constructor
      · rw [hg.2 _ (by omega)]; split
        · exact r1
        · rfl
      · rw [hg.2 _ (by omega)]; split
        · exact r2
        · rfl
    refine lp_up (σ := Nat → Int) (Inv := fun y g => 0 ≤ y ∧ ∀ k : Nat, k < 36 → g k = if (k : Int) < y then fwN f b k else f k) (G := fun y g => ∀ p5 : Option jm_V, Gx (jx_0 L) d md_M_findFar 143 [some (.inr (.inl 167)), o1, some (.inl (b : Int)), some (.inl y), p5] [] (st_ I 182 g) K) 36 ?_ ?_ 0 f (by omega) ⟨by omega, fun k hk => by rw [if_neg (by omega)]⟩ p4
    · intro y g hy hg ih2 p5
      obtain ⟨q, rfl⟩ : ∃ q : Nat, y = q := ⟨y.toNat, by omega⟩
      have hq : q < 36 := by omega
      obtain ⟨r1, r2⟩ := hin g q hg q hq
      have rq : g q = f q := by rw [hg.2 q hq, if_neg (by omega)]
      have c1 := hf.2.1 (q / 6) b (by omega) hb
      have c2 := hf.2.1 b (q % 6) hb (by omega)
      have c3 := hf.2.1 (q / 6) (q % 6) (by omega) (by omega)
      rw [show 6 * (q / 6) + q % 6 = q by omega] at c3
      have w1 : st_ I 182 g 182 (((q : Int) / 6 * 6) + (b : Int)).toNat = f (6 * (q / 6) + b) := by
        rw [st_s, ← r1]; congr 1; omega
      have w2 : st_ I 182 g 182 (6 * (b : Int) + (q : Int) % 6).toNat = f (6 * b + q % 6) := by
        rw [st_s, ← r2]; congr 1; try omega
      have w3 : st_ I 182 g 182 (q : Int).toNat = f q := by rw [st_s, Int.toNat_natCast, rq]
      have fin : ∀ v, v = fwN f b q → Gx (jx_0 L) d md_M_findFar 207 [some (.inr (.inl 167)), o1, some (.inl (b : Int)), some (.inl (q : Int)), some (.inl (f (6 * (q / 6) + b) + f (6 * b + q % 6)))] [.inl v, .inl (q : Int), .inr (.inl 182)] (st_ I 182 g) K := by
        intro v hv
        refine b_M_findFar_207 (by omega) ?_
        rw [st_up]
        refine ih2 _ ⟨by omega, fun k hk => ?_⟩ _
        simp only [Int.toNat_natCast]
        by_cases e : k = q
        · subst e; rw [if_pos rfl, if_pos (by omega), hv]
        · rw [if_neg e, hg.2 k hk]
          by_cases e2 : (k : Int) < q
          · rw [if_pos e2, if_pos (by omega)]
          · rw [if_neg e2, if_neg (by omega)]
      have hfw : fwN f b q = min (f q) (f (6 * (q / 6) + b) + f (6 * b + q % 6)) := rfl
      refine b_M_findFar_143 (by omega) (fun h => by omega) (fun h => ?_)
      refine b_M_findFar_149 (by rw [w1, w2, w3]; omega) (fun h => ?_) (fun h => ?_)
      · rw [w1, w2, w3] at h
        rw [w1, w2]
        refine b_M_findFar_201 (by omega) ?_
        rw [w3]
        exact fin _ (by omega)
      · rw [w1, w2, w3] at h
        rw [w1, w2]
        refine b_M_findFar_196 ?_
        exact fin _ (by omega)
    · intro g hg p5
      refine b_M_findFar_143 (by omega) (fun h => ?_) (fun h => by omega)
      refine b_M_findFar_214 ?_
      refine ih g ⟨by omega, ?_⟩ _ _
      rw [show ((b : Int) + 1).toNat = b + 1 by omega]
      have hs := fw_step hb hf
      have hge : ∀ k, k < 36 → g k = fwN f b k := fun k hk => by rw [hg.2 k hk, if_pos (by omega)]
      obtain ⟨s1, s2, s3, s4⟩ := hs
      refine ⟨fun i hi => by rw [hge _ (by omega)]; exact s1 i hi, fun i j hi hj => by rw [hge _ (by omega)]; exact s2 i j hi hj, fun i j hi hj => by rw [hge _ (by omega)]; exact s3 i j hi hj, fun n i j hi hj hw => by rw [hge _ (by omega)]; exact s4 n i j hi hj hw⟩
  · intro f hi p3 p4
    obtain ⟨h0, hf⟩ := hi
    have e0 : ∀ g, st_ I 182 g 167 0 = I 167 0 := fun g => by rw [st_a (by decide)]
    refine b_M_findFar_133 (by rw [e0]; omega) (fun h => ?_) (fun h => by rw [e0] at h; omega)
    refine b_M_findFar_220 ?_
    refine k f (fun i j hi hj => ?_)
    obtain ⟨f1, f2, f3, f4⟩ := hf
    refine isD_of (fun q s hq => by have := hA q s hq; omega) (by omega) hi ?_ (fun n hn => f4 n i j hi hj (wb_of (fun q s hq => by have := hA q s hq; omega) hn))
    rcases f3 i j hi hj with h | h
    · exact Or.inr h
    · exact Or.inl h
theorem c_M_findFar (hz : (2 ≤ I 167 0 ∧ I 167 0 ≤ 6) ∧ (0 ≤ I 167 1 ∧ I 167 1 ≤ 8)) (hd : doOk I) (k : ∀ g : Nat → Int, (∀ i j, i < 6 → j < 6 → isD (adjM I x1) 10000 i j (g (6 * i + j))) → K none (st_ I 182 g)) : Cx (jx_0 L) (d + 1) md_M_findFar [.inr (.inl 167), .inl x1] I K := by
  refine b_M_findFar_0 ?_
  refine lp_up (σ := Nat → Int) (Inv := fun x f => 0 ≤ x ∧ ∀ q : Nat, (q : Int) < x → f q = if q / 6 = q % 6 then 0 else 10000) (G := fun x f => Gx (jx_0 L) (d + 1) md_M_findFar 2 [some (.inr (.inl 167)), some (.inl x1), some (.inl x), none, none] [] (st_ I 182 f) K) 36 ?_ ?_ 0 (I 182) (by omega) ⟨by omega, fun q h => by omega⟩ |> fun h => by rw [st_id] at h; exact h
  · intro x f hx hf ih
    obtain ⟨q, rfl⟩ : ∃ q : Nat, x = q := ⟨x.toNat, by omega⟩
    have fin : ∀ v, v = (if q / 6 = q % 6 then (0 : Int) else 10000) → Gx (jx_0 L) (d + 1) md_M_findFar 31 [some (.inr (.inl 167)), some (.inl x1), some (.inl (q : Int)), none, none] [.inl v, .inl (q : Int), .inr (.inl 182)] (st_ I 182 f) K := by
      intro v hv
      refine b_M_findFar_31 (by omega) ?_
      rw [st_up]
      refine ih _ ⟨by omega, fun p hp => ?_⟩
      simp only [Int.toNat_natCast]
      by_cases e : p = q
      · subst e; rw [if_pos rfl, hv]
      · rw [if_neg e]; exact hf.2 p (by omega)
    refine b_M_findFar_2 (by omega) (fun h => by omega) (fun h => ?_)
    refine b_M_findFar_8 (by omega) (fun h => ?_) (fun h => ?_)
    · refine b_M_findFar_28 ?_
      exact fin _ (by rw [if_neg (by omega)])
    · refine b_M_findFar_24 ?_
      exact fin _ (by rw [if_pos (by omega)])
  · intro f hf
    refine b_M_findFar_2 (by omega) (fun h => ?_) (fun h => by omega)
    refine b_M_findFar_38 ?_
    have hf0 : ∀ i j, i < 6 → j < 6 → f (6 * i + j) = if i = j then 0 else 10000 := fun i j hi hj => by
      rw [hf.2 (6 * i + j) (by omega), show (6 * i + j) / 6 = i by omega, show (6 * i + j) % 6 = j by omega]
    refine lp_up (σ := Nat → Int) (Inv := fun x f => 0 ≤ x ∧ (∀ i, i < 6 → f (6 * i + i) = 0) ∧ ∀ i j, i < 6 → j < 6 → i ≠ j → (f (6 * i + j) = 1 ∧ adj x (fun e => I 168 (3 * e)) (fun e => I 168 (3 * e + 1)) (fun e => I 168 (3 * e + 2)) x1 i j) ∨ (f (6 * i + j) = 10000 ∧ ¬ adj x (fun e => I 168 (3 * e)) (fun e => I 168 (3 * e + 1)) (fun e => I 168 (3 * e + 2)) x1 i j)) (G := fun x f => Gx (jx_0 L) (d + 1) md_M_findFar 40 [some (.inr (.inl 167)), some (.inl x1), some (.inl x), none, none] [] (st_ I 182 f) K) (I 167 1) ?_ ?_ 0 f (by omega) ⟨by omega, fun i hi => by rw [hf0 i i hi hi, if_pos rfl], fun i j hi hj hij => Or.inr ⟨by rw [hf0 i j hi hj, if_neg hij], fun ⟨e, h1, _⟩ => by omega⟩⟩
    · intro x f hx hf ih
      obtain ⟨e, rfl⟩ : ∃ e : Nat, x = e := ⟨x.toNat, by omega⟩
      obtain ⟨h0, hdg, hof⟩ := hf
      obtain ⟨d1, d2, d3, d4⟩ := hd e hx
      have e1 : st_ I 182 f 167 1 = I 167 1 := by rw [st_a (by decide)]
      have e2 : ∀ q, st_ I 182 f 168 q = I 168 q := fun q => by rw [st_a (by decide)]
      have n0 : (3 * (e : Int)).toNat = 3 * e := by omega
      have n1 : (3 * (e : Int) + 1).toNat = 3 * e + 1 := by omega
      have n2 : (3 * (e : Int) + 2).toNat = 3 * e + 2 := by omega
      have same : (¬ (I 168 (3 * e + 2) = 0 ∧ ¬ jb_has x1 e)) → Gx (jx_0 L) (d + 1) md_M_findFar 125 [some (.inr (.inl 167)), some (.inl x1), some (.inl (e : Int)), none, none] [] (st_ I 182 f) K := by
        intro hno
        refine b_M_findFar_125 ?_
        refine ih f ⟨by omega, hdg, fun i j hi hj hij => ?_⟩
        have hiff : adj ((e : Int) + 1) (fun e => I 168 (3 * e)) (fun e => I 168 (3 * e + 1)) (fun e => I 168 (3 * e + 2)) x1 i j ↔ adj (e : Int) (fun e => I 168 (3 * e)) (fun e => I 168 (3 * e + 1)) (fun e => I 168 (3 * e + 2)) x1 i j := by
          rw [adj_next]
          exact ⟨fun h => h.elim id (fun h => absurd ⟨h.1, h.2.1⟩ hno), Or.inl⟩
        rw [hiff]
        exact hof i j hi hj hij
      refine b_M_findFar_40 (by rw [e1]; omega) (fun h => by rw [e1] at h; omega) (fun h => ?_)
      refine b_M_findFar_48 (by rw [e2, n2]; omega) (fun h => ?_) (fun h => ?_)
      · rw [e2, n2] at h
        exact same (fun q => h q.1)
      · rw [e2, n2] at h
        refine b_M_findFar_61 (c_M_has (fun v hv => ?_))
        refine b_M_findFar_66 (by omega) (fun h2 => ?_) (fun h2 => ?_)
        · exact same (fun q => by rcases hv with ⟨a, b⟩ | ⟨a, b⟩; exact q.2 b; omega)
        · have hnh : ¬ jb_has x1 e := by rcases hv with ⟨a, b⟩ | ⟨a, b⟩; omega; exact b
          refine b_M_findFar_69 (by rw [e2, e2, n0, n1]; omega) ?_
          rw [e2, e2, n0, n1]
          refine b_M_findFar_125 ?_
          rw [st_up, st_up]
          generalize ha : I 168 (3 * e) = a at *
          generalize hb : I 168 (3 * e + 1) = b at *
          refine ih _ ⟨by omega, fun i hi => ?_, fun i j hi hj hij => ?_⟩
          · rw [if_neg (by omega), if_neg (by omega)]
            exact hdg i hi
          · have hiff : adj ((e : Int) + 1) (fun e => I 168 (3 * e)) (fun e => I 168 (3 * e + 1)) (fun e => I 168 (3 * e + 2)) x1 i j ↔ (adj (e : Int) (fun e => I 168 (3 * e)) (fun e => I 168 (3 * e + 1)) (fun e => I 168 (3 * e + 2)) x1 i j ∨ ((a = i ∧ b = j) ∨ (a = j ∧ b = i))) := by
              rw [adj_next]
              simp only [ha, hb, h, hnh, not_false_eq_true, true_and]
            rw [hiff]
            by_cases q1 : a = i ∧ b = j
            · rw [if_neg (by omega), if_pos (by omega)]
              exact Or.inl ⟨rfl, Or.inr (Or.inl q1)⟩
            · by_cases q2 : a = j ∧ b = i
              · rw [if_pos (by omega)]
                exact Or.inl ⟨rfl, Or.inr (Or.inr q2)⟩
              · rw [if_neg (by omega), if_neg (by omega)]
                rcases hof i j hi hj hij with ⟨p1, p2⟩ | ⟨p1, p2⟩
                · exact Or.inl ⟨p1, Or.inl p2⟩
                · exact Or.inr ⟨p1, fun q => q.elim p2 (fun q => q.elim q1 q2)⟩
    · intro f hf
      obtain ⟨h0, hdg, hof⟩ := hf
      have e1 : st_ I 182 f 167 1 = I 167 1 := by rw [st_a (by decide)]
      refine b_M_findFar_40 (by rw [e1]; omega) (fun h => ?_) (fun h => by rw [e1] at h; omega)
      refine b_M_findFar_131 ?_
      refine l_M_findFar_133 hz.1 (A := adjM I x1) (fun q s h => ⟨(adjM_in hd h).1, (adjM_in hd h).2.1⟩) k ⟨hdg, fun i j hi hj => ?_, fun i j hi hj => ?_, fun n i j hi hj hw => ?_⟩
      · by_cases e : i = j
        · subst e; rw [hdg i hi]; omega
        · rcases hof i j hi hj e with ⟨p1, p2⟩ | ⟨p1, p2⟩ <;> rw [p1] <;> omega
      · by_cases e : i = j
        · subst e; rw [hdg i hi]; exact Or.inr ⟨0, rfl, rfl⟩
        · rcases hof i j hi hj e with ⟨p1, p2⟩ | ⟨p1, p2⟩
          · exact Or.inr ⟨1, p1, wk_one p2⟩
          · exact Or.inl p1
      · rcases wb_0 hw with ⟨rfl, rfl⟩ | ⟨rfl, ha⟩
        · rw [hdg i hi]; omega
        · rcases hof i j hi hj (adjM_in hd ha).2.2 with ⟨p1, p2⟩ | ⟨p1, p2⟩
          · rw [p1]; omega
          · exact absurd ha p2
end MFAR
