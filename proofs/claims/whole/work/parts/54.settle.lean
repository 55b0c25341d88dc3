/-! ===== doneBy: a thing is settled, the class ===== -/
theorem st_of {I M : jm_I} {b : Nat} (h : ∀ a, a ≠ b → M a = I a) : M = st_ I b (M b) := by
  funext a k
  by_cases e : a = b
  · subst e; rw [st_s]
  · rw [st_a e, h a e]
theorem soP_k {I J : jm_I} (h1 : J 167 = I 167) (h2 : J 169 = I 169) (h3 : J 170 = I 170) (h4 : J 175 = I 175) (t how : Int) : soP J t how ↔ soP I t how := by
  unfold soP roF laF
  rw [h1, h2, h3, h4]
theorem fdP_k {I J : jm_I} (h1 : J 167 = I 167) (h4 : J 175 = I 175) (t : Int) : fdP J t ↔ fdP I t := by
  unfold fdP
  rw [h1, h4]
/-- what a thing's settling makes of the row of steps left -/
def slR (I : jm_I) (c : Nat) (t : Int) (T : Nat) (f g : Nat → Int) : Prop := ∃ b : Nat → Int, (∀ q, q < 6 → (soP I t (I 48 t.toNat) ∧ b q = f q) ∨ (¬ soP I t (I 48 t.toNat) ∧ b q = -1)) ∧ (∀ q : Nat, (q : Int) < I c 0 → (soP I t (puF I t q) ∧ g q = max (b q) (mlF (fun x y => I (c + 14 + x) y) f T q (I c 0).toNat)) ∨ (¬ soP I t (puF I t q) ∧ g q = b q)) ∧ ∀ q : Nat, I c 0 ≤ (q : Int) → q < 6 → g q = b q
theorem pu_sp {I : jm_I} {t r : Int} (hl : 1 ≤ I 169 t.toNat ∧ I 169 t.toNat ≤ 4) (hr : 0 ≤ r ∧ r < 6) : spOk I t (puF I t r) := by
  unfold spOk puF plF
  rcases fst_in (f := fun k : Nat => I 170 (4 * t + k).toNat) (room := r) (n := (I 169 t.toNat).toNat) with q | ⟨j, j1, j2, -, -⟩
  · rw [if_pos q]; omega
  · rw [if_neg (by rw [j2]; omega), j2]; omega
theorem mlF_congr {D D' : Nat → Nat → Int} {f f' : Nat → Int} {T r : Nat} (h2 : D T r = D' T r) : ∀ {n : Nat}, (∀ i, i < n → f i = f' i ∧ D i T = D' i T) → mlF D f T r n = mlF D' f' T r n
  | 0, _ => rfl
  | n + 1, h => by
    have h1 := h n (by omega)
    simp only [mlF]
    rw [mlF_congr h2 (n := n) (fun i hi => h i (by omega)), h1.1, h1.2, h2]
section SETTLE
variable {L d : Nat} {I : jm_I} {K : Option jm_V → jm_I → Prop} {x0 x1 x2 x3 x4 : Int} {c e : Nat}
theorem c_DoneSearch_settleThing {T : Nat} (hc : jx_City (jx_0 L) c) (hcl : 2 ≤ c ∧ c ≤ 22) (hn : 2 ≤ I c 0 ∧ I c 0 ≤ 6) (hd : diOk I c) (hf : ∀ i : Nat, i < 6 → -1 ≤ I 149 i ∧ I 149 i ≤ 20) (hF : FD I) (hr : mRng I) (ht : tcOk I c x4) (hs : spOk I x4 (I 48 x4.toNat)) (hT : roF I x4 (I 48 x4.toNat) = T) (hT2 : (T : Int) < I c 0) (k : ∀ g g', slR I c x4 T (I 149) g → K none (st_ (st_ I 150 g') 149 g)) : Cx (jx_0 L) (d + 4) md_DoneSearch_settleThing [.inr (.inl 148), .inr (.inl c), .inr (.inl 44), .inr (.inl 103), .inl x4] I K := by
  have ht0 := ht.1
  have oth : ∀ f a, a ≠ 150 → st_ I 150 f a = I a := fun f a ha => st_a ha
  have fd : ∀ f, FD (st_ I 150 f) := fun f => FD_k (base_of (fun k _ => by rw [oth f 167 (by decide)]) (oth f _ (by decide)) (oth f _ (by decide)) (oth f _ (by decide))) (by rw [oth f 167 (by decide)]) (oth f _ (by decide)) (fun a a1 a2 => oth f a (by omega)) hF
  have rg : ∀ f, mRng (st_ I 150 f) := fun f => by unfold mRng; rw [oth f 167 (by decide)]; exact hr
  have tc : ∀ f, tcOk (st_ I 150 f) c x4 := fun f => tcOk_k (oth f _ (by decide)) (oth f _ (by decide)) (fun a a1 a2 => oth f a (by omega)) ht
  have so : ∀ f how, soP (st_ I 150 f) x4 how ↔ soP I x4 how := fun f how => soP_k (oth f _ (by decide)) (oth f _ (by decide)) (oth f _ (by decide)) (oth f _ (by decide)) x4 how
  have dk : ∀ f, diOk (st_ I 150 f) c := fun f r s h1 h2 => by
    rw [oth f c (by omega)] at h1 h2
    rw [oth f (c + 14 + r) (by omega)]
    exact hd r s h1 h2
  have rest : ∀ b : Nat → Int, (∀ q, q < 6 → (soP I x4 (I 48 x4.toNat) ∧ b q = I 149 q) ∨ (¬ soP I x4 (I 48 x4.toNat) ∧ b q = -1)) → Gx (jx_0 L) (d + 4) md_DoneSearch_settleThing 40 [some (.inr (.inl 148)), some (.inr (.inl c)), some (.inr (.inl 44)), some (.inr (.inl 103)), some (.inl x4), none, none] [] (st_ I 150 b) K := by
    intro b hb
    have hbr : ∀ q, q < 6 → -1 ≤ b q ∧ b q ≤ 20 := fun q hq => by
      have := hf q hq
      rcases hb q hq with ⟨-, q2⟩ | ⟨-, q2⟩ <;> omega
    refine b_DoneSearch_settleThing_40 hc jx_m44 ht0 ?_
    have e48 : st_ I 150 b (44 + 4) x4.toNat = I 48 x4.toNat := by rw [oth b (44 + 4) (by decide)]
    rw [e48]
    refine c_City_roomOfSpot hc (tc b) (spOk_k (oth b _ (by decide)) hs) ?_
    rw [roF_k (oth b 170 (by decide)), hT]
    refine b_DoneSearch_settleThing_53 ?_
    refine lp_up (σ := Nat → Int) (Inv := fun x g => 0 ≤ x ∧ (∀ q : Nat, (q : Int) < x → (soP I x4 (puF I x4 q) ∧ g q = max (b q) (mlF (fun x y => I (c + 14 + x) y) (I 149) T q (I c 0).toNat)) ∨ (¬ soP I x4 (puF I x4 q) ∧ g q = b q)) ∧ ∀ q : Nat, x ≤ (q : Int) → g q = b q) (G := fun x g => Gx (jx_0 L) (d + 4) md_DoneSearch_settleThing 58 [some (.inr (.inl 148)), some (.inr (.inl c)), some (.inr (.inl 44)), some (.inr (.inl 103)), some (.inl x4), some (.inl (T : Int)), some (.inl x)] [] (st_ I 150 g) K) (I c 0) ?_ ?_ 0 b (by omega) ⟨by omega, fun q h => by omega, fun q _ => rfl⟩
    · intro x g hx hi ih
      obtain ⟨h0, i1, i2⟩ := hi
      obtain ⟨r, rfl⟩ : ∃ r : Nat, x = r := ⟨x.toNat, by omega⟩
      have ec := oth g c (by omega)
      have hpu : puF (st_ I 150 g) x4 r = puF I x4 r := puF_k (oth g _ (by decide)) (oth g _ (by decide)) x4 r
      have a2 := mlF_r (D := fun x y => I (c + 14 + x) y) (f := I 149) (T := T) (r := r) (n := (I c 0).toNat) (fun i hi => ⟨(hf i (by omega)).2, (hd i T (by omega) (by omega)).1, (hd T r (by omega) (by omega)).1⟩)
      have hbq := hbr r (by omega)
      refine b_DoneSearch_settleThing_58 hc (by rw [ec]; omega) (fun h => by rw [ec] at h; omega) (fun h => ?_)
      refine b_DoneSearch_settleThing_67 hc (c_City_spotOfRoom hc (tc g) (by omega) ?_)
      rw [hpu]
      refine b_DoneSearch_settleThing_79 hc (c_Finds_holdFrom (fd g) (rg g) hc (tc g) (spOk_k (oth g _ (by decide)) (pu_sp ht.2.2.1 (by omega))) (fun v hv => ?_))
      rw [so] at hv
      refine b_DoneSearch_settleThing_82 (by rcases hv with ⟨q, -⟩ | ⟨q, -⟩ <;> omega) (fun h' => ?_) (fun h' => ?_)
      · refine b_DoneSearch_settleThing_111 ?_
        refine ih _ ⟨by omega, fun q hq => ?_, fun q hq => i2 q (by omega)⟩
        by_cases eq : q = r
        · rw [eq]
          right
          refine ⟨?_, i2 r (by omega)⟩
          rcases hv with ⟨q1, -⟩ | ⟨-, q2⟩
          · omega
          · exact q2
        · exact i1 q (by omega)
      · refine b_DoneSearch_settleThing_85 hc (by omega) ?_
        refine c_DoneSearch_mostLeft hc (by rw [ec]; exact hn) (dk g) (by rw [ec]; exact hT2) (by rw [ec]; exact hx) (by rw [oth g 149 (by decide)]; exact hf) ?_
        have em : mlF (fun a b => st_ I 150 g (c + 14 + a) b) (st_ I 150 g 149) T r (st_ I 150 g c 0).toNat = mlF (fun a b => I (c + 14 + a) b) (I 149) T r (I c 0).toNat := by
          rw [ec, oth g 149 (by decide)]
          refine mlF_congr ?_ (fun i hi => ⟨rfl, ?_⟩)
          · show st_ I 150 g (c + 14 + T) r = _
            rw [oth g (c + 14 + T) (by omega)]
          · show st_ I 150 g (c + 14 + i) T = _
            rw [oth g (c + 14 + i) (by omega)]
        rw [em, st_s, Int.toNat_natCast, i2 r (by omega)]
        refine b_DoneSearch_settleThing_107 (by omega) ?_
        rw [st_up]
        refine b_DoneSearch_settleThing_111 ?_
        refine ih _ ⟨by omega, fun q hq => ?_, fun q hq => ?_⟩
        · by_cases eq : q = r
          · rw [if_pos (by omega), eq]
            left
            refine ⟨?_, rfl⟩
            rcases hv with ⟨-, q2⟩ | ⟨q1, -⟩
            · exact q2
            · exact absurd q1 h'
          · rw [if_neg (by omega)]
            exact i1 q (by omega)
        · rw [if_neg (by omega)]
          exact i2 q (by omega)
    · intro g hi
      obtain ⟨-, i1, i2⟩ := hi
      have ec := oth g c (by omega)
      refine b_DoneSearch_settleThing_58 hc (by rw [ec]; omega) (fun h => ?_) (fun h => by rw [ec] at h; omega)
      refine b_DoneSearch_settleThing_117 ?_
      rw [st_of (I := st_ I 150 g) (M := jm_cpy (st_ I 150 g) 150 149 0 0 6) (b := 149) (fun a ha => cpy_o ha)]
      have eg : ∀ q, q < 6 → jm_cpy (st_ I 150 g) 150 149 0 0 6 149 q = g q := fun q hq => by rw [cpy_s hq, st_s]
      refine k _ g ⟨b, hb, fun q hq => ?_, fun q h1 h2 => ?_⟩
      · rw [eg q (by omega)]; exact i1 q hq
      · rw [eg q h2]; exact i2 q h1
  refine b_DoneSearch_settleThing_0 hc jx_m44 (c_Arrays_fill (n := 6) rfl (by decide) (fun g hg => ?_))
  refine b_DoneSearch_settleThing_8 hc jx_m44 ht0 ?_
  have e48 : st_ I 150 g (44 + 4) x4.toNat = I 48 x4.toNat := by rw [oth g (44 + 4) (by decide)]
  rw [e48]
  refine c_Finds_holdFrom (fd g) (rg g) hc (tc g) (spOk_k (oth g _ (by decide)) hs) (fun v hv => ?_)
  rw [so] at hv
  refine b_DoneSearch_settleThing_22 (by rcases hv with ⟨q, -⟩ | ⟨q, -⟩ <;> omega) (fun h => ?_) (fun h => ?_)
  · refine rest g (fun q hq => Or.inr ⟨?_, hg q hq⟩)
    rcases hv with ⟨q1, -⟩ | ⟨-, q2⟩
    · omega
    · exact q2
  · refine b_DoneSearch_settleThing_25 ?_
    rw [st_of (I := I) (M := jm_cpy (st_ I 150 g) 149 150 0 0 6) (b := 150) (fun a ha => by rw [cpy_o ha, st_a ha])]
    refine rest _ (fun q hq => Or.inl ⟨?_, ?_⟩)
    · rcases hv with ⟨-, q2⟩ | ⟨q1, -⟩
      · exact q2
      · exact absurd q1 h
    · rw [cpy_s hq, st_a (by decide)]
end SETTLE
