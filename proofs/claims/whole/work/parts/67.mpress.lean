/-! ===== presses: the model, one more who presses ===== -/
def pmC (I J : jm_I) : Prop := (∀ a, a ≠ 167 → a ≠ 183 → a ≠ 184 → J a = I a) ∧ ∀ k, k ≠ 35 → J 167 k = I 167 k
theorem pm_keep {I J : jm_I} (h : pmC I J) : mKeep I J := ⟨fun k hk => h.2 k (by omega), fun a a1 a2 => h.1 a (by omega) (by omega) (by omega)⟩
theorem pm_183 {I J : jm_I} {f : Nat → Int} (h : pmC I J) : pmC I (st_ J 183 f) := ⟨fun a a1 a2 a3 => by rw [st_a a2, h.1 a a1 a2 a3], fun k hk => by rw [st_a (by decide), h.2 k hk]⟩
theorem pm_184 {I J : jm_I} {f : Nat → Int} (h : pmC I J) : pmC I (st_ J 184 f) := ⟨fun a a1 a2 a3 => by rw [st_a a3, h.1 a a1 a2 a3], fun k hk => by rw [st_a (by decide), h.2 k hk]⟩
theorem pm_35 {I J : jm_I} {v : Int} (h : pmC I J) : pmC I (jm_up J 167 35 v) := ⟨fun a a1 a2 a3 => by rw [jm_up_o a1, h.1 a a1 a2 a3], fun k hk => by rw [up_k hk, h.2 k hk]⟩
def farOk (I : jm_I) : Prop := ∀ i j, i < 6 → j < 6 → isD (adjM I 0) 10000 i j (I 182 (6 * i + j))
theorem far_r {I : jm_I} (h : farOk I) {i j : Nat} (hi : i < 6) (hj : j < 6) : 0 ≤ I 182 (6 * i + j) ∧ I 182 (6 * i + j) ≤ 10000 := by
  rcases h i j hi hj with ⟨n, hn, hn6, -⟩ | ⟨hn, -⟩ <;> omega
theorem cy_m {I : jm_I} {t : Int} (hm : mOk I) (hg : farOk I) (ht : 0 ≤ t ∧ t < I 167 5) {h p r : Nat} (hp : (p : Int) < I 167 4) (hh : vsP I t h) (hr : (r : Int) < I 167 0) : I 182 (6 * (I 171 (1 + p)).toNat + (roF I t h).toNat) + I 182 (6 * (roF I t h).toNat + r) ≤ I 167 3 ↔ cyP I t h p r := by
  have hrg := hm.1
  unfold mRng at hrg
  have h1 := ro_vs hm ht hh
  have h2 := (hm.2.2.2.1.2.2.1 p hp).1
  exact isD_le (by decide) (by omega) (hg _ _ (by omega) (by omega)) (hg _ _ (by omega) (by omega))
/-- a row of ways -/
def rwP (f : Nat → Int) (U : Nat → Nat → Prop) : Prop := ∀ s h, s < 32 → h < 10 → (f (10 * s + h) = 1 ∧ U s h) ∨ (f (10 * s + h) = 0 ∧ ¬ U s h)
theorem pxS_vs {I : jm_I} {t : Int} {who : Nat → Prop} {V : Nat → Nat → Prop} (hm : mOk I) (ht : 0 ≤ t ∧ t < I 167 5) (hV : ∀ s h, V s h → vsP I t h ∧ s < 32) {s h : Nat} (hs : pxS I t who V s h) : vsP I t h ∧ s < 32 := by
  have hr := hm.1
  unfold mRng at hr
  have hl := (th_of hm ht.1 ht.2).2.1
  exact pxS_rec (P := fun s h => vsP I t h ∧ s < 32) hV (fun s h p r _ q hp => ⟨(pu_vs hl hp.2.2.2.1).1, (sx_0 q.2 (show p < 5 by have := hp.1; omega) hp.2.2.1).2.1⟩) hs
/-- the row while presses are gone through -/
def pgI (I : jm_I) (t : Int) (who : Nat → Prop) (V : Nat → Nat → Prop) (f : Nat → Int) (X Y Z : Nat) : Prop := (∀ k, k < 320 → f k = 0 ∨ f k = 1) ∧ (∀ s h, s < 32 → h < 10 → V s h → f (10 * s + h) = 1) ∧ (∀ s h, s < 32 → h < 10 → f (10 * s + h) = 1 → pxS I t who V s h) ∧ ∀ s h p r, s < 32 → h < 10 → (s < X ∨ (s = X ∧ (h < Y ∨ (h = Y ∧ p < Z)))) → f (10 * s + h) = 1 → pxP I t who s h p r → f (10 * (s ||| 2 ^ p) + (puF I t r).toNat) = 1
/-- what one person's carrying makes of the row -/
def coR (I : jm_I) (t : Int) (p h s : Nat) (f g : Nat → Int) : Prop := ∀ k, k < 320 → (g k = 1 ∧ ∃ r : Nat, (r : Int) < I 167 0 ∧ cyP I t h p r ∧ k = 10 * s + (puF I t r).toNat) ∨ (g k = f k ∧ ¬ ∃ r : Nat, (r : Int) < I 167 0 ∧ cyP I t h p r ∧ k = 10 * s + (puF I t r).toNat)
theorem pg_step {I : jm_I} {t : Int} {who : Nat → Prop} {V : Nat → Nat → Prop} {f g : Nat → Int} {s h p : Nat} (hm : mOk I) (ht : 0 ≤ t ∧ t < I 167 5) (hs : s < 32) (hh : h < 10) (hp : (p : Int) < I 167 4) (hw : who p) (hb : s.testBit p = false) (h1 : f (10 * s + h) = 1) (hi : pgI I t who V f s h p) (hg : coR I t p h (s ||| 2 ^ p) f g) : pgI I t who V g s h (p + 1) := by
  have hr := hm.1
  unfold mRng at hr
  have hl := (th_of hm ht.1 ht.2).2.1
  obtain ⟨i1, i2, i3, i4⟩ := hi
  obtain ⟨x1, x2, x3, x4⟩ := sx_0 hs (show p < 5 by omega) hb
  generalize hS : s ||| 2 ^ p = S at *
  have hpu : ∀ r : Nat, (r : Int) < I 167 0 → (puF I t r).toNat < 10 := fun r hr2 => vs_10 (by omega) (by omega) (pu_vs (I := I) (t := t) hl hr2).1
  have up1 : ∀ k, k < 320 → f k = 1 → g k = 1 := fun k hk hf => by
    rcases hg k hk with ⟨w, -⟩ | ⟨w, -⟩
    · exact w
    · rw [w]; exact hf
  refine ⟨fun k hk => ?_, fun s2 h2 a1 a2 a3 => up1 _ (by omega) (i2 s2 h2 a1 a2 a3), fun s2 h2 a1 a2 a3 => ?_, fun s2 h2 p2 r2 a1 a2 a3 a4 a5 => ?_⟩
  · rcases hg k hk with ⟨w, -⟩ | ⟨w, -⟩
    · exact Or.inr w
    · rw [w]; exact i1 k hk
  · rcases hg (10 * s2 + h2) (by omega) with ⟨w, r, w1, w2, w3⟩ | ⟨w, -⟩
    · have := hpu r w1
      have e1 : s2 = S := by omega
      have e2 : h2 = (puF I t r).toNat := by omega
      rw [e1, e2, ← hS]
      exact pxS_go (i3 s h hs hh h1) ⟨hp, hw, hb, w1, w2⟩
    · exact i3 s2 h2 a1 a2 (by rw [← w]; exact a3)
  · have hle : s2 ≤ s := by omega
    have h4 : f (10 * s2 + h2) = 1 := by
      rcases hg (10 * s2 + h2) (by omega) with ⟨w, r, w1, w2, w3⟩ | ⟨w, -⟩
      · have := hpu r w1
        omega
      · rw [← w]; exact a4
    have hp2 := hpu r2 a5.2.2.2.1
    have hS2 := sx_0 a1 (show p2 < 5 by have := a5.1; omega) a5.2.2.1
    by_cases hd : s2 < s ∨ (s2 = s ∧ (h2 < h ∨ (h2 = h ∧ p2 < p)))
    · exact up1 _ (by omega) (i4 s2 h2 p2 r2 a1 a2 hd h4 a5)
    · have e1 : s2 = s := by omega
      have e2 : h2 = h := by omega
      have e3 : p2 = p := by omega
      subst e1; subst e2; subst e3
      rw [hS]
      rcases hg (10 * S + (puF I t r2).toNat) (by omega) with ⟨w, -⟩ | ⟨-, w⟩
      · exact w
      · exact absurd ⟨r2, a5.2.2.2.1, a5.2.2.2.2, rfl⟩ w
section MPRESS
variable {L d : Nat} {I J : jm_I} {K : Option jm_V → jm_I → Prop} {x0 x1 x2 x3 x4 t : Int}
theorem c_M_carriesOn {p h s : Nat} (hm : mOk I) (hj : pmC I J) (hg : farOk I) (ht : 0 ≤ t ∧ t < I 167 5) (hp : (p : Int) < I 167 4) (hh : vsP I t h) (hs : s < 32) (k : ∀ f, coR I t p h s (J 183) f → K none (st_ J 183 f)) : Cx (jx_0 L) (d + 2) md_M_carriesOn [.inr (.inl 167), .inl t, .inl (p : Int), .inl (h : Int), .inl (s : Int)] J K := by
  have hr := hm.1
  unfold mRng at hr
  have hto := th_of hm ht.1 ht.2
  have hl := hto.2.1
  have hro := ro_vs hm ht hh
  have hrm := (hm.2.2.2.1.2.2.1 p hp).1
  have h10 := vs_10 (by omega) (by omega) hh
  refine b_M_carriesOn_0 ?_
  rw [← st_id (I := J) (a := 183)]
  refine lp_up (σ := Nat → Int) (Inv := fun x f => 0 ≤ x ∧ ∀ k, k < 320 → (f k = 1 ∧ ∃ r : Nat, (r : Int) < x ∧ cyP I t h p r ∧ k = 10 * s + (puF I t r).toNat) ∨ (f k = J 183 k ∧ ¬ ∃ r : Nat, (r : Int) < x ∧ cyP I t h p r ∧ k = 10 * s + (puF I t r).toNat)) (G := fun x f => Gx (jx_0 L) (d + 2) md_M_carriesOn 3 [some (.inr (.inl 167)), some (.inl t), some (.inl (p : Int)), some (.inl (h : Int)), some (.inl (s : Int)), some (.inl x)] [] (st_ J 183 f) K) (I 167 0) ?_ ?_ 0 _ (by omega) ⟨by omega, fun k hk => Or.inr ⟨rfl, fun ⟨r, w, _⟩ => by omega⟩⟩
  · intro x f hx hi ih
    obtain ⟨h0, hi⟩ := hi
    obtain ⟨r, rfl⟩ : ∃ r : Nat, x = r := ⟨x.toNat, by omega⟩
    have hj2 := pm_183 (f := f) hj
    generalize hJ2 : st_ J 183 f = J2 at *
    have e0 := hj2.2 0 (by decide)
    have e3 := hj2.2 3 (by decide)
    have e169 := hj2.1 169 (by decide) (by decide) (by decide)
    have e170 := hj2.1 170 (by decide) (by decide) (by decide)
    have e171 := hj2.1 171 (by decide) (by decide) (by decide)
    have e182 := hj2.1 182 (by decide) (by decide) (by decide)
    have hcy := cy_m hm hg ht hp hh hx
    have d1 := far_r hg (i := (I 171 (1 + p)).toNat) (j := (roF I t h).toNat) (by omega) (by omega)
    have d2 := far_r hg (i := (roF I t h).toNat) (j := r) (by omega) (by omega)
    have p1 : (1 + (p : Int)).toNat = 1 + p := by omega
    refine b_M_carriesOn_3 (by rw [e0]; omega) (fun h => by rw [e0] at h; omega) (fun _ => ?_)
    refine b_M_carriesOn_12 (by omega) ?_
    refine c_M_roomOf (by omega) (fun v hv => ?_)
    have hv' : v = roF I t h := by
      unfold roF
      rw [e170] at hv
      rcases hv with ⟨w1, w2⟩ | ⟨w1, w2⟩
      · rw [if_pos w1]; exact w2
      · rw [if_neg (by omega)]; exact w2
    rw [hv', e171, p1]
    refine b_M_carriesOn_27 (c_M_by (g := fun _ => 0) (by omega) ?_)
    rw [e182, Int.toNat_natCast]
    refine b_M_carriesOn_32 (by rw [e3]; omega) (fun h' => ?_) (fun h' => ?_)
    · rw [e3] at h'
      refine b_M_carriesOn_58 ?_
      rw [← hJ2]
      refine ih _ ⟨by omega, fun k hk => ?_⟩
      rcases hi k hk with ⟨w1, r', w2, w3⟩ | ⟨w1, w2⟩
      · exact Or.inl ⟨w1, r', by omega, w3⟩
      · refine Or.inr ⟨w1, fun ⟨r', u1, u2, u3⟩ => ?_⟩
        by_cases er : r' = r
        · subst er
          have := hcy.2 u2
          omega
        · exact w2 ⟨r', by omega, u2, u3⟩
    · rw [e3] at h'
      have hcr := hcy.1 (by omega)
      refine b_M_carriesOn_39 (c_M_putIn (by rw [e169]; exact ⟨hto.1, hl, by omega⟩) (by rw [e169, e170]; exact hto.2.2.1) ?_)
      rw [puF_k e169 e170]
      obtain ⟨v1, v2⟩ := pu_vs (I := I) (t := t) hl hx
      have v10 := vs_10 (by omega) (by omega) v1
      refine b_M_carriesOn_55 (by omega) ?_
      rw [← hJ2, st_up]
      refine b_M_carriesOn_58 ?_
      refine ih _ ⟨by omega, fun k hk => ?_⟩
      by_cases ek : k = (10 * (s : Int) + puF I t r).toNat
      · refine Or.inl ⟨if_pos ek, r, by omega, hcr, by omega⟩
      · rw [if_neg ek]
        rcases hi k hk with ⟨w1, r', w2, w3⟩ | ⟨w1, w2⟩
        · exact Or.inl ⟨w1, r', by omega, w3⟩
        · refine Or.inr ⟨w1, fun ⟨r', u1, u2, u3⟩ => ?_⟩
          by_cases er : r' = r
          · subst er
            omega
          · exact w2 ⟨r', by omega, u2, u3⟩
  · intro f hi
    obtain ⟨-, hi⟩ := hi
    have e0 := (pm_183 (f := f) hj).2 0 (by decide)
    refine b_M_carriesOn_3 (by rw [e0]; omega) (fun _ => ?_) (fun h => by rw [e0] at h; omega)
    exact b_M_carriesOn_64 (k f hi)
theorem c_M_pressesMore {who : Nat → Prop} {V : Nat → Nat → Prop} (hm : mOk I) (hj : pmC I J) (hg : farOk I) (ht : 0 ≤ t ∧ t < I 167 5) (hw : ∀ p : Nat, p < 5 → (jb_has x2 p ↔ who p)) (hV : ∀ s h, V s h → vsP I t h ∧ s < 32) (hrow : rwP (J 183) V) (k : ∀ f, rwP f (pxS I t who V) → K none (st_ J 183 f)) : Cx (jx_0 L) (d + 3) md_M_pressesMore [.inr (.inl 167), .inl t, .inl x2] J K := by
  have hr := hm.1
  unfold mRng at hr
  have hl := (th_of hm ht.1 ht.2).2.1
  refine b_M_pressesMore_0 ?_
  rw [← st_id (I := J) (a := 183)]
  refine lp_up3 (σ := Nat → Int) (τ := Option jm_V) (υ := Option jm_V) (Inv := fun x f _ _ => 0 ≤ x ∧ pgI I t who V f x.toNat 0 0) (G := fun x f o4 o5 => Gx (jx_0 L) (d + 3) md_M_pressesMore 2 [some (.inr (.inl 167)), some (.inl t), some (.inl x2), some (.inl x), o4, o5] [] (st_ J 183 f) K) 32 ?_ ?_ 0 _ none none (by omega) ⟨by omega, fun k hk => ?_, fun s h a1 a2 a3 => ?_, fun s h a1 a2 a3 => ?_, fun s h p r a1 a2 a3 => ?_⟩
  · intro x f o4 o5 hx hi ih
    obtain ⟨h0, hi⟩ := hi
    obtain ⟨s, rfl⟩ : ∃ s : Nat, x = s := ⟨x.toNat, by omega⟩
    rw [Int.toNat_natCast] at hi
    refine b_M_pressesMore_2 (by omega) (fun h => by omega) (fun _ => ?_)
    refine b_M_pressesMore_8 ?_
    refine lp_up2 (σ := Nat → Int) (τ := Option jm_V) (Inv := fun y f _ => 0 ≤ y ∧ pgI I t who V f s y.toNat 0) (G := fun y f o5 => Gx (jx_0 L) (d + 3) md_M_pressesMore 11 [some (.inr (.inl 167)), some (.inl t), some (.inl x2), some (.inl (s : Int)), some (.inl y), o5] [] (st_ J 183 f) K) 10 ?_ ?_ 0 f o5 (by omega) ⟨by omega, hi⟩
    · intro y f o5 hy hi ih2
      obtain ⟨y0, hi⟩ := hi
      obtain ⟨h, rfl⟩ : ∃ h : Nat, y = h := ⟨y.toNat, by omega⟩
      rw [Int.toNat_natCast] at hi
      refine b_M_pressesMore_11 (by omega) (fun h => by omega) (fun _ => ?_)
      refine b_M_pressesMore_18 ?_
      have nextH : ∀ (f : Nat → Int) (z : Nat) (o5 : Option jm_V), pgI I t who V f s h z → (I 167 4 ≤ (z : Int) ∨ ¬ f (10 * s + h) = 1) → Gx (jx_0 L) (d + 3) md_M_pressesMore 85 [some (.inr (.inl 167)), some (.inl t), some (.inl x2), some (.inl (s : Int)), some (.inl (h : Int)), o5] [] (st_ J 183 f) K := by
        intro f z o5 ⟨i1, i2, i3, i4⟩ hz
        refine b_M_pressesMore_85 ?_
        refine ih2 _ _ ⟨by omega, i1, i2, i3, fun s2 h2 p2 r2 a1 a2 a3 a4 a5 => ?_⟩
        by_cases hd : s2 < s ∨ (s2 = s ∧ (h2 < h ∨ (h2 = h ∧ p2 < z)))
        · exact i4 s2 h2 p2 r2 a1 a2 hd a4 a5
        · have e1 : s2 = s := by omega
          have e2 : h2 = h := by omega
          subst e1; subst e2
          have := a5.1
          rcases hz with w | w
          · omega
          · exact absurd a4 w
      refine lp_up (σ := Nat → Int) (Inv := fun z f => 0 ≤ z ∧ pgI I t who V f s h z.toNat) (G := fun z f => Gx (jx_0 L) (d + 3) md_M_pressesMore 21 [some (.inr (.inl 167)), some (.inl t), some (.inl x2), some (.inl (s : Int)), some (.inl (h : Int)), some (.inl z)] [] (st_ J 183 f) K) (I 167 4) ?_ ?_ 0 f (by omega) ⟨by omega, hi⟩
      · intro z f hz hi ih3
        obtain ⟨z0, hi⟩ := hi
        obtain ⟨p, rfl⟩ : ∃ p : Nat, z = p := ⟨z.toNat, by omega⟩
        rw [Int.toNat_natCast] at hi
        have hj2 := pm_183 (f := f) hj
        have e4 := hj2.2 4 (by decide)
        have en : (10 * (s : Int) + (h : Int)).toNat = 10 * s + h := by omega
        have hv := hi.1 (10 * s + h) (by omega)
        have e183 : st_ J 183 f 183 (10 * s + h) = f (10 * s + h) := st_s
        have skip : ¬ (who p ∧ s.testBit p = false) → Gx (jx_0 L) (d + 3) md_M_pressesMore 79 [some (.inr (.inl 167)), some (.inl t), some (.inl x2), some (.inl (s : Int)), some (.inl (h : Int)), some (.inl (p : Int))] [] (st_ J 183 f) K := by
          intro hno
          refine b_M_pressesMore_79 ?_
          refine ih3 _ ⟨by omega, hi.1, hi.2.1, hi.2.2.1, fun s2 h2 p2 r2 a1 a2 a3 a4 a5 => ?_⟩
          rw [show ((p : Int) + 1).toNat = p + 1 by omega] at a3
          by_cases hd : s2 < s ∨ (s2 = s ∧ (h2 < h ∨ (h2 = h ∧ p2 < p)))
          · exact hi.2.2.2 s2 h2 p2 r2 a1 a2 hd a4 a5
          · have e1 : s2 = s := by omega
            have e3 : p2 = p := by omega
            subst e1; subst e3
            exact absurd ⟨a5.2.1, a5.2.2.1⟩ hno
        refine b_M_pressesMore_21 (by rw [e4]; omega) (fun h => by rw [e4] at h; omega) (fun _ => ?_)
        refine b_M_pressesMore_30 (by rw [en, e183]; omega) (fun h' => ?_) (fun h' => ?_)
        · rw [en, e183] at h'
          exact nextH f p _ hi (Or.inr h')
        · rw [en, e183] at h'
          refine b_M_pressesMore_46 (c_M_has (fun v hv => ?_))
          refine b_M_pressesMore_52 (by rcases hv with ⟨q, -⟩ | ⟨q, -⟩ <;> omega) (fun g' => ?_) (fun g' => ?_)
          · refine skip (fun w => ?_)
            rcases hv with ⟨q, -⟩ | ⟨-, q⟩
            · omega
            · exact q ((hw p (by omega)).2 w.1)
          · have hwp : who p := by
              rcases hv with ⟨-, q⟩ | ⟨q, -⟩
              · exact (hw p (by omega)).1 q
              · exact absurd q g'
            have hbit := jn_bit (a := s) (h := p) (by omega) (by omega)
            refine b_M_pressesMore_55 (c_M_has (fun v2 hv2 => ?_))
            unfold jb_has at hv2
            refine b_M_pressesMore_61 (by rcases hv2 with ⟨q, -⟩ | ⟨q, -⟩ <;> omega) (fun g2 => ?_) (fun g2 => ?_)
            · refine skip (fun w => ?_)
              rcases hbit with ⟨-, q⟩ | ⟨q, -⟩
              · rw [w.2] at q; simp at q
              · omega
            · have hb : s.testBit p = false := by
                rcases hbit with ⟨q, -⟩ | ⟨-, q⟩
                · omega
                · exact q
              have hsh : jb_shl 1 (p : Int) = ((2 ^ p : Nat) : Int) := jb_shl1 ⟨p, by omega⟩
              have hp2 : 2 ^ p < 32 := Nat.pow_lt_pow_right (n := 5) (by decide) (by omega)
              have hor : jb_or (s : Int) (jb_shl 1 (p : Int)) = ((s ||| 2 ^ p : Nat) : Int) := by rw [hsh, jn_or (by omega) (by omega)]
              have hvs := (pxS_vs hm ht hV (hi.2.2.1 s h (by omega) (by omega) h')).1
              refine b_M_pressesMore_64 ?_
              rw [hor]
              refine c_M_carriesOn hm hj2 hg ht hz hvs (sx_0 (by omega) (by omega) hb).2.1 (fun f2 hf2 => ?_)
              rw [st_st]
              have e183' : st_ J 183 f 183 = f := by funext q; rw [st_s]
              rw [e183'] at hf2
              refine b_M_pressesMore_79 ?_
              refine ih3 _ ⟨by omega, ?_⟩
              rw [show ((p : Int) + 1).toNat = p + 1 by omega]
              exact pg_step hm ht (by omega) (by omega) hz hwp hb h' hi hf2
      · intro f hi
        obtain ⟨-, hi⟩ := hi
        have e4 := (pm_183 (f := f) hj).2 4 (by decide)
        refine b_M_pressesMore_21 (by rw [e4]; omega) (fun _ => ?_) (fun h => by rw [e4] at h; omega)
        exact nextH f _ _ hi (Or.inl (by omega))
    · intro f o5 hi
      obtain ⟨-, i1, i2, i3, i4⟩ := hi
      refine b_M_pressesMore_11 (by omega) (fun _ => ?_) (fun h => by omega)
      refine b_M_pressesMore_91 ?_
      refine ih _ _ _ ⟨by omega, i1, i2, i3, fun s2 h2 p2 r2 a1 a2 a3 a4 a5 => i4 s2 h2 p2 r2 a1 a2 ?_ a4 a5⟩
      have : (10 : Int).toNat = 10 := rfl
      omega
  · intro f o4 o5 hi
    obtain ⟨-, i1, i2, i3, i4⟩ := hi
    refine b_M_pressesMore_2 (by omega) (fun _ => ?_) (fun h => by omega)
    refine b_M_pressesMore_97 (k f (fun s h a1 a2 => ?_))
    have : (32 : Int).toNat = 32 := rfl
    rcases i1 (10 * s + h) (by omega) with w | w
    · refine Or.inr ⟨w, fun q => ?_⟩
      have key : f (10 * s + h) = 1 ∧ s < 32 ∧ h < 10 := by
        refine pxS_rec (P := fun s h => f (10 * s + h) = 1 ∧ s < 32 ∧ h < 10) (fun s h v => ?_) (fun s h p r _ u hp => ?_) q
        · obtain ⟨v1, v2⟩ := hV s h v
          have v3 := vs_10 (by omega) (by omega) v1
          exact ⟨i2 s h v2 v3 v, v2, v3⟩
        · exact ⟨i4 s h p r u.2.1 u.2.2 (by omega) u.1 hp, (sx_0 u.2.1 (show p < 5 by have := hp.1; omega) hp.2.2.1).2.1, vs_10 (by omega) (by omega) (pu_vs (I := I) (t := t) hl hp.2.2.2.1).1⟩
      omega
    · exact Or.inl ⟨w, i3 s h a1 a2 w⟩
  · have := hrow (k / 10) (k % 10) (by omega) (by omega)
    rw [show 10 * (k / 10) + k % 10 = k by omega] at this
    rcases this with ⟨w, -⟩ | ⟨w, -⟩
    · exact Or.inr w
    · exact Or.inl w
  · rcases hrow s h a1 a2 with ⟨w, -⟩ | ⟨-, w⟩
    · exact w
    · exact absurd a3 w
  · rcases hrow s h a1 a2 with ⟨-, w⟩ | ⟨w, -⟩
    · exact pxS_in w
    · omega
  · have : (0 : Int).toNat = 0 := rfl
    omega
end MPRESS
