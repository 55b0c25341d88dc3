/-! ===== presses: the model, the fewest ===== -/
theorem up_id {I : jm_I} {a k : Nat} : jm_up I a k (I a k) = I := by
  funext b j
  by_cases h : b = a ∧ j = k
  · rw [h.1, h.2, up_s]
  · simp [jm_up, h]
theorem up_up {I : jm_I} {a k : Nat} {v w : Int} : jm_up (jm_up I a k v) a k w = jm_up I a k w := by
  funext b j
  by_cases h : b = a ∧ j = k <;> simp [jm_up, h]
theorem mn_take {Q : Nat → Prop} {v : Int} {s : Nat} (hs : s < 32) (h : mnP Q v) (hl : v = -9 ∨ bcF (s : Int) < v) : mnP (fun z => Q z ∨ z = s) (bcF (s : Int)) := by
  refine Or.inr ⟨s, hs, Or.inr rfl, rfl, fun s' hs' q => ?_⟩
  rcases q with q | rfl
  · rcases h with ⟨-, a⟩ | ⟨s2, a1, a2, a3, a4⟩
    · exact absurd q (a s' hs')
    · have hb : 0 ≤ bcF (s2 : Int) ∧ bcF (s2 : Int) ≤ 5 := pbc_tab ⟨s2, a1⟩
      have := a4 s' hs' q
      omega
  · omega
theorem mn_leave {Q : Nat → Prop} {v : Int} {s : Nat} (h : mnP Q v) (h9 : ¬ v = -9) (hl : v ≤ bcF (s : Int)) : mnP (fun z => Q z ∨ z = s) v := by
  rcases h with ⟨a, -⟩ | ⟨s2, a1, a2, a3, a4⟩
  · exact absurd a h9
  · refine Or.inr ⟨s2, a1, Or.inl a2, a3, fun s' hs' q => ?_⟩
    rcases q with q | rfl
    · exact a4 s' hs' q
    · omega
theorem mn_r {Q : Nat → Prop} {v : Int} (h : mnP Q v) : -9 ≤ v ∧ v ≤ 5 := by
  rcases h with ⟨a, -⟩ | ⟨s2, a1, a2, a3, a4⟩
  · omega
  · have hb : 0 ≤ bcF (s2 : Int) ∧ bcF (s2 : Int) ≤ 5 := pbc_tab ⟨s2, a1⟩
    omega
section MFEW
variable {L d : Nat} {I J : jm_I} {K : Option jm_V → jm_I → Prop} {x0 x1 x2 x3 x4 t : Int}
theorem c_M_notes {U : Nat → Nat → Prop} {Q : Nat → Prop} (hm : mOk I) (hj : pmC I J) (ht : 0 ≤ t ∧ t < I 167 5) (hroom : 0 ≤ x2 ∧ x2 < 6) (hU : ∀ s h, U s h → vsP I t h) (hrow : rwP (J 183) U) (hQ : mnP Q (J 167 35)) (k : ∀ v, mnP (fun s => Q s ∨ ∃ h, h < 10 ∧ U s h ∧ roF I t h = x2) v → K none (jm_up J 167 35 v)) : Cx (jx_0 L) (d + 1) md_M_notes [.inr (.inl 167), .inl t, .inl x2] J K := by
  have hr := hm.1
  unfold mRng at hr
  refine b_M_notes_0 ?_
  rw [← up_id (I := J) (a := 167) (k := 35)]
  refine lp_up2 (σ := Int) (τ := Option jm_V) (Inv := fun x v _ => 0 ≤ x ∧ mnP (fun s => Q s ∨ ∃ h : Nat, h < 10 ∧ ((10 * s + h : Nat) : Int) < x ∧ U s h ∧ roF I t h = x2) v) (G := fun x v o4 => Gx (jx_0 L) (d + 1) md_M_notes 2 [some (.inr (.inl 167)), some (.inl t), some (.inl x2), some (.inl x), o4] [] (jm_up J 167 35 v) K) 320 ?_ ?_ 0 _ none (by omega) ⟨by omega, mn_c (fun s _ => ⟨fun w => by
      rcases w with w | ⟨h, _, w, _⟩
      · exact w
      · omega, fun w => Or.inl w⟩) hQ⟩
  · intro x v o4 hx hi ih
    obtain ⟨h0, hi⟩ := hi
    obtain ⟨q, rfl⟩ : ∃ q : Nat, x = q := ⟨x.toNat, by omega⟩
    have hvr := mn_r hi
    have hj2 := pm_35 (v := v) hj
    have e170 := hj2.1 170 (by decide) (by decide) (by decide)
    have e183 : jm_up J 167 35 v 183 q = J 183 q := up_a (by decide)
    have e35 : jm_up J 167 35 v 167 35 = v := up_s
    have hrq := hrow (q / 10) (q % 10) (by omega) (by omega)
    rw [show 10 * (q / 10) + q % 10 = q by omega] at hrq
    have em : (q : Int) % 10 = ((q % 10 : Nat) : Int) := by omega
    have ed : (q : Int) / 10 = ((q / 10 : Nat) : Int) := by omega
    have hbs : 0 ≤ bcF ((q / 10 : Nat) : Int) ∧ bcF ((q / 10 : Nat) : Int) ≤ 5 := pbc_tab ⟨q / 10, by omega⟩
    have fin : ∀ (w : Int) (o4 : Option jm_V), mnP (fun s => Q s ∨ ∃ h : Nat, h < 10 ∧ ((10 * s + h : Nat) : Int) < (q : Int) + 1 ∧ U s h ∧ roF I t h = x2) w → Gx (jx_0 L) (d + 1) md_M_notes 82 [some (.inr (.inl 167)), some (.inl t), some (.inl x2), some (.inl (q : Int)), o4] [.inl w, .inr (.inl 167)] (jm_up J 167 35 v) K := by
      intro w o4 hw
      refine b_M_notes_82 ?_
      rw [up_up]
      exact ih _ _ ⟨by omega, hw⟩
    have hno : ¬ (U (q / 10) (q % 10) ∧ roF I t ((q % 10 : Nat) : Int) = x2) → mnP (fun s => Q s ∨ ∃ h : Nat, h < 10 ∧ ((10 * s + h : Nat) : Int) < (q : Int) + 1 ∧ U s h ∧ roF I t h = x2) v := by
      intro hn
      refine mn_c (fun s _ => ?_) hi
      constructor
      · rintro (w | ⟨h, w1, w2, w3, w4⟩)
        · exact Or.inl w
        · by_cases e : 10 * s + h = q
          · have e1 : s = q / 10 := by omega
            have e2 : h = q % 10 := by omega
            rw [e1, e2] at w3
            rw [e2] at w4
            exact absurd ⟨w3, w4⟩ hn
          · exact Or.inr ⟨h, w1, by omega, w3, w4⟩
      · rintro (w | ⟨h, w1, w2, w3⟩)
        · exact Or.inl w
        · exact Or.inr ⟨h, w1, by omega, w3⟩
    have zero : ¬ (U (q / 10) (q % 10) ∧ roF I t ((q % 10 : Nat) : Int) = x2) → Gx (jx_0 L) (d + 1) md_M_notes 36 [some (.inr (.inl 167)), some (.inl t), some (.inl x2), some (.inl (q : Int)), o4] [] (jm_up J 167 35 v) K := by
      intro hn
      refine b_M_notes_36 ?_
      refine b_M_notes_37 (by omega) (fun _ => ?_) (fun h => by omega)
      refine b_M_notes_78 ?_
      rw [e35]
      exact fin v _ (hno hn)
    refine b_M_notes_2 (by omega) (fun h => by omega) (fun _ => ?_)
    refine b_M_notes_9 (by rw [Int.toNat_natCast, e183]; rcases hrq with ⟨w, -⟩ | ⟨w, -⟩ <;> omega) (fun h' => ?_) (fun h' => ?_)
    · rw [Int.toNat_natCast, e183] at h'
      refine zero (fun w => ?_)
      rcases hrq with ⟨u, -⟩ | ⟨-, u⟩
      · omega
      · exact u w.1
    · rw [Int.toNat_natCast, e183] at h'
      have hy : U (q / 10) (q % 10) := by
        rcases hrq with ⟨-, u⟩ | ⟨u, -⟩
        · exact u
        · omega
      have hvs := hU _ _ hy
      have hro := ro_vs hm ht hvs
      refine b_M_notes_19 (by omega) ?_
      rw [em]
      refine c_M_roomOf (by omega) (fun y hy2 => ?_)
      have hy' : y = roF I t ((q % 10 : Nat) : Int) := by
        unfold roF
        rw [e170] at hy2
        rcases hy2 with ⟨w1, w2⟩ | ⟨w1, w2⟩
        · rw [if_pos w1]; exact w2
        · rw [if_neg (by omega)]; exact w2
      refine b_M_notes_28 (by omega) (fun h'' => ?_) (fun h'' => ?_)
      · exact zero (fun w => h'' (by rw [hy']; exact w.2))
      · rw [hy'] at h''
        have conv : ∀ w, mnP (fun z => (Q z ∨ ∃ h : Nat, h < 10 ∧ ((10 * z + h : Nat) : Int) < (q : Int) ∧ U z h ∧ roF I t h = x2) ∨ z = q / 10) w → mnP (fun s => Q s ∨ ∃ h : Nat, h < 10 ∧ ((10 * s + h : Nat) : Int) < (q : Int) + 1 ∧ U s h ∧ roF I t h = x2) w := by
          intro w hw
          refine mn_c (fun s _ => ?_) hw
          constructor
          · rintro (w | ⟨h, w1, w2, w3, w4⟩)
            · exact Or.inl (Or.inl w)
            · by_cases e : 10 * s + h = q
              · exact Or.inr (by omega)
              · exact Or.inl (Or.inr ⟨h, w1, by omega, w3, w4⟩)
          · rintro ((w | ⟨h, w1, w2, w3⟩) | w)
            · exact Or.inl w
            · exact Or.inr ⟨h, w1, by omega, w3⟩
            · exact Or.inr ⟨q % 10, by omega, by omega, by rw [w]; exact hy, h''⟩
        refine b_M_notes_32 ?_
        refine b_M_notes_37 (by omega) (fun h => by omega) (fun _ => ?_)
        have take : (v = -9 ∨ bcF ((q / 10 : Nat) : Int) < v) → ∀ o4 : Option jm_V, Gx (jx_0 L) (d + 1) md_M_notes 68 [some (.inr (.inl 167)), some (.inl t), some (.inl x2), some (.inl (q : Int)), o4] [.inr (.inl 167)] (jm_up J 167 35 v) K := by
          intro hl o4
          refine b_M_notes_68 (by omega) ?_
          rw [ed]
          refine c_M_bits (by omega) ?_
          refine b_M_notes_75 ?_
          exact fin _ _ (conv _ (mn_take (by omega) hi hl))
        refine b_M_notes_45 (by rw [e35]; omega) (fun h9 => ?_) (fun h9 => ?_)
        · rw [e35] at h9
          exact take (Or.inl h9) _
        · rw [e35] at h9
          refine b_M_notes_54 (by omega) ?_
          rw [ed]
          refine c_M_bits (by omega) ?_
          refine b_M_notes_61 (by rw [e35]; omega) (fun hl => ?_) (fun hl => ?_)
          · rw [e35] at hl
            refine b_M_notes_78 ?_
            rw [e35]
            exact fin _ _ (conv _ (mn_leave hi h9 hl))
          · rw [e35] at hl
            exact take (Or.inr (by omega)) _
  · intro v o4 hi
    obtain ⟨-, hi⟩ := hi
    refine b_M_notes_2 (by omega) (fun _ => ?_) (fun h => by omega)
    refine b_M_notes_91 (k v (mn_c (fun s hs => ?_) hi))
    constructor
    · rintro (w | ⟨h, w1, w2⟩)
      · exact Or.inl w
      · exact Or.inr ⟨h, w1, by omega, w2⟩
    · rintro (w | ⟨h, w1, w2, w3⟩)
      · exact Or.inl w
      · exact Or.inr ⟨h, w1, w3⟩
/-- the row a second later -/
theorem few_later {U : Nat → Nat → Prop} {o1 o2 o3 o4 o5 : Option jm_V} (hm : mOk I) (hj : pmC I J) (ht : 0 ≤ t ∧ t < I 167 5) (hU : ∀ s h, U s h → vsP I t h) (hrow : rwP (J 183) U) (k : ∀ f g, rwP f (fun s h => ∃ h' : Nat, U s h' ∧ h = (laF I t h' 1).toNat) → ∀ o6, Gx (jx_0 L) (d + 1) md_M_fewest 177 [some (.inr (.inl 167)), some (.inl t), o1, o2, o3, o4, o6] [] (st_ (st_ J 184 g) 183 f) K) : Gx (jx_0 L) (d + 1) md_M_fewest 67 [some (.inr (.inl 167)), some (.inl t), o1, o2, o3, o4, o5] [] J K := by
  have hr := hm.1
  unfold mRng at hr
  have hto := th_of hm ht.1 ht.2
  have hl := hto.2.1
  refine b_M_fewest_67 ?_
  rw [← st_id (I := J) (a := 184)]
  refine lp_up (σ := Nat → Int) (Inv := fun x g => 0 ≤ x ∧ ∀ k : Nat, (k : Int) < x → g k = 0) (G := fun x g => Gx (jx_0 L) (d + 1) md_M_fewest 70 [some (.inr (.inl 167)), some (.inl t), o1, o2, o3, o4, some (.inl x)] [] (st_ J 184 g) K) 320 ?_ ?_ 0 _ (by omega) ⟨by omega, fun k hk => by omega⟩
  · intro x g hx hi ih
    obtain ⟨h0, hi⟩ := hi
    refine b_M_fewest_70 (by omega) (fun h => by omega) (fun _ => ?_)
    refine b_M_fewest_78 (by omega) ?_
    rw [st_up]
    refine ih _ ⟨by omega, fun k hk => ?_⟩
    by_cases e : k = x.toNat
    · rw [if_pos e]
    · rw [if_neg e]; exact hi k (by omega)
  · intro g hi
    obtain ⟨-, hi⟩ := hi
    refine b_M_fewest_70 (by omega) (fun _ => ?_) (fun h => by omega)
    refine b_M_fewest_92 ?_
    refine lp_up (σ := Nat → Int) (Inv := fun x g => 0 ≤ x ∧ rwP g (fun s h => ∃ h' : Nat, ((10 * s + h' : Nat) : Int) < x ∧ U s h' ∧ h = (laF I t h' 1).toNat)) (G := fun x g => Gx (jx_0 L) (d + 1) md_M_fewest 95 [some (.inr (.inl 167)), some (.inl t), o1, o2, o3, o4, some (.inl x)] [] (st_ J 184 g) K) 320 ?_ ?_ 0 g (by omega) ⟨by omega, fun s h a1 a2 => Or.inr ⟨hi _ (by omega), fun ⟨h', w, _⟩ => by omega⟩⟩
    · intro x g hx hi ih
      obtain ⟨h0, hi⟩ := hi
      obtain ⟨q, rfl⟩ : ∃ q : Nat, x = q := ⟨x.toNat, by omega⟩
      have e183 : st_ J 184 g 183 q = J 183 q := by rw [st_a (by decide)]
      have e169 : st_ J 184 g 169 = I 169 := by rw [st_a (by decide), hj.1 169 (by decide) (by decide) (by decide)]
      have hrq := hrow (q / 10) (q % 10) (by omega) (by omega)
      rw [show 10 * (q / 10) + q % 10 = q by omega] at hrq
      have em : (q : Int) % 10 = ((q % 10 : Nat) : Int) := by omega
      have ed : (q : Int) / 10 * 10 = ((10 * (q / 10) : Nat) : Int) := by omega
      refine b_M_fewest_95 (by omega) (fun h => by omega) (fun _ => ?_)
      refine b_M_fewest_103 (by rw [Int.toNat_natCast, e183]; rcases hrq with ⟨w, -⟩ | ⟨w, -⟩ <;> omega) (fun h' => ?_) (fun h' => ?_)
      · rw [Int.toNat_natCast, e183] at h'
        have hn : ¬ U (q / 10) (q % 10) := by
          rcases hrq with ⟨u, -⟩ | ⟨-, u⟩
          · omega
          · exact u
        refine b_M_fewest_140 ?_
        refine ih _ ⟨by omega, fun s h a1 a2 => ?_⟩
        rcases hi s h a1 a2 with ⟨w1, h2, w2, w3⟩ | ⟨w1, w2⟩
        · exact Or.inl ⟨w1, h2, by omega, w3⟩
        · refine Or.inr ⟨w1, fun ⟨h2, u1, u2, u3⟩ => ?_⟩
          by_cases e : 10 * s + h2 = q
          · have := vs_10 (by omega) (by omega) (hU s h2 u2)
            have e1 : s = q / 10 := by omega
            have e2 : h2 = q % 10 := by omega
            rw [e1, e2] at u2
            exact hn u2
          · exact w2 ⟨h2, by omega, u2, u3⟩
      · rw [Int.toNat_natCast, e183] at h'
        have hy : U (q / 10) (q % 10) := by
          rcases hrq with ⟨-, u⟩ | ⟨u, -⟩
          · exact u
          · omega
        have hvs := hU _ _ hy
        obtain ⟨v1, v2⟩ := la_vs (I := I) (t := t) hl hvs
        have v10 := vs_10 (by omega) (by omega) v1
        refine b_M_fewest_114 (by omega) ?_
        rw [em]
        refine c_M_later (by rw [e169]; exact ⟨hto.1, by omega, by omega, hl⟩) (fun w hw => ?_)
        have hwl : w = laF I t ((q % 10 : Nat) : Int) 1 := by
          unfold laF
          rw [e169] at hw
          rcases hw with ⟨w1, w2⟩ | ⟨w1, w2⟩
          · rw [if_pos w1]; exact w2
          · rw [if_neg (by omega)]; exact w2
        rw [hwl, ed]
        refine b_M_fewest_137 (by omega) ?_
        rw [st_up]
        refine b_M_fewest_140 ?_
        refine ih _ ⟨by omega, fun s h a1 a2 => ?_⟩
        by_cases ek : 10 * s + h = (((10 * (q / 10) : Nat) : Int) + laF I t ((q % 10 : Nat) : Int) 1).toNat
        · refine Or.inl ⟨if_pos ek, q % 10, by omega, ?_, by omega⟩
          rw [show s = q / 10 by omega]
          exact hy
        · simp only [if_neg ek]
          rcases hi s h a1 a2 with ⟨w1, h2, w2, w3⟩ | ⟨w1, w2⟩
          · exact Or.inl ⟨w1, h2, by omega, w3⟩
          · refine Or.inr ⟨w1, fun ⟨h2, u1, u2, u3⟩ => ?_⟩
            by_cases e : 10 * s + h2 = q
            · have := vs_10 (by omega) (by omega) (hU s h2 u2)
              have e2 : h2 = q % 10 := by omega
              rw [e2] at u3
              omega
            · exact w2 ⟨h2, by omega, u2, u3⟩
    · intro g hi
      obtain ⟨-, hi⟩ := hi
      refine b_M_fewest_95 (by omega) (fun _ => ?_) (fun h => by omega)
      refine b_M_fewest_146 ?_
      rw [← st_id (I := st_ J 184 g) (a := 183)]
      refine lp_up (σ := Nat → Int) (Inv := fun x f => 0 ≤ x ∧ ∀ k : Nat, (k : Int) < x → f k = g k) (G := fun x f => Gx (jx_0 L) (d + 1) md_M_fewest 149 [some (.inr (.inl 167)), some (.inl t), o1, o2, o3, o4, some (.inl x)] [] (st_ (st_ J 184 g) 183 f) K) 320 ?_ ?_ 0 _ (by omega) ⟨by omega, fun k hk => by omega⟩
      · intro x f hx hf ih
        obtain ⟨h0, hf⟩ := hf
        refine b_M_fewest_149 (by omega) (fun h => by omega) (fun _ => ?_)
        refine b_M_fewest_157 (by omega) ?_
        rw [st_up, st_a (show (184 : Nat) ≠ 183 by decide), st_s]
        refine ih _ ⟨by omega, fun k hk => ?_⟩
        by_cases e : k = x.toNat
        · rw [if_pos e, e]
        · rw [if_neg e]; exact hf k (by omega)
      · intro f hf
        obtain ⟨-, hf⟩ := hf
        refine b_M_fewest_149 (by omega) (fun _ => ?_) (fun h => by omega)
        refine k f g (fun s h a1 a2 => ?_) _
        rw [hf (10 * s + h) (by omega)]
        rcases hi s h a1 a2 with ⟨w1, h2, w2, w3⟩ | ⟨w1, w2⟩
        · exact Or.inl ⟨w1, h2, w3⟩
        · refine Or.inr ⟨w1, fun ⟨h2, u1, u2⟩ => w2 ⟨h2, ?_, u1, u2⟩⟩
          have := vs_10 (by omega) (by omega) (hU s h2 u1)
          omega
theorem c_M_fewest {N : Nat} {who : Nat → Prop} (hm : mOk I) (hj : pmC I J) (hg : farOk I) (ht : 0 ≤ t ∧ t < I 167 5) (hroom : 0 ≤ x2 ∧ x2 < 6) (hN : N ≤ 12) (hw : ∀ p : Nat, p < 5 → (jb_has x4 p ↔ who p)) (k : ∀ (A : jm_I) (v : Int), pmC I A → mnP (fun s => (∀ p, s.testBit p = true → who p) ∧ rcP I t x2 N s) v → K (some (.inl v)) A) : Cx (jx_0 L) (d + 4) md_M_fewest [.inr (.inl 167), .inl t, .inl x2, .inl (N : Int), .inl x4] J K := by
  have hr := hm.1
  unfold mRng at hr
  have hto := th_of hm ht.1 ht.2
  have hvs := fun (n : Nat) {s h : Nat} => px_vs (who := who) hm ht n (s := s) (h := h)
  obtain ⟨n1, n2, n3⟩ := nw_sp hm ht.1 ht.2
  have hn10 : 0 ≤ nwF I t ∧ nwF I t < 10 := by have := hto.2.1; unfold spOk at n1; omega
  refine b_M_fewest_0 ?_
  have hj1 := pm_35 (v := -9) hj
  have e35 : jm_up J 167 35 (-9) 167 35 = -9 := up_s
  generalize hJ1 : jm_up J 167 35 (-9) = J1 at *
  rw [← st_id (I := J1) (a := 183)]
  refine lp_up (σ := Nat → Int) (Inv := fun x f => 0 ≤ x ∧ ∀ k : Nat, (k : Int) < x → (f k = 1 ∧ (k : Int) = nwF I t) ∨ (f k = 0 ∧ ¬ (k : Int) = nwF I t)) (G := fun x f => Gx (jx_0 L) (d + 4) md_M_fewest 9 [some (.inr (.inl 167)), some (.inl t), some (.inl x2), some (.inl (N : Int)), some (.inl x4), some (.inl x), none] [] (st_ J1 183 f) K) 320 ?_ ?_ 0 _ (by omega) ⟨by omega, fun k hk => by omega⟩
  · intro x f hx hi ih
    obtain ⟨h0, hi⟩ := hi
    have e171 : st_ J1 183 f 171 = I 171 := by rw [st_a (by decide), hj1.1 171 (by decide) (by decide) (by decide)]
    have fin : ∀ z : Int, ((z = 1 ∧ x = nwF I t) ∨ (z = 0 ∧ ¬ x = nwF I t)) → Gx (jx_0 L) (d + 4) md_M_fewest 38 [some (.inr (.inl 167)), some (.inl t), some (.inl x2), some (.inl (N : Int)), some (.inl x4), some (.inl x), none] [.inl z, .inl x, .inr (.inl 183)] (st_ J1 183 f) K := by
      intro z hz
      refine b_M_fewest_38 (by omega) ?_
      rw [st_up]
      refine ih _ ⟨by omega, fun k hk => ?_⟩
      by_cases e : k = x.toNat
      · rw [if_pos e, show (k : Int) = x by omega]; exact hz
      · rw [if_neg e]; exact hi k (by omega)
    refine b_M_fewest_9 (by omega) (fun h => by omega) (fun _ => ?_)
    refine b_M_fewest_17 (c_M_isNow (by rw [e171]; have := hto.2.2.2; have := hto.2.1; have := hto.1; omega) (fun w hw2 => ?_))
    rw [e171] at hw2
    have hwn : w = nwF I t := by
      unfold nwF
      rcases hw2 with ⟨w1, w2⟩ | ⟨w1, w2⟩
      · rw [if_pos w1]; exact w2
      · rw [if_neg w1]; exact w2
    rw [hwn]
    refine b_M_fewest_30 (by omega) (fun h => ?_) (fun h => ?_)
    · exact b_M_fewest_37 (fin 0 (Or.inr ⟨rfl, h⟩))
    · exact b_M_fewest_33 (fin 1 (Or.inl ⟨rfl, h⟩))
  · intro f hi
    obtain ⟨-, hi⟩ := hi
    refine b_M_fewest_9 (by omega) (fun _ => ?_) (fun h => by omega)
    refine b_M_fewest_45 ?_
    refine lp_up2 (σ := jm_I) (τ := Option jm_V) (Inv := fun x A _ => 0 ≤ x ∧ pmC I A ∧ rwP (A 183) (pxV I t who x.toNat) ∧ mnP (fun s => ∃ m h : Nat, (m : Int) < x ∧ pxW I t who m s h ∧ roF I t h = x2) (A 167 35)) (G := fun x A o6 => Gx (jx_0 L) (d + 4) md_M_fewest 48 [some (.inr (.inl 167)), some (.inl t), some (.inl x2), some (.inl (N : Int)), some (.inl x4), some (.inl x), o6] [] A K) ((N : Int) + 1) ?_ ?_ 0 _ none (by omega) ⟨by omega, pm_183 hj1, fun s h a1 a2 => ?_, ?_⟩
    · intro x A o6 hx hA ih
      obtain ⟨h0, hA, hrow, hmn⟩ := hA
      obtain ⟨n, rfl⟩ : ∃ n : Nat, x = n := ⟨x.toNat, by omega⟩
      rw [Int.toNat_natCast] at hrow
      refine b_M_fewest_48 (by omega) (fun h => by omega) (fun _ => ?_)
      refine b_M_fewest_54 (c_M_pressesMore hm hA hg ht hw (fun s h q => (hvs n).1 q) hrow (fun f2 hf2 => ?_))
      rw [← pxW_eq] at hf2
      have hA2 := pm_183 (f := f2) hA
      have e183 : st_ A 183 f2 183 = f2 := by funext q; rw [st_s]
      refine b_M_fewest_61 (c_M_notes (U := pxW I t who n) hm hA2 ht hroom (fun s h q => ((hvs n).2 q).1) (by rw [e183]; exact hf2) (by rw [st_a (by decide)]; exact hmn) (fun v hv => ?_))
      have hA3 := pm_35 (v := v) hA2
      refine few_later (U := pxW I t who n) hm hA3 ht (fun s h q => ((hvs n).2 q).1) (by rw [jm_up_o (by decide), e183]; exact hf2) (fun f3 g3 hf3 o6' => ?_)
      refine b_M_fewest_177 ?_
      refine ih _ _ ⟨by omega, pm_183 (pm_184 hA3), ?_, ?_⟩
      · rw [show ((n : Int) + 1).toNat = n + 1 by omega]
        have : st_ (st_ (jm_up (st_ A 183 f2) 167 35 v) 184 g3) 183 f3 183 = f3 := by funext q; rw [st_s]
        rw [this]
        exact hf3
      · rw [st_a (show (167 : Nat) ≠ 183 by decide), st_a (show (167 : Nat) ≠ 184 by decide), up_s]
        refine mn_c (fun s _ => ?_) hv
        constructor
        · intro ⟨m, h, w1, w2, w3⟩
          by_cases em : m = n
          · subst em
            exact Or.inr ⟨h, vs_10 (by omega) (by have := hto.2.1; omega) ((hvs m).2 w2).1, w2, w3⟩
          · exact Or.inl ⟨m, h, by omega, w2, w3⟩
        · rintro (⟨m, h, w1, w2⟩ | ⟨h, w1, w2⟩)
          · exact ⟨m, h, by omega, w2⟩
          · exact ⟨n, h, by omega, w2⟩
    · intro A o6 hA
      obtain ⟨-, hA, -, hmn⟩ := hA
      refine b_M_fewest_48 (by omega) (fun _ => ?_) (fun h => by omega)
      refine b_M_fewest_183 (k A _ hA (mn_c (fun s _ => ?_) hmn))
      constructor
      · intro ⟨w, m, h, w1, w2, w3⟩
        exact ⟨m, h, by omega, (px_who hm ht m).2.2 ⟨w, w2⟩, w3⟩
      · intro ⟨m, h, w1, w2, w3⟩
        have := (px_who hm ht m).2.1 w2
        exact ⟨this.1, m, h, by omega, this.2, w3⟩
    · rw [st_s]
      show (_ ∧ (s = 0 ∧ h = (nwF I t).toNat)) ∨ (_ ∧ ¬ (s = 0 ∧ h = (nwF I t).toNat))
      rcases hi (10 * s + h) (by omega) with ⟨w1, w2⟩ | ⟨w1, w2⟩
      · exact Or.inl ⟨w1, by omega, by omega⟩
      · exact Or.inr ⟨w1, fun ⟨u1, u2⟩ => by omega⟩
    · rw [st_a (by decide), e35]
      exact Or.inl ⟨rfl, fun s _ ⟨m, h, w, _⟩ => by omega⟩
end MFEW
