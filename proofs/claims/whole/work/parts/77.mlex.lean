/-! ===== the text's tokens, the model ===== -/
/-- the model's word for a token -/
def mtP (J : jm_I) (k v : Int) : Prop := (k = 0 ∧ J 167 20 = 0) ∨ (k = 1 ∧ J 167 20 = 2 ∧ J 167 21 = v) ∨ (k = 2 ∧ J 167 20 = 4) ∨ (k = 59 ∧ J 167 20 = 3) ∨ ((k = 114 ∨ k = 115 ∨ k = 100 ∨ k = 112 ∨ k = 116) ∧ J 167 20 = 1 ∧ J 167 21 = k)
def mlT (J : jm_I) (f : Nat → Int) (n : Nat) : Prop := J 167 17 = (n : Int) ∧ n ≤ 200 ∧ ∀ k : Nat, k < 200 → J 176 k = f k ∧ 0 ≤ f k ∧ f k ≤ 255
section MLEX
variable {L d : Nat} {I J : jm_I} {K : Option jm_V → jm_I → Prop} {x0 x1 x2 x3 x4 : Int} {f : Nat → Int} {n q : Nat}
theorem c_M_letter {x : Nat} (hT : mlT J f n) (hx : x ≤ n) (k : ∀ v, (x < n ∧ v = f x ∧ 0 ≤ v ∧ v ≤ 255) ∨ (x = n ∧ v = -1) → K (some (.inl v)) J) : Cx (jx_0 L) d md_M_letterAt [.inr (.inl 167), .inl (x : Int)] J K := by
  obtain ⟨t1, tn, tt⟩ := hT
  refine c_M_letterAt (by rw [t1]; omega) (fun v hv => ?_)
  rw [t1, Int.toNat_natCast] at hv
  refine k v ?_
  rcases hv with ⟨z1, z2⟩ | ⟨z1, z2⟩
  · have := tt x (by omega)
    left
    rw [this.1] at z2
    exact ⟨by omega, z2, by omega, by omega⟩
  · right; exact ⟨by omega, z2⟩
theorem c_M_next (hT : mlT J f n) (h3 : J 167 18 = (q : Int)) (hq : q ≤ n) (k : ∀ J' : jm_I, (∀ a, a ≠ 167 → J' a = J a) → (∀ j, j ≠ 18 → j ≠ 19 → j ≠ 20 → j ≠ 21 → J' 167 j = J 167 j) → J' 167 18 = (tkE f n q : Int) → J' 167 19 = (tkS f n q : Int) → mtP J' (tkK f n q) (tkV f n q) → ((tkK f n q = 0 ∧ J' 167 21 = J 167 21) ∨ (-1000 ≤ J' 167 21 ∧ J' 167 21 ≤ 1000)) → K none J') : Cx (jx_0 L) (d + 1) md_M_next [.inr (.inl 167)] J K := by
  obtain ⟨s1, s2, s3, s4⟩ := sk_s (f := f) (n := n) (n - q) q rfl
  obtain ⟨d1, d2, d3, d4⟩ := dg_s (f := f) (n := n) (n - skF f n q) (skF f n q) rfl
  have hs := s4 hq
  have hd := d4 hs
  have tn := hT.2.1
  have hk : ∀ J' : jm_I, (∀ a, a ≠ 167 → J' a = J a) → (∀ j, j ≠ 18 → j ≠ 19 → j ≠ 20 → j ≠ 21 → J' 167 j = J 167 j) → J' 167 18 = (tkE f n q : Int) → J' 167 19 = (tkS f n q : Int) → mtP J' (tkK f n q) (tkV f n q) → ((tkK f n q = 0 ∧ J' 167 21 = J 167 21) ∨ (-1000 ≤ J' 167 21 ∧ J' 167 21 ≤ 1000)) → K none J' := k
  unfold tkE tkK tkV tkS tkD at hk
  generalize hse : skF f n q = s at *
  generalize hde : dgF f n s = e at *
  have mv : ∀ J1 : jm_I, (∀ a, a ≠ 167 → J1 a = J a) → (∀ j, j ≠ 18 → j ≠ 19 → j ≠ 20 → j ≠ 21 → J1 167 j = J 167 j) → mlT J1 f n := fun J1 o oj => by
    refine ⟨?_, hT.2.1, fun k hk => ?_⟩
    · rw [oj 17 (by decide) (by decide) (by decide) (by decide)]; exact hT.1
    · rw [o 176 (by decide)]; exact hT.2.2 k hk
  refine (show Gx (jx_0 L) (d + 1) md_M_next 0 [some (.inr (.inl 167)), none] [] J K from ?_)
  refine lp_up (σ := jm_I) (Inv := fun x J1 => (q : Int) ≤ x ∧ (∀ a, a ≠ 167 → J1 a = J a) ∧ (∀ j, j ≠ 18 → J1 167 j = J 167 j) ∧ J1 167 18 = x) (G := fun x J1 => Gx (jx_0 L) (d + 1) md_M_next 0 [some (.inr (.inl 167)), none] [] J1 K) (s : Int) ?_ ?_ (q : Int) J (by omega) ⟨by omega, fun a _ => rfl, fun j _ => rfl, h3⟩
  · intro x J1 hx hi ih
    obtain ⟨h0, o, oj, e3⟩ := hi
    obtain ⟨x, rfl⟩ : ∃ z : Nat, x = z := ⟨x.toNat, by omega⟩
    obtain ⟨z1, z2⟩ := s2 x (by omega) (by omega)
    refine b_M_next_0 ?_
    rw [e3]
    refine c_M_letter (mv J1 o (fun j j1 _ _ _ => oj j j1)) (by omega) (fun v hv => ?_)
    refine b_M_next_8 (by omega) (fun h => by omega) (fun _ => ?_)
    refine b_M_next_13 ?_
    refine ih _ ⟨by omega, fun a ha => by rw [jm_up_o ha, o a ha], fun j hj => by rw [up_k hj, oj j hj], by rw [up_s, e3]⟩
  · intro J1 hi
    obtain ⟨h0, o, oj, e3⟩ := hi
    refine b_M_next_0 ?_
    rw [e3]
    refine c_M_letter (mv J1 o (fun j j1 _ _ _ => oj j j1)) (by omega) (fun v hv => ?_)
    refine b_M_next_8 (by omega) (fun _ => ?_) (fun h => ?_)
    · refine b_M_next_26 ?_
      rw [e3]
      refine c_M_letter (mv _ (fun a ha => by rw [jm_up_o ha, o a ha]) (fun j j1 j2 _ _ => by rw [up_k j2, oj j j1])) (by omega) (fun v hv => ?_)
      refine b_M_next_42 (by omega) (fun h0 => ?_) (fun h0 => ?_)
      · -- a letter
        have hsn : s < n := by omega
        have hvs : v = f s ∧ 0 ≤ v ∧ v ≤ 255 := by omega
        -- behind the first letter
        have after : ∀ (t : Int) (J2 : jm_I), (∀ a, a ≠ 167 → J2 a = J a) → (∀ j, j ≠ 18 → j ≠ 19 → j ≠ 20 → j ≠ 21 → J2 167 j = J 167 j) → J2 167 18 = (s : Int) + 1 → J2 167 19 = (s : Int) → J2 167 21 = v → ((t = 1 ∧ (v = 114 ∨ v = 115 ∨ v = 100 ∨ v = 112 ∨ v = 116)) ∨ (t = 3 ∧ v = 59) ∨ (t = 4 ∧ ¬ knP v)) → Gx (jx_0 L) (d + 1) md_M_next 114 [some (.inr (.inl 167)), some (.inl v)] [.inl t, .inr (.inl 167)] J2 K := by
          intro t J2 o oj e18 e19 e21 ht
          refine b_M_next_114 (c_M_in (by omega) (fun w hw => ?_))
          refine b_M_next_125 (by omega) (fun hw0 => ?_) (fun hw0 => ?_)
          · have hnd : ¬ (48 ≤ f s ∧ f s ≤ 57) := by omega
            have hee : e = s := by
              by_cases q : s < e
              · exact absurd (d2 s (by omega) q).2 hnd
              · omega
            have hes : ¬ s < e := by omega
            refine b_M_next_251 (hk _ (fun a ha => by rw [jm_up_o ha, o a ha]) (fun j j1 j2 j3 j4 => by rw [up_k j3, oj j j1 j2 j3 j4]) ?_ ?_ ?_ (Or.inr (by rw [up_k (by decide), e21]; omega)))
            · rw [up_k (by decide), e18, if_neg hes, if_pos hsn]; omega
            · rw [up_k (by decide)]; exact e19
            · rw [if_neg hes, if_pos hsn]
              unfold mtP
              rw [up_s, up_k (by decide), e21]
              rcases ht with ⟨z1, z2⟩ | ⟨z1, z2⟩ | ⟨z1, z2⟩
              · have hkn : knB (f s) = true := by unfold knB; simp only [decide_eq_true_eq]; omega
                rw [if_pos hkn]
                right; right; right; right
                omega
              · have hkn : knB (f s) = true := by unfold knB; simp only [decide_eq_true_eq]; omega
                rw [if_pos hkn]
                right; right; right; left
                omega
              · have hkn : ¬ knB (f s) = true := by
                  unfold knB; simp only [decide_eq_true_eq]
                  rw [← hvs.1]; exact z2
                rw [if_neg hkn]
                right; right; left
                omega
          · have hdg : 48 ≤ f s ∧ f s ≤ 57 := by omega
            have hes : s < e := by
              by_cases q : s < e
              · exact q
              · have : e = s := by omega
                rw [this] at d3
                exact absurd ⟨hsn, hdg⟩ d3
            refine b_M_next_128 ?_
            refine lp_up (σ := jm_I) (Inv := fun x J3 => (s : Int) + 1 ≤ x ∧ (∀ a, a ≠ 167 → J3 a = J a) ∧ (∀ j, j ≠ 18 → j ≠ 19 → j ≠ 20 → j ≠ 21 → J3 167 j = J 167 j) ∧ J3 167 18 = x ∧ J3 167 19 = (s : Int) ∧ (x ≤ (s : Int) + 2 → J3 167 21 = vaF f s (x.toNat - s)) ∧ (0 ≤ J3 167 21 ∧ J3 167 21 ≤ 999)) (G := fun x J3 => Gx (jx_0 L) (d + 1) md_M_next 136 [some (.inr (.inl 167)), some (.inl v)] [] J3 K) (e : Int) ?_ ?_ ((s : Int) + 1) _ (by omega) ⟨by omega, fun a ha => by rw [jm_up_o ha, jm_up_o ha, o a ha], fun j j1 j2 j3 j4 => by rw [up_k j4, up_k j3, oj j j1 j2 j3 j4], by rw [up_k (by decide), up_k (by decide)]; exact e18, by rw [up_k (by decide), up_k (by decide)]; exact e19, fun _ => ?_, by rw [up_s]; omega⟩
            · intro x J3 hx hi ih
              obtain ⟨h0, o, oj, e18, e19, e21, er⟩ := hi
              obtain ⟨x, rfl⟩ : ∃ z : Nat, x = z := ⟨x.toNat, by omega⟩
              rw [Int.toNat_natCast] at e21
              have hdx := d2 x (by omega) (by omega)
              have hT3 := mv J3 o oj
              have fin : ∀ z : Int, ((x : Int) + 1 ≤ (s : Int) + 2 → z = vaF f s (x + 1 - s)) → (0 ≤ z ∧ z ≤ 999) → Gx (jx_0 L) (d + 1) md_M_next 194 [some (.inr (.inl 167)), some (.inl v)] [.inl z, .inr (.inl 167)] J3 K := by
                intro z hz hzr
                refine b_M_next_194 ?_
                refine ih _ ⟨by omega, fun a ha => by rw [jm_up_o ha, jm_up_o ha, o a ha], fun j j1 j2 j3 j4 => by rw [up_k j1, up_k j4, oj j j1 j2 j3 j4], ?_, ?_, fun hle => ?_, by rw [up_k (by decide), up_s]; exact hzr⟩
                · rw [up_s, e18]
                · rw [up_k (by decide), up_k (by decide)]; exact e19
                · rw [up_k (by decide), up_s, show ((x : Int) + 1).toNat = x + 1 by omega]
                  exact hz hle
              refine b_M_next_136 ?_
              rw [e18]
              refine c_M_letter hT3 (by omega) (fun w hw => ?_)
              refine b_M_next_144 (c_M_in (by omega) (fun y hy => ?_))
              refine b_M_next_151 (by omega) (fun h => by omega) (fun _ => ?_)
              refine b_M_next_154 (by rw [e18, e19]; omega) (fun h2 => ?_) (fun h2 => ?_)
              · rw [e18, e19] at h2
                refine b_M_next_190 ?_
                exact fin _ (fun h => by omega) er
              · rw [e18, e19] at h2
                have hxs : x = s + 1 := by omega
                refine b_M_next_168 ?_
                rw [e18]
                refine c_M_letter hT3 (by omega) (fun w2 hw2 => ?_)
                refine b_M_next_183 ?_
                have hfs := d2 s (by omega) hes
                have hv1 : J3 167 21 = f s - 48 := by
                  rw [e21 (by omega), hxs, show s + 1 - s = 1 by omega]
                  simp only [vaF]
                  rw [Nat.add_zero]
                  omega
                refine fin _ (fun _ => ?_) (by omega)
                rw [e21 (by omega), hxs, show s + 1 - s = 1 by omega, show s + 1 + 1 - s = 2 by omega]
                have hfx : w2 = f (s + 1) := by rw [← hxs]; omega
                rw [hfx]
                simp only [vaF]
                omega
            · intro J3 hi
              obtain ⟨h0, o, oj, e18, e19, e21, er⟩ := hi
              rw [Int.toNat_natCast] at e21
              have hT3 := mv J3 o oj
              refine b_M_next_136 ?_
              rw [e18]
              refine c_M_letter hT3 (by omega) (fun w hw => ?_)
              refine b_M_next_144 (c_M_in (by omega) (fun y hy => ?_))
              refine b_M_next_151 (by omega) (fun _ => ?_) (fun h => ?_)
              · have fin : ∀ z : Int, ((z = 4 ∧ (2 < e - s ∨ (1 < e - s ∧ f s = 48))) ∨ (z = 2 ∧ ¬ (2 < e - s ∨ (1 < e - s ∧ f s = 48)))) → Gx (jx_0 L) (d + 1) md_M_next 248 [some (.inr (.inl 167)), some (.inl v)] [.inl z, .inr (.inl 167)] J3 K := by
                  intro z hz
                  refine b_M_next_248 ?_
                  refine b_M_next_251 (hk _ (fun a ha => by rw [jm_up_o ha, o a ha]) (fun j j1 j2 j3 j4 => by rw [up_k j3, oj j j1 j2 j3 j4]) ?_ ?_ ?_ (Or.inr (by rw [up_k (by decide)]; omega)))
                  · rw [up_k (by decide), e18, if_pos hes]
                  · rw [up_k (by decide)]; exact e19
                  · rw [if_pos hes]
                    unfold mtP
                    rw [up_s, up_k (by decide)]
                    rcases hz with ⟨z1, z2⟩ | ⟨z1, z2⟩
                    · rw [if_pos z2]
                      right; right; left
                      omega
                    · rw [if_neg z2]
                      right; left
                      exact ⟨rfl, z1, e21 (by omega)⟩
                refine b_M_next_210 (by rw [e18, e19]; omega) (fun h2 => ?_) (fun h2 => ?_)
                · rw [e18, e19] at h2
                  refine b_M_next_247 ?_
                  exact fin 4 (Or.inl ⟨rfl, by omega⟩)
                · rw [e18, e19] at h2
                  refine b_M_next_224 (by omega) (fun h3 => ?_) (fun h3 => ?_)
                  · refine b_M_next_243 ?_
                    exact fin 2 (Or.inr ⟨rfl, by omega⟩)
                  · refine b_M_next_230 (by rw [e18, e19]; omega) (fun h4 => ?_) (fun h4 => ?_)
                    · rw [e18, e19] at h4
                      refine b_M_next_247 ?_
                      exact fin 4 (Or.inl ⟨rfl, by omega⟩)
                    · rw [e18, e19] at h4
                      refine b_M_next_243 ?_
                      exact fin 2 (Or.inr ⟨rfl, by omega⟩)
              · exfalso
                apply d3
                have hw' : e < n ∧ w = f e := by omega
                refine ⟨hw'.1, ?_⟩
                rw [← hw'.2]
                omega
            · rw [up_s, show ((s : Int) + 1).toNat - s = 1 by omega]
              simp only [vaF]
              rw [Nat.add_zero]
              omega
        have J2f : ∀ (P : jm_I), P = jm_up (jm_up (jm_up J1 167 19 (s : Int)) 167 18 ((s : Int) + 1)) 167 21 v → (∀ a, a ≠ 167 → P a = J a) ∧ (∀ j, j ≠ 18 → j ≠ 19 → j ≠ 20 → j ≠ 21 → P 167 j = J 167 j) ∧ P 167 18 = (s : Int) + 1 ∧ P 167 19 = (s : Int) ∧ P 167 21 = v := by
          intro P hP
          subst hP
          exact ⟨fun a ha => by rw [jm_up_o ha, jm_up_o ha, jm_up_o ha, o a ha], fun j j1 j2 j3 j4 => by rw [up_k j4, up_k j1, up_k j2, oj j j1], by rw [up_k (by decide), up_s], by rw [up_k (by decide), up_k (by decide), up_s], up_s⟩
        have e18' : jm_up J1 167 19 (s : Int) 167 18 = (s : Int) := by rw [up_k (by decide)]; exact e3
        have at99 : (v = 114 ∨ v = 115 ∨ v = 100 ∨ v = 112 ∨ v = 116) → Gx (jx_0 L) (d + 1) md_M_next 99 [some (.inr (.inl 167)), some (.inl v)] [.inr (.inl 167)] (jm_up (jm_up (jm_up J1 167 19 (s : Int)) 167 18 ((s : Int) + 1)) 167 21 v) K := by
          intro hv2
          obtain ⟨p1, p2, p3, p4, p5⟩ := J2f _ rfl
          exact b_M_next_99 (after 1 _ p1 p2 p3 p4 p5 (Or.inl ⟨rfl, hv2⟩))
        refine b_M_next_53 (by omega) (fun h1 => ?_) (fun h1 => ?_)
        · rw [e18']; exact at99 (by omega)
        · rw [e18']
          refine b_M_next_75 (by omega) (fun h2 => at99 (by omega)) (fun h2 => ?_)
          refine b_M_next_81 (by omega) (fun h3 => at99 (by omega)) (fun h3 => ?_)
          refine b_M_next_87 (by omega) (fun h4 => at99 (by omega)) (fun h4 => ?_)
          refine b_M_next_93 (by omega) (fun h5 => ?_) (fun h5 => at99 (by omega))
          obtain ⟨p1, p2, p3, p4, p5⟩ := J2f _ rfl
          refine b_M_next_103 (by omega) (fun h6 => ?_) (fun h6 => ?_)
          · exact b_M_next_113 (after 4 _ p1 p2 p3 p4 p5 (Or.inr (Or.inr ⟨rfl, by unfold knP; omega⟩)))
          · exact b_M_next_109 (after 3 _ p1 p2 p3 p4 p5 (Or.inr (Or.inl ⟨rfl, h6⟩)))
      · -- the end
        have hsn : ¬ s < n := by omega
        have hes : ¬ s < e := fun q => hsn (d2 s (by omega) q).1
        refine b_M_next_47 (hk _ (fun a ha => by rw [jm_up_o ha, jm_up_o ha, o a ha]) (fun j j1 j2 j3 j4 => by rw [up_k j3, up_k j2, oj j j1]) ?_ ?_ ?_ (Or.inl ⟨by rw [if_neg hes, if_neg hsn], by rw [up_k (by decide), up_k (by decide), oj 21 (by decide)]⟩))
        · rw [up_k (by decide), up_k (by decide), e3, if_neg hes, if_neg hsn]
        · rw [up_k (by decide), up_s]
        · rw [if_neg hes, if_neg hsn]
          unfold mtP
          rw [up_s]
          exact Or.inl ⟨rfl, rfl⟩
    · exact absurd (show s < n ∧ f s = 32 by omega) s3
end MLEX
