/-! ===== the class's reader, the whole ===== -/
def fD0 (I : jm_I) (e : Nat) : jm_I := fun i j => if i = 20 then 0 else if i = 0 then (if j = 0 then 2 else if j = 1 then 10 else if j < 5 then 0 else I e j) else I (e + i) j
theorem fD0_ok (I : jm_I) (e : Nat) : dOk 0 (fD0 I e) := by
  have h0 : fD0 I e 0 0 = 2 := rfl
  have h1 : fD0 I e 0 1 = 10 := rfl
  have h2 : fD0 I e 0 2 = 0 := rfl
  have h3 : fD0 I e 0 3 = 0 := rfl
  have h4 : fD0 I e 0 4 = 0 := rfl
  have h5 : fD0 I e 20 0 = 0 := rfl
  refine ⟨?_, by omega, fun _ => ⟨h2, h3, h4⟩, fun i hi => by omega, fun i hi => by omega, fun i hi => by omega⟩
  unfold dcOk
  omega
section READ
variable {L d : Nat} {I J : jm_I} {K : Option jm_V → jm_I → Prop} {x0 x1 x2 x3 x4 : Int} {f : Nat → Int} {n q e : Nat} {D : jm_I}
theorem c_CityReader_needEnd (he : e ≤ 22) (hO : crO I J e f n q D) (k1 : tkK f n q = 59 → ∀ J' : jm_I, crO I J' e f n (tkE f n q) D → K none J') (k2 : ¬ tkK f n q = 59 → ∀ J' : jm_I, crB I J' e f n (tkS f n q) → K none J') : Cx (jx_0 L) (d + 2) md_CityReader_needEnd [.inr (.inl 42)] J K := by
  obtain ⟨hF, h8, h3, hq, h7, hD⟩ := hO
  have htk := tk_r (f := f) hq
  refine b_CityReader_needEnd_0 (by omega) (fun _ => ?_) (fun h => absurd h8 h)
  refine b_CityReader_needEnd_10 (c_CityReader_nextToken hF.1 h3 hq (fun J1 o oj e3 e4 e5 e6 => ?_))
  have hF1 : crF I J1 e f n := crF_mv he hF (fun a a1 _ => o a a1) (oj 0 (by decide) (by decide) (by decide) (by decide)) (oj 1 (by decide) (by decide) (by decide) (by decide)) (oj 2 (by decide) (by decide) (by decide) (by decide))
  have hkr := tkK_r (f := f) (n := n) (a := q)
  unfold knP at hkr
  have hO1 : crO I J1 e f n (tkE f n q) D := ⟨hF1, by rw [oj 8 (by decide) (by decide) (by decide) (by decide)]; exact h8, e3, htk.2.2.2.1, by rw [oj 7 (by decide) (by decide) (by decide) (by decide)]; exact h7, fun i hi => by rw [o (e + i) (by omega)]; exact hD i hi⟩
  refine b_CityReader_needEnd_14 (by rw [e4]; omega) (fun h => ?_) (fun h => ?_)
  · rw [e4] at h
    exact b_CityReader_needEnd_27 (k1 h J1 hO1)
  · rw [e4] at h
    refine b_CityReader_needEnd_23 (c_CityReader_refuse_o he hO1 e5 (fun J2 hB => ?_))
    exact b_CityReader_needEnd_27 (k2 h J2 hB)
theorem c_CityReader_needEnd_f {s : Nat} (hB : crB I J e f n s) (hs : s ≤ 200) (k : K none J) : Cx (jx_0 L) (d + 2) md_CityReader_needEnd [.inr (.inl 42)] J K := by
  have h8 := hB.2.1
  refine b_CityReader_needEnd_0 (by omega) (fun h => by omega) (fun _ => ?_)
  exact b_CityReader_needEnd_9 k
/-- behind a fault the reader ends -/
theorem rd_bad {s k : Nat} {o1 o2 o3 : Option jm_V} (he : e ≤ 22) (hs : s ≤ 200) (hB : crB I J e f n s) (hk : k ≤ 200) (kk : ∀ J' : jm_I, (∀ a, a ≠ 42 → (a < e ∨ e + 12 < a) → J' a = I a) → K (some (.inl (-10 - (s : Int)))) J') : Gx (jx_0 L) (d + 5) md_CityReader_read 79 [some (.inr (.inl 42)), o1, o2, o3, some (.inl (k : Int))] [] J K := by
  obtain ⟨hF, h8, q, hq, h3⟩ := hB
  refine b_CityReader_read_79 (c_CityReader_nextToken hF.1 h3 hq (fun J1 o oj e3 e4 e5 e6 => ?_))
  have e8 : J1 42 8 = (s : Int) := by rw [oj 8 (by decide) (by decide) (by decide) (by decide)]; exact h8
  have hkr := tkK_r (f := f) (n := n) (a := q)
  unfold knP at hkr
  have at89 : ∀ x : Int, Gx (jx_0 L) (d + 5) md_CityReader_read 89 [some (.inr (.inl 42)), o1, o2, o3, some (.inl x)] [] J1 K := by
    intro x
    refine b_CityReader_read_89 (by omega) (fun _ => ?_) (fun h => by omega)
    refine b_CityReader_read_103 ?_
    rw [e8]
    exact b_CityReader_read_110 (kk J1 (fun a a1 a2 => by rw [o a a1, hF.2.2 a a1 a2]))
  refine b_CityReader_read_83 ?_
  refine b_CityReader_read_45 (by omega) (fun _ => at89 _) (fun _ => ?_)
  refine b_CityReader_read_53 (by rw [e4]; omega) (fun _ => at89 _) (fun _ => ?_)
  exact b_CityReader_read_60 (by omega) (fun _ => at89 _) (fun h => by omega)
theorem rd_loop {o1 o2 o3 : Option jm_V} {D0 : jm_I} (hc : jx_City (jx_0 L) e) (he : e ≤ 22) (hn : n ≤ 200) (k1 : ∀ (J' D' : jm_I) (k : Nat), psO f n 201 0 0 D0 = .inl (k, D') → crD J' e D' → dOk k D' → k ≤ 100 → (∀ a, a ≠ 42 → (a < e ∨ e + 12 < a) → J' a = I a) → K (some (.inl (k : Int))) J') (k2 : ∀ (J' : jm_I) (s : Nat), psO f n 201 0 0 D0 = .inr s → s ≤ 200 → (∀ a, a ≠ 42 → (a < e ∨ e + 12 < a) → J' a = I a) → K (some (.inl (-10 - (s : Int)))) J') : ∀ (m k a : Nat) (J D : jm_I), m + k = 201 → 2 * k ≤ a → a ≤ n → dOk k D → crO I J e f n (tkE f n a) D → J 42 4 = tkK f n a → J 42 5 = (tkS f n a : Int) → psO f n 201 0 0 D0 = psO f n m k a D → Gx (jx_0 L) (d + 5) md_CityReader_read 45 [some (.inr (.inl 42)), o1, o2, o3, some (.inl (k : Int))] [] J K := by
  intro m
  induction m with
  | zero =>
    intro k a J D hm h2 ha hD hO h4 h5 hp
    omega
  | succ m ih =>
    intro k a J D hm h2 ha hD hO h4 h5 hp
    have hkr := tkK_r (f := f) (n := n) (a := a)
    unfold knP at hkr
    have hp : psO f n 201 0 0 D0 = (if tkK f n a = 0 then .inl (k, D) else match itO f n k a D with
      | .inl p => psO f n m (k + 1) p.1 p.2
      | .inr s => .inr s) := hp
    refine b_CityReader_read_45 (by omega) (fun h => by omega) (fun _ => ?_)
    refine b_CityReader_read_53 (by rw [h4]; omega) (fun h => ?_) (fun h => ?_)
    · rw [h4] at h
      rw [if_pos h] at hp
      have h8 := hO.2.1
      refine b_CityReader_read_89 (by omega) (fun h => absurd h8 h) (fun _ => ?_)
      refine b_CityReader_read_98 ?_
      exact b_CityReader_read_110 (k1 J D k hp hO.2.2.2.2.2 hD (by omega) hO.1.2.2)
    · rw [h4] at h
      rw [if_neg h] at hp
      have h8 := hO.2.1
      refine b_CityReader_read_60 (by omega) (fun h => absurd h8 h) (fun _ => ?_)
      refine b_CityReader_read_69 (c_CityReader_readItem hc he ha hO hD.1 h4 h5 (by omega) (fun J1 D1 q1 hO1 hit => ?_) (fun J1 s hB1 hit => ?_))
      · have hq1 := hO1.2.2.2.1
        refine b_CityReader_read_75 (c_CityReader_needEnd he hO1 (fun hk J2 hO2 => ?_) (fun hk J2 hB2 => ?_))
        · have hit2 : itO f n k a D = .inl (tkE f n q1, D1) := by rw [hit]; unfold enO; rw [if_pos hk]
          obtain ⟨dk, ak, an⟩ := it_ok ha hD hit2
          rw [hit2] at hp
          have hp : psO f n 201 0 0 D0 = psO f n m (k + 1) (tkE f n q1) D1 := hp
          obtain ⟨g1, g2, g3, g4, g5, g6⟩ := id hO2
          refine b_CityReader_read_79 (c_CityReader_nextToken g1.1 g3 g4 (fun J3 o oj e3 e4 e5 e6 => ?_))
          refine b_CityReader_read_83 ?_
          rw [show (k : Int) + 1 = ((k + 1 : Nat) : Int) by omega]
          have htk := tk_r (f := f) g4
          refine ih (k + 1) (tkE f n q1) J3 D1 (by omega) (by omega) an dk ⟨crF_mv he g1 (fun a a1 _ => o a a1) (oj 0 (by decide) (by decide) (by decide) (by decide)) (oj 1 (by decide) (by decide) (by decide) (by decide)) (oj 2 (by decide) (by decide) (by decide) (by decide)), by rw [oj 8 (by decide) (by decide) (by decide) (by decide)]; exact g2, e3, htk.2.2.2.1, by rw [oj 7 (by decide) (by decide) (by decide) (by decide)]; exact g5, fun i hi => by rw [o (e + i) (by omega)]; exact g6 i hi⟩ e4 e5 hp
        · have hit2 : itO f n k a D = .inr (tkS f n q1) := by rw [hit]; unfold enO; rw [if_neg hk]
          rw [hit2] at hp
          exact rd_bad he (tk_200 hq1 hn) hB2 (by omega) (fun J' o => k2 J' _ hp (tk_200 hq1 hn) o)
      · rw [hit] at hp
        have hs200 : s ≤ 200 := by
          -- a fault is a place of the text
          exact it_bad ha hn hit
        refine b_CityReader_read_75 (c_CityReader_needEnd_f hB1 hs200 ?_)
        exact rd_bad he hs200 hB1 (by omega) (fun J' o => k2 J' _ hp hs200 o)
theorem c_CityReader_read (hc : jx_City (jx_0 L) e) (he : 2 ≤ e ∧ e ≤ 22) (hn : n ≤ 200) (hf : ∀ k : Nat, k < 200 → I 43 k = f k ∧ 0 ≤ f k ∧ f k ≤ 255) (k1 : ∀ (J' D' : jm_I) (k : Nat), psO f n 201 0 0 (fD0 I e) = .inl (k, D') → crD J' e D' → dOk k D' → k ≤ 100 → (∀ a, a ≠ 42 → (a < e ∨ e + 12 < a) → J' a = I a) → K (some (.inl (k : Int))) J') (k2 : ∀ (J' : jm_I) (s : Nat), psO f n 201 0 0 (fD0 I e) = .inr s → s ≤ 200 → (∀ a, a ≠ 42 → (a < e ∨ e + 12 < a) → J' a = I a) → K (some (.inl (-10 - (s : Int)))) J') : Cx (jx_0 L) (d + 5) md_CityReader_read [.inr (.inl 42), .inr (.inl 43), .inl (n : Int), .inr (.inl e)] I K := by
  refine b_CityReader_read_0 (na1 := 200) rfl hc (by decide) ?_
  refine b_City_beAsAtFirst_0 hc ?_
  generalize hJ : jm_up (jm_up (jm_up (jm_up (jm_up (jm_up (jm_up (jm_up (jm_up (jm_up (jm_up I 42 0 ((43 : Nat) : Int)) 42 1 (n : Int)) 42 2 ((e : Nat) : Int)) 42 3 0) 42 7 0) 42 8 (-9)) e 0 2) e 1 10) e 2 0) e 3 0) e 4 0 = J1
  have oE : ∀ j, J1 42 j = jm_up (jm_up (jm_up (jm_up (jm_up (jm_up I 42 0 ((43 : Nat) : Int)) 42 1 (n : Int)) 42 2 ((e : Nat) : Int)) 42 3 0) 42 7 0) 42 8 (-9) 42 j := fun j => by
    rw [← hJ, up_a (by omega), up_a (by omega), up_a (by omega), up_a (by omega), up_a (by omega)]
  have oo : ∀ a, a ≠ 42 → a ≠ e → J1 a = I a := fun a a1 a2 => by
    rw [← hJ, jm_up_o a2, jm_up_o a2, jm_up_o a2, jm_up_o a2, jm_up_o a2, jm_up_o a1, jm_up_o a1, jm_up_o a1, jm_up_o a1, jm_up_o a1, jm_up_o a1]
  have hF : crF I J1 e f n := by
    refine ⟨⟨by rw [oE, up_k (by decide), up_k (by decide), up_k (by decide), up_k (by decide), up_k (by decide), up_s], by rw [oE, up_k (by decide), up_k (by decide), up_k (by decide), up_k (by decide), up_s], hn, fun k hk => ?_⟩, by rw [oE, up_k (by decide), up_k (by decide), up_k (by decide), up_s], fun a a1 a2 => oo a a1 (by omega)⟩
    rw [oo 43 (by decide) (by omega)]
    exact hf k hk
  have g3 : J1 42 3 = ((0 : Nat) : Int) := by rw [oE, up_k (by decide), up_k (by decide), up_s]; rfl
  have g7 : J1 42 7 = 0 := by rw [oE, up_k (by decide), up_s]
  have g8 : J1 42 8 = -9 := by rw [oE, up_s]
  have hcd : crD J1 e (fD0 I e) := by
    intro i hi
    by_cases ei : i = 0
    · subst ei
      funext j
      show J1 e j = (if j = 0 then 2 else if j = 1 then 10 else if j < 5 then 0 else I e j)
      rw [← hJ]
      by_cases j4 : j = 4
      · subst j4; rw [up_s]; rfl
      · rw [up_k j4]
        by_cases j3 : j = 3
        · subst j3; rw [up_s]; rfl
        · rw [up_k j3]
          by_cases j2 : j = 2
          · subst j2; rw [up_s]; rfl
          · rw [up_k j2]
            by_cases j1 : j = 1
            · subst j1; rw [up_s]; rfl
            · rw [up_k j1]
              by_cases j0 : j = 0
              · subst j0; rw [up_s]; rfl
              · rw [up_k j0, if_neg j0, if_neg j1, if_neg (by omega), up_a (by omega), up_a (by omega), up_a (by omega), up_a (by omega), up_a (by omega), up_a (by omega)]
    · rw [oo (e + i) (by omega) (by omega)]
      funext j
      show I (e + i) j = (if i = 20 then 0 else if i = 0 then _ else I (e + i) j)
      rw [if_neg (by omega), if_neg ei]
  refine b_CityReader_read_38 (c_CityReader_nextToken hF.1 g3 (Nat.zero_le _) (fun J2 o oj e3 e4 e5 e6 => ?_))
  have htk := tk_r (f := f) (n := n) (Nat.zero_le n)
  rw [show (0 : Int) = ((0 : Nat) : Int) from rfl]
  exact rd_loop hc he.2 hn k1 k2 201 0 0 J2 (fD0 I e) rfl (by omega) (Nat.zero_le _) (fD0_ok I e) ⟨crF_mv he.2 hF (fun a a1 _ => o a a1) (oj 0 (by decide) (by decide) (by decide) (by decide)) (oj 1 (by decide) (by decide) (by decide) (by decide)) (oj 2 (by decide) (by decide) (by decide) (by decide)), by rw [oj 8 (by decide) (by decide) (by decide) (by decide)]; exact g8, e3, htk.2.2.2.1, by rw [oj 7 (by decide) (by decide) (by decide) (by decide)]; exact g7, fun i hi => by rw [o (e + i) (by omega)]; exact hcd i hi⟩ e4 e5 rfl
end READ
