/-! ===== the model: rounds and spots ===== -/
/-- the first place of a row that is a room; -9 -/
def fst_ (f : Nat → Int) (room : Int) : Nat → Int
  | 0 => -9
  | n + 1 => if fst_ f room n = -9 then (if f n = room then (n : Int) else -9) else fst_ f room n
theorem fst_no {f : Nat → Int} {room : Int} : ∀ {n : Nat}, (∀ k, k < n → f k ≠ room) → fst_ f room n = -9
  | 0, _ => rfl
  | n + 1, h => by
    have h1 := fst_no (n := n) (fun k hk => h k (by omega))
    simp only [fst_]
    rw [if_pos h1, if_neg (h n (by omega))]
theorem fst_at {f : Nat → Int} {room : Int} {j : Nat} (hj : f j = room) (hl : ∀ k, k < j → f k ≠ room) : ∀ {n : Nat}, j < n → fst_ f room n = j
  | 0, h => by omega
  | n + 1, h => by
    by_cases e : j = n
    · subst e
      simp only [fst_]
      rw [if_pos (fst_no hl), if_pos hj]
    · have h1 := fst_at hj hl (n := n) (by omega)
      simp only [fst_]
      rw [if_neg (by rw [h1]; omega), h1]
theorem fst_in {f : Nat → Int} {room : Int} : ∀ {n : Nat}, fst_ f room n = -9 ∨ (∃ j : Nat, j < n ∧ fst_ f room n = j ∧ f j = room ∧ ∀ k, k < j → f k ≠ room)
  | 0 => Or.inl rfl
  | n + 1 => by
    rcases fst_in (f := f) (room := room) (n := n) with h | ⟨j, h1, h2, h3, h4⟩
    · by_cases e : ∀ k, k < n → f k ≠ room
      · by_cases e2 : f n = room
        · exact Or.inr ⟨n, by omega, fst_at e2 e (by omega), e2, e⟩
        · exact Or.inl (fst_no (fun k hk => by
            by_cases e3 : k = n
            · subst e3; exact e2
            · exact e k (by omega)))
      · exfalso
        have ⟨k, hk⟩ := Classical.not_forall.mp e
        have ⟨hk1, hk2⟩ := Classical.not_imp.mp hk
        have hk3 := Classical.not_not.mp hk2
        obtain ⟨j, hj, hjl⟩ := pk_least (fun k => f k = room) ⟨k, hk3⟩
        have hjk : j < n := by
          rcases Nat.lt_or_ge j n with q | q
          · exact q
          · exact absurd hk3 (hjl k (by omega))
        rw [fst_at hj hjl hjk] at h
        omega
    · exact Or.inr ⟨j, by omega, fst_at h3 h4 (by omega), h3, h4⟩
/-- how a thing is: a place of its round below 4, or 4 and the room -/
def roF (I : jm_I) (t how : Int) : Int := if how < 4 then I 170 (4 * t + how).toNat else how - 4
def laF (I : jm_I) (t how n : Int) : Int := if how < 4 then (how + n) % I 169 t.toNat else how
def nwF (I : jm_I) (t : Int) : Int := if I 171 (22 + t).toNat = -9 then 4 + I 171 (17 + t).toNat else I 171 (22 + t).toNat
def plF (I : jm_I) (t room : Int) : Int := fst_ (fun k => I 170 (4 * t + k).toNat) room (I 169 t.toNat).toNat
def puF (I : jm_I) (t room : Int) : Int := if plF I t room = -9 then 4 + room else plF I t room
def riF (I : jm_I) (t n : Int) : Int := roF I t (laF I t (nwF I t) n)
/-- the thing's cells are in order -/
def thOk (I : jm_I) (t : Int) : Prop := (0 ≤ t ∧ t < 5) ∧ (1 ≤ I 169 t.toNat ∧ I 169 t.toNat ≤ 4) ∧ (∀ k : Nat, (k : Int) < I 169 t.toNat → 0 ≤ I 170 (4 * t + k).toNat ∧ I 170 (4 * t + k).toNat < 6) ∧ ((I 171 (22 + t).toNat = -9 ∧ 0 ≤ I 171 (17 + t).toNat ∧ I 171 (17 + t).toNat < 6) ∨ (0 ≤ I 171 (22 + t).toNat ∧ I 171 (22 + t).toNat < I 169 t.toNat))
theorem plF_r {I : jm_I} {t room : Int} (h : I 169 t.toNat ≤ 4) : plF I t room = -9 ∨ (0 ≤ plF I t room ∧ plF I t room < 4) := by
  unfold plF
  rcases fst_in (f := fun k => I 170 (4 * t + k).toNat) (room := room) (n := (I 169 t.toNat).toNat) with e | ⟨j, h1, h2, -⟩
  · exact Or.inl e
  · rw [h2]; omega
section MSPOT
variable {L d : Nat} {I : jm_I} {K : Option jm_V → jm_I → Prop} {x0 x1 x2 x3 : Int}
theorem c_M_placeIn (hz : (0 ≤ x1 ∧ x1 < 5) ∧ (1 ≤ I 169 x1.toNat ∧ I 169 x1.toNat ≤ 4) ∧ (0 ≤ x2 ∧ x2 < 6)) (hr : ∀ k : Nat, (k : Int) < I 169 x1.toNat → 0 ≤ I 170 (4 * x1 + k).toNat ∧ I 170 (4 * x1 + k).toNat < 6) (k : K (some (.inl (plF I x1 x2))) I) : Cx (jx_0 L) d md_M_placeIn [.inr (.inl 167), .inl x1, .inl x2] I K := by
  refine b_M_placeIn_0 (by omega) ?_
  refine lp_down (σ := Int) (Inv := fun x f => x < I 169 x1.toNat ∧ ((f = -9 ∧ ∀ j : Nat, x < j → (j : Int) < I 169 x1.toNat → I 170 (4 * x1 + j).toNat ≠ x2) ∨ (∃ j : Nat, f = j ∧ x < j ∧ (j : Int) < I 169 x1.toNat ∧ I 170 (4 * x1 + j).toNat = x2 ∧ ∀ i : Nat, x < i → i < j → I 170 (4 * x1 + i).toNat ≠ x2)))
    (G := fun x f => Gx (jx_0 L) d md_M_placeIn 13 [some (.inr (.inl 167)), some (.inl x1), some (.inl x2), some (.inl f), some (.inl x)] [] I K) ?_ ?_ _ _ (by omega) ⟨by omega, Or.inl ⟨rfl, fun j h1 h2 => by omega⟩⟩
  · intro x f hx hi ih
    obtain ⟨hx2, hi⟩ := hi
    obtain ⟨q, rfl⟩ : ∃ q : Nat, x = q := ⟨x.toNat, by omega⟩
    have hq := hr q hx2
    refine b_M_placeIn_13 (by omega) (fun h => by omega) (fun h => ?_)
    refine b_M_placeIn_18 (by omega) (fun h => ?_) (fun h => ?_)
    · refine b_M_placeIn_38 ?_
      refine b_M_placeIn_39 ?_
      refine ih f ⟨by omega, ?_⟩
      rcases hi with ⟨rfl, hi⟩ | ⟨j, h1, h2, h3, h4, h5⟩
      · refine Or.inl ⟨rfl, fun j h1 h2 => ?_⟩
        by_cases e : j = q
        · subst e; exact h
        · exact hi j (by omega) h2
      · refine Or.inr ⟨j, h1, by omega, h3, h4, fun i h6 h7 => ?_⟩
        by_cases e : i = q
        · subst e; exact h
        · exact h5 i (by omega) h7
    · refine b_M_placeIn_33 ?_
      refine b_M_placeIn_39 ?_
      refine ih (q : Int) ⟨by omega, Or.inr ⟨q, rfl, by omega, hx2, h, fun i h6 h7 => by omega⟩⟩
  · intro f hi
    obtain ⟨-, hi⟩ := hi
    refine b_M_placeIn_13 (by omega) (fun h => ?_) (fun h => by omega)
    refine b_M_placeIn_46 ?_
    refine cv_ ?_ k
    unfold plF
    rcases hi with ⟨rfl, hi⟩ | ⟨j, rfl, h2, h3, h4, h5⟩
    · exact (fst_no (fun j hj => hi j (by omega) (by omega))).symm
    · exact (fst_at (f := fun k : Nat => I 170 (4 * x1 + k).toNat) (j := j) h4 (fun i hi => h5 i (by omega) hi) (by omega)).symm
theorem c_M_putIn (hz : (0 ≤ x1 ∧ x1 < 5) ∧ (1 ≤ I 169 x1.toNat ∧ I 169 x1.toNat ≤ 4) ∧ (0 ≤ x2 ∧ x2 < 6)) (hr : ∀ k : Nat, (k : Int) < I 169 x1.toNat → 0 ≤ I 170 (4 * x1 + k).toNat ∧ I 170 (4 * x1 + k).toNat < 6) (k : K (some (.inl (puF I x1 x2))) I) : Cx (jx_0 L) (d + 1) md_M_putIn [.inr (.inl 167), .inl x1, .inl x2] I K := by
  have hp := plF_r (I := I) (t := x1) (room := x2) (by omega)
  refine b_M_putIn_0 (c_M_placeIn (by omega) hr ?_)
  refine b_M_putIn_6 (by omega) (fun hb2 => ?_) (fun hb2 => ?_)
  · refine b_M_putIn_19 ?_
    refine b_M_putIn_20 ?_
    exact cv_ (by unfold puF; split <;> omega) k
  · refine b_M_putIn_13 ?_
    refine b_M_putIn_20 ?_
    exact cv_ (by unfold puF; split <;> omega) k
theorem c_M_roomIn (ht : thOk I x1) (hz : 0 ≤ x2 ∧ x2 ≤ 100) (k : K (some (.inl (riF I x1 x2))) I) : Cx (jx_0 L) (d + 1) md_M_roomIn [.inr (.inl 167), .inl x1, .inl x2] I K := by
  obtain ⟨h1, h2, h3, h4⟩ := ht
  refine b_M_roomIn_0 (c_M_isNow (by omega) (fun v hv => ?_))
  have hv' : v = nwF I x1 := by unfold nwF; split <;> omega
  have hvr : 0 ≤ v ∧ v < 10 ∧ (v < 4 → v < I 169 x1.toNat) := by omega
  refine b_M_roomIn_9 (c_M_later (by omega) (fun w hw => ?_))
  have hw' : w = laF I x1 v x2 := by unfold laF; split <;> omega
  have hwr : 0 ≤ w ∧ w < 10 := by
    rcases hw with ⟨a, b⟩ | ⟨a, b⟩
    · have c1 := Int.emod_nonneg (v + x2) (show I 169 x1.toNat ≠ 0 by omega)
      have c2 := Int.emod_lt_of_pos (v + x2) (show 0 < I 169 x1.toNat by omega)
      omega
    · omega
  refine b_M_roomIn_13 (c_M_roomOf (by omega) (fun z hz => ?_))
  refine b_M_roomIn_16 ?_
  refine cv_ ?_ k
  unfold riF
  rw [← hv', ← hw']
  unfold roF
  split <;> omega
/-- where -/
def q_where (I : jm_I) (t n : Int) : Int := if 0 ≤ t ∧ t < I 167 5 ∧ 0 ≤ n ∧ n ≤ 100 then riF I t n else -1
theorem c_M_where (hz : (0 ≤ I 167 5 ∧ I 167 5 ≤ 5) ∧ (-2147483648 ≤ x1 ∧ x1 < 2147483648) ∧ (-2147483648 ≤ x2 ∧ x2 < 2147483648)) (ht : 0 ≤ x1 ∧ x1 < I 167 5 → thOk I x1) (k : K (some (.inl (q_where I x1 x2))) I) : Cx (jx_0 L) (d + 2) md_M_where [.inr (.inl 167), .inl x1, .inl x2] I K := by
  refine b_M_where_0 (c_M_isThing (by omega) (fun v1 hv1 => ?_))
  refine b_M_where_5 (by omega) (fun hb2 => ?_) (fun hb2 => ?_)
  · refine b_M_where_27 ?_
    refine b_M_where_28 ?_
    exact cv_ (by unfold q_where; split <;> first | rfl | omega) k
  · refine b_M_where_8 (c_M_in (by omega) (fun v3 hv3 => ?_))
    refine b_M_where_15 (by omega) (fun hb4 => ?_) (fun hb4 => ?_)
    · refine b_M_where_27 ?_
      refine b_M_where_28 ?_
      exact cv_ (by unfold q_where; split <;> first | rfl | omega) k
    · refine b_M_where_18 (c_M_roomIn (ht (by omega)) (by omega) ?_)
      refine b_M_where_24 ?_
      refine b_M_where_28 ?_
      exact cv_ (by unfold q_where; split <;> first | rfl | omega) k
end MSPOT
