/-! ===== what was found ===== -/
def fdP (I : jm_I) (t : Int) : Prop := ∃ i : Nat, (i : Int) < I 167 13 ∧ I 175 (3 * i) = t
def soP (I : jm_I) (t how : Int) : Prop := ∀ i : Nat, (i : Int) < I 167 13 → I 175 (3 * i) = t → roF I t (laF I t how (I 175 (3 * i + 2))) = I 175 (3 * i + 1)
section FINDS
variable {L d : Nat} {I : jm_I} {K : Option jm_V → jm_I → Prop} {x0 x1 x2 x3 x4 : Int} {c e : Nat}
theorem c_Finds_tellOf (hf : FD I) (hr : mRng I) (hz : 0 ≤ x1 ∧ x1 < 5) (k : ∀ v, (v = 1 ∧ fdP I x1) ∨ (v = 0 ∧ ¬ fdP I x1) → K (some (.inl v)) I) : Cx (jx_0 L) d md_Finds_tellOf [.inr (.inl 103), .inl x1] I K := by
  obtain ⟨f1, f2, f3⟩ := hf
  unfold mRng at hr
  refine b_Finds_tellOf_0 ?_
  refine lp_up (σ := Unit) (Inv := fun x _ => 0 ≤ x ∧ ∀ i : Nat, (i : Int) < x → ¬ I 175 (3 * i) = x1) (G := fun x _ => Gx (jx_0 L) d md_Finds_tellOf 2 [some (.inr (.inl 103)), some (.inl x1), some (.inl x)] [] I K) (I 167 13) ?_ ?_ 0 () (by omega) ⟨by omega, fun i h => by omega⟩
  · intro x _ hx hi ih
    obtain ⟨h0, hi⟩ := hi
    obtain ⟨i, rfl⟩ : ∃ i : Nat, x = i := ⟨x.toNat, by omega⟩
    have r1 := (f3 i hx).1
    have r2 := (f1 i hx).1
    refine b_Finds_tellOf_2 (by omega) (fun h => by omega) (fun h => ?_)
    refine b_Finds_tellOf_10 (by rw [Int.toNat_natCast, r1]; omega) (fun h => ?_) (fun h => ?_)
    · rw [Int.toNat_natCast, r1] at h
      refine b_Finds_tellOf_22 ?_
      refine ih () ⟨by omega, fun i' hi' => ?_⟩
      by_cases ei : i' = i
      · rw [ei]; exact h
      · exact hi i' (by omega)
    · rw [Int.toNat_natCast, r1] at h
      exact b_Finds_tellOf_20 (k 1 (Or.inl ⟨rfl, i, hx, h⟩))
  · intro _ hi
    obtain ⟨-, hi⟩ := hi
    refine b_Finds_tellOf_2 (by omega) (fun h => ?_) (fun h => by omega)
    exact b_Finds_tellOf_28 (k 0 (Or.inr ⟨rfl, fun ⟨i, h1, h2⟩ => hi i h1 h2⟩))
theorem c_Finds_holdFrom (hf : FD I) (hr : mRng I) (hc : jx_City (jx_0 L) c) (ht : tcOk I c x2) (hs : spOk I x2 x3) (k : ∀ v, (v = 1 ∧ soP I x2 x3) ∨ (v = 0 ∧ ¬ soP I x2 x3) → K (some (.inl v)) I) : Cx (jx_0 L) (d + 3) md_Finds_holdFrom [.inr (.inl 103), .inr (.inl c), .inl x2, .inl x3] I K := by
  obtain ⟨f1, f2, f3⟩ := hf
  unfold mRng at hr
  have ht0 := ht.1
  have htl := ht.2.2.1
  have hla := fun n hn => la_sp (n := n) ht.2.2.1 hs hn
  have hro : ∀ s, spOk I x2 s → 0 ≤ roF I x2 s ∧ roF I x2 s < 6 := fun s hs' => by
    unfold roF spOk at *
    rcases hs' with q | q
    · have h4 := (ht.2.2.2 s.toNat (by omega)).2
      rw [if_pos (by omega), show (4 * x2 + s).toNat = (4 * x2 + ((s.toNat : Nat) : Int)).toNat by omega]
      exact h4
    · rw [if_neg (by omega)]
      omega
  refine b_Finds_holdFrom_0 hc ?_
  refine lp_up (σ := Unit) (Inv := fun x _ => 0 ≤ x ∧ ∀ i : Nat, (i : Int) < x → I 175 (3 * i) = x2 → roF I x2 (laF I x2 x3 (I 175 (3 * i + 2))) = I 175 (3 * i + 1)) (G := fun x _ => Gx (jx_0 L) (d + 3) md_Finds_holdFrom 3 [some (.inr (.inl 103)), some (.inr (.inl c)), some (.inl x2), some (.inl x3), some (.inl x)] [] I K) (I 167 13) ?_ ?_ 0 () (by omega) ⟨by omega, fun i h => by omega⟩
  · intro x _ hx hi ih
    obtain ⟨h0, hi⟩ := hi
    obtain ⟨i, rfl⟩ : ∃ i : Nat, x = i := ⟨x.toNat, by omega⟩
    obtain ⟨r1, r2, r3⟩ := f3 i hx
    obtain ⟨q1, q2, q3⟩ := f1 i hx
    have next : (I 175 (3 * i) = x2 → roF I x2 (laF I x2 x3 (I 175 (3 * i + 2))) = I 175 (3 * i + 1)) → Gx (jx_0 L) (d + 3) md_Finds_holdFrom 48 [some (.inr (.inl 103)), some (.inr (.inl c)), some (.inl x2), some (.inl x3), some (.inl (i : Int))] [] I K := by
      intro hn
      refine b_Finds_holdFrom_48 ?_
      refine ih () ⟨by omega, fun i' hi' => ?_⟩
      by_cases ei : i' = i
      · rw [ei]; exact hn
      · exact hi i' (by omega)
    refine b_Finds_holdFrom_3 (by omega) (fun h => by omega) (fun h => ?_)
    refine b_Finds_holdFrom_12 (by rw [Int.toNat_natCast, r1]; omega) (fun h => ?_) (fun h => ?_)
    · rw [Int.toNat_natCast, r1] at h
      exact next (fun q => absurd q h)
    · rw [Int.toNat_natCast, r1] at h
      refine b_Finds_holdFrom_23 hc (by omega) ?_
      rw [Int.toNat_natCast, r3]
      refine c_City_roomIn hc ht hs (by omega) ?_
      have hb := hro _ (hla (I 175 (3 * i + 2)) (by omega))
      refine b_Finds_holdFrom_36 (by rw [Int.toNat_natCast, r2]; omega) (fun h' => ?_) (fun h' => ?_)
      · rw [Int.toNat_natCast, r2] at h'
        exact next (fun _ => h')
      · rw [Int.toNat_natCast, r2] at h'
        exact b_Finds_holdFrom_46 (k 0 (Or.inr ⟨rfl, fun q => h' (q i hx h)⟩))
  · intro _ hi
    obtain ⟨-, hi⟩ := hi
    refine b_Finds_holdFrom_3 (by omega) (fun h => ?_) (fun h => by omega)
    exact b_Finds_holdFrom_54 (k 1 (Or.inl ⟨rfl, hi⟩))
theorem c_M_isFound (hf : foOk (I 167 0) (I 167 5) (I 167 13) (I 175)) (hr : mRng I) (hz : 0 ≤ x1 ∧ x1 < 5) (k : ∀ v, (v = 1 ∧ fdP I x1) ∨ (v = 0 ∧ ¬ fdP I x1) → K (some (.inl v)) I) : Cx (jx_0 L) d md_M_isFound [.inr (.inl 167), .inl x1] I K := by
  unfold mRng at hr
  refine b_M_isFound_0 ?_
  refine lp_up (σ := Int) (Inv := fun x v => 0 ≤ x ∧ ((v = 1 ∧ fdP I x1) ∨ (v = 0 ∧ ∀ i : Nat, (i : Int) < x → ¬ I 175 (3 * i) = x1))) (G := fun x v => Gx (jx_0 L) d md_M_isFound 4 [some (.inr (.inl 167)), some (.inl x1), some (.inl v), some (.inl x)] [] I K) (I 167 13) ?_ ?_ 0 0 (by omega) ⟨by omega, Or.inr ⟨rfl, fun i h => by omega⟩⟩
  · intro x v hx hi ih
    obtain ⟨h0, hi⟩ := hi
    obtain ⟨i, rfl⟩ : ∃ i : Nat, x = i := ⟨x.toNat, by omega⟩
    have hv01 : v = 0 ∨ v = 1 := by rcases hi with ⟨q, -⟩ | ⟨q, -⟩ <;> omega
    have q1 := (hf i hx).1
    have e3 : (3 * (i : Int)).toNat = 3 * i := by omega
    refine b_M_isFound_4 (by omega) (fun h => by omega) (fun h => ?_)
    refine b_M_isFound_12 (by omega) (fun h => ?_) (fun h => ?_)
    · refine b_M_isFound_28 ?_
      refine b_M_isFound_33 ?_
      refine ih _ ⟨by omega, Or.inl ⟨rfl, ?_⟩⟩
      rcases hi with ⟨-, q⟩ | ⟨q, -⟩
      · exact q
      · exact absurd q h
    · refine b_M_isFound_16 (by rw [e3]; omega) (fun h' => ?_) (fun h' => ?_)
      · rw [e3] at h'
        refine b_M_isFound_32 ?_
        refine b_M_isFound_33 ?_
        refine ih _ ⟨by omega, Or.inr ⟨rfl, fun i' hi' => ?_⟩⟩
        rcases hi with ⟨q, -⟩ | ⟨-, q⟩
        · omega
        · by_cases ei : i' = i
          · rw [ei]; exact h'
          · exact q i' (by omega)
      · rw [e3] at h'
        refine b_M_isFound_28 ?_
        refine b_M_isFound_33 ?_
        exact ih _ ⟨by omega, Or.inl ⟨rfl, i, hx, h'⟩⟩
  · intro v hi
    obtain ⟨-, hi⟩ := hi
    refine b_M_isFound_4 (by omega) (fun h => ?_) (fun h => by omega)
    refine b_M_isFound_40 (by rcases hi with ⟨q, -⟩ | ⟨q, -⟩ <;> omega) (k v ?_)
    rcases hi with q | ⟨q1, q2⟩
    · exact Or.inl q
    · exact Or.inr ⟨q1, fun ⟨i, h1, h2⟩ => q2 i h1 h2⟩
end FINDS
