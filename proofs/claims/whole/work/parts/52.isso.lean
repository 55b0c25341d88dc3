/-! ===== what was found: the model ===== -/
section ISSO
variable {L d : Nat} {I : jm_I} {K : Option jm_V → jm_I → Prop} {x0 x1 x2 x3 x4 : Int} {c e : Nat}
theorem c_M_isSo (hm : mOk I) (hz : 0 ≤ x1 ∧ x1 < I 167 5) (hs : spOk I x1 x2) (k : ∀ v, (v = 1 ∧ soP I x1 x2) ∨ (v = 0 ∧ ¬ soP I x1 x2) → K (some (.inl v)) I) : Cx (jx_0 L) (d + 1) md_M_isSo [.inr (.inl 167), .inl x1, .inl x2] I K := by
  have hf := hm.2.2.2.2.2.2.1
  have hto := th_of hm hz.1 hz.2
  have hr := hm.1
  unfold mRng at hr
  have hl := hto.2.1
  have hs10 : 0 ≤ x2 ∧ x2 < 10 := by unfold spOk at hs; omega
  have hla := fun n hn => la_sp (n := n) hl hs hn
  have hro : ∀ s, spOk I x1 s → 0 ≤ roF I x1 s ∧ roF I x1 s < 6 := fun s hs' => by
    unfold roF spOk at *
    rcases hs' with q | q
    · have h4 := hto.2.2.1 s.toNat (by omega)
      rw [if_pos (by omega), show (4 * x1 + s).toNat = (4 * x1 + ((s.toNat : Nat) : Int)).toNat by omega]
      exact h4
    · rw [if_neg (by omega)]
      omega
  refine b_M_isSo_0 ?_
  refine lp_up (σ := Int) (Inv := fun x v => 0 ≤ x ∧ ((v = 0 ∧ ¬ soP I x1 x2) ∨ (v = 1 ∧ ∀ i : Nat, (i : Int) < x → I 175 (3 * i) = x1 → roF I x1 (laF I x1 x2 (I 175 (3 * i + 2))) = I 175 (3 * i + 1)))) (G := fun x v => Gx (jx_0 L) (d + 1) md_M_isSo 5 [some (.inr (.inl 167)), some (.inl x1), some (.inl x2), some (.inl v), some (.inl x)] [] I K) (I 167 13) ?_ ?_ 0 1 (by omega) ⟨by omega, Or.inr ⟨rfl, fun i h => by omega⟩⟩
  · intro x v hx hi ih
    obtain ⟨h0, hi⟩ := hi
    obtain ⟨i, rfl⟩ : ∃ i : Nat, x = i := ⟨x.toNat, by omega⟩
    have hv01 : v = 0 ∨ v = 1 := by rcases hi with ⟨q, -⟩ | ⟨q, -⟩ <;> omega
    obtain ⟨q1, q2, q3⟩ := hf i hx
    have e3 : (3 * (i : Int)).toNat = 3 * i := by omega
    have e31 : (3 * (i : Int) + 1).toNat = 3 * i + 1 := by omega
    have e32 : (3 * (i : Int) + 2).toNat = 3 * i + 2 := by omega
    refine b_M_isSo_5 (by omega) (fun h => by omega) (fun h => ?_)
    refine b_M_isSo_14 (by omega) (fun h => ?_) (fun h => ?_)
    · refine b_M_isSo_71 ?_
      refine b_M_isSo_72 ?_
      refine ih _ ⟨by omega, Or.inl ⟨rfl, ?_⟩⟩
      rcases hi with ⟨-, q⟩ | ⟨q, -⟩
      · exact q
      · omega
    · have hno : ∀ i' : Nat, (i' : Int) < (i : Int) → I 175 (3 * i') = x1 → roF I x1 (laF I x1 x2 (I 175 (3 * i' + 2))) = I 175 (3 * i' + 1) := by
        rcases hi with ⟨q, -⟩ | ⟨-, q⟩
        · omega
        · exact q
      have next : (I 175 (3 * i) = x1 → roF I x1 (laF I x1 x2 (I 175 (3 * i + 2))) = I 175 (3 * i + 1)) → Gx (jx_0 L) (d + 1) md_M_isSo 67 [some (.inr (.inl 167)), some (.inl x1), some (.inl x2), some (.inl v), some (.inl (i : Int))] [] I K := by
        intro hn
        refine b_M_isSo_67 ?_
        refine b_M_isSo_72 ?_
        refine ih _ ⟨by omega, Or.inr ⟨rfl, fun i' hi' => ?_⟩⟩
        by_cases ei : i' = i
        · rw [ei]; exact hn
        · exact hno i' (by omega)
      refine b_M_isSo_18 (by rw [e3]; omega) (fun h' => ?_) (fun h' => ?_)
      · rw [e3] at h'
        exact next (fun q => absurd q h')
      · rw [e3] at h'
        refine b_M_isSo_31 (by omega) ?_
        rw [e32]
        refine c_M_later (by omega) (fun w hw => ?_)
        have hwl : w = laF I x1 x2 (I 175 (3 * i + 2)) := by
          unfold laF
          rcases hw with ⟨w1, w2⟩ | ⟨w1, w2⟩
          · rw [if_pos w1]; exact w2
          · rw [if_neg (by omega)]; exact w2
        have hsp := hla (I 175 (3 * i + 2)) (by omega)
        rw [← hwl] at hsp
        have hb := hro _ hsp
        have hw10 : 0 ≤ w ∧ w < 10 := by unfold spOk at hsp; omega
        refine b_M_isSo_50 (c_M_roomOf (by omega) (fun y hy => ?_))
        have hyl : y = roF I x1 w := by
          unfold roF
          rcases hy with ⟨w1, w2⟩ | ⟨w1, w2⟩
          · rw [if_pos w1]; exact w2
          · rw [if_neg (by omega)]; exact w2
        refine b_M_isSo_53 (by rw [e31]; omega) (fun h'' => ?_) (fun h'' => ?_)
        · rw [e31, hyl, hwl] at h''
          refine b_M_isSo_71 ?_
          refine b_M_isSo_72 ?_
          exact ih _ ⟨by omega, Or.inl ⟨rfl, fun q => h'' (q i hx h')⟩⟩
        · rw [e31, hyl, hwl] at h''
          exact next (fun _ => h'')
  · intro v hi
    obtain ⟨-, hi⟩ := hi
    refine b_M_isSo_5 (by omega) (fun h => ?_) (fun h => by omega)
    refine b_M_isSo_79 (by rcases hi with ⟨q, -⟩ | ⟨q, -⟩ <;> omega) (k v ?_)
    rcases hi with q | ⟨q1, q2⟩
    · exact Or.inr q
    · exact Or.inl ⟨q1, q2⟩
end ISSO
