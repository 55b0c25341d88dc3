/-! ===== the law from its first instruction on ===== -/
theorem dc_L_law_0 : jm_dc md_L_law.2.1 0 [(.new 7, 3), (.dup, 1), (.invokespecial 9, 3), (.astore_n 1, 1), (.new 10, 3), (.dup, 1), (.invokespecial 12, 3), (.astore_n 2, 1)] = true := by decide +kernel
theorem fst_z2 {I J : jm_I} (hz : izero I 0) (h : fst1 (fst0 I) J) : izero J 166 := fun a ha k => fst_z hz h (by omega) (by omega) (by omega) (by omega) (by omega) (by omega) k
section LAWSTART
variable {L d : Nat} {I : jm_I} {K : Option jm_V → jm_I → Prop} {f : Nat → Int}
theorem law_start (hL : L ≤ 2560) (hf : ∀ k, k < L → -2147483648 ≤ f k ∧ f k < 2147483648) (hK : ∀ I, K (some (.inl 1)) I) (hz : izero I 0) (hsc : ∀ k, k < L → I 0 k = f k) : jm_Go (d + 100 + 1) 187 2904 md_L_law 0 [some (.inr (.inl 0)), none, none, none] [] (stg L 0 0 [] I) (jx_Q (jx_0 L) K) := by
  have hd := dc_L_law_0
  have hr : rle [] 0 := fun t ht => by cases ht
  refine sg_new (c := 8) (n' := 1) (sl' := 15) (mc := 186) (ms := 2889) hz hr co_X8 cl_lw_7 w_ni_8 w_it_8 rfl rfl rfl rfl rfl hd (fun hd => ?_)
  refine go_dup rfl hd (fun hd => ?_)
  have hd2 := jm_d2 hd
  refine go_init (mc1 := 165) (ms1 := 1397) (mc2 := 21) (ms2 := 1492) 1 [.inr (.inl 1)] mk_X_init rfl rfl ml_lw_9 in_X_init (by decide) (Nat.le_of_ble_eq_true rfl) rfl rfl rfl hd (kk_1 (iz_m hz (by decide)) (fun J hJ => ?_))
  show jm_Go (d + 100 + 1) 21 1492 md_L_law 7 [some (.inr (.inl 0)), none, none, none] [.inr (.inl 1)] (stg L 166 1412 rk_1 J) (jx_Q (jx_0 L) K)
  have hd := hd2
  have hz2 : izero J 166 := fst_z2 hz hJ
  have hr2 : rle rk_1 166 := by decide +kernel
  refine go_astore_n (by decide) hd (fun hd => ?_)
  refine sg_new (c := 9) (n' := 167) (sl' := 1451) (mc := 20) (ms := 1453) hz2 hr2 co_X9 cl_lw_10 w_ni_9 w_it_9 rfl rfl rfl rfl rfl hd (fun hd => ?_)
  refine go_dup rfl hd (fun hd => ?_)
  have hd2 := jm_d2 hd
  refine go_init (mc1 := 20) (ms1 := 1453) (mc2 := 0) (ms2 := 0) 167 [.inr (.inl 167)] mk_M_init rfl rfl ml_lw_12 in_M_init (by decide) (Nat.le_of_ble_eq_true rfl) rfl rfl rfl hd (kk_167 (iz_m hz2 (by decide)) (rl_m hr2 (by decide)) ?_)
  show jm_Go (d + 100 + 1) 0 0 md_L_law 15 [some (.inr (.inl 0)), some (.inr (.inl 1)), none, none] [.inr (.inl 167)] (stg L 187 2904 (rk_167 ++ rk_1) (jm_up (jm_up J 167 0 2) 167 3 10)) (jx_Q (jx_0 L) K)
  have hd := hd2
  obtain ⟨hrel, hsc2⟩ := fst_rel hz hJ
  refine go_astore_n (by decide) hd (fun hd => ?_)
  have hP : ∀ A : jm_I, stg L 187 2904 (rk_167 ++ rk_1) A = jx (jx_0 L) A := fun A => by
    show jx (stP L 187 2904 (rk_167 ++ rk_1)) A = _
    rw [fin_P]
  rw [hP]
  show Gx (jx_0 L) (d + 100 + 1) md_L_law 16 [some (.inr (.inl 0)), some (.inr (.inl 1)), some (.inr (.inl 167)), none] [] (jm_up (jm_up J 167 0 2) 167 3 10) K
  exact b_L_law_16 (law_loop hL hf hK L 0 _ (by omega) (by omega) (by omega) hrel (fun k hk => (hsc2 k).trans (hsc k hk)))
end LAWSTART
theorem co_all {c : Nat} (h : c < 10) : jm_COk c ∧ Cond.instantiable (jm_cn c) (jm_nf c) ∈ jm_gt := by
  rcases (show c = 0 ∨ c = 1 ∨ c = 2 ∨ c = 3 ∨ c = 4 ∨ c = 5 ∨ c = 6 ∨ c = 7 ∨ c = 8 ∨ c = 9 by omega) with rfl | rfl | rfl | rfl | rfl | rfl | rfl | rfl | rfl | rfl
  · exact ⟨co_X0, w_ni_0⟩
  · exact ⟨co_X1, w_ni_1⟩
  · exact ⟨co_X2, w_ni_2⟩
  · exact ⟨co_X3, w_ni_3⟩
  · exact ⟨co_X4, w_ni_4⟩
  · exact ⟨co_X5, w_ni_5⟩
  · exact ⟨co_X6, w_ni_6⟩
  · exact ⟨co_X7, w_ni_7⟩
  · exact ⟨co_X8, w_ni_8⟩
  · exact ⟨co_X9, w_ni_9⟩
/-- what the tables say of the classes -/
theorem st_K {s : State} {args : Array Value} (hts : ∀ w ∈ jm_gt, w.before args s = true) (hN : ∀ w ∈ jm_nw, w.before #[] s = true) : ∃ (D : va_G) (cI cZ cO cA : ClassId), va_K D vwCl [(cI, .int), (cZ, .boolean), (cO, .object RX5), (cA, .array .int)] s := by
  have h : ∀ c : Nat, ∃ y : ClassId × (Nat → Nat), c < 10 → u_Kn s (jm_cn c) (jm_T c) (jm_nf c) y.1 y.2 := by
    intro c
    by_cases hc : c < 10
    · obtain ⟨hC, hi⟩ := co_all hc
      obtain ⟨cC, iS, h1⟩ := u_known hts hC.2.1 (hts _ hi)
      exact ⟨(cC, iS), fun _ => h1⟩
    · exact ⟨(0, fun _ => 0), fun h => absurd h hc⟩
  obtain ⟨f, hf⟩ := Classical.axiomOfChoice h
  obtain ⟨cI, kI, pI, i1, i2, i3⟩ := Cond.arrayClass_spec (hts _ w_ar_int)
  obtain ⟨cZ, kZ, pZ, z1, z2, z3⟩ := Cond.arrayClass_spec (hts _ w_ar_boolean)
  obtain ⟨pO, cO, kO, o1, -, o3, o4, o5⟩ := Cond.arrayOver_spec (hN _ w_ao5)
  obtain ⟨pA, cA, kA, a1, a3, a4, a5⟩ := Cond.arrayOver_specA (hN _ w_aoI)
  refine ⟨(fun c => (f c).1, fun c => (f c).2), cI, cZ, cO, cA, fun c q hq => ?_, fun k q hk => ?_⟩
  · have hc : c < 10 := (List.getElem?_eq_some_iff.mp hq).1
    have e := Option.some.inj (hq.symm.trans (co_all hc).1.1)
    subst e
    exact hf c hc
  · have hk4 : k < 4 := (List.getElem?_eq_some_iff.mp hk).1
    rcases (show k = 0 ∨ k = 1 ∨ k = 2 ∨ k = 3 by omega) with rfl | rfl | rfl | rfl
    · cases hk
      exact ⟨fun n z => ⟨fun _ h => (by cases h), kI, i2, pI, i3⟩, i1⟩
    · cases hk
      exact ⟨fun n z => ⟨fun _ h => (by cases h), kZ, z2, pZ, z3⟩, z1⟩
    · cases hk
      exact ⟨fun n z => ⟨fun _ h => (by cases h), kO, o3, pO, o4⟩, kO, pO, o3, o4, o1, o5⟩
    · cases hk
      exact ⟨fun n z => ⟨fun _ h => (by cases h), kA, a3, pA, a4⟩, a5⟩
/-- the words beside, of no arguments -/
theorem st_N {s : State} {args : Array Value} (hts : ∀ w ∈ lw_tbl, w.before args s = true) : ∀ w ∈ jm_nw, w.before #[] s = true := by
  intro w hw
  obtain ⟨hm, h2⟩ := List.mem_filter.mp hw
  have h1 := hts w hm
  unfold jm_nOk at h2
  split at h2
  · exact h1
  · exact h1
  · cases h2
/-- new cells alone were written -/
theorem st_F {s t : State} {o : Outcome} {L : List Loc} {k n k' n' : Nat} (h : FrameEnd s o t L k n) (hL : ∀ q ∈ L, s.heap.size ≤ q.base) (hk : k ≤ k') (hn : n ≤ n') : Framed s o t [] k' n' := by
  obtain ⟨h1, h2, h3, h4, h5, h6, h7, h8⟩ := h
  refine ⟨h1, h2, h3, h4, Nat.le_trans h5 (by omega), h6, Nat.le_trans h7 hn, fun a c hc => ?_⟩
  obtain ⟨c', q1, q2, q3, q4⟩ := h8 a c hc
  refine ⟨c', q1, q2, q3, fun i _ => q4 i (fun hm => ?_)⟩
  have g1 := hL _ hm
  have g2 := (Array.getElem?_eq_some_iff.mp hc).1
  exact absurd g1 (Nat.not_le.mpr g2)
def st_I (xs : Nat → Int32) : jm_I := fun a k => if a = 0 then (xs k).toInt else 0
theorem st_Rp {l : Launch} {D : va_G} {cs : ClassId × ClassId × ClassId × ClassId} {H : Heap} {b L : Nat} {xs : Nat → Int32} : jm_Rp (l, D, cs, (H.size, b, L, xs)) (stg L 0 0 [] (st_I xs)) H := by
  refine ⟨rfl, fun k q hk => ?_, fun a ha => ?_, rfl, fun k _ => rfl⟩
  · have : ([] : va_W)[k]? = some q := hk
    cases this
  · have ha' : (if a ≤ 0 then jx_S L a else (99, 0)).1 < 98 := ha
    by_cases h : a ≤ 0
    · rw [if_pos h, show a = 0 by omega] at ha'
      exact absurd ha' (by show ¬ (98 < 98); omega)
    · rw [if_neg h] at ha'
      omega
