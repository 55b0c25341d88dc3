/-! ===== moments and what is remembered ===== -/
theorem cpy_o {I : jm_I} {a0 a1 sp dp n b : Nat} (h : b ≠ a1) : jm_cpy I a0 a1 sp dp n b = I b := by
  funext k
  simp [jm_cpy, h]
theorem cpy_s {I : jm_I} {a0 a1 n k : Nat} (h : k < n) : jm_cpy I a0 a1 0 0 n a1 k = I a0 k := by
  simp [jm_cpy, h]
/-- the moment at a0 becomes as that at a1 -/
def cpM (I J : jm_I) (a0 a1 : Nat) : Prop := (∀ a, (a < a0 ∨ a0 + 4 < a) → J a = I a) ∧ J a0 0 = I a1 0 ∧ J a0 1 = I a1 1 ∧ ∀ k, k < 5 → J (a0 + 1) k = I (a1 + 1) k ∧ J (a0 + 2) k = I (a1 + 2) k ∧ J (a0 + 3) k = I (a1 + 3) k ∧ J (a0 + 4) k = I (a1 + 4) k
theorem c_Moment_copyFrom {P : jm_P} {d : Nat} {I : jm_I} {K : Option jm_V → jm_I → Prop} {a0 a1 : Nat} (h0 : jx_Mom P a0) (h1 : jx_Mom P a1) (hap : a0 + 5 ≤ a1 ∨ a1 + 5 ≤ a0) (k : ∀ J, cpM I J a0 a1 → K none J) : Cx P d md_Moment_copyFrom [.inr (.inl a0), .inr (.inl a1)] I K := by
  refine b_Moment_copyFrom_0 h0 h1 ?_
  refine k _ ⟨fun a ha => ?_, ?_, ?_, fun q hq => ⟨?_, ?_, ?_, ?_⟩⟩
  · rw [cpy_o (by omega), cpy_o (by omega), cpy_o (by omega), cpy_o (by omega), jm_up_o (by omega), jm_up_o (by omega)]
  · rw [cpy_o (by omega), cpy_o (by omega), cpy_o (by omega), cpy_o (by omega), up_k (by omega), up_s]
  · rw [cpy_o (by omega), cpy_o (by omega), cpy_o (by omega), cpy_o (by omega), up_s, up_a (by omega)]
  · rw [cpy_o (by omega), cpy_o (by omega), cpy_o (by omega), cpy_s hq, up_a (by omega), up_a (by omega)]
  · rw [cpy_o (by omega), cpy_o (by omega), cpy_s hq, cpy_o (by omega), up_a (by omega), up_a (by omega)]
  · rw [cpy_o (by omega), cpy_s hq, cpy_o (by omega), cpy_o (by omega), up_a (by omega), up_a (by omega)]
  · rw [cpy_s hq, cpy_o (by omega), cpy_o (by omega), cpy_o (by omega), up_a (by omega), up_a (by omega)]
theorem xMm_cp {np nt : Int} {I J : jm_I} {a0 a1 : Nat} {f : Nat → Int} (hn : np ≤ 5 ∧ nt ≤ 5) (h : cpM I J a0 a1) (hx : xMm np nt (I a1) (I (a1 + 1)) (I (a1 + 2)) (I (a1 + 3)) (I (a1 + 4)) f) : xMm np nt (J a0) (J (a0 + 1)) (J (a0 + 2)) (J (a0 + 3)) (J (a0 + 4)) f := by
  obtain ⟨-, c0, c1, c2⟩ := h
  obtain ⟨x0, x1, x2, x3⟩ := hx
  refine ⟨by rw [c0]; exact x0, by rw [c1]; exact x1, fun p hp => ?_, fun t ht => ?_⟩
  · obtain ⟨q1, q2, q3, -⟩ := c2 p (by omega)
    rw [q1, q2, q3]
    exact x2 p hp
  · rw [(c2 t (by omega)).2.2.2]
    exact x3 t ht
theorem xMm_f {np nt : Int} {h r a l s f g : Nat → Int} (hn : np ≤ 5 ∧ nt ≤ 5) (e : ∀ k, k < 27 → g k = f k) (hx : xMm np nt h r a l s f) : xMm np nt h r a l s g := by
  obtain ⟨x0, x1, x2, x3⟩ := hx
  refine ⟨by rw [e 0 (by omega)]; exact x0, by rw [e 16 (by omega)]; exact x1, fun p hp => ?_, fun t ht => ?_⟩
  · rw [e (1 + p) (by omega), e (6 + p) (by omega), e (11 + p) (by omega)]; exact x2 p hp
  · rw [e (22 + t) (by omega), e (17 + t) (by omega)]; exact x3 t ht
theorem stOk_f {nr np nt : Int} {lo ro f g : Nat → Int} (hn : np ≤ 5 ∧ nt ≤ 5) (e : ∀ k, k < 27 → g k = f k) (hx : stOk nr np nt lo ro f) : stOk nr np nt lo ro g := by
  obtain ⟨x0, x1, x2, x3⟩ := hx
  refine ⟨by rw [e 0 (by omega)]; exact x0, by rw [e 16 (by omega)]; exact x1, fun p hp => ?_, fun t ht => ?_⟩
  · rw [e (1 + p) (by omega), e (11 + p) (by omega)]; exact x2 p hp
  · rw [e (22 + t) (by omega), e (17 + t) (by omega)]; exact x3 t ht
/-- the class has remembered -/
def rmC (I J : jm_I) : Prop := (∀ a, a ≠ 49 → (a < 51 + 5 * (I 49 1).toNat ∨ 51 + 5 * (I 49 1).toNat + 4 < a) → J a = I a) ∧ J 49 1 = (I 49 1 + 1) % 10 ∧ J 49 2 = min (I 49 2 + 1) 10 ∧ (J (51 + 5 * (I 49 1).toNat) 0 = I 44 0 ∧ J (51 + 5 * (I 49 1).toNat) 1 = I 44 1) ∧ ∀ k, k < 5 → J (51 + 5 * (I 49 1).toNat + 1) k = I 45 k ∧ J (51 + 5 * (I 49 1).toNat + 2) k = I 46 k ∧ J (51 + 5 * (I 49 1).toNat + 3) k = I 47 k ∧ J (51 + 5 * (I 49 1).toNat + 4) k = I 48 k
theorem c_History_remember {L d : Nat} {I : jm_I} {K : Option jm_V → jm_I → Prop} (hz : (0 ≤ I 49 1 ∧ I 49 1 < 10) ∧ (0 ≤ I 49 2 ∧ I 49 2 ≤ 10)) (k : ∀ J, rmC I J → K none J) : Cx (jx_0 L) (d + 1) md_History_remember [.inr (.inl 49), .inr (.inl 44)] I K := by
  refine b_History_remember_0 jx_m44 hz.1 (c_Moment_copyFrom (rw_M50 hz.1.1 hz.1.2) jx_m44 (by omega) (fun J hJ => ?_))
  obtain ⟨j1, j2, j3, j4⟩ := hJ
  have e49 : J 49 = I 49 := j1 49 (by omega)
  refine b_History_remember_13 (by rw [e49]; omega) ?_
  rw [e49]
  have oth : ∀ a, a ≠ 49 → jm_up (jm_up J 49 1 ((I 49 1 + 1) % 10)) 49 2 (min (I 49 2 + 1) 10) a = J a := fun a ha => by rw [jm_up_o ha, jm_up_o ha]
  refine k _ ⟨fun a ha hb => by rw [oth a ha]; exact j1 a hb, by rw [up_k (by decide), up_s], up_s, ⟨by rw [oth _ (by omega)]; exact j2, by rw [oth _ (by omega)]; exact j3⟩, fun q hq => ?_⟩
  rw [oth _ (by omega), oth _ (by omega), oth _ (by omega), oth _ (by omega)]
  exact j4 q hq
/-- what the city is -/
def base (I J : jm_I) : Prop := (J 167 0 = I 167 0 ∧ J 167 1 = I 167 1 ∧ J 167 3 = I 167 3 ∧ J 167 4 = I 167 4 ∧ J 167 5 = I 167 5) ∧ J 168 = I 168 ∧ J 169 = I 169 ∧ J 170 = I 170
def xHist (I : jm_I) : Prop := I 49 2 = I 167 10 ∧ (0 ≤ I 49 1 ∧ I 49 1 < 10) ∧ ∀ i : Nat, (i : Int) < I 167 10 → xMom I (51 + 5 * hix I i) (fun k => I 172 (27 * i + k))
def mHist (I : jm_I) : Prop := ∀ i : Nat, (i : Int) < I 167 10 → stI I (fun k => I 172 (27 * i + k))
theorem stI_b {I J : jm_I} {f : Nat → Int} (hb : base I J) (h : stI I f) : stI J f := by
  obtain ⟨⟨b0, -, -, b4, b5⟩, -, b9, b10⟩ := hb
  unfold stI at *
  rw [b0, b4, b5, b9, b10]
  exact h
/-- both have remembered -/
theorem rem_both {I J A : jm_I} (hr : mRng I) (hm : xMom I 44 (I 171)) (hs : stI I (I 171)) (hh : xHist I) (hmh : mHist I) (hJ : rmC I J) (hA : ∀ a, 49 ≤ a → a ≤ 100 → A a = J a) (hb : base I A) (hk : A 167 10 = remF I 167 10) (hw : A 172 = remF I 172) : xHist A ∧ mHist A := by
  obtain ⟨j1, j2, j3, j4, j5⟩ := hJ
  obtain ⟨h1, h2, h3⟩ := hh
  unfold mRng at hr
  have hn : I 167 4 ≤ 5 ∧ I 167 5 ≤ 5 := by omega
  have a49 := hA 49 (by omega) (by omega)
  have hk2 : A 167 10 = if I 167 10 = 10 then 10 else I 167 10 + 1 := by rw [hk]; simp [remF, jm_up]
  have hw2 : A 172 = remW I := by rw [hw]; funext k; simp [remF, jm_up, st_]
  have b4 : A 167 4 = I 167 4 := hb.1.2.2.2.1
  have b5 : A 167 5 = I 167 5 := hb.1.2.2.2.2
  generalize hnx : I 49 1 = nx at *
  generalize hkn : I 167 10 = kn at *
  have key : ∀ i : Nat, (i : Int) < A 167 10 → ∃ f : Nat → Int, (∀ k, k < 27 → A 172 (27 * i + k) = f k) ∧ stI I f ∧ xMm (I 167 4) (I 167 5) (A (51 + 5 * hix A i)) (A (51 + 5 * hix A i + 1)) (A (51 + 5 * hix A i + 2)) (A (51 + 5 * hix A i + 3)) (A (51 + 5 * hix A i + 4)) f := by
    intro i hi
    have hxA : hix A i = (((nx + 1) % 10 + 10 - A 167 10 + i) % 10).toNat := by unfold hix; rw [a49, j2]
    have hlt : hix A i < 10 := by rw [hxA]; omega
    have old : ∀ i' : Nat, (i' : Int) < kn → hix A i = hix I i' → hix A i ≠ nx.toNat → (∀ k, k < 27 → A 172 (27 * i + k) = I 172 (27 * i' + k)) → ∃ f : Nat → Int, (∀ k, k < 27 → A 172 (27 * i + k) = f k) ∧ stI I f ∧ xMm (I 167 4) (I 167 5) (A (51 + 5 * hix A i)) (A (51 + 5 * hix A i + 1)) (A (51 + 5 * hix A i + 2)) (A (51 + 5 * hix A i + 3)) (A (51 + 5 * hix A i + 4)) f := by
      intro i' hi' he hne hrow
      have hx := h3 i' hi'
      unfold xMom at hx
      rw [← he] at hx
      refine ⟨fun k => I 172 (27 * i' + k), hrow, hmh i' (by rw [hkn]; exact hi'), ?_⟩
      have hc : ∀ o, o ≤ 4 → A (51 + 5 * hix A i + o) = I (51 + 5 * hix A i + o) := fun o ho => by
        rw [hA _ (by omega) (by omega), j1 _ (by omega) (by omega)]
      have hc0 := hc 0 (by omega)
      rw [Nat.add_zero] at hc0
      rw [hc0, hc 1 (by omega), hc 2 (by omega), hc 3 (by omega), hc 4 (by omega)]
      exact hx
    have new : hix A i = nx.toNat → (∀ k, k < 27 → A 172 (27 * i + k) = I 171 k) → ∃ f : Nat → Int, (∀ k, k < 27 → A 172 (27 * i + k) = f k) ∧ stI I f ∧ xMm (I 167 4) (I 167 5) (A (51 + 5 * hix A i)) (A (51 + 5 * hix A i + 1)) (A (51 + 5 * hix A i + 2)) (A (51 + 5 * hix A i + 3)) (A (51 + 5 * hix A i + 4)) f := by
      intro he hrow
      refine ⟨I 171, hrow, hs, ?_⟩
      have hcp : cpM I (fun a => if 51 + 5 * nx.toNat ≤ a ∧ a ≤ 51 + 5 * nx.toNat + 4 then J a else I a) (51 + 5 * nx.toNat) 44 := by
        refine ⟨fun a ha => if_neg (by omega), ?_, ?_, fun k hk5 => ?_⟩
        · simp only [if_pos (show 51 + 5 * nx.toNat ≤ 51 + 5 * nx.toNat ∧ 51 + 5 * nx.toNat ≤ 51 + 5 * nx.toNat + 4 by omega)]; exact j4.1
        · simp only [if_pos (show 51 + 5 * nx.toNat ≤ 51 + 5 * nx.toNat ∧ 51 + 5 * nx.toNat ≤ 51 + 5 * nx.toNat + 4 by omega)]; exact j4.2
        · simp only [if_pos (show 51 + 5 * nx.toNat ≤ 51 + 5 * nx.toNat + 1 ∧ 51 + 5 * nx.toNat + 1 ≤ 51 + 5 * nx.toNat + 4 by omega), if_pos (show 51 + 5 * nx.toNat ≤ 51 + 5 * nx.toNat + 2 ∧ 51 + 5 * nx.toNat + 2 ≤ 51 + 5 * nx.toNat + 4 by omega), if_pos (show 51 + 5 * nx.toNat ≤ 51 + 5 * nx.toNat + 3 ∧ 51 + 5 * nx.toNat + 3 ≤ 51 + 5 * nx.toNat + 4 by omega), if_pos (show 51 + 5 * nx.toNat ≤ 51 + 5 * nx.toNat + 4 ∧ 51 + 5 * nx.toNat + 4 ≤ 51 + 5 * nx.toNat + 4 by omega)]
          exact j5 k hk5
      have hx := xMm_cp hn hcp hm
      simp only [if_pos (show 51 + 5 * nx.toNat ≤ 51 + 5 * nx.toNat ∧ 51 + 5 * nx.toNat ≤ 51 + 5 * nx.toNat + 4 by omega), if_pos (show 51 + 5 * nx.toNat ≤ 51 + 5 * nx.toNat + 1 ∧ 51 + 5 * nx.toNat + 1 ≤ 51 + 5 * nx.toNat + 4 by omega), if_pos (show 51 + 5 * nx.toNat ≤ 51 + 5 * nx.toNat + 2 ∧ 51 + 5 * nx.toNat + 2 ≤ 51 + 5 * nx.toNat + 4 by omega), if_pos (show 51 + 5 * nx.toNat ≤ 51 + 5 * nx.toNat + 3 ∧ 51 + 5 * nx.toNat + 3 ≤ 51 + 5 * nx.toNat + 4 by omega), if_pos (show 51 + 5 * nx.toNat ≤ 51 + 5 * nx.toNat + 4 ∧ 51 + 5 * nx.toNat + 4 ≤ 51 + 5 * nx.toNat + 4 by omega)] at hx
      rw [he, hA _ (by omega) (by omega), hA _ (by omega) (by omega), hA _ (by omega) (by omega), hA _ (by omega) (by omega), hA _ (by omega) (by omega)]
      exact hx
    rw [hk2] at hi hxA
    by_cases h10 : kn = 10
    · rw [if_pos h10] at hi hxA
      by_cases hi9 : i = 9
      · refine new (by rw [hxA]; omega) (fun k hk27 => ?_)
        rw [hw2]
        unfold remW
        rw [hkn, if_pos h10, if_neg (by omega), if_pos (by omega), show 27 * i + k - 243 = k by omega]
      · refine old (i + 1) (by omega) ?_ (by rw [hxA]; omega) (fun k hk27 => ?_)
        · rw [hxA]; unfold hix; rw [hnx, hkn]; omega
        · rw [hw2]
          unfold remW
          rw [hkn, if_pos h10, if_pos (by omega), show 27 * i + k + 27 = 27 * (i + 1) + k by omega]
    · rw [if_neg h10] at hi hxA
      by_cases hik : (i : Int) = kn
      · refine new (by rw [hxA]; omega) (fun k hk27 => ?_)
        rw [hw2]
        unfold remW
        rw [hkn, if_neg h10, if_pos (by omega), show 27 * i + k - 27 * kn.toNat = k by omega]
      · refine old i (by omega) ?_ (by rw [hxA]; omega) (fun k hk27 => ?_)
        · rw [hxA]; unfold hix; rw [hnx, hkn]; omega
        · rw [hw2]
          unfold remW
          rw [hkn, if_neg h10, if_neg (by omega)]
  refine ⟨⟨by rw [a49, j3, hk2, h1]; split <;> omega, by rw [a49, j2]; omega, fun i hi => ?_⟩, fun i hi => ?_⟩
  · obtain ⟨f, f1, f2, f3⟩ := key i hi
    unfold xMom
    rw [b4, b5]
    exact xMm_f hn f1 f3
  · obtain ⟨f, f1, f2, f3⟩ := key i hi
    refine stI_b hb ?_
    exact stOk_f hn f1 f2
