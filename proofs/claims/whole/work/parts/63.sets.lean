/-! ===== presses: sets as numbers ===== -/
theorem jn_toNat {a : Nat} (ha : a < 2147483648) : (BitVec.ofInt 32 (a : Int)).toNat = a := by rw [BitVec.toNat_ofInt]; omega
theorem jn_toInt {b : BitVec 32} {n : Nat} (h : b.toNat = n) (hn : n < 2147483648) : b.toInt = (n : Int) := by
  rw [BitVec.toInt_eq_toNat_of_lt (by omega), h]
theorem jn_or {a b : Nat} (ha : a < 2147483648) (hb : b < 2147483648) : jb_or (a : Int) (b : Int) = ((a ||| b : Nat) : Int) := by
  have hlt : a ||| b < 2 ^ 31 := Nat.or_lt_two_pow (by omega) (by omega)
  show (BitVec.ofInt 32 (a : Int) ||| BitVec.ofInt 32 (b : Int)).toInt = _
  exact jn_toInt (by rw [BitVec.toNat_or, jn_toNat ha, jn_toNat hb]) (by omega)
theorem jn_and {a b : Nat} (ha : a < 2147483648) (hb : b < 2147483648) : jb_and (a : Int) (b : Int) = ((a &&& b : Nat) : Int) := by
  have hlt : a &&& b ≤ b := Nat.and_le_right
  show (BitVec.ofInt 32 (a : Int) &&& BitVec.ofInt 32 (b : Int)).toInt = _
  exact jn_toInt (by rw [BitVec.toNat_and, jn_toNat ha, jn_toNat hb]) (by omega)
theorem jn_xor {a b : Nat} (ha : a < 2147483648) (hb : b < 2147483648) : jb_xor (a : Int) (b : Int) = ((a ^^^ b : Nat) : Int) := by
  have hlt : a ^^^ b < 2 ^ 31 := Nat.xor_lt_two_pow (by omega) (by omega)
  show (BitVec.ofInt 32 (a : Int) ^^^ BitVec.ofInt 32 (b : Int)).toInt = _
  exact jn_toInt (by rw [BitVec.toNat_xor, jn_toNat ha, jn_toNat hb]) (by omega)
theorem jn_sm : ∀ h : Fin 31, ((Int32.ofInt (h.1 : Int) &&& 31).toBitVec.smod 32).toNat = h.1 := by decide +kernel
theorem jn_shr {a h : Nat} (ha : a < 2147483648) (hh : h < 31) : jb_shr (a : Int) (h : Int) = ((a >>> h : Nat) : Int) := by
  show ((BitVec.ofInt 32 (a : Int)).sshiftRight' ((Int32.ofInt (h : Int) &&& 31).toBitVec.smod 32)).toInt = _
  rw [BitVec.sshiftRight', jn_sm ⟨h, hh⟩, BitVec.toInt_sshiftRight, jn_toInt (jn_toNat ha) ha]
  rfl
theorem jn_bit {a h : Nat} (ha : a < 2147483648) (hh : h < 31) : (jb_and (jb_shr (a : Int) (h : Int)) 1 = 1 ∧ a.testBit h = true) ∨ (jb_and (jb_shr (a : Int) (h : Int)) 1 = 0 ∧ a.testBit h = false) := by
  have hs : a >>> h ≤ a := by rw [Nat.shiftRight_eq_div_pow]; exact Nat.div_le_self _ _
  rw [jn_shr ha hh, show (1 : Int) = ((1 : Nat) : Int) from rfl, jn_and (by omega) (by omega), Nat.and_one_is_mod, Nat.testBit_eq_decide_div_mod_eq, Nat.shiftRight_eq_div_pow]
  have := Nat.mod_two_eq_zero_or_one (a / 2 ^ h)
  rcases this with q | q
  · right; rw [q]; simp
  · left; rw [q]; simp
/-- a set of spots -/
def bsP (b : Nat) (Q : Nat → Prop) : Prop := b < 1024 ∧ ∀ k, k < 10 → (b.testBit k = true ↔ Q k)
theorem bs_0 {Q : Nat → Prop} (h : ∀ k, k < 10 → ¬ Q k) : bsP 0 Q := ⟨by decide, fun k hk => by
  rw [Nat.zero_testBit]
  exact ⟨fun q => by simp at q, fun q => absurd q (h k hk)⟩⟩
theorem bs_or {a b : Nat} {Q R S : Nat → Prop} (h1 : bsP a Q) (h2 : bsP b R) (h : ∀ k, k < 10 → (S k ↔ Q k ∨ R k)) : bsP (a ||| b) S ∧ jb_or (a : Int) (b : Int) = ((a ||| b : Nat) : Int) := by
  have hlt : a ||| b < 2 ^ 10 := Nat.or_lt_two_pow h1.1 h2.1
  refine ⟨⟨hlt, fun k hk => ?_⟩, jn_or (by have := h1.1; omega) (by have := h2.1; omega)⟩
  rw [Nat.testBit_or, Bool.or_eq_true, h1.2 k hk, h2.2 k hk, h k hk]
theorem bs_1 {k0 : Nat} (h0 : k0 < 10) {Q : Nat → Prop} (h : ∀ k, k < 10 → (Q k ↔ k = k0)) : bsP (2 ^ k0) Q ∧ jb_shl 1 (k0 : Int) = ((2 ^ k0 : Nat) : Int) := by
  refine ⟨⟨?_, fun k hk => ?_⟩, jb_shl1 ⟨k0, by omega⟩⟩
  · exact Nat.pow_lt_pow_right (n := 10) (by decide) h0
  · rw [Nat.testBit_two_pow, decide_eq_true_iff, h k hk]
    exact ⟨fun q => q.symm, fun q => q.symm⟩
theorem bs_c {a : Nat} {Q R : Nat → Prop} (h1 : bsP a Q) (h : ∀ k, k < 10 → (R k ↔ Q k)) : bsP a R := ⟨h1.1, fun k hk => by rw [h1.2 k hk, h k hk]⟩
theorem bs_and {a b : Nat} {Q R : Nat → Prop} (h1 : bsP a Q) (h2 : bsP b R) : jb_and (a : Int) (b : Int) = 0 ↔ ∀ k, k < 10 → ¬ (Q k ∧ R k) := by
  rw [jn_and (by have := h1.1; omega) (by have := h2.1; omega)]
  constructor
  · intro h k hk ⟨q1, q2⟩
    have h0 : a &&& b = 0 := by omega
    have := congrArg (fun z => z.testBit k) h0
    simp only [Nat.testBit_and, Nat.zero_testBit, (h1.2 k hk).2 q1, (h2.2 k hk).2 q2] at this
    simp at this
  · intro h
    have : a &&& b = 0 := by
      apply Nat.eq_of_testBit_eq
      intro k
      rw [Nat.testBit_and, Nat.zero_testBit]
      by_cases hk : k < 10
      · by_cases q1 : Q k
        · have q2 : ¬ R k := fun q2 => h k hk ⟨q1, q2⟩
          have : b.testBit k = false := by
            cases hb : b.testBit k
            · rfl
            · exact absurd ((h2.2 k hk).1 hb) q2
          rw [this, Bool.and_false]
        · have : a.testBit k = false := by
            cases hb : a.testBit k
            · rfl
            · exact absurd ((h1.2 k hk).1 hb) q1
          rw [this, Bool.false_and]
      · have : a.testBit k = false := Nat.testBit_lt_two_pow (by
          have := h1.1
          have h2 : 2 ^ 10 ≤ 2 ^ k := Nat.pow_le_pow_right (by decide) (by omega)
          omega)
        rw [this, Bool.false_and]
    rw [this]; rfl
/-! people's sets -/
theorem sx_tab : ∀ s : Fin 32, ∀ p : Fin 5, (s.1.testBit p.1 = true → (s.1 ^^^ 2 ^ p.1) < s.1 ∧ ((s.1 ^^^ 2 ^ p.1) ||| 2 ^ p.1) = s.1 ∧ (s.1 ^^^ 2 ^ p.1).testBit p.1 = false) ∧ (s.1.testBit p.1 = false → s.1 < (s.1 ||| 2 ^ p.1) ∧ (s.1 ||| 2 ^ p.1) < 32 ∧ ((s.1 ||| 2 ^ p.1) ^^^ 2 ^ p.1) = s.1 ∧ (s.1 ||| 2 ^ p.1).testBit p.1 = true) := by decide +kernel
theorem sx_1 {s p : Nat} (hs : s < 32) (hp : p < 5) (h : s.testBit p = true) : (s ^^^ 2 ^ p) < s ∧ ((s ^^^ 2 ^ p) ||| 2 ^ p) = s ∧ (s ^^^ 2 ^ p).testBit p = false := (sx_tab ⟨s, hs⟩ ⟨p, hp⟩).1 h
theorem sx_0 {s p : Nat} (hs : s < 32) (hp : p < 5) (h : s.testBit p = false) : s < (s ||| 2 ^ p) ∧ (s ||| 2 ^ p) < 32 ∧ ((s ||| 2 ^ p) ^^^ 2 ^ p) = s ∧ (s ||| 2 ^ p).testBit p = true := (sx_tab ⟨s, hs⟩ ⟨p, hp⟩).2 h
theorem sx_hi {s p : Nat} (hs : s < 32) (hp : ¬ p < 5) : s.testBit p = false := Nat.testBit_lt_two_pow (by
  have h2 : 2 ^ 5 ≤ 2 ^ p := Nat.pow_le_pow_right (by decide) (by omega)
  omega)
/-! ===== presses: who can have brought it where, pure ===== -/
def vsP (I : jm_I) (t : Int) (h : Nat) : Prop := (h : Int) < I 169 t.toNat ∨ (4 ≤ h ∧ (h : Int) < 4 + I 167 0)
def cyP (I : jm_I) (t : Int) (h p r : Nat) : Prop := ∃ n m : Nat, wk (adjM I 0) n (I 171 (1 + p)).toNat (roF I t h).toNat ∧ wk (adjM I 0) m (roF I t h).toNat r ∧ ((n + m : Nat) : Int) ≤ I 167 3
def pxP (I : jm_I) (t : Int) (who : Nat → Prop) (s h p r : Nat) : Prop := (p : Int) < I 167 4 ∧ who p ∧ s.testBit p = false ∧ (r : Int) < I 167 0 ∧ cyP I t h p r
def pxS (I : jm_I) (t : Int) (who : Nat → Prop) (V : Nat → Nat → Prop) (s h : Nat) : Prop := ∀ P : Nat → Nat → Prop, (∀ s h, V s h → P s h) → (∀ s h p r, P s h → pxP I t who s h p r → P (s ||| 2 ^ p) (puF I t r).toNat) → P s h
def pxW (I : jm_I) (t : Int) (who : Nat → Prop) : Nat → Nat → Nat → Prop
  | 0 => pxS I t who (fun s h => s = 0 ∧ h = (nwF I t).toNat)
  | n + 1 => pxS I t who (fun s h => ∃ h', pxW I t who n s h' ∧ h = (laF I t h' 1).toNat)
def pxV (I : jm_I) (t : Int) (who : Nat → Prop) : Nat → Nat → Nat → Prop
  | 0 => fun s h => s = 0 ∧ h = (nwF I t).toNat
  | n + 1 => fun s h => ∃ h', pxW I t who n s h' ∧ h = (laF I t h' 1).toNat
section PXPURE
variable {I : jm_I} {t : Int} {who : Nat → Prop} {V : Nat → Nat → Prop}
theorem pxW_eq : ∀ n : Nat, pxW I t who n = pxS I t who (pxV I t who n)
  | 0 => rfl
  | _ + 1 => rfl
theorem pxS_in {s h : Nat} (hv : V s h) : pxS I t who V s h := fun P h1 _ => h1 s h hv
theorem pxS_go {s h p r : Nat} (hs : pxS I t who V s h) (hp : pxP I t who s h p r) : pxS I t who V (s ||| 2 ^ p) (puF I t r).toNat := fun P h1 h2 => h2 s h p r (hs P h1 h2) hp
theorem pxS_rec {P : Nat → Nat → Prop} (h1 : ∀ s h, V s h → P s h) (h2 : ∀ s h p r, pxS I t who V s h → P s h → pxP I t who s h p r → P (s ||| 2 ^ p) (puF I t r).toNat) {s h : Nat} (hs : pxS I t who V s h) : P s h :=
  (hs (fun s h => pxS I t who V s h ∧ P s h) (fun s h hv => ⟨pxS_in hv, h1 s h hv⟩) (fun s h p r ⟨q1, q2⟩ hp => ⟨pxS_go q1 hp, h2 s h p r q1 q2 hp⟩)).2
theorem pxS_mono {who' : Nat → Prop} {V' : Nat → Nat → Prop} (hv : ∀ s h, V s h → V' s h) (hw : ∀ p, who p → who' p) {s h : Nat} (hs : pxS I t who V s h) : pxS I t who' V' s h :=
  pxS_rec (fun s h q => pxS_in (hv s h q)) (fun s h p r _ q hp => pxS_go q ⟨hp.1, hw p hp.2.1, hp.2.2⟩) hs
/-- the last press -/
theorem pxS_fix (hn : I 167 4 ≤ 5) (hV : ∀ s h, V s h → s < 32) {s h : Nat} (hs32 : s < 32) : pxS I t who V s h ↔ (V s h ∨ ∃ p h' r, s.testBit p = true ∧ pxS I t who V (s ^^^ 2 ^ p) h' ∧ pxP I t who (s ^^^ 2 ^ p) h' p r ∧ h = (puF I t r).toNat) := by
  constructor
  · intro hs
    have key : s < 32 ∧ (V s h ∨ ∃ p h' r, s.testBit p = true ∧ pxS I t who V (s ^^^ 2 ^ p) h' ∧ pxP I t who (s ^^^ 2 ^ p) h' p r ∧ h = (puF I t r).toNat) := by
      refine pxS_rec (P := fun s h => s < 32 ∧ (V s h ∨ ∃ p h' r, s.testBit p = true ∧ pxS I t who V (s ^^^ 2 ^ p) h' ∧ pxP I t who (s ^^^ 2 ^ p) h' p r ∧ h = (puF I t r).toNat)) (fun s h q => ⟨hV s h q, Or.inl q⟩) (fun s h p r q1 q2 hp => ?_) hs
      obtain ⟨x1, x2, x3, x4⟩ := sx_0 q2.1 (show p < 5 by have := hp.1; omega) hp.2.2.1
      refine ⟨x2, Or.inr ⟨p, h, r, x4, ?_, ?_, rfl⟩⟩
      · rw [x3]; exact q1
      · rw [x3]; exact hp
    exact key.2
  · intro hs
    rcases hs with q | ⟨p, h', r, q1, q2, q3, q4⟩
    · exact pxS_in q
    · have := pxS_go q2 q3
      rw [(sx_1 hs32 (show p < 5 by have := q3.1; omega) q1).2.1] at this
      rw [q4]
      exact this
/-- only those press whose presses are counted -/
theorem pxS_who (hn : I 167 4 ≤ 5) {V' : Nat → Nat → Prop} (hV : ∀ s h, V s h → s < 32) (hv : ∀ s h, V' s h ↔ (∀ p, s.testBit p = true → who p) ∧ V s h) {s h : Nat} : pxS I t who V' s h ↔ (∀ p, s.testBit p = true → who p) ∧ pxS I t (fun _ => True) V s h := by
  constructor
  · intro hs
    refine pxS_rec (P := fun s h => (∀ p, s.testBit p = true → who p) ∧ pxS I t (fun _ => True) V s h) (fun s h q => ⟨((hv s h).1 q).1, pxS_in ((hv s h).1 q).2⟩) (fun s h p r _ q2 hp => ⟨fun p' hp' => ?_, pxS_go q2.2 ⟨hp.1, trivial, hp.2.2⟩⟩) hs
    rw [Nat.testBit_or, Nat.testBit_two_pow, Bool.or_eq_true, decide_eq_true_iff] at hp'
    rcases hp' with w | w
    · exact q2.1 p' w
    · rw [← w]; exact hp.2.1
  · intro ⟨hw, hs⟩
    have key : s < 32 ∧ ((∀ p, s.testBit p = true → who p) → pxS I t who V' s h) := by
      refine pxS_rec (P := fun s h => s < 32 ∧ ((∀ p, s.testBit p = true → who p) → pxS I t who V' s h)) (fun s h q => ⟨hV s h q, fun w => pxS_in ((hv s h).2 ⟨w, q⟩)⟩) (fun s h p r _ q2 hp => ?_) hs
      obtain ⟨x1, x2, x3, x4⟩ := sx_0 q2.1 (show p < 5 by have := hp.1; omega) hp.2.2.1
      refine ⟨x2, fun w => pxS_go (q2.2 (fun p' hp' => w p' ?_)) ⟨hp.1, w p x4, hp.2.2⟩⟩
      rw [Nat.testBit_or, hp', Bool.true_or]
    exact key.2 hw
theorem pu_vs {r : Nat} (hl : 1 ≤ I 169 t.toNat ∧ I 169 t.toNat ≤ 4) (hr : (r : Int) < I 167 0) : vsP I t (puF I t r).toNat ∧ 0 ≤ puF I t r := by
  unfold vsP puF plF
  rcases fst_in (f := fun k : Nat => I 170 (4 * t + k).toNat) (room := (r : Int)) (n := (I 169 t.toNat).toNat) with q | ⟨j, j1, j2, -, -⟩
  · rw [if_pos q]; omega
  · rw [if_neg (by rw [j2]; omega), j2]; omega
theorem la_vs {h : Nat} (hl : 1 ≤ I 169 t.toNat ∧ I 169 t.toNat ≤ 4) (hh : vsP I t h) : vsP I t (laF I t h 1).toNat ∧ 0 ≤ laF I t h 1 := by
  unfold laF
  have c1 := Int.emod_nonneg ((h : Int) + 1) (show I 169 t.toNat ≠ 0 by omega)
  have c2 := Int.emod_lt_of_pos ((h : Int) + 1) (show 0 < I 169 t.toNat by omega)
  unfold vsP at *
  split <;> omega
theorem vs_sp {h : Nat} (hR : I 167 0 ≤ 6) (hh : vsP I t h) : spOk I t h := by
  unfold vsP spOk at *
  omega
theorem vs_10 {h : Nat} (hR : I 167 0 ≤ 6) (hl : I 169 t.toNat ≤ 4) (hh : vsP I t h) : h < 10 := by
  unfold vsP at hh
  omega
theorem ro_vs {h : Nat} (hm : mOk I) (ht : 0 ≤ t ∧ t < I 167 5) (hh : vsP I t h) : 0 ≤ roF I t h ∧ roF I t h < I 167 0 := by
  obtain ⟨q, rfl⟩ : ∃ q : Nat, t = q := ⟨t.toNat, by omega⟩
  obtain ⟨a1, a2⟩ := hm.2.2.1 q ht.2
  unfold vsP at hh
  unfold roF
  rw [Int.toNat_natCast] at hh
  by_cases e : (h : Int) < 4
  · rw [if_pos e, show (4 * (q : Int) + h).toNat = 4 * q + h by omega]
    exact a2 h (by omega)
  · rw [if_neg e]
    omega
theorem px_vs (hm : mOk I) (ht : 0 ≤ t ∧ t < I 167 5) : ∀ (n : Nat) {s h : Nat}, (pxV I t who n s h → vsP I t h ∧ s < 32) ∧ (pxW I t who n s h → vsP I t h ∧ s < 32) := by
  have hr := hm.1
  unfold mRng at hr
  have hl := (th_of hm ht.1 ht.2).2.1
  have step : ∀ (V : Nat → Nat → Prop), (∀ s h, V s h → vsP I t h ∧ s < 32) → ∀ s h, pxS I t who V s h → vsP I t h ∧ s < 32 := fun V hV s h hs => by
    refine pxS_rec (P := fun s h => vsP I t h ∧ s < 32) hV (fun s h p r _ q hp => ⟨(pu_vs hl hp.2.2.2.1).1, (sx_0 q.2 (show p < 5 by have := hp.1; omega) hp.2.2.1).2.1⟩) hs
  intro n
  induction n with
  | zero =>
    intro s h
    have v0 : ∀ s h, pxV I t who 0 s h → vsP I t h ∧ s < 32 := fun s h ⟨q1, q2⟩ => by
      obtain ⟨n1, n2, n3⟩ := nw_sp hm ht.1 ht.2
      subst q1
      rw [q2]
      refine ⟨?_, by decide⟩
      have ht4 := (th_of hm ht.1 ht.2).2.2.2
      unfold vsP nwF
      split <;> omega
    exact ⟨v0 s h, fun q => step _ v0 s h q⟩
  | succ n ih =>
    intro s h
    have v0 : ∀ s h, pxV I t who (n + 1) s h → vsP I t h ∧ s < 32 := fun s h ⟨h', q1, q2⟩ => by
      obtain ⟨w1, w2⟩ := ih.2 q1
      rw [q2]
      exact ⟨(la_vs hl w1).1, w2⟩
    exact ⟨v0 s h, fun q => step _ v0 s h q⟩
theorem px_who (hm : mOk I) (ht : 0 ≤ t ∧ t < I 167 5) : ∀ (n : Nat) {s h : Nat}, (pxV I t who n s h ↔ (∀ p, s.testBit p = true → who p) ∧ pxV I t (fun _ => True) n s h) ∧ (pxW I t who n s h ↔ (∀ p, s.testBit p = true → who p) ∧ pxW I t (fun _ => True) n s h) := by
  have hr := hm.1
  unfold mRng at hr
  intro n
  induction n with
  | zero =>
    intro s h
    have v0 : ∀ s h, pxV I t who 0 s h ↔ (∀ p, s.testBit p = true → who p) ∧ pxV I t (fun _ => True) 0 s h := fun s h => by
      constructor
      · intro ⟨q1, q2⟩
        refine ⟨fun p hp => ?_, q1, q2⟩
        rw [q1, Nat.zero_testBit] at hp
        simp at hp
      · intro ⟨_, q⟩
        exact q
    exact ⟨v0 s h, pxS_who (by omega) (fun s h q => ((px_vs hm ht 0).1 q).2) v0⟩
  | succ n ih =>
    intro s h
    have v0 : ∀ s h, pxV I t who (n + 1) s h ↔ (∀ p, s.testBit p = true → who p) ∧ pxV I t (fun _ => True) (n + 1) s h := fun s h => by
      constructor
      · intro ⟨h', q1, q2⟩
        have := ih.2.1 q1
        exact ⟨this.1, h', this.2, q2⟩
      · intro ⟨w, h', q1, q2⟩
        exact ⟨h', ih.2.2 ⟨w, q1⟩, q2⟩
    exact ⟨v0 s h, pxS_who (by omega) (fun s h q => ((px_vs hm ht (n + 1)).1 q).2) v0⟩
end PXPURE
/-- it comes to the room by these presses -/
def rcP (I : jm_I) (t room : Int) (n s : Nat) : Prop := ∃ m h, m ≤ n ∧ pxW I t (fun _ => True) m s h ∧ roF I t h = room
/-- the fewest -/
def mnP (Q : Nat → Prop) (v : Int) : Prop := (v = -9 ∧ ∀ s, s < 32 → ¬ Q s) ∨ ∃ s, s < 32 ∧ Q s ∧ v = bcF (s : Int) ∧ ∀ s', s' < 32 → Q s' → bcF (s : Int) ≤ bcF (s' : Int)
theorem mn_eq {Q Q' : Nat → Prop} {v w : Int} (h : ∀ s, s < 32 → (Q s ↔ Q' s)) (h1 : mnP Q v) (h2 : mnP Q' w) : v = w := by
  rcases h1 with ⟨rfl, a⟩ | ⟨s, a1, a2, rfl, a4⟩
  · rcases h2 with ⟨rfl, -⟩ | ⟨s, b1, b2, -, -⟩
    · rfl
    · exact absurd ((h s b1).2 b2) (a s b1)
  · rcases h2 with ⟨-, b⟩ | ⟨s', b1, b2, rfl, b4⟩
    · exact absurd ((h s a1).1 a2) (b s a1)
    · have := a4 s' b1 ((h s' b1).2 b2)
      have := b4 s a1 ((h s a1).1 a2)
      omega
theorem mn_c {Q Q' : Nat → Prop} {v : Int} (h : ∀ s, s < 32 → (Q' s ↔ Q s)) (h1 : mnP Q v) : mnP Q' v := by
  rcases h1 with ⟨a1, a2⟩ | ⟨s, a1, a2, a3, a4⟩
  · exact Or.inl ⟨a1, fun s hs q => a2 s hs ((h s hs).1 q)⟩
  · exact Or.inr ⟨s, a1, (h s a1).2 a2, a3, fun s' h1 h2 => a4 s' h1 ((h s' h1).1 h2)⟩
