/-! ===== bits ===== -/
def bc1 (x : Int) : Int := x - jb_and (jb_ushr x 1) 1431655765
def bc2 (y : Int) : Int := jb_and y 858993459 + jb_and (jb_ushr y 2) 858993459
def bc3 (z : Int) : Int := jb_and (z + jb_ushr z 4) 252645135
def bc4 (w : Int) : Int := w + jb_ushr w 8
def bc5 (v : Int) : Int := jb_and (v + jb_ushr v 16) 63
def bcF (x : Int) : Int := bc5 (bc4 (bc3 (bc2 (bc1 x))))
theorem c_Integer_bitCount {P : jm_P} {d : Nat} {I : jm_I} {K : Option jm_V → jm_I → Prop} {x0 : Int} (k : K (some (.inl (bcF x0))) I) : Cx P d md_Integer_bitCount [.inl x0] I K := b_Integer_bitCount_0 k
theorem bc_tab : ∀ x : Fin 256, (0 ≤ bcF (x.1 : Int) ∧ bcF (x.1 : Int) ≤ 8) ∧ (x.1 = 0 ∨ ((0 ≤ jb_and (x.1 : Int) ((x.1 : Int) - 1) ∧ jb_and (x.1 : Int) ((x.1 : Int) - 1) < (x.1 : Int)) ∧ bcF (x.1 : Int) = 1 + bcF (jb_and (x.1 : Int) ((x.1 : Int) - 1)))) := by decide +kernel
theorem bc_0 : bcF 0 = 0 := by decide +kernel
theorem bc_r {x : Int} (h : 0 ≤ x ∧ x < 256) : 0 ≤ bcF x ∧ bcF x ≤ 8 := by
  obtain ⟨n, rfl⟩ : ∃ n : Nat, x = n := ⟨x.toNat, by omega⟩
  exact (bc_tab ⟨n, by omega⟩).1
theorem bc_s {x : Int} (h : 0 < x ∧ x < 256) : (0 ≤ jb_and x (x - 1) ∧ jb_and x (x - 1) < x) ∧ bcF x = 1 + bcF (jb_and x (x - 1)) := by
  obtain ⟨n, rfl⟩ : ∃ n : Nat, x = n := ⟨x.toNat, by omega⟩
  rcases (bc_tab ⟨n, by omega⟩).2 with q | q
  · have : n = 0 := q
    omega
  · exact q
theorem c_M_bits {L d : Nat} {I : jm_I} {K : Option jm_V → jm_I → Prop} {x0 : Int} (hz : 0 ≤ x0 ∧ x0 < 256) (k : K (some (.inl (bcF x0))) I) : Cx (jx_0 L) d md_M_bits [.inl x0] I K := by
  refine b_M_bits_0 ?_
  have key : ∀ (n : Nat) (x u : Int), x ≤ n → 0 ≤ x ∧ x < 256 → u + bcF x = bcF x0 → Gx (jx_0 L) d md_M_bits 4 [some (.inl x0), some (.inl u), some (.inl x)] [] I K := by
    intro n
    induction n with
    | zero =>
      intro x u h1 h2 h3
      obtain rfl : x = 0 := by omega
      refine b_M_bits_4 (by omega) (fun h => ?_) (fun h => by omega)
      rw [bc_0] at h3
      exact b_M_bits_20 (cv_ (by omega) k)
    | succ n ih =>
      intro x u h1 h2 h3
      by_cases e : x = 0
      · exact ih x u (by omega) h2 h3
      · obtain ⟨q1, q2⟩ := bc_s (show 0 < x ∧ x < 256 by omega)
        refine b_M_bits_4 (by omega) (fun h => by omega) (fun h => ?_)
        refine b_M_bits_8 ?_
        exact ih _ _ (by omega) (by omega) (by omega)
  exact key 256 x0 0 (by omega) hz (by omega)
/-- what lies within a set is not above it -/
theorem jb_sub {a o : Int} (ha : 0 ≤ a ∧ a < 2147483648) (ho : 0 ≤ o ∧ o < 2147483648) (h : jb_and a (jb_xor o (-1)) = 0) : a ≤ o := by
  unfold jb_and jb_xor at h
  rw [Int32.ofInt_toInt] at h
  have h2 : Int32.ofInt a &&& (Int32.ofInt o ^^^ Int32.ofInt (-1)) = 0 := by
    have := congrArg Int32.ofInt h
    rw [Int32.ofInt_toInt] at this
    exact this
  have h3 : BitVec.ofInt 32 a &&& (BitVec.ofInt 32 o ^^^ BitVec.ofInt 32 (-1)) = 0#32 := congrArg Int32.toBitVec h2
  have h4 : BitVec.ofInt 32 a = BitVec.ofInt 32 a &&& BitVec.ofInt 32 o := by
    apply BitVec.eq_of_getLsbD_eq
    intro i hi
    have h5 := congrArg (fun v => BitVec.getLsbD v i) h3
    have hone : (BitVec.ofInt 32 (-1)).getLsbD i = true := by
      rw [show BitVec.ofInt 32 (-1) = BitVec.allOnes 32 by decide, BitVec.getLsbD_allOnes]
      exact decide_eq_true hi
    simp only [BitVec.getLsbD_and, BitVec.getLsbD_xor, hone, BitVec.getLsbD_zero] at h5 ⊢
    revert h5
    cases (BitVec.ofInt 32 a).getLsbD i <;> cases (BitVec.ofInt 32 o).getLsbD i <;> simp
  have h6 := congrArg BitVec.toNat h4
  rw [BitVec.toNat_and] at h6
  have h7 : (BitVec.ofInt 32 a).toNat = a.toNat := by rw [BitVec.toNat_ofInt]; omega
  have h8 : (BitVec.ofInt 32 o).toNat = o.toNat := by rw [BitVec.toNat_ofInt]; omega
  rw [h7, h8] at h6
  have h9 : a.toNat &&& o.toNat ≤ o.toNat := Nat.and_le_right
  omega
theorem jb_shl1 : ∀ n : Fin 31, jb_shl 1 (n.1 : Int) = ((2 ^ n.1 : Nat) : Int) := by decide +kernel
/-- bits of a set of n lie below 2^n -/
theorem jb_or_lt {a b : Int} {n : Nat} (hn : n ≤ 30) (ha : 0 ≤ a ∧ a < ((2 ^ n : Nat) : Int)) (hb : 0 ≤ b ∧ b < ((2 ^ n : Nat) : Int)) : 0 ≤ jb_or a b ∧ jb_or a b < ((2 ^ n : Nat) : Int) := by
  have hp : 2 ^ n ≤ 2 ^ 30 := Nat.pow_le_pow_right (by decide) hn
  have h30 : (2 : Nat) ^ 30 = 1073741824 := by decide
  have e : jb_or a b = ((a.toNat ||| b.toNat : Nat) : Int) := by
    unfold jb_or
    show (BitVec.ofInt 32 a ||| BitVec.ofInt 32 b).toInt = _
    have h7 : (BitVec.ofInt 32 a).toNat = a.toNat := by rw [BitVec.toNat_ofInt]; omega
    have h8 : (BitVec.ofInt 32 b).toNat = b.toNat := by rw [BitVec.toNat_ofInt]; omega
    have hlt : a.toNat ||| b.toNat < 2 ^ n := Nat.or_lt_two_pow (by omega) (by omega)
    rw [BitVec.toInt_eq_toNat_of_lt, BitVec.toNat_or, h7, h8]
    rw [BitVec.toNat_or, h7, h8]
    omega
  have hlt : a.toNat ||| b.toNat < 2 ^ n := Nat.or_lt_two_pow (by omega) (by omega)
  rw [e]
  omega
theorem orF_lt (f : Nat → Bool) : ∀ n, n ≤ 30 → 0 ≤ orF f n ∧ orF f n < ((2 ^ n : Nat) : Int)
  | 0, _ => by simp [orF]
  | n + 1, h => by
    have ih := orF_lt f n (by omega)
    have hp : 2 ^ (n + 1) = 2 ^ n * 2 := Nat.pow_succ 2 n
    have hs := jb_shl1 ⟨n, by omega⟩
    have hs : jb_shl 1 (n : Int) = ((2 ^ n : Nat) : Int) := hs
    simp only [orF]
    split
    · refine jb_or_lt h (by omega) ?_
      rw [hs]
      have : 0 < 2 ^ n := Nat.pow_pos (by decide)
      omega
    · omega
