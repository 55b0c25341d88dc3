/-! ===== wrappers (by program, wip/gen/gen8.py) ===== -/
section MINMAX
variable {d mc ms pc i : Nat} {μ : jm_Md} {ls : jm_Ls} {st : List jm_V} {M : jm_M} {Q : Option jm_V → jm_M → Prop} {r : List (Instr × Nat)}
theorem go_max {a b : Int} (hw : Cond.methodLink μ.1.cls i Lib.Math.max.name ∈ jm_gt) (ha : jm_rg a) (hb : jm_rg b) (h8 : (st.map jm_ct).sum ≤ 8) (hd : jm_dc μ.2.1 pc ((.invokestatic i, 3) :: r) = true) (k : jm_dc μ.2.1 (pc + 3) r = true → jm_Go d mc ms μ (pc + 3) ls (.inl (max a b) :: st) M Q) : jm_Go d mc ms μ pc ls (.inl b :: .inl a :: st) M Q := by
  intro G p e R s m args below meth c H locs cells slots lr C hF hL hc hs hR hS hl
  have hts := C.2.2.2.2.2.2.2.1
  have hwt := jm_wt (G := G) h8
  refine va_mmax C.1 C.2.1 (C.2.2.2.2.1.trans hl.2.1.symm) C.2.2.2.2.2.1 (hts _ hw) (hts _ st_Math_max) (hts _ ii_Math_max) (hts _ co_Math_max) (by omega) (by omega) (by omega) (by omega) (jm_d1 hd) ?_
  have K := k (jm_d2 hd) G p e R s m args below meth c H locs cells slots lr C hF hL hc hs hR hS hl
  have e1 : (if Int32.ofInt a < Int32.ofInt b then Int32.ofInt b else Int32.ofInt a) = Int32.ofInt (max a b) := by
    by_cases h : a < b
    · rw [if_pos ((jr_lt ha hb).mpr h), show max a b = b by omega]
    · rw [if_neg (fun q => h ((jr_lt ha hb).mp q)), show max a b = a by omega]
  rw [e1]
  exact K
theorem go_min {a b : Int} (hw : Cond.methodLink μ.1.cls i Lib.Math.min.name ∈ jm_gt) (ha : jm_rg a) (hb : jm_rg b) (h8 : (st.map jm_ct).sum ≤ 8) (hd : jm_dc μ.2.1 pc ((.invokestatic i, 3) :: r) = true) (k : jm_dc μ.2.1 (pc + 3) r = true → jm_Go d mc ms μ (pc + 3) ls (.inl (min a b) :: st) M Q) : jm_Go d mc ms μ pc ls (.inl b :: .inl a :: st) M Q := by
  intro G p e R s m args below meth c H locs cells slots lr C hF hL hc hs hR hS hl
  have hts := C.2.2.2.2.2.2.2.1
  have hwt := jm_wt (G := G) h8
  refine va_mmin C.1 C.2.1 (C.2.2.2.2.1.trans hl.2.1.symm) C.2.2.2.2.2.1 (hts _ hw) (hts _ st_Math_min) (hts _ ii_Math_min) (hts _ co_Math_min) (by omega) (by omega) (by omega) (by omega) (jm_d1 hd) ?_
  have K := k (jm_d2 hd) G p e R s m args below meth c H locs cells slots lr C hF hL hc hs hR hS hl
  have e1 : (if Int32.ofInt b < Int32.ofInt a then Int32.ofInt b else Int32.ofInt a) = Int32.ofInt (min a b) := by
    by_cases h : b < a
    · rw [if_pos ((jr_lt hb ha).mpr h), show min a b = b by omega]
    · rw [if_neg (fun q => h ((jr_lt hb ha).mp q)), show min a b = a by omega]
  rw [e1]
  exact K
theorem go_alen {a n : Nat} (hs : M.2.1 a = (20, n)) (hd : jm_dc μ.2.1 pc ((.arraylength, 1) :: r) = true) (k : jm_dc μ.2.1 (pc + 1) r = true → jm_Go d mc ms μ (pc + 1) ls (.inl (n : Int) :: st) M Q) : jm_Go d mc ms μ pc ls (.inr (.inl a) :: st) M Q := by
  intro G p e R s m args below meth c H locs cells slots lr C hF hL hc hs0 hR hS hl
  obtain ⟨b, rfl, hb⟩ := jm_at hR (show (M.2.1 a).1 < 98 by rw [hs]; simp)
  rw [jm_cl_I hs] at hb
  refine va_alen C.1 C.2.1 C.2.2.2.2.2.2.2.2.2.1 hR.2.1 b 0 hb rfl (v := Int32.ofInt (n : Int)) Int32.ofInt_eq_ofNat.symm (jm_d1 hd) ?_
  exact k (jm_d2 hd) G p e R s m args below meth c H locs cells slots lr C hF hL hc hs0 hR hS hl
end MINMAX
/-- what does not change of a memory -/
abbrev jm_P : Type := (Nat × Nat) × ((Nat → Nat × Nat) × (Nat → Nat → Option Nat))
abbrev jm_I : Type := Nat → Nat → Int
abbrev jx (P : jm_P) (I : jm_I) : jm_M := (P.1, P.2.1, P.2.2, I)
def jx_Q (P : jm_P) (Q : Option jm_V → jm_I → Prop) : Option jm_V → jm_M → Prop := fun r M => ∃ I, M = jx P I ∧ Q r I
/-- from here the method comes to its end, no cell being made -/
def Gx (P : jm_P) (d : Nat) (μ : jm_Md) (pc : Nat) (ls : jm_Ls) (st : List jm_V) (I : jm_I) (Q : Option jm_V → jm_I → Prop) : Prop := jm_Go d 0 0 μ pc ls st (jx P I) (jx_Q P Q)
def Cx (P : jm_P) (d : Nat) (ν : jm_Md) (as : List jm_V) (I : jm_I) (K : Option jm_V → jm_I → Prop) : Prop := jm_Call d 0 0 ν as (jx P I) (jx_Q P K)
theorem Cx.mono {P : jm_P} {d : Nat} {ν : jm_Md} {as : List jm_V} {I : jm_I} {K K' : Option jm_V → jm_I → Prop} (h : Cx P d ν as I K') (hk : ∀ r I, K' r I → K r I) : Cx P d ν as I K := jm_Go.mono h (fun r M ⟨I, h1, h2⟩ => ⟨I, h1, hk r I h2⟩)
theorem Gx.mono {P : jm_P} {d pc : Nat} {μ : jm_Md} {ls : jm_Ls} {st : List jm_V} {I : jm_I} {K K' : Option jm_V → jm_I → Prop} (h : Gx P d μ pc ls st I K') (hk : ∀ r I, K' r I → K r I) : Gx P d μ pc ls st I K := jm_Go.mono h (fun r M ⟨I, h1, h2⟩ => ⟨I, h1, hk r I h2⟩)
section GX
variable {P : jm_P} {d pc n i : Nat} {μ ν : jm_Md} {ls : jm_Ls} {st : List jm_V} {I : jm_I} {Q : Option jm_V → jm_I → Prop} {r : List (Instr × Nat)}
theorem gx_back {rest : List jm_V} {as : List jm_V} (k : Cx P d ν as I (fun v I' => Gx P (d + 1) μ (pc + 3) ls (v.toList ++ rest) I' Q)) : jm_Call d 0 0 ν as (jx P I) (fun v M' => jm_Go (d + 1) 0 0 μ (pc + 3) ls (v.toList ++ rest) M' (jx_Q P Q)) :=
  jm_Go.mono k (fun r M ⟨I', h1, h2⟩ => by subst h1; exact h2)
theorem gx_static (as rest : List jm_V) (hM : jm_MOk ν n) (hw : Cond.methodLink μ.1.cls i ν.1 ∈ jm_gt) (hst : Cond.static ν.1 ∈ jm_gt) (hn : as.length = n) (hx : as.length ≤ ν.2.2.1) (hc : as.all (fun v => jm_ct v == 1) = true) (h8 : (rest.map jm_ct).sum ≤ 8) (hs : st = as.reverse ++ rest) (hd : jm_dc μ.2.1 pc ((.invokestatic i, 3) :: r) = true) (k : Cx P d ν as I (fun v I' => Gx P (d + 1) μ (pc + 3) ls (v.toList ++ rest) I' Q)) : jm_Go (d + 1) 0 0 μ pc ls st (jx P I) (jx_Q P Q) :=
  go_static as rest hM hw hst hn hx hc h8 hs rfl rfl hd (gx_back k)
theorem gx_virtual (a c : Nat) (as rest : List jm_V) (hM : jm_MOk ν n) (hC : jm_COk c) (hcn : jm_cn c = ν.1.cls) (hw : Cond.methodLink μ.1.cls i ν.1 ∈ jm_gt) (hin : Cond.instanceMethod ν.1 ∈ jm_gt) (hse : Cond.selects ν.1.cls ν.1 ν.1 ∈ jm_gt) (hk : (P.2.1 a).1 = c) (hn : as.length = n) (hx : as.length + 1 ≤ ν.2.2.1) (hc : as.all (fun v => jm_ct v == 1) = true) (h8 : (rest.map jm_ct).sum ≤ 8) (hs : st = as.reverse ++ .inr (.inl a) :: rest)
    (hd : jm_dc μ.2.1 pc ((.invokevirtual i, 3) :: r) = true) (k : Cx P d ν (.inr (.inl a) :: as) I (fun v I' => Gx P (d + 1) μ (pc + 3) ls (v.toList ++ rest) I' Q)) : jm_Go (d + 1) 0 0 μ pc ls st (jx P I) (jx_Q P Q) :=
  go_virtual a c as rest hM hC hcn hw hin hse hk hn hx hc h8 hs rfl rfl hd (gx_back k)
end GX
/-- a city and its rows -/
def jx_City (P : jm_P) (c : Nat) : Prop := 0 < c ∧ P.2.1 (c + 0) = (0, 0) ∧ P.2.1 (c + 1) = (20, 8) ∧ P.2.1 (c + 2) = (20, 8) ∧ P.2.1 (c + 3) = (20, 8) ∧ P.2.1 (c + 4) = (20, 5) ∧ P.2.1 (c + 5) = (20, 5) ∧ P.2.1 (c + 6) = (20, 5) ∧ P.2.1 (c + 7) = (23, 5) ∧ P.2.1 (c + 8) = (20, 4) ∧ P.2.1 (c + 9) = (20, 4) ∧ P.2.1 (c + 10) = (20, 4) ∧ P.2.1 (c + 11) = (20, 4) ∧ P.2.1 (c + 12) = (20, 4) ∧ P.2.1 (c + 13) = (23, 6) ∧ P.2.1 (c + 14) = (20, 6) ∧ P.2.1 (c + 15) = (20, 6) ∧ P.2.1 (c + 16) = (20, 6) ∧ P.2.1 (c + 17) = (20, 6) ∧ P.2.1 (c + 18) = (20, 6) ∧ P.2.1 (c + 19) = (20, 6) ∧ P.2.2 c 5 = some (c + 1) ∧ P.2.2 c 6 = some (c + 2) ∧ P.2.2 c 7 = some (c + 3) ∧ P.2.2 c 8 = some (c + 4) ∧ P.2.2 c 9 = some (c + 5) ∧ P.2.2 c 10 = some (c + 6) ∧ P.2.2 c 11 = some (c + 7) ∧ P.2.2 c 12 = some (c + 13) ∧ (∀ i, i < 5 → P.2.2 (c + 7) i = some (c + 8 + i)) ∧ (∀ i, i < 6 → P.2.2 (c + 13) i = some (c + 14 + i))
theorem ct_pos {P : jm_P} {c : Nat} (h : jx_City P c) : 0 < c := h.1
theorem ct_S0 {P : jm_P} {c : Nat} (h : jx_City P c) : P.2.1 (c + 0) = (0, 0) := h.2.1
theorem ct_S1 {P : jm_P} {c : Nat} (h : jx_City P c) : P.2.1 (c + 1) = (20, 8) := h.2.2.1
theorem ct_S2 {P : jm_P} {c : Nat} (h : jx_City P c) : P.2.1 (c + 2) = (20, 8) := h.2.2.2.1
theorem ct_S3 {P : jm_P} {c : Nat} (h : jx_City P c) : P.2.1 (c + 3) = (20, 8) := h.2.2.2.2.1
theorem ct_S4 {P : jm_P} {c : Nat} (h : jx_City P c) : P.2.1 (c + 4) = (20, 5) := h.2.2.2.2.2.1
theorem ct_S5 {P : jm_P} {c : Nat} (h : jx_City P c) : P.2.1 (c + 5) = (20, 5) := h.2.2.2.2.2.2.1
theorem ct_S6 {P : jm_P} {c : Nat} (h : jx_City P c) : P.2.1 (c + 6) = (20, 5) := h.2.2.2.2.2.2.2.1
theorem ct_S7 {P : jm_P} {c : Nat} (h : jx_City P c) : P.2.1 (c + 7) = (23, 5) := h.2.2.2.2.2.2.2.2.1
theorem ct_S8 {P : jm_P} {c : Nat} (h : jx_City P c) : P.2.1 (c + 8) = (20, 4) := h.2.2.2.2.2.2.2.2.2.1
theorem ct_S9 {P : jm_P} {c : Nat} (h : jx_City P c) : P.2.1 (c + 9) = (20, 4) := h.2.2.2.2.2.2.2.2.2.2.1
theorem ct_S10 {P : jm_P} {c : Nat} (h : jx_City P c) : P.2.1 (c + 10) = (20, 4) := h.2.2.2.2.2.2.2.2.2.2.2.1
theorem ct_S11 {P : jm_P} {c : Nat} (h : jx_City P c) : P.2.1 (c + 11) = (20, 4) := h.2.2.2.2.2.2.2.2.2.2.2.2.1
theorem ct_S12 {P : jm_P} {c : Nat} (h : jx_City P c) : P.2.1 (c + 12) = (20, 4) := h.2.2.2.2.2.2.2.2.2.2.2.2.2.1
theorem ct_S13 {P : jm_P} {c : Nat} (h : jx_City P c) : P.2.1 (c + 13) = (23, 6) := h.2.2.2.2.2.2.2.2.2.2.2.2.2.2.1
theorem ct_S14 {P : jm_P} {c : Nat} (h : jx_City P c) : P.2.1 (c + 14) = (20, 6) := h.2.2.2.2.2.2.2.2.2.2.2.2.2.2.2.1
theorem ct_S15 {P : jm_P} {c : Nat} (h : jx_City P c) : P.2.1 (c + 15) = (20, 6) := h.2.2.2.2.2.2.2.2.2.2.2.2.2.2.2.2.1
theorem ct_S16 {P : jm_P} {c : Nat} (h : jx_City P c) : P.2.1 (c + 16) = (20, 6) := h.2.2.2.2.2.2.2.2.2.2.2.2.2.2.2.2.2.1
theorem ct_S17 {P : jm_P} {c : Nat} (h : jx_City P c) : P.2.1 (c + 17) = (20, 6) := h.2.2.2.2.2.2.2.2.2.2.2.2.2.2.2.2.2.2.1
theorem ct_S18 {P : jm_P} {c : Nat} (h : jx_City P c) : P.2.1 (c + 18) = (20, 6) := h.2.2.2.2.2.2.2.2.2.2.2.2.2.2.2.2.2.2.2.1
theorem ct_S19 {P : jm_P} {c : Nat} (h : jx_City P c) : P.2.1 (c + 19) = (20, 6) := h.2.2.2.2.2.2.2.2.2.2.2.2.2.2.2.2.2.2.2.2.1
theorem ct_R5 {P : jm_P} {c : Nat} (h : jx_City P c) : P.2.2 c 5 = some (c + 1) := h.2.2.2.2.2.2.2.2.2.2.2.2.2.2.2.2.2.2.2.2.2.1
theorem ct_R6 {P : jm_P} {c : Nat} (h : jx_City P c) : P.2.2 c 6 = some (c + 2) := h.2.2.2.2.2.2.2.2.2.2.2.2.2.2.2.2.2.2.2.2.2.2.1
theorem ct_R7 {P : jm_P} {c : Nat} (h : jx_City P c) : P.2.2 c 7 = some (c + 3) := h.2.2.2.2.2.2.2.2.2.2.2.2.2.2.2.2.2.2.2.2.2.2.2.1
theorem ct_R8 {P : jm_P} {c : Nat} (h : jx_City P c) : P.2.2 c 8 = some (c + 4) := h.2.2.2.2.2.2.2.2.2.2.2.2.2.2.2.2.2.2.2.2.2.2.2.2.1
theorem ct_R9 {P : jm_P} {c : Nat} (h : jx_City P c) : P.2.2 c 9 = some (c + 5) := h.2.2.2.2.2.2.2.2.2.2.2.2.2.2.2.2.2.2.2.2.2.2.2.2.2.1
theorem ct_R10 {P : jm_P} {c : Nat} (h : jx_City P c) : P.2.2 c 10 = some (c + 6) := h.2.2.2.2.2.2.2.2.2.2.2.2.2.2.2.2.2.2.2.2.2.2.2.2.2.2.1
theorem ct_R11 {P : jm_P} {c : Nat} (h : jx_City P c) : P.2.2 c 11 = some (c + 7) := h.2.2.2.2.2.2.2.2.2.2.2.2.2.2.2.2.2.2.2.2.2.2.2.2.2.2.2.1
theorem ct_R12 {P : jm_P} {c : Nat} (h : jx_City P c) : P.2.2 c 12 = some (c + 13) := h.2.2.2.2.2.2.2.2.2.2.2.2.2.2.2.2.2.2.2.2.2.2.2.2.2.2.2.2.1
theorem ct_round {P : jm_P} {c : Nat} (h : jx_City P c) : ∀ i, i < 5 → P.2.2 (c + 7) i = some (c + 8 + i) := h.2.2.2.2.2.2.2.2.2.2.2.2.2.2.2.2.2.2.2.2.2.2.2.2.2.2.2.2.2.1
theorem ct_dist {P : jm_P} {c : Nat} (h : jx_City P c) : ∀ i, i < 6 → P.2.2 (c + 13) i = some (c + 14 + i) := h.2.2.2.2.2.2.2.2.2.2.2.2.2.2.2.2.2.2.2.2.2.2.2.2.2.2.2.2.2.2
theorem ct_K {P : jm_P} {c : Nat} (h : jx_City P c) : (P.2.1 c).1 = 0 := by rw [show c = c + 0 from rfl, ct_S0 h]
theorem ct_roundI {P : jm_P} {c : Nat} {i : Int} (h : jx_City P c) (h0 : 0 ≤ i) (h1 : i < 5) : P.2.2 (c + 7) i.toNat = some (c + 8 + i.toNat) := ct_round h _ (by omega)
theorem ct_distI {P : jm_P} {c : Nat} {i : Int} (h : jx_City P c) (h0 : 0 ≤ i) (h1 : i < 6) : P.2.2 (c + 13) i.toNat = some (c + 14 + i.toNat) := ct_dist h _ (by omega)
theorem ct_roundS {P : jm_P} {c : Nat} {i : Int} (h : jx_City P c) (h0 : 0 ≤ i) (h1 : i < 5) : P.2.1 (c + 8 + i.toNat) = (20, 4) := by
  obtain ⟨k, rfl⟩ : ∃ k : Nat, i = k := ⟨i.toNat, by omega⟩
  rw [Int.toNat_natCast]
  rcases (show k = 0 ∨ k = 1 ∨ k = 2 ∨ k = 3 ∨ k = 4 by omega) with rfl | rfl | rfl | rfl | rfl
  · exact ct_S8 h
  · exact ct_S9 h
  · exact ct_S10 h
  · exact ct_S11 h
  · exact ct_S12 h
theorem ct_distS {P : jm_P} {c : Nat} {i : Int} (h : jx_City P c) (h0 : 0 ≤ i) (h1 : i < 6) : P.2.1 (c + 14 + i.toNat) = (20, 6) := by
  obtain ⟨k, rfl⟩ : ∃ k : Nat, i = k := ⟨i.toNat, by omega⟩
  rw [Int.toNat_natCast]
  rcases (show k = 0 ∨ k = 1 ∨ k = 2 ∨ k = 3 ∨ k = 4 ∨ k = 5 by omega) with rfl | rfl | rfl | rfl | rfl | rfl
  · exact ct_S14 h
  · exact ct_S15 h
  · exact ct_S16 h
  · exact ct_S17 h
  · exact ct_S18 h
  · exact ct_S19 h
/-- a moment and its rows -/
def jx_Mom (P : jm_P) (c : Nat) : Prop := 0 < c ∧ P.2.1 (c + 0) = (5, 0) ∧ P.2.1 (c + 1) = (20, 5) ∧ P.2.1 (c + 2) = (20, 5) ∧ P.2.1 (c + 3) = (20, 5) ∧ P.2.1 (c + 4) = (20, 5) ∧ P.2.2 c 2 = some (c + 1) ∧ P.2.2 c 3 = some (c + 2) ∧ P.2.2 c 4 = some (c + 3) ∧ P.2.2 c 5 = some (c + 4)
theorem mo_pos {P : jm_P} {c : Nat} (h : jx_Mom P c) : 0 < c := h.1
theorem mo_S0 {P : jm_P} {c : Nat} (h : jx_Mom P c) : P.2.1 (c + 0) = (5, 0) := h.2.1
theorem mo_S1 {P : jm_P} {c : Nat} (h : jx_Mom P c) : P.2.1 (c + 1) = (20, 5) := h.2.2.1
theorem mo_S2 {P : jm_P} {c : Nat} (h : jx_Mom P c) : P.2.1 (c + 2) = (20, 5) := h.2.2.2.1
theorem mo_S3 {P : jm_P} {c : Nat} (h : jx_Mom P c) : P.2.1 (c + 3) = (20, 5) := h.2.2.2.2.1
theorem mo_S4 {P : jm_P} {c : Nat} (h : jx_Mom P c) : P.2.1 (c + 4) = (20, 5) := h.2.2.2.2.2.1
theorem mo_R2 {P : jm_P} {c : Nat} (h : jx_Mom P c) : P.2.2 c 2 = some (c + 1) := h.2.2.2.2.2.2.1
theorem mo_R3 {P : jm_P} {c : Nat} (h : jx_Mom P c) : P.2.2 c 3 = some (c + 2) := h.2.2.2.2.2.2.2.1
theorem mo_R4 {P : jm_P} {c : Nat} (h : jx_Mom P c) : P.2.2 c 4 = some (c + 3) := h.2.2.2.2.2.2.2.2.1
theorem mo_R5 {P : jm_P} {c : Nat} (h : jx_Mom P c) : P.2.2 c 5 = some (c + 4) := h.2.2.2.2.2.2.2.2.2
theorem mo_K {P : jm_P} {c : Nat} (h : jx_Mom P c) : (P.2.1 c).1 = 5 := by rw [show c = c + 0 from rfl, mo_S0 h]
def jx_Sl : List (Nat × Nat) := [(8, 0), (0, 0), (20, 8), (20, 8), (20, 8), (20, 5), (20, 5), (20, 5), (23, 5), (20, 4), (20, 4), (20, 4), (20, 4), (20, 4), (23, 6), (20, 6), (20, 6), (20, 6), (20, 6), (20, 6), (20, 6), (0, 0), (20, 8), (20, 8), (20, 8), (20, 5), (20, 5), (20, 5), (23, 5), (20, 4), (20, 4), (20, 4), (20, 4), (20, 4), (23, 6), (20, 6), (20, 6), (20, 6), (20, 6), (20, 6), (20, 6), (1, 0), (20, 200), (5, 0), (20, 5), (20, 5), (20, 5), (20, 5), (4, 0), (22, 10), (5, 0), (20, 5), (20, 5), (20, 5), (20, 5), (5, 0), (20, 5), (20, 5), (20, 5), (20, 5), (5, 0), (20, 5), (20, 5), (20, 5), (20, 5), (5, 0), (20, 5), (20, 5), (20, 5), (20, 5), (5, 0), (20, 5), (20, 5), (20, 5), (20, 5), (5, 0), (20, 5), (20, 5), (20, 5), (20, 5), (5, 0), (20, 5), (20, 5), (20, 5), (20, 5), (5, 0), (20, 5), (20, 5), (20, 5), (20, 5), (5, 0), (20, 5), (20, 5), (20, 5), (20, 5), (5, 0), (20, 5), (20, 5), (20, 5), (20, 5), (22, 2), (21, 2), (3, 0), (20, 4), (20, 4), (20, 4), (6, 0), (23, 32), (20, 13), (20, 13), (20, 13), (20, 13), (20, 13), (20, 13), (20, 13), (20, 13), (20, 13), (20, 13), (20, 13), (20, 13), (20, 13), (20, 13), (20, 13), (20, 13), (20, 13), (20, 13), (20, 13), (20, 13), (20, 13), (20, 13), (20, 13), (20, 13), (20, 13), (20, 13), (20, 13), (20, 13), (20, 13), (20, 13), (20, 13), (20, 13), (23, 5), (20, 10), (20, 10), (20, 10), (20, 10), (20, 10), (21, 32), (2, 0), (20, 6), (20, 6), (7, 0), (20, 5), (20, 2), (20, 2), (21, 2), (20, 6), (5, 0), (20, 5), (20, 5), (20, 5), (20, 5), (5, 0), (20, 5), (20, 5), (20, 5), (20, 5), (9, 0), (20, 24), (20, 5), (20, 20), (20, 27), (20, 270), (20, 54), (21, 2), (20, 12), (20, 200), (20, 2), (20, 24), (20, 10), (20, 5), (20, 20), (20, 36), (20, 320), (20, 320), (20, 6), (20, 6), (20, 90)]
/-- fixed references, 0 where none is -/
def jx_Rl : List (List Nat) := [[0, 0, 42, 43, 0, 44, 49, 101, 102, 103, 107, 148, 151, 156], [0, 0, 0, 0, 0, 3, 4, 5, 6, 7, 8, 9, 15], [], [], [], [], [], [], [10, 11, 12, 13, 14], [], [], [], [], [], [16, 17, 18, 19, 20, 21], [], [], [], [], [], [], [0, 0, 0, 0, 0, 23, 24, 25, 26, 27, 28, 29, 35], [], [], [], [], [], [], [30, 31, 32, 33, 34], [], [], [], [], [], [36, 37, 38, 39, 40, 41], [], [], [], [], [], [], [], [], [0, 0, 45, 46, 47, 48], [], [], [], [], [50], [51, 56, 61, 66, 71, 76, 81, 86, 91, 96], [0, 0, 52, 53, 54, 55], [], [], [], [], [0, 0, 57, 58, 59, 60], [], [], [], [], [0, 0, 62, 63, 64, 65], [], [], [], [], [0, 0, 67, 68, 69, 70], [], [], [], [], [0, 0, 72, 73, 74, 75], [], [], [], [], [0, 0, 77, 78, 79, 80], [], [], [], [], [0, 0, 82, 83, 84, 85], [], [], [], [], [0, 0, 87, 88, 89, 90], [], [], [], [], [0, 0, 92, 93, 94, 95], [], [], [], [], [0, 0, 97, 98, 99, 100], [], [], [], [], [157, 162], [], [0, 104, 105, 106], [], [], [], [0, 0, 0, 0, 108, 141, 147], [109, 110, 111, 112, 113, 114, 115, 116, 117, 118, 119, 120, 121, 122, 123, 124, 125, 126, 127, 128, 129, 130, 131, 132, 133, 134, 135, 136, 137, 138, 139, 140], [], [], [], [], [], [], [], [], [], [], [], [], [], [], [], [], [], [], [], [], [], [], [], [], [], [], [], [], [], [], [], [], [142, 143, 144, 145, 146], [], [], [], [], [], [], [149, 150], [], [], [0, 0, 152, 153, 154, 155], [], [], [], [], [], [0, 0, 158, 159, 160, 161], [], [], [], [], [0, 0, 163, 164, 165, 166], [], [], [], [], [0, 0, 168, 0, 0, 0, 169, 170, 171, 172, 0, 173, 174, 0, 175, 0, 176, 0, 0, 0, 0, 0, 0, 177, 0, 0, 178, 0, 179, 0, 180, 181, 182, 183, 184, 0, 185, 186, 187], [], [], [], [], [], [], [], [], [], [], [], [], [], [], [], [], [], [], [], []]
def jx_S (L : Nat) : Nat → Nat × Nat
  | 0 => (98, L)
  | a + 1 => jx_Sl.getD a (99, 0)
def jx_R : Nat → Nat → Option Nat
  | 0, _ => none
  | a + 1, k => match (jx_Rl.getD a []).getD k 0 with
    | 0 => none
    | v => some v
def jx_0 (L : Nat) : jm_P := ((187, 2904), jx_S L, jx_R)
theorem jx_cA {L : Nat} : jx_City (jx_0 L) 2 := by unfold jx_City; refine ⟨by decide, rfl, rfl, rfl, rfl, rfl, rfl, rfl, rfl, rfl, rfl, rfl, rfl, rfl, rfl, rfl, rfl, rfl, rfl, rfl, rfl, rfl, rfl, rfl, rfl, rfl, rfl, rfl, rfl, (show ∀ i, i < 5 → jx_R (2 + 7) i = some (2 + 8 + i) by decide), (show ∀ i, i < 6 → jx_R (2 + 13) i = some (2 + 14 + i) by decide)⟩
theorem jx_cB {L : Nat} : jx_City (jx_0 L) 22 := by unfold jx_City; refine ⟨by decide, rfl, rfl, rfl, rfl, rfl, rfl, rfl, rfl, rfl, rfl, rfl, rfl, rfl, rfl, rfl, rfl, rfl, rfl, rfl, rfl, rfl, rfl, rfl, rfl, rfl, rfl, rfl, rfl, (show ∀ i, i < 5 → jx_R (22 + 7) i = some (22 + 8 + i) by decide), (show ∀ i, i < 6 → jx_R (22 + 13) i = some (22 + 14 + i) by decide)⟩
theorem jx_m44 {L : Nat} : jx_Mom (jx_0 L) 44 := ⟨by decide, rfl, rfl, rfl, rfl, rfl, rfl, rfl, rfl, rfl⟩
theorem jx_m51 {L : Nat} : jx_Mom (jx_0 L) 51 := ⟨by decide, rfl, rfl, rfl, rfl, rfl, rfl, rfl, rfl, rfl⟩
theorem jx_m56 {L : Nat} : jx_Mom (jx_0 L) 56 := ⟨by decide, rfl, rfl, rfl, rfl, rfl, rfl, rfl, rfl, rfl⟩
theorem jx_m61 {L : Nat} : jx_Mom (jx_0 L) 61 := ⟨by decide, rfl, rfl, rfl, rfl, rfl, rfl, rfl, rfl, rfl⟩
theorem jx_m66 {L : Nat} : jx_Mom (jx_0 L) 66 := ⟨by decide, rfl, rfl, rfl, rfl, rfl, rfl, rfl, rfl, rfl⟩
theorem jx_m71 {L : Nat} : jx_Mom (jx_0 L) 71 := ⟨by decide, rfl, rfl, rfl, rfl, rfl, rfl, rfl, rfl, rfl⟩
theorem jx_m76 {L : Nat} : jx_Mom (jx_0 L) 76 := ⟨by decide, rfl, rfl, rfl, rfl, rfl, rfl, rfl, rfl, rfl⟩
theorem jx_m81 {L : Nat} : jx_Mom (jx_0 L) 81 := ⟨by decide, rfl, rfl, rfl, rfl, rfl, rfl, rfl, rfl, rfl⟩
theorem jx_m86 {L : Nat} : jx_Mom (jx_0 L) 86 := ⟨by decide, rfl, rfl, rfl, rfl, rfl, rfl, rfl, rfl, rfl⟩
theorem jx_m91 {L : Nat} : jx_Mom (jx_0 L) 91 := ⟨by decide, rfl, rfl, rfl, rfl, rfl, rfl, rfl, rfl, rfl⟩
theorem jx_m96 {L : Nat} : jx_Mom (jx_0 L) 96 := ⟨by decide, rfl, rfl, rfl, rfl, rfl, rfl, rfl, rfl, rfl⟩
theorem jx_m157 {L : Nat} : jx_Mom (jx_0 L) 157 := ⟨by decide, rfl, rfl, rfl, rfl, rfl, rfl, rfl, rfl, rfl⟩
theorem jx_m162 {L : Nat} : jx_Mom (jx_0 L) 162 := ⟨by decide, rfl, rfl, rfl, rfl, rfl, rfl, rfl, rfl, rfl⟩
theorem rw_R50 {L : Nat} {i : Int} (h0 : 0 ≤ i) (h1 : i < 10) : (jx_0 L).2.2 50 i.toNat = some (51 + 5 * i.toNat) := (show ∀ k, k < 10 → jx_R 50 k = some (51 + 5 * k) by decide) _ (by omega)
theorem rw_M50 {L : Nat} {i : Int} (h0 : 0 ≤ i) (h1 : i < 10) : jx_Mom (jx_0 L) (51 + 5 * i.toNat) := by
  obtain ⟨k, rfl⟩ : ∃ k : Nat, i = k := ⟨i.toNat, by omega⟩
  rw [Int.toNat_natCast]
  rcases (show k = 0 ∨ k = 1 ∨ k = 2 ∨ k = 3 ∨ k = 4 ∨ k = 5 ∨ k = 6 ∨ k = 7 ∨ k = 8 ∨ k = 9 by omega) with rfl | rfl | rfl | rfl | rfl | rfl | rfl | rfl | rfl | rfl
  · exact jx_m51
  · exact jx_m56
  · exact jx_m61
  · exact jx_m66
  · exact jx_m71
  · exact jx_m76
  · exact jx_m81
  · exact jx_m86
  · exact jx_m91
  · exact jx_m96
theorem rw_R101 {L : Nat} {i : Int} (h0 : 0 ≤ i) (h1 : i < 2) : (jx_0 L).2.2 101 i.toNat = some (157 + 5 * i.toNat) := (show ∀ k, k < 2 → jx_R 101 k = some (157 + 5 * k) by decide) _ (by omega)
theorem rw_M101 {L : Nat} {i : Int} (h0 : 0 ≤ i) (h1 : i < 2) : jx_Mom (jx_0 L) (157 + 5 * i.toNat) := by
  obtain ⟨k, rfl⟩ : ∃ k : Nat, i = k := ⟨i.toNat, by omega⟩
  rw [Int.toNat_natCast]
  rcases (show k = 0 ∨ k = 1 by omega) with rfl | rfl
  · exact jx_m157
  · exact jx_m162
theorem rw_R108 {L : Nat} {i : Int} (h0 : 0 ≤ i) (h1 : i < 32) : (jx_0 L).2.2 108 i.toNat = some (109 + i.toNat) := (show ∀ k, k < 32 → jx_R 108 k = some (109 + k) by decide) _ (by omega)
theorem rw_S108 {L : Nat} {i : Int} (h0 : 0 ≤ i) (h1 : i < 32) : (jx_0 L).2.1 (109 + i.toNat) = (20, 13) := by
  rw [show 109 + i.toNat = (108 + i.toNat) + 1 by omega]
  exact (show ∀ k, k < 32 → jx_Sl.getD (108 + k) (99, 0) = (20, 13) by decide) _ (by omega)
theorem rw_R141 {L : Nat} {i : Int} (h0 : 0 ≤ i) (h1 : i < 5) : (jx_0 L).2.2 141 i.toNat = some (142 + i.toNat) := (show ∀ k, k < 5 → jx_R 141 k = some (142 + k) by decide) _ (by omega)
theorem rw_S141 {L : Nat} {i : Int} (h0 : 0 ≤ i) (h1 : i < 5) : (jx_0 L).2.1 (142 + i.toNat) = (20, 10) := by
  rw [show 142 + i.toNat = (141 + i.toNat) + 1 by omega]
  exact (show ∀ k, k < 5 → jx_Sl.getD (141 + k) (99, 0) = (20, 10) by decide) _ (by omega)
