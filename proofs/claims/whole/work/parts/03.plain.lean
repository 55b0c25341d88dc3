/-! ===== rules: plain instructions (by program, wip/gen/gen3.py) ===== -/
def jm_rg (a : Int) : Prop := -2147483648 ≤ a ∧ a < 2147483648
theorem jr_le {a b : Int} (ha : jm_rg a) (hb : jm_rg b) : Int32.ofInt a ≤ Int32.ofInt b ↔ a ≤ b := by
  rw [Int32.le_iff_toInt_le, Int32.toInt_ofInt_of_le ha.1 ha.2, Int32.toInt_ofInt_of_le hb.1 hb.2]
theorem jr_lt {a b : Int} (ha : jm_rg a) (hb : jm_rg b) : Int32.ofInt a < Int32.ofInt b ↔ a < b := by
  rw [Int32.lt_iff_toInt_lt, Int32.toInt_ofInt_of_le ha.1 ha.2, Int32.toInt_ofInt_of_le hb.1 hb.2]
theorem jr_eq {a b : Int} (ha : jm_rg a) (hb : jm_rg b) : Int32.ofInt a = Int32.ofInt b ↔ a = b := by
  rw [← Int32.toInt_inj, Int32.toInt_ofInt_of_le ha.1 ha.2, Int32.toInt_ofInt_of_le hb.1 hb.2]
theorem jr_0 : jm_rg 0 := ⟨by decide, by decide⟩
def jb_and (a b : Int) : Int := (Int32.ofInt a &&& Int32.ofInt b).toInt
def jb_or (a b : Int) : Int := (Int32.ofInt a ||| Int32.ofInt b).toInt
def jb_xor (a b : Int) : Int := (Int32.ofInt a ^^^ Int32.ofInt b).toInt
def jb_shl (a b : Int) : Int := (Int32.ofInt a <<< (Int32.ofInt b &&& 31)).toInt
def jb_shr (a b : Int) : Int := (Int32.ofInt a >>> (Int32.ofInt b &&& 31)).toInt
def jb_ushr (a b : Int) : Int := ((Int32.ofInt a).toUInt32 >>> ((Int32.ofInt b).toUInt32 &&& Int32.toUInt32 31)).toInt32.toInt
def jm_pr (G : jm_G) (ls : jm_Ls) : List (Nat × Value) := (List.range ls.length).filterMap (fun k => match ls[k]? with
  | some (some v) => some (k, jm_cv G v)
  | _ => none)
theorem jm_pr_mem {G : jm_G} {ls : jm_Ls} {k : Nat} {v : jm_V} (h : ls[k]? = some (some v)) : (k, jm_cv G v) ∈ jm_pr G ls := by
  refine List.mem_filterMap.mpr ⟨k, List.mem_range.mpr (List.getElem?_eq_some_iff.mp h).1, ?_⟩
  rw [h]
theorem jm_pr_inv {G : jm_G} {ls : jm_Ls} {q : Nat × Value} (h : q ∈ jm_pr G ls) : ∃ v, ls[q.1]? = some (some v) ∧ q.2 = jm_cv G v := by
  obtain ⟨k, -, hk⟩ := List.mem_filterMap.mp h
  split at hk
  · rename_i v hv
    cases hk
    exact ⟨v, hv, rfl⟩
  · cases hk
theorem jm_cat {G : jm_G} {v : jm_V} : (jm_cv G v).category = jm_ct v := by
  rcases v with i | r | j <;> rfl
theorem jm_Lo.has {G : jm_G} {n : Nat} {ls : jm_Ls} {lr : Array Slot} (h : jm_Lo G n ls lr) : lv_has lr n (jm_pr G ls) := by
  refine ⟨h.2.1, h.2.2.1, fun q hq => ?_⟩
  obtain ⟨v, h1, h2⟩ := jm_pr_inv hq
  rw [h2]
  exact (h.2.2.2 q.1 v h1).2
theorem jm_Lo.st {G : jm_G} {n i : Nat} {ls : jm_Ls} {lr lr' : Array Slot} {v : jm_V} {w : Value} (h : jm_Lo G n ls lr) (hw : w = jm_cv G v) (hv : jm_ct v = 1) (h' : lv_has lr' n ((i, w) :: (jm_pr G ls).filter (fun q => !(q.1 == i) && !(q.1 + 1 == i && q.2.category == 2)))) : jm_Lo G n (ls.set i (some v)) lr' := by
  subst hw
  refine ⟨by rw [List.length_set]; exact h.1, h'.1, h'.2.1, fun k x hk => ?_⟩
  by_cases e : k = i
  · subst e
    have hl : k < ls.length := by
      have := (List.getElem?_eq_some_iff.mp hk).1
      rwa [List.length_set] at this
    rw [List.getElem?_set_self hl] at hk
    cases hk
    exact ⟨hv, h'.2.2 _ List.mem_cons_self⟩
  · rw [List.getElem?_set_ne (fun q => e q.symm)] at hk
    obtain ⟨c1, c2⟩ := h.2.2.2 k x hk
    refine ⟨c1, h'.2.2 (k, jm_cv G x) (List.mem_cons_of_mem _ (List.mem_filter.mpr ⟨jm_pr_mem hk, ?_⟩))⟩
    have hc : (jm_cv G x).category = 1 := by rw [jm_cat]; exact c1
    simp [e, hc]
section PLAIN
variable {d mc ms pc : Nat} {μ : jm_Md} {ls : jm_Ls} {st : List jm_V} {M : jm_M} {Q : Option jm_V → jm_M → Prop} {r : List (Instr × Nat)}
theorem go_iconst {n : Int} (hd : jm_dc μ.2.1 pc ((.iconst n, 1) :: r) = true) (k : jm_dc μ.2.1 (pc + 1) r = true → jm_Go d mc ms μ (pc + 1) ls (.inl n :: st) M Q) : jm_Go d mc ms μ pc ls (st) M Q := by
  intro G p e R s m args below meth c H locs cells slots lr C hF hL hc hs hR hS hl
  exact lv_iconst C.1 C.2.1 (jm_d1 hd) rfl (k (jm_d2 hd) G p e R s m args below meth c H locs cells slots lr C hF hL hc hs hR hS hl)
theorem go_bipush {n : Int} (hv : (Int8.ofInt n).toInt32 = Int32.ofInt n) (hd : jm_dc μ.2.1 pc ((.bipush n, 2) :: r) = true) (k : jm_dc μ.2.1 (pc + 2) r = true → jm_Go d mc ms μ (pc + 2) ls (.inl n :: st) M Q) : jm_Go d mc ms μ pc ls (st) M Q := by
  intro G p e R s m args below meth c H locs cells slots lr C hF hL hc hs hR hS hl
  exact lv_bipush C.1 C.2.1 (jm_d1 hd) hv (k (jm_d2 hd) G p e R s m args below meth c H locs cells slots lr C hF hL hc hs hR hS hl)
theorem go_sipush {n : Int} (hv : (Int16.ofInt n).toInt32 = Int32.ofInt n) (hd : jm_dc μ.2.1 pc ((.sipush n, 3) :: r) = true) (k : jm_dc μ.2.1 (pc + 3) r = true → jm_Go d mc ms μ (pc + 3) ls (.inl n :: st) M Q) : jm_Go d mc ms μ pc ls (st) M Q := by
  intro G p e R s m args below meth c H locs cells slots lr C hF hL hc hs hR hS hl
  exact lv_sipush C.1 C.2.1 (jm_d1 hd) hv (k (jm_d2 hd) G p e R s m args below meth c H locs cells slots lr C hF hL hc hs hR hS hl)
theorem go_lconst {n : Fin 2} (v : Int) (hv : Int64.ofNat (n : Nat) = Int64.ofInt v) (hd : jm_dc μ.2.1 pc ((.lconst n, 1) :: r) = true) (k : jm_dc μ.2.1 (pc + 1) r = true → jm_Go d mc ms μ (pc + 1) ls (.inr (.inr v) :: st) M Q) : jm_Go d mc ms μ pc ls (st) M Q := by
  intro G p e R s m args below meth c H locs cells slots lr C hF hL hc hs hR hS hl
  exact lv_lconst C.1 C.2.1 (jm_d1 hd) hv (k (jm_d2 hd) G p e R s m args below meth c H locs cells slots lr C hF hL hc hs hR hS hl)
theorem go_ldc {i : Nat} (n : Int) (v : Int32) (hv : v = Int32.ofInt n) (hw : Cond.constant μ.1.cls i v ∈ jm_gt) (hd : jm_dc μ.2.1 pc ((.ldc i, 2) :: r) = true) (k : jm_dc μ.2.1 (pc + 2) r = true → jm_Go d mc ms μ (pc + 2) ls (.inl n :: st) M Q) : jm_Go d mc ms μ pc ls (st) M Q := by
  intro G p e R s m args below meth c H locs cells slots lr C hF hL hc hs hR hS hl
  subst hv
  exact lv_ldc C.1 C.2.1 C.2.2.2.2.2.1 (C.2.2.2.2.2.2.2.1 _ hw) (jm_d1 hd) (k (jm_d2 hd) G p e R s m args below meth c H locs cells slots lr C hF hL hc hs hR hS hl)
theorem go_ldcw {i : Nat} (n : Int) (v : Int32) (hv : v = Int32.ofInt n) (hw : Cond.constant μ.1.cls i v ∈ jm_gt) (hd : jm_dc μ.2.1 pc ((.ldc_w i, 3) :: r) = true) (k : jm_dc μ.2.1 (pc + 3) r = true → jm_Go d mc ms μ (pc + 3) ls (.inl n :: st) M Q) : jm_Go d mc ms μ pc ls (st) M Q := by
  intro G p e R s m args below meth c H locs cells slots lr C hF hL hc hs hR hS hl
  subst hv
  exact lv_ldcw C.1 C.2.1 C.2.2.2.2.2.1 (C.2.2.2.2.2.2.2.1 _ hw) (jm_d1 hd) (k (jm_d2 hd) G p e R s m args below meth c H locs cells slots lr C hF hL hc hs hR hS hl)
theorem go_ldc2 {i : Nat} (n : Int) (v : Int64) (hv : v = Int64.ofInt n) (hw : Cond.constantLong μ.1.cls i v ∈ jm_gt) (hd : jm_dc μ.2.1 pc ((.ldc2_w i, 3) :: r) = true) (k : jm_dc μ.2.1 (pc + 3) r = true → jm_Go d mc ms μ (pc + 3) ls (.inr (.inr n) :: st) M Q) : jm_Go d mc ms μ pc ls (st) M Q := by
  intro G p e R s m args below meth c H locs cells slots lr C hF hL hc hs hR hS hl
  subst hv
  exact lv_ldc2 C.1 C.2.1 C.2.2.2.2.2.1 (C.2.2.2.2.2.2.2.1 _ hw) (jm_d1 hd) (k (jm_d2 hd) G p e R s m args below meth c H locs cells slots lr C hF hL hc hs hR hS hl)
theorem go_iload {i : Nat} {v : Int} (hv : ls[i]? = some (some (.inl v))) (hd : jm_dc μ.2.1 pc ((.iload i, 2) :: r) = true) (k : jm_dc μ.2.1 (pc + 2) r = true → jm_Go d mc ms μ (pc + 2) ls (.inl v :: st) M Q) : jm_Go d mc ms μ pc ls (st) M Q := by
  intro G p e R s m args below meth c H locs cells slots lr C hF hL hc hs hR hS hl
  exact lv_iload C.1 C.2.1 (jm_d1 hd) (hl.2.2.2 _ _ hv).2 (k (jm_d2 hd) G p e R s m args below meth c H locs cells slots lr C hF hL hc hs hR hS hl)
theorem go_iload_n {i : Fin 4} {v : Int} (hv : ls[(i : Nat)]? = some (some (.inl v))) (hd : jm_dc μ.2.1 pc ((.iload_n i, 1) :: r) = true) (k : jm_dc μ.2.1 (pc + 1) r = true → jm_Go d mc ms μ (pc + 1) ls (.inl v :: st) M Q) : jm_Go d mc ms μ pc ls (st) M Q := by
  intro G p e R s m args below meth c H locs cells slots lr C hF hL hc hs hR hS hl
  exact lv_iload_n C.1 C.2.1 (jm_d1 hd) rfl (hl.2.2.2 _ _ hv).2 (k (jm_d2 hd) G p e R s m args below meth c H locs cells slots lr C hF hL hc hs hR hS hl)
theorem go_istore {i : Nat} {v : Int} (hi : i < μ.2.2.1) (hd : jm_dc μ.2.1 pc ((.istore i, 2) :: r) = true) (k : jm_dc μ.2.1 (pc + 2) r = true → jm_Go d mc ms μ (pc + 2) (ls.set i (some (.inl v))) (st) M Q) : jm_Go d mc ms μ pc ls (.inl v :: st) M Q := by
  intro G p e R s m args below meth c H locs cells slots lr C hF hL hc hs hR hS hl
  exact lv_istore C.1 C.2.1 (jm_d1 hd) hl.has hi rfl (fun lr2 h2 => k (jm_d2 hd) G p e R s m args below meth c H locs cells slots lr2 C hF hL hc hs hR hS (hl.st (v := .inl v) rfl rfl h2))
theorem go_istore_n {i : Fin 4} {v : Int} (hi : (i : Nat) < μ.2.2.1) (hd : jm_dc μ.2.1 pc ((.istore_n i, 1) :: r) = true) (k : jm_dc μ.2.1 (pc + 1) r = true → jm_Go d mc ms μ (pc + 1) (ls.set (i : Nat) (some (.inl v))) (st) M Q) : jm_Go d mc ms μ pc ls (.inl v :: st) M Q := by
  intro G p e R s m args below meth c H locs cells slots lr C hF hL hc hs hR hS hl
  exact lv_istore_n C.1 C.2.1 (jm_d1 hd) rfl hl.has hi rfl (fun lr2 h2 => k (jm_d2 hd) G p e R s m args below meth c H locs cells slots lr2 C hF hL hc hs hR hS (hl.st (v := .inl v) rfl rfl h2))
theorem go_aload {i : Nat} {v : Nat} (hv : ls[i]? = some (some (.inr (.inl v)))) (hd : jm_dc μ.2.1 pc ((.aload i, 2) :: r) = true) (k : jm_dc μ.2.1 (pc + 2) r = true → jm_Go d mc ms μ (pc + 2) ls (.inr (.inl v) :: st) M Q) : jm_Go d mc ms μ pc ls (st) M Q := by
  intro G p e R s m args below meth c H locs cells slots lr C hF hL hc hs hR hS hl
  exact lv_aload C.1 C.2.1 (jm_d1 hd) (hl.2.2.2 _ _ hv).2 (k (jm_d2 hd) G p e R s m args below meth c H locs cells slots lr C hF hL hc hs hR hS hl)
theorem go_aload_n {i : Fin 4} {v : Nat} (hv : ls[(i : Nat)]? = some (some (.inr (.inl v)))) (hd : jm_dc μ.2.1 pc ((.aload_n i, 1) :: r) = true) (k : jm_dc μ.2.1 (pc + 1) r = true → jm_Go d mc ms μ (pc + 1) ls (.inr (.inl v) :: st) M Q) : jm_Go d mc ms μ pc ls (st) M Q := by
  intro G p e R s m args below meth c H locs cells slots lr C hF hL hc hs hR hS hl
  exact lv_aload_n C.1 C.2.1 (jm_d1 hd) rfl (hl.2.2.2 _ _ hv).2 (k (jm_d2 hd) G p e R s m args below meth c H locs cells slots lr C hF hL hc hs hR hS hl)
theorem go_astore {i : Nat} {v : Nat} (hi : i < μ.2.2.1) (hd : jm_dc μ.2.1 pc ((.astore i, 2) :: r) = true) (k : jm_dc μ.2.1 (pc + 2) r = true → jm_Go d mc ms μ (pc + 2) (ls.set i (some (.inr (.inl v)))) (st) M Q) : jm_Go d mc ms μ pc ls (.inr (.inl v) :: st) M Q := by
  intro G p e R s m args below meth c H locs cells slots lr C hF hL hc hs hR hS hl
  exact lv_astore C.1 C.2.1 (jm_d1 hd) hl.has hi rfl (fun lr2 h2 => k (jm_d2 hd) G p e R s m args below meth c H locs cells slots lr2 C hF hL hc hs hR hS (hl.st (v := .inr (.inl v)) rfl rfl h2))
theorem go_astore_n {i : Fin 4} {v : Nat} (hi : (i : Nat) < μ.2.2.1) (hd : jm_dc μ.2.1 pc ((.astore_n i, 1) :: r) = true) (k : jm_dc μ.2.1 (pc + 1) r = true → jm_Go d mc ms μ (pc + 1) (ls.set (i : Nat) (some (.inr (.inl v)))) (st) M Q) : jm_Go d mc ms μ pc ls (.inr (.inl v) :: st) M Q := by
  intro G p e R s m args below meth c H locs cells slots lr C hF hL hc hs hR hS hl
  exact lv_astore_n C.1 C.2.1 (jm_d1 hd) rfl hl.has hi rfl (fun lr2 h2 => k (jm_d2 hd) G p e R s m args below meth c H locs cells slots lr2 C hF hL hc hs hR hS (hl.st (v := .inr (.inl v)) rfl rfl h2))
theorem jm_pr_at {G : jm_G} {ls : jm_Ls} {i : Nat} {v : jm_V} (h : ls[i]? = some (some v)) : ∃ k : Nat, (jm_pr G ls)[k]? = some (i, jm_cv G v) := List.getElem?_of_mem (jm_pr_mem h)
theorem go_iinc {i : Nat} {n v : Int} (hv : ls[i]? = some (some (.inl v))) (hd : jm_dc μ.2.1 pc ((.iinc i n, 3) :: r) = true) (k : jm_dc μ.2.1 (pc + 3) r = true → jm_Go d mc ms μ (pc + 3) (ls.set i (some (.inl (v + n)))) (st) M Q) : jm_Go d mc ms μ pc ls (st) M Q := by
  intro G p e R s m args below meth c H locs cells slots lr C hF hL hc hs hR hS hl
  obtain ⟨q, hq⟩ := jm_pr_at (G := G) hv
  have hi : i < μ.2.2.1 := by rw [← hl.1]; exact (List.getElem?_eq_some_iff.mp hv).1
  exact lv_iinc (x := Int32.ofInt v) (v := Int32.ofInt (v + n)) C.1 C.2.1 (jm_d1 hd) hl.has hq (by rw [Int32.ofInt_add]) hi rfl (fun lr2 h2 => k (jm_d2 hd) G p e R s m args below meth c H locs cells slots lr2 C hF hL hc hs hR hS (hl.st (v := .inl (v + n)) rfl rfl h2))
theorem go_iadd {a b : Int} (hd : jm_dc μ.2.1 pc ((.iadd, 1) :: r) = true) (k : jm_dc μ.2.1 (pc + 1) r = true → jm_Go d mc ms μ (pc + 1) ls (.inl (a + b) :: st) M Q) : jm_Go d mc ms μ pc ls (.inl b :: .inl a :: st) M Q := by
  intro G p e R s m args below meth c H locs cells slots lr C hF hL hc hs hR hS hl
  have K := k (jm_d2 hd) G p e R s m args below meth c H locs cells slots lr C hF hL hc hs hR hS hl
  simp only [List.map_cons, jm_cv, Int32.ofInt_add] at K
  exact lv_iadd C.1 C.2.1 (jm_d1 hd) K
theorem go_isub {a b : Int} (hd : jm_dc μ.2.1 pc ((.isub, 1) :: r) = true) (k : jm_dc μ.2.1 (pc + 1) r = true → jm_Go d mc ms μ (pc + 1) ls (.inl (a - b) :: st) M Q) : jm_Go d mc ms μ pc ls (.inl b :: .inl a :: st) M Q := by
  intro G p e R s m args below meth c H locs cells slots lr C hF hL hc hs hR hS hl
  have K := k (jm_d2 hd) G p e R s m args below meth c H locs cells slots lr C hF hL hc hs hR hS hl
  simp only [List.map_cons, jm_cv, Int32.ofInt_sub] at K
  exact lv_isub C.1 C.2.1 (jm_d1 hd) K
theorem go_imul {a b : Int} (hd : jm_dc μ.2.1 pc ((.imul, 1) :: r) = true) (k : jm_dc μ.2.1 (pc + 1) r = true → jm_Go d mc ms μ (pc + 1) ls (.inl (a * b) :: st) M Q) : jm_Go d mc ms μ pc ls (.inl b :: .inl a :: st) M Q := by
  intro G p e R s m args below meth c H locs cells slots lr C hF hL hc hs hR hS hl
  have K := k (jm_d2 hd) G p e R s m args below meth c H locs cells slots lr C hF hL hc hs hR hS hl
  simp only [List.map_cons, jm_cv, Int32.ofInt_mul] at K
  exact lv_imul C.1 C.2.1 (jm_d1 hd) K
theorem go_iand {a b : Int} (hd : jm_dc μ.2.1 pc ((.iand, 1) :: r) = true) (k : jm_dc μ.2.1 (pc + 1) r = true → jm_Go d mc ms μ (pc + 1) ls (.inl (jb_and a b) :: st) M Q) : jm_Go d mc ms μ pc ls (.inl b :: .inl a :: st) M Q := by
  intro G p e R s m args below meth c H locs cells slots lr C hF hL hc hs hR hS hl
  have K := k (jm_d2 hd) G p e R s m args below meth c H locs cells slots lr C hF hL hc hs hR hS hl
  simp only [List.map_cons, jm_cv, jb_and, Int32.ofInt_toInt] at K
  exact lv_iand C.1 C.2.1 (jm_d1 hd) K
theorem go_ior {a b : Int} (hd : jm_dc μ.2.1 pc ((.ior, 1) :: r) = true) (k : jm_dc μ.2.1 (pc + 1) r = true → jm_Go d mc ms μ (pc + 1) ls (.inl (jb_or a b) :: st) M Q) : jm_Go d mc ms μ pc ls (.inl b :: .inl a :: st) M Q := by
  intro G p e R s m args below meth c H locs cells slots lr C hF hL hc hs hR hS hl
  have K := k (jm_d2 hd) G p e R s m args below meth c H locs cells slots lr C hF hL hc hs hR hS hl
  simp only [List.map_cons, jm_cv, jb_or, Int32.ofInt_toInt] at K
  exact lv_ior C.1 C.2.1 (jm_d1 hd) K
theorem go_ixor {a b : Int} (hd : jm_dc μ.2.1 pc ((.ixor, 1) :: r) = true) (k : jm_dc μ.2.1 (pc + 1) r = true → jm_Go d mc ms μ (pc + 1) ls (.inl (jb_xor a b) :: st) M Q) : jm_Go d mc ms μ pc ls (.inl b :: .inl a :: st) M Q := by
  intro G p e R s m args below meth c H locs cells slots lr C hF hL hc hs hR hS hl
  have K := k (jm_d2 hd) G p e R s m args below meth c H locs cells slots lr C hF hL hc hs hR hS hl
  simp only [List.map_cons, jm_cv, jb_xor, Int32.ofInt_toInt] at K
  exact lv_ixor C.1 C.2.1 (jm_d1 hd) K
theorem go_ishl {a b : Int} (hd : jm_dc μ.2.1 pc ((.ishl, 1) :: r) = true) (k : jm_dc μ.2.1 (pc + 1) r = true → jm_Go d mc ms μ (pc + 1) ls (.inl (jb_shl a b) :: st) M Q) : jm_Go d mc ms μ pc ls (.inl b :: .inl a :: st) M Q := by
  intro G p e R s m args below meth c H locs cells slots lr C hF hL hc hs hR hS hl
  have K := k (jm_d2 hd) G p e R s m args below meth c H locs cells slots lr C hF hL hc hs hR hS hl
  simp only [List.map_cons, jm_cv, jb_shl, Int32.ofInt_toInt] at K
  exact lv_ishl C.1 C.2.1 (jm_d1 hd) K
theorem go_ishr {a b : Int} (hd : jm_dc μ.2.1 pc ((.ishr, 1) :: r) = true) (k : jm_dc μ.2.1 (pc + 1) r = true → jm_Go d mc ms μ (pc + 1) ls (.inl (jb_shr a b) :: st) M Q) : jm_Go d mc ms μ pc ls (.inl b :: .inl a :: st) M Q := by
  intro G p e R s m args below meth c H locs cells slots lr C hF hL hc hs hR hS hl
  have K := k (jm_d2 hd) G p e R s m args below meth c H locs cells slots lr C hF hL hc hs hR hS hl
  simp only [List.map_cons, jm_cv, jb_shr, Int32.ofInt_toInt] at K
  exact lv_ishr C.1 C.2.1 (jm_d1 hd) K
theorem go_iushr {a b : Int} (hd : jm_dc μ.2.1 pc ((.iushr, 1) :: r) = true) (k : jm_dc μ.2.1 (pc + 1) r = true → jm_Go d mc ms μ (pc + 1) ls (.inl (jb_ushr a b) :: st) M Q) : jm_Go d mc ms μ pc ls (.inl b :: .inl a :: st) M Q := by
  intro G p e R s m args below meth c H locs cells slots lr C hF hL hc hs hR hS hl
  exact lv_iushr C.1 C.2.1 (jm_d1 hd) (by unfold jb_ushr; rw [Int32.ofInt_toInt]) (k (jm_d2 hd) G p e R s m args below meth c H locs cells slots lr C hF hL hc hs hR hS hl)
theorem jm_nat {a : Int} (h : 0 ≤ a) : Int32.ofInt a = nI a.toNat := by
  obtain ⟨j, rfl⟩ : ∃ j : Nat, a = j := ⟨a.toNat, by omega⟩
  exact Int32.ofInt_eq_ofNat
theorem go_idiv {a b : Int} (ha : 0 ≤ a ∧ a < 2147483648) (hb : 0 < b ∧ b < 2147483648) (hd : jm_dc μ.2.1 pc ((.idiv, 1) :: r) = true) (k : jm_dc μ.2.1 (pc + 1) r = true → jm_Go d mc ms μ (pc + 1) ls (.inl (a / b) :: st) M Q) : jm_Go d mc ms μ pc ls (.inl b :: .inl a :: st) M Q := by
  intro G p e R s m args below meth c H locs cells slots lr C hF hL hc hs hR hS hl
  have K := k (jm_d2 hd) G p e R s m args below meth c H locs cells slots lr C hF hL hc hs hR hS hl
  have e : Int32.ofInt (a / b) = Int32.ofInt a / Int32.ofInt b := by
    obtain ⟨x, rfl⟩ : ∃ j : Nat, a = j := ⟨a.toNat, by omega⟩
    obtain ⟨y, rfl⟩ : ∃ j : Nat, b = j := ⟨b.toNat, by omega⟩
    rw [show ((x : Int) / (y : Int)) = ((x / y : Nat) : Int) from by simp, Int32.ofInt_eq_ofNat, Int32.ofInt_eq_ofNat, Int32.ofInt_eq_ofNat]
    exact (pk_div (by omega) (by omega) (by omega)).symm
  simp only [List.map_cons, jm_cv, e] at K
  exact lv_idiv C.1 C.2.1 (jm_d1 hd) (fun h => by have := (jr_eq ⟨by omega, by omega⟩ jr_0).mp h; omega) K
theorem go_irem {a b : Int} (ha : 0 ≤ a ∧ a < 2147483648) (hb : 0 < b ∧ b < 2147483648) (hd : jm_dc μ.2.1 pc ((.irem, 1) :: r) = true) (k : jm_dc μ.2.1 (pc + 1) r = true → jm_Go d mc ms μ (pc + 1) ls (.inl (a % b) :: st) M Q) : jm_Go d mc ms μ pc ls (.inl b :: .inl a :: st) M Q := by
  intro G p e R s m args below meth c H locs cells slots lr C hF hL hc hs hR hS hl
  have K := k (jm_d2 hd) G p e R s m args below meth c H locs cells slots lr C hF hL hc hs hR hS hl
  have e : Int32.ofInt (a % b) = Int32.ofInt a - Int32.ofInt a / Int32.ofInt b * Int32.ofInt b := by
    obtain ⟨x, rfl⟩ : ∃ j : Nat, a = j := ⟨a.toNat, by omega⟩
    obtain ⟨y, rfl⟩ : ∃ j : Nat, b = j := ⟨b.toNat, by omega⟩
    rw [show ((x : Int) % (y : Int)) = ((x % y : Nat) : Int) from by simp, Int32.ofInt_eq_ofNat, Int32.ofInt_eq_ofNat, Int32.ofInt_eq_ofNat]
    exact (pk_rem (by omega) (by omega) (by omega)).symm
  simp only [List.map_cons, jm_cv, e] at K
  exact lv_irem C.1 C.2.1 (jm_d1 hd) (fun h => by have := (jr_eq ⟨by omega, by omega⟩ jr_0).mp h; omega) K
theorem go_ladd {a b : Int} (hd : jm_dc μ.2.1 pc ((.ladd, 1) :: r) = true) (k : jm_dc μ.2.1 (pc + 1) r = true → jm_Go d mc ms μ (pc + 1) ls (.inr (.inr (a + b)) :: st) M Q) : jm_Go d mc ms μ pc ls (.inr (.inr b) :: .inr (.inr a) :: st) M Q := by
  intro G p e R s m args below meth c H locs cells slots lr C hF hL hc hs hR hS hl
  have K := k (jm_d2 hd) G p e R s m args below meth c H locs cells slots lr C hF hL hc hs hR hS hl
  simp only [List.map_cons, jm_cv, Int64.ofInt_add] at K
  exact lv_ladd C.1 C.2.1 (jm_d1 hd) K
theorem go_lcmp {a b : Int} (h : a = b) (hd : jm_dc μ.2.1 pc ((.lcmp, 1) :: r) = true) (k : jm_dc μ.2.1 (pc + 1) r = true → jm_Go d mc ms μ (pc + 1) ls (.inl 0 :: st) M Q) : jm_Go d mc ms μ pc ls (.inr (.inr b) :: .inr (.inr a) :: st) M Q := by
  intro G p e R s m args below meth c H locs cells slots lr C hF hL hc hs hR hS hl
  have K := k (jm_d2 hd) G p e R s m args below meth c H locs cells slots lr C hF hL hc hs hR hS hl
  subst h
  have e : lg_cmp (Int64.ofInt a) (Int64.ofInt a) = Int32.ofInt 0 := by simp [lg_cmp]
  refine W.lcmp C.1 C.2.1 (jm_d1 hd) ?_
  rw [e]
  exact K
theorem go_dup {v : jm_V} (hv : jm_ct v = 1) (hd : jm_dc μ.2.1 pc ((.dup, 1) :: r) = true) (k : jm_dc μ.2.1 (pc + 1) r = true → jm_Go d mc ms μ (pc + 1) ls (v :: v :: st) M Q) : jm_Go d mc ms μ pc ls (v :: st) M Q := by
  intro G p e R s m args below meth c H locs cells slots lr C hF hL hc hs hR hS hl
  exact lv_dup C.1 C.2.1 (jm_d1 hd) (by rw [jm_cat]; exact hv) (k (jm_d2 hd) G p e R s m args below meth c H locs cells slots lr C hF hL hc hs hR hS hl)
theorem go_dup2 {v w : jm_V} (hv : jm_ct v = 1) (hw : jm_ct w = 1) (hd : jm_dc μ.2.1 pc ((.dup2, 1) :: r) = true) (k : jm_dc μ.2.1 (pc + 1) r = true → jm_Go d mc ms μ (pc + 1) ls (v :: w :: v :: w :: st) M Q) : jm_Go d mc ms μ pc ls (v :: w :: st) M Q := by
  intro G p e R s m args below meth c H locs cells slots lr C hF hL hc hs hR hS hl
  exact lv_dup2_11 C.1 C.2.1 (jm_d1 hd) (by rw [jm_cat]; exact hv) (by rw [jm_cat]; exact hw) (k (jm_d2 hd) G p e R s m args below meth c H locs cells slots lr C hF hL hc hs hR hS hl)
theorem go_pop {v : jm_V} (hv : jm_ct v = 1) (hd : jm_dc μ.2.1 pc ((.pop, 1) :: r) = true) (k : jm_dc μ.2.1 (pc + 1) r = true → jm_Go d mc ms μ (pc + 1) ls (st) M Q) : jm_Go d mc ms μ pc ls (v :: st) M Q := by
  intro G p e R s m args below meth c H locs cells slots lr C hF hL hc hs hR hS hl
  exact lv_pop C.1 C.2.1 (jm_d1 hd) (by rw [jm_cat]; exact hv) (k (jm_d2 hd) G p e R s m args below meth c H locs cells slots lr C hF hL hc hs hR hS hl)
theorem go_goto {off : Int} {t : Nat} (ht : (pc : Int) + off = (t : Int)) (hd : jm_dc μ.2.1 pc ((.goto off, 3) :: r) = true) (k : jm_Go d mc ms μ t ls st M Q) : jm_Go d mc ms μ pc ls (st) M Q := by
  intro G p e R s m args below meth c H locs cells slots lr C hF hL hc hs hR hS hl
  exact lv_goto C.1 C.2.1 (jm_d1 hd) ht (k G p e R s m args below meth c H locs cells slots lr C hF hL hc hs hR hS hl)
theorem go_icmp_eq {a b : Int} {off : Int} {t : Nat} (ht : (pc : Int) + off = (t : Int)) (ha : jm_rg a) (hb : jm_rg b) (hd : jm_dc μ.2.1 pc ((.if_icmp .eq off, 3) :: r) = true) (kt : a = b → jm_Go d mc ms μ t ls st M Q) (kf : ¬ a = b → jm_Go d mc ms μ (pc + 3) ls st M Q) : jm_Go d mc ms μ pc ls (.inl b :: .inl a :: st) M Q := by
  intro G p e R s m args below meth c H locs cells slots lr C hF hL hc hs hR hS hl
  exact lv_icmp_eq C.1 C.2.1 (jm_d1 hd) ht (fun q => kt ((jr_eq ha hb).mp q) G p e R s m args below meth c H locs cells slots lr C hF hL hc hs hR hS hl) (fun q => kf ((not_congr (jr_eq ha hb)).mp q) G p e R s m args below meth c H locs cells slots lr C hF hL hc hs hR hS hl)
theorem go_if_eq {a : Int} {off : Int} {t : Nat} (ht : (pc : Int) + off = (t : Int)) (ha : jm_rg a) (hd : jm_dc μ.2.1 pc ((.ifCond .eq off, 3) :: r) = true) (kt : a = 0 → jm_Go d mc ms μ t ls st M Q) (kf : ¬ a = 0 → jm_Go d mc ms μ (pc + 3) ls st M Q) : jm_Go d mc ms μ pc ls (.inl a :: st) M Q := by
  intro G p e R s m args below meth c H locs cells slots lr C hF hL hc hs hR hS hl
  exact lv_if_eq C.1 C.2.1 (jm_d1 hd) ht (fun q => kt ((jr_eq ha jr_0).mp q) G p e R s m args below meth c H locs cells slots lr C hF hL hc hs hR hS hl) (fun q => kf ((not_congr (jr_eq ha jr_0)).mp q) G p e R s m args below meth c H locs cells slots lr C hF hL hc hs hR hS hl)
theorem go_icmp_ne {a b : Int} {off : Int} {t : Nat} (ht : (pc : Int) + off = (t : Int)) (ha : jm_rg a) (hb : jm_rg b) (hd : jm_dc μ.2.1 pc ((.if_icmp .ne off, 3) :: r) = true) (kt : ¬ a = b → jm_Go d mc ms μ t ls st M Q) (kf : a = b → jm_Go d mc ms μ (pc + 3) ls st M Q) : jm_Go d mc ms μ pc ls (.inl b :: .inl a :: st) M Q := by
  intro G p e R s m args below meth c H locs cells slots lr C hF hL hc hs hR hS hl
  exact lv_icmp_ne C.1 C.2.1 (jm_d1 hd) ht (fun q => kt ((not_congr (jr_eq ha hb)).mp q) G p e R s m args below meth c H locs cells slots lr C hF hL hc hs hR hS hl) (fun q => kf ((jr_eq ha hb).mp q) G p e R s m args below meth c H locs cells slots lr C hF hL hc hs hR hS hl)
theorem go_if_ne {a : Int} {off : Int} {t : Nat} (ht : (pc : Int) + off = (t : Int)) (ha : jm_rg a) (hd : jm_dc μ.2.1 pc ((.ifCond .ne off, 3) :: r) = true) (kt : ¬ a = 0 → jm_Go d mc ms μ t ls st M Q) (kf : a = 0 → jm_Go d mc ms μ (pc + 3) ls st M Q) : jm_Go d mc ms μ pc ls (.inl a :: st) M Q := by
  intro G p e R s m args below meth c H locs cells slots lr C hF hL hc hs hR hS hl
  exact lv_if_ne C.1 C.2.1 (jm_d1 hd) ht (fun q => kt ((not_congr (jr_eq ha jr_0)).mp q) G p e R s m args below meth c H locs cells slots lr C hF hL hc hs hR hS hl) (fun q => kf ((jr_eq ha jr_0).mp q) G p e R s m args below meth c H locs cells slots lr C hF hL hc hs hR hS hl)
theorem go_icmp_lt {a b : Int} {off : Int} {t : Nat} (ht : (pc : Int) + off = (t : Int)) (ha : jm_rg a) (hb : jm_rg b) (hd : jm_dc μ.2.1 pc ((.if_icmp .lt off, 3) :: r) = true) (kt : a < b → jm_Go d mc ms μ t ls st M Q) (kf : ¬ a < b → jm_Go d mc ms μ (pc + 3) ls st M Q) : jm_Go d mc ms μ pc ls (.inl b :: .inl a :: st) M Q := by
  intro G p e R s m args below meth c H locs cells slots lr C hF hL hc hs hR hS hl
  exact lv_icmp_lt C.1 C.2.1 (jm_d1 hd) ht (fun q => kt ((jr_lt ha hb).mp q) G p e R s m args below meth c H locs cells slots lr C hF hL hc hs hR hS hl) (fun q => kf ((not_congr (jr_lt ha hb)).mp q) G p e R s m args below meth c H locs cells slots lr C hF hL hc hs hR hS hl)
theorem go_if_lt {a : Int} {off : Int} {t : Nat} (ht : (pc : Int) + off = (t : Int)) (ha : jm_rg a) (hd : jm_dc μ.2.1 pc ((.ifCond .lt off, 3) :: r) = true) (kt : a < 0 → jm_Go d mc ms μ t ls st M Q) (kf : ¬ a < 0 → jm_Go d mc ms μ (pc + 3) ls st M Q) : jm_Go d mc ms μ pc ls (.inl a :: st) M Q := by
  intro G p e R s m args below meth c H locs cells slots lr C hF hL hc hs hR hS hl
  exact lv_if_lt C.1 C.2.1 (jm_d1 hd) ht (fun q => kt ((jr_lt ha jr_0).mp q) G p e R s m args below meth c H locs cells slots lr C hF hL hc hs hR hS hl) (fun q => kf ((not_congr (jr_lt ha jr_0)).mp q) G p e R s m args below meth c H locs cells slots lr C hF hL hc hs hR hS hl)
theorem go_icmp_ge {a b : Int} {off : Int} {t : Nat} (ht : (pc : Int) + off = (t : Int)) (ha : jm_rg a) (hb : jm_rg b) (hd : jm_dc μ.2.1 pc ((.if_icmp .ge off, 3) :: r) = true) (kt : b ≤ a → jm_Go d mc ms μ t ls st M Q) (kf : ¬ b ≤ a → jm_Go d mc ms μ (pc + 3) ls st M Q) : jm_Go d mc ms μ pc ls (.inl b :: .inl a :: st) M Q := by
  intro G p e R s m args below meth c H locs cells slots lr C hF hL hc hs hR hS hl
  exact lv_icmp_ge C.1 C.2.1 (jm_d1 hd) ht (fun q => kt ((jr_le hb ha).mp q) G p e R s m args below meth c H locs cells slots lr C hF hL hc hs hR hS hl) (fun q => kf ((not_congr (jr_le hb ha)).mp q) G p e R s m args below meth c H locs cells slots lr C hF hL hc hs hR hS hl)
theorem go_if_ge {a : Int} {off : Int} {t : Nat} (ht : (pc : Int) + off = (t : Int)) (ha : jm_rg a) (hd : jm_dc μ.2.1 pc ((.ifCond .ge off, 3) :: r) = true) (kt : 0 ≤ a → jm_Go d mc ms μ t ls st M Q) (kf : ¬ 0 ≤ a → jm_Go d mc ms μ (pc + 3) ls st M Q) : jm_Go d mc ms μ pc ls (.inl a :: st) M Q := by
  intro G p e R s m args below meth c H locs cells slots lr C hF hL hc hs hR hS hl
  exact lv_if_ge C.1 C.2.1 (jm_d1 hd) ht (fun q => kt ((jr_le jr_0 ha).mp q) G p e R s m args below meth c H locs cells slots lr C hF hL hc hs hR hS hl) (fun q => kf ((not_congr (jr_le jr_0 ha)).mp q) G p e R s m args below meth c H locs cells slots lr C hF hL hc hs hR hS hl)
theorem go_icmp_gt {a b : Int} {off : Int} {t : Nat} (ht : (pc : Int) + off = (t : Int)) (ha : jm_rg a) (hb : jm_rg b) (hd : jm_dc μ.2.1 pc ((.if_icmp .gt off, 3) :: r) = true) (kt : b < a → jm_Go d mc ms μ t ls st M Q) (kf : ¬ b < a → jm_Go d mc ms μ (pc + 3) ls st M Q) : jm_Go d mc ms μ pc ls (.inl b :: .inl a :: st) M Q := by
  intro G p e R s m args below meth c H locs cells slots lr C hF hL hc hs hR hS hl
  exact lv_icmp_gt C.1 C.2.1 (jm_d1 hd) ht (fun q => kt ((jr_lt hb ha).mp q) G p e R s m args below meth c H locs cells slots lr C hF hL hc hs hR hS hl) (fun q => kf ((not_congr (jr_lt hb ha)).mp q) G p e R s m args below meth c H locs cells slots lr C hF hL hc hs hR hS hl)
theorem go_if_gt {a : Int} {off : Int} {t : Nat} (ht : (pc : Int) + off = (t : Int)) (ha : jm_rg a) (hd : jm_dc μ.2.1 pc ((.ifCond .gt off, 3) :: r) = true) (kt : 0 < a → jm_Go d mc ms μ t ls st M Q) (kf : ¬ 0 < a → jm_Go d mc ms μ (pc + 3) ls st M Q) : jm_Go d mc ms μ pc ls (.inl a :: st) M Q := by
  intro G p e R s m args below meth c H locs cells slots lr C hF hL hc hs hR hS hl
  exact lv_if_gt C.1 C.2.1 (jm_d1 hd) ht (fun q => kt ((jr_lt jr_0 ha).mp q) G p e R s m args below meth c H locs cells slots lr C hF hL hc hs hR hS hl) (fun q => kf ((not_congr (jr_lt jr_0 ha)).mp q) G p e R s m args below meth c H locs cells slots lr C hF hL hc hs hR hS hl)
theorem go_icmp_le {a b : Int} {off : Int} {t : Nat} (ht : (pc : Int) + off = (t : Int)) (ha : jm_rg a) (hb : jm_rg b) (hd : jm_dc μ.2.1 pc ((.if_icmp .le off, 3) :: r) = true) (kt : a ≤ b → jm_Go d mc ms μ t ls st M Q) (kf : ¬ a ≤ b → jm_Go d mc ms μ (pc + 3) ls st M Q) : jm_Go d mc ms μ pc ls (.inl b :: .inl a :: st) M Q := by
  intro G p e R s m args below meth c H locs cells slots lr C hF hL hc hs hR hS hl
  exact lv_icmp_le C.1 C.2.1 (jm_d1 hd) ht (fun q => kt ((jr_le ha hb).mp q) G p e R s m args below meth c H locs cells slots lr C hF hL hc hs hR hS hl) (fun q => kf ((not_congr (jr_le ha hb)).mp q) G p e R s m args below meth c H locs cells slots lr C hF hL hc hs hR hS hl)
theorem go_if_le {a : Int} {off : Int} {t : Nat} (ht : (pc : Int) + off = (t : Int)) (ha : jm_rg a) (hd : jm_dc μ.2.1 pc ((.ifCond .le off, 3) :: r) = true) (kt : a ≤ 0 → jm_Go d mc ms μ t ls st M Q) (kf : ¬ a ≤ 0 → jm_Go d mc ms μ (pc + 3) ls st M Q) : jm_Go d mc ms μ pc ls (.inl a :: st) M Q := by
  intro G p e R s m args below meth c H locs cells slots lr C hF hL hc hs hR hS hl
  exact lv_if_le C.1 C.2.1 (jm_d1 hd) ht (fun q => kt ((jr_le ha jr_0).mp q) G p e R s m args below meth c H locs cells slots lr C hF hL hc hs hR hS hl) (fun q => kf ((not_congr (jr_le ha jr_0)).mp q) G p e R s m args below meth c H locs cells slots lr C hF hL hc hs hR hS hl)
theorem go_icmp_eqT {a b : Int} {off : Int} {t : Nat} (ht : (pc : Int) + off = (t : Int)) (hab : a = b) (hd : jm_dc μ.2.1 pc ((.if_icmp .eq off, 3) :: r) = true) (kt : jm_Go d mc ms μ t ls st M Q) : jm_Go d mc ms μ pc ls (.inl b :: .inl a :: st) M Q := by
  intro G p e R s m args below meth c H locs cells slots lr C hF hL hc hs hR hS hl
  subst hab
  exact lv_icmp_eq C.1 C.2.1 (jm_d1 hd) ht (fun _ => kt G p e R s m args below meth c H locs cells slots lr C hF hL hc hs hR hS hl) (fun q => absurd rfl q)
theorem go_tableIn {a : Int} {dflt lo hi : Int} {offs : Array Int} {len : Nat} {off : Int} {t : Nat} (ha : jm_rg a) (h1 : lo ≤ a) (h2 : a ≤ hi) (ho : offs[(a - lo).toNat]? = some off) (ht : (pc : Int) + off = (t : Int)) (hd : jm_dc μ.2.1 pc ((.tableswitch dflt lo hi offs, len) :: r) = true) (k : jm_Go d mc ms μ t ls st M Q) : jm_Go d mc ms μ pc ls (.inl a :: st) M Q := by
  intro G p e R s m args below meth c H locs cells slots lr C hF hL hc hs hR hS hl
  have hE : (Int32.ofInt a).toInt = a := Int32.toInt_ofInt_of_le ha.1 ha.2
  exact lv_tableIn C.1 C.2.1 (jm_d1 hd) (by rw [hE]; omega) (by rw [hE]; omega) (by rw [hE]; exact ho) ht (k G p e R s m args below meth c H locs cells slots lr C hF hL hc hs hR hS hl)
theorem go_tableOut {a : Int} {dflt lo hi : Int} {offs : Array Int} {len : Nat} {t : Nat} (ha : jm_rg a) (h1 : a < lo ∨ hi < a) (ht : (pc : Int) + dflt = (t : Int)) (hd : jm_dc μ.2.1 pc ((.tableswitch dflt lo hi offs, len) :: r) = true) (k : jm_Go d mc ms μ t ls st M Q) : jm_Go d mc ms μ pc ls (.inl a :: st) M Q := by
  intro G p e R s m args below meth c H locs cells slots lr C hF hL hc hs hR hS hl
  have hE : (Int32.ofInt a).toInt = a := Int32.toInt_ofInt_of_le ha.1 ha.2
  exact lv_tableOut C.1 C.2.1 (jm_d1 hd) (by rw [hE]; exact h1) ht (k G p e R s m args below meth c H locs cells slots lr C hF hL hc hs hR hS hl)
theorem go_lookup {a : Int} {dflt : Int} {ps : Array (Int × Int)} {len : Nat} {off : Int} {t : Nat} (ha : jm_rg a) (hp : (ps.toList.zip (ps.toList.drop 1)).all (fun (a, next) => a.1 < next.1) = true) (ho : Op.lookupswitch.offset ps.toList dflt a = off) (ht : (pc : Int) + off = (t : Int)) (hd : jm_dc μ.2.1 pc ((.lookupswitch dflt ps, len) :: r) = true) (k : jm_Go d mc ms μ t ls st M Q) : jm_Go d mc ms μ pc ls (.inl a :: st) M Q := by
  intro G p e R s m args below meth c H locs cells slots lr C hF hL hc hs hR hS hl
  have hE : (Int32.ofInt a).toInt = a := Int32.toInt_ofInt_of_le ha.1 ha.2
  exact lv_lookup C.1 C.2.1 (jm_d1 hd) hp (by rw [hE]; exact ho) ht (k G p e R s m args below meth c H locs cells slots lr C hF hL hc hs hR hS hl)
theorem go_ireturn {v : Int} (hd : jm_dc μ.2.1 pc ((.ireturn, 1) :: r) = true) (hr : μ.2.2.2 = some .int) (k : Q (some (.inl v)) M) : jm_Go d mc ms μ pc ls [.inl v] M Q := by
  intro G p e R s m args below meth c H locs cells slots lr C hF hL hc hs hR hS hl
  have hlocks := C.2.2.2.1
  refine W.widen (k := cells + mc) (n := slots + ms) (Nat.le_add_right _ _) (Nat.le_add_right _ _) ?_
  exact W.iret C.1 C.2.1 (C.2.2.1.trans hr) (fun t ht _ => ⟨⟨some (.inl v), M, rfl, k, by rw [ht]; exact hR⟩, hS.F ht⟩) hS.2.2 (jm_d1 hd)
theorem go_zreturn {v : Int} (hd : jm_dc μ.2.1 pc ((.ireturn, 1) :: r) = true) (hr : μ.2.2.2 = some .boolean) (hv : v = 0 ∨ v = 1) (k : Q (some (.inl v)) M) : jm_Go d mc ms μ pc ls [.inl v] M Q := by
  intro G p e R s m args below meth c H locs cells slots lr C hF hL hc hs hR hS hl
  have hlocks := C.2.2.2.1
  refine W.widen (k := cells + mc) (n := slots + ms) (Nat.le_add_right _ _) (Nat.le_add_right _ _) ?_
  exact W.zret C.1 C.2.1 (C.2.2.1.trans hr) (by rcases hv with rfl | rfl <;> decide) (fun t ht _ => ⟨⟨some (.inl v), M, rfl, k, by rw [ht]; exact hR⟩, hS.F ht⟩) hS.2.2 (jm_d1 hd)
theorem go_lreturn {v : Int} (hd : jm_dc μ.2.1 pc ((.lreturn, 1) :: r) = true) (hr : μ.2.2.2 = some .long) (k : Q (some (.inr (.inr v))) M) : jm_Go d mc ms μ pc ls [.inr (.inr v)] M Q := by
  intro G p e R s m args below meth c H locs cells slots lr C hF hL hc hs hR hS hl
  have hlocks := C.2.2.2.1
  refine W.widen (k := cells + mc) (n := slots + ms) (Nat.le_add_right _ _) (Nat.le_add_right _ _) ?_
  exact W.lret C.1 C.2.1 (C.2.2.1.trans hr) (fun t ht _ => ⟨⟨some (.inr (.inr v)), M, rfl, k, by rw [ht]; exact hR⟩, hS.F ht⟩) hS.2.2 (jm_d1 hd)
theorem go_vreturn (hd : jm_dc μ.2.1 pc ((.return_, 1) :: r) = true) (hr : μ.2.2.2 = none) (k : Q none M) : jm_Go d mc ms μ pc ls [] M Q := by
  intro G p e R s m args below meth c H locs cells slots lr C hF hL hc hs hR hS hl
  have hlocks := C.2.2.2.1
  refine W.widen (k := cells + mc) (n := slots + ms) (Nat.le_add_right _ _) (Nat.le_add_right _ _) ?_
  exact W.vret C.1 C.2.1 (C.2.2.1.trans hr) (fun t ht _ => ⟨⟨none, M, rfl, k, by rw [ht]; exact hR⟩, hS.F ht⟩) hS.2.2 (jm_d1 hd)
/-- what is asked of the end may be weakened -/
theorem jm_Go.mono {Q' : Option jm_V → jm_M → Prop} (h : jm_Go d mc ms μ pc ls st M Q') (hq : ∀ r M, Q' r M → Q r M) : jm_Go d mc ms μ pc ls st M Q := by
  intro G p e R s m args below meth c H locs cells slots lr C hF hL hc hs hR hS hl
  intro T hT X
  obtain ⟨t, h1, o, h2, h3, ⟨⟨r, M', h4, h5, h6⟩, h7⟩, h8⟩ := h G p e R s m args below meth c H locs cells slots lr C hF hL hc hs hR hS hl T hT X
  exact ⟨t, h1, o, h2, h3, ⟨⟨r, M', h4, hq r M' h5, h6⟩, h7⟩, h8⟩
end PLAIN
