/-! ===== the memory while the constructors run ===== -/
def rF : List (Nat × Nat × Nat) → Nat → Nat → Option Nat
  | [], _, _ => none
  | t :: r, b, j => if b = t.1 ∧ j = t.2.1 then some t.2.2 else rF r b j
theorem rF_ur {rl : List (Nat × Nat × Nat)} {a k v : Nat} : jm_ur (rF rl) a k v = rF ((a, k, v) :: rl) := funext fun _ => funext fun _ => rfl
def stP (L n sl : Nat) (rl : List (Nat × Nat × Nat)) : jm_P := ((n, sl), (fun a => if a ≤ n then jx_S L a else (99, 0)), rF rl)
abbrev stg (L n sl : Nat) (rl : List (Nat × Nat × Nat)) (I : jm_I) : jm_M := jx (stP L n sl rl) I
def izero (I : jm_I) (n : Nat) : Prop := ∀ a, n < a → ∀ k, I a k = 0
abbrev rle (rl : List (Nat × Nat × Nat)) (n : Nat) : Prop := ∀ t ∈ rl, t.1 ≤ n
theorem rF_none {rl : List (Nat × Nat × Nat)} {n a : Nat} (h : rle rl n) (ha : n < a) (k : Nat) : rF rl a k = none := by
  induction rl with
  | nil => rfl
  | cons t r ih =>
    have h1 := h t List.mem_cons_self
    show (if a = t.1 ∧ k = t.2.1 then some t.2.2 else rF r a k) = none
    rw [if_neg (by omega)]
    exact ih (fun x hx => h x (List.mem_cons_of_mem _ hx))
theorem iz_m {I : jm_I} {n m : Nat} (h : izero I n) (hm : n ≤ m) : izero I m := fun a ha => h a (by omega)
theorem iz_u {I : jm_I} {n a k : Nat} {v : Int} (h : izero I n) (ha : a ≤ n) : izero (jm_up I a k v) n := fun b hb j => by
  rw [jm_up_o (by omega)]
  exact h b hb j
theorem rl_m {rl : List (Nat × Nat × Nat)} {n m : Nat} (h : rle rl n) (hm : n ≤ m) : rle rl m := fun t ht => Nat.le_trans (h t ht) hm
theorem rl_c {rl : List (Nat × Nat × Nat)} {n a k v : Nat} (h : rle rl n) (ha : a ≤ n) : rle ((a, k, v) :: rl) n := fun t ht => by
  rcases List.mem_cons.mp ht with rfl | ht
  · exact ha
  · exact h t ht
theorem rl_a {r0 rl : List (Nat × Nat × Nat)} {n : Nat} (h0 : rle r0 n) (h : rle rl n) : rle (r0 ++ rl) n := fun t ht => by
  rcases List.mem_append.mp ht with ht | ht
  · exact h0 t ht
  · exact h t ht
theorem sg_grow {L n sl s kd len : Nat} {rl : List (Nat × Nat × Nat)} {I : jm_I} (hz : izero I n) (hr : rle rl n) (hk : jx_S L (n + 1) = (kd, len)) : jm_grow (stg L n sl rl I) s kd len = stg L (n + 1) (sl + s) rl I := by
  refine Prod.ext rfl (Prod.ext (funext fun a => ?_) (Prod.ext (funext fun a => ?_) (funext fun a => ?_)))
  · show (if a = n + 1 then (kd, len) else if a ≤ n then jx_S L a else (99, 0)) = if a ≤ n + 1 then jx_S L a else (99, 0)
    by_cases h : a = n + 1
    · subst h
      rw [if_pos rfl, if_pos (Nat.le_refl _), hk]
    · rw [if_neg h]
      by_cases h2 : a ≤ n
      · rw [if_pos h2, if_pos (by omega)]
      · rw [if_neg h2, if_neg (by omega)]
  · show (if a = n + 1 then (fun _ => none) else rF rl a) = rF rl a
    by_cases h : a = n + 1
    · rw [if_pos h]
      funext j
      exact (rF_none hr (by omega) j).symm
    · rw [if_neg h]
  · show (if a = n + 1 then (fun _ => 0) else I a) = I a
    by_cases h : a = n + 1
    · rw [if_pos h]
      funext j
      exact (hz a (by omega) j).symm
    · rw [if_neg h]
/-- the rows of a row -/
def grl (a : Nat) : Nat → List (Nat × Nat × Nat)
  | 0 => []
  | n + 1 => (a, n, a + 1 + n) :: grl a n
theorem rF_grl {a n b j : Nat} {rl : List (Nat × Nat × Nat)} : rF (grl a n ++ rl) b j = if b = a ∧ j < n then some (a + 1 + j) else rF rl b j := by
  induction n with
  | zero =>
    rw [if_neg (by omega)]
    rfl
  | succ n ih =>
    show (if b = a ∧ j = n then some (a + 1 + n) else rF (grl a n ++ rl) b j) = _
    by_cases h : b = a ∧ j = n
    · rw [if_pos h, if_pos (by omega), h.2]
    · rw [if_neg h, ih]
      by_cases h2 : b = a ∧ j < n
      · rw [if_pos h2, if_pos (by omega)]
      · rw [if_neg h2, if_neg (by omega)]
theorem rl_g {a N m : Nat} (ha : a ≤ m) : rle (grl a N) m := by
  induction N with
  | zero => exact fun t ht => by cases ht
  | succ n ih => exact rl_c ih ha
theorem sg_grid {L n sl N K : Nat} {rl : List (Nat × Nat × Nat)} {I : jm_I} (hz : izero I n) (hr : rle rl n) (hk : jx_S L (n + 1) = (23, N)) (hk2 : ∀ j, j < N → jx_Sl.getD (n + 1 + j) (99, 0) = (20, K)) : jm_grid (stg L n sl rl I) N K = stg L (n + 1 + N) (sl + (N + N * K)) (grl (n + 1) N ++ rl) I := by
  refine Prod.ext rfl (Prod.ext (funext fun a => ?_) (Prod.ext (funext fun a => ?_) (funext fun a => ?_)))
  · show (if a = n + 1 then (23, N) else if n < a ∧ a ≤ n + 1 + N then (20, K) else if a ≤ n then jx_S L a else (99, 0)) = if a ≤ n + 1 + N then jx_S L a else (99, 0)
    by_cases h : a = n + 1
    · subst h
      rw [if_pos rfl, if_pos (by omega), hk]
    · rw [if_neg h]
      by_cases h1 : n < a ∧ a ≤ n + 1 + N
      · rw [if_pos h1, if_pos h1.2]
        obtain ⟨j, rfl⟩ : ∃ j, a = n + 1 + j + 1 := ⟨a - (n + 2), by omega⟩
        exact (hk2 j (by omega)).symm
      · rw [if_neg h1]
        by_cases h2 : a ≤ n
        · rw [if_pos h2, if_pos (by omega)]
        · rw [if_neg h2, if_neg (by omega)]
  · show (if a = n + 1 then (fun j => if j < N then some (n + 1 + 1 + j) else none) else if n < a ∧ a ≤ n + 1 + N then (fun _ => none) else rF rl a) = rF (grl (n + 1) N ++ rl) a
    funext j
    rw [rF_grl]
    by_cases h : a = n + 1
    · rw [if_pos h]
      show (if j < N then some (n + 1 + 1 + j) else none) = _
      by_cases hj : j < N
      · rw [if_pos hj, if_pos ⟨h, hj⟩]
      · rw [if_neg hj, if_neg (by omega), rF_none hr (by omega)]
    · have hq : ¬ (a = n + 1 ∧ j < N) := fun q => h q.1
      rw [if_neg h, if_neg hq]
      by_cases h1 : n < a ∧ a ≤ n + 1 + N
      · rw [if_pos h1, rF_none hr h1.1]
      · rw [if_neg h1]
  · show (if n < a ∧ a ≤ n + 1 + N then (fun _ => 0) else I a) = I a
    by_cases h : n < a ∧ a ≤ n + 1 + N
    · rw [if_pos h]
      funext j
      exact (hz a h.1 j).symm
    · rw [if_neg h]
section STAGE
variable {d pc i L n sl n' sl' mc ms mc' ms' : Nat} {rl : List (Nat × Nat × Nat)} {I : jm_I} {μ : jm_Md} {ls : jm_Ls} {st : List jm_V} {Q : Option jm_V → jm_M → Prop} {r : List (Instr × Nat)}
theorem sg_newI {x : Int} (hz : izero I n) (hr : rle rl n) (h0 : 0 ≤ x) (h1 : x < 100000) (hk : jx_S L (n + 1) = (20, x.toNat)) (hn : n' = n + 1) (hsl : sl' = sl + x.toNat) (hmc : mc' = mc + 1) (hms : ms' = ms + x.toNat) (hd : jm_dc μ.2.1 pc ((.newarray .int, 2) :: r) = true) (k : jm_dc μ.2.1 (pc + 2) r = true → jm_Go d mc ms μ (pc + 2) ls (.inr (.inl n') :: st) (stg L n' sl' rl I) Q) : jm_Go d mc' ms' μ pc ls (.inl x :: st) (stg L n sl rl I) Q := by
  subst hn; subst hsl; subst hmc; subst hms
  refine go_newI w_ar_int h0 h1 hd (fun hd => ?_)
  rw [sg_grow hz hr hk]
  exact k hd
theorem sg_newZ {x : Int} (hz : izero I n) (hr : rle rl n) (h0 : 0 ≤ x) (h1 : x < 100000) (hk : jx_S L (n + 1) = (21, x.toNat)) (hn : n' = n + 1) (hsl : sl' = sl + x.toNat) (hmc : mc' = mc + 1) (hms : ms' = ms + x.toNat) (hd : jm_dc μ.2.1 pc ((.newarray .boolean, 2) :: r) = true) (k : jm_dc μ.2.1 (pc + 2) r = true → jm_Go d mc ms μ (pc + 2) ls (.inr (.inl n') :: st) (stg L n' sl' rl I) Q) : jm_Go d mc' ms' μ pc ls (.inl x :: st) (stg L n sl rl I) Q := by
  subst hn; subst hsl; subst hmc; subst hms
  refine go_newZ w_ar_boolean h0 h1 hd (fun hd => ?_)
  rw [sg_grow hz hr hk]
  exact k hd
theorem sg_newO {x : Int} (hz : izero I n) (hr : rle rl n) (hw : Cond.classLink μ.1.cls i RX5 ∈ jm_gt) (h0 : 0 ≤ x) (h1 : x < 100000) (hk : jx_S L (n + 1) = (22, x.toNat)) (hn : n' = n + 1) (hsl : sl' = sl + x.toNat) (hmc : mc' = mc + 1) (hms : ms' = ms + x.toNat) (hd : jm_dc μ.2.1 pc ((.anewarray i, 3) :: r) = true) (k : jm_dc μ.2.1 (pc + 3) r = true → jm_Go d mc ms μ (pc + 3) ls (.inr (.inl n') :: st) (stg L n' sl' rl I) Q) : jm_Go d mc' ms' μ pc ls (.inl x :: st) (stg L n sl rl I) Q := by
  subst hn; subst hsl; subst hmc; subst hms
  refine go_newO hw w_ao5 h0 h1 hd (fun hd => ?_)
  rw [sg_grow hz hr hk]
  exact k hd
theorem sg_new {c : Nat} (hz : izero I n) (hr : rle rl n) (hC : jm_COk c) (hw : Cond.classLink μ.1.cls i (jm_cn c) ∈ jm_gt) (h1 : Cond.instantiable (jm_cn c) (jm_nf c) ∈ jm_gt) (h2 : Cond.initialized (jm_cn c) ∈ jm_gt) (hk : jx_S L (n + 1) = (c, 0)) (hn : n' = n + 1) (hsl : sl' = sl + jm_nf c) (hmc : mc' = mc + 1) (hms : ms' = ms + jm_nf c) (hd : jm_dc μ.2.1 pc ((.new i, 3) :: r) = true) (k : jm_dc μ.2.1 (pc + 3) r = true → jm_Go d mc ms μ (pc + 3) ls (.inr (.inl n') :: st) (stg L n' sl' rl I) Q) : jm_Go d mc' ms' μ pc ls st (stg L n sl rl I) Q := by
  subst hn; subst hsl; subst hmc; subst hms
  refine go_new hC hw h1 h2 hd (fun hd => ?_)
  rw [sg_grow hz hr hk]
  exact k hd
theorem sg_multi {x y : Int} (hz : izero I n) (hr : rle rl n) (hw : Cond.classLink μ.1.cls i "[[I" ∈ jm_gt) (h0 : 0 ≤ x) (h1 : x < 1000) (h2 : 0 ≤ y) (h3 : y < 1000) (hk : jx_S L (n + 1) = (23, x.toNat)) (hk2 : ∀ j, j < x.toNat → jx_Sl.getD (n + 1 + j) (99, 0) = (20, y.toNat)) (hn : n' = n + 1 + x.toNat) (hsl : sl' = sl + (x.toNat + x.toNat * y.toNat)) (hmc : mc' = mc + (1 + x.toNat)) (hms : ms' = ms + (x.toNat + x.toNat * y.toNat)) (hd : jm_dc μ.2.1 pc ((.multianewarray i 2, 4) :: r) = true) (k : jm_dc μ.2.1 (pc + 4) r = true → jm_Go d mc ms μ (pc + 4) ls (.inr (.inl (n + 1)) :: st) (stg L n' sl' (grl (n + 1) x.toNat ++ rl) I) Q) : jm_Go d mc' ms' μ pc ls (.inl y :: .inl x :: st) (stg L n sl rl I) Q := by
  subst hn; subst hsl; subst hmc; subst hms
  refine go_multi hw h0 h1 h2 h3 hd (fun hd => ?_)
  rw [sg_grid hz hr hk hk2]
  exact k hd
theorem sg_putR {c k a b : Nat} (hC : jm_COk c) (hw : Cond.fieldLink μ.1.cls i (jm_T c k).1 (jm_T c k).2.1 (jm_T c k).2.2.1 ∈ jm_gt) (hk : k < jm_nf c) (hf : jm_fk c k = 1) (hs : ((stP L n sl rl).2.1 a).1 = c) (hin : μ.1.name = "<init>") (hcl : (jm_T c k).1 = μ.1.cls) (hd : jm_dc μ.2.1 pc ((.putfield i, 3) :: r) = true) (kk : jm_dc μ.2.1 (pc + 3) r = true → jm_Go d mc ms μ (pc + 3) ls st (stg L n sl ((a, k, b) :: rl) I) Q) : jm_Go d mc ms μ pc ls (.inr (.inl b) :: .inr (.inl a) :: st) (stg L n sl rl I) Q := by
  refine go_putR hC hw hk hf hs hin hcl hd (fun hd => ?_)
  have e : jm_pr2 (stg L n sl rl I) a k b = stg L n sl ((a, k, b) :: rl) I := by
    show ((n, sl), (fun a => if a ≤ n then jx_S L a else (99, 0)), jm_ur (rF rl) a k b, I) = ((n, sl), (fun a => if a ≤ n then jx_S L a else (99, 0)), rF ((a, k, b) :: rl), I)
    rw [rF_ur]
  rw [e]
  exact kk hd
theorem sg_aastore {a m v : Nat} {x : Int} (hs : (stP L n sl rl).2.1 a = (22, m)) (hv : ((stP L n sl rl).2.1 v).1 = 5) (h0 : 0 ≤ x) (h1 : x < m) (hn : m < 2 ^ 31) (hd : jm_dc μ.2.1 pc ((.aastore, 1) :: r) = true) (kk : jm_dc μ.2.1 (pc + 1) r = true → jm_Go d mc ms μ (pc + 1) ls st (stg L n sl ((a, x.toNat, v) :: rl) I) Q) : jm_Go d mc ms μ pc ls (.inr (.inl v) :: .inl x :: .inr (.inl a) :: st) (stg L n sl rl I) Q := by
  refine go_aastore co_X5 hs hv h0 h1 hn hd (fun hd => ?_)
  have e : jm_pr2 (stg L n sl rl I) a x.toNat v = stg L n sl ((a, x.toNat, v) :: rl) I := by
    show ((n, sl), (fun a => if a ≤ n then jx_S L a else (99, 0)), jm_ur (rF rl) a x.toNat v, I) = ((n, sl), (fun a => if a ≤ n then jx_S L a else (99, 0)), rF ((a, x.toNat, v) :: rl), I)
    rw [rF_ur]
  rw [e]
  exact kk hd
end STAGE
