/-! ===== the small machine: what a state is ===== -/
abbrev jm_V : Type := Int ⊕ (Nat ⊕ Int)
abbrev jm_Ls : Type := List (Option jm_V)
/-- how many cells and slots are made; a cell's kind and length; fixed references; numbers -/
abbrev jm_M : Type := (Nat × Nat) × ((Nat → Nat × Nat) × ((Nat → Nat → Option Nat) × (Nat → Nat → Int)))
/-- a method: name, bytes, locals, what it gives back -/
abbrev jm_Md : Type := MethodName × (ByteArray × (Nat × Option FieldType))
/-- what stays over a whole run: launch, classes, array classes, the script -/
abbrev jm_G : Type := Launch × (va_G × ((ClassId × ClassId × ClassId × ClassId) × (Nat × Nat × Nat × (Nat → Int32))))
def jg_sz (G : jm_G) : Nat := G.2.2.2.1
def jg_b (G : jm_G) : Nat := G.2.2.2.2.1
def jg_L (G : jm_G) : Nat := G.2.2.2.2.2.1
def jg_xs (G : jm_G) : Nat → Int32 := G.2.2.2.2.2.2
def jg_I (G : jm_G) : ClassId := G.2.2.1.1
def jg_Z (G : jm_G) : ClassId := G.2.2.1.2.1
def jg_O (G : jm_G) : ClassId := G.2.2.1.2.2.1
def jg_A (G : jm_G) : ClassId := G.2.2.1.2.2.2
def jm_tys (G : jm_G) : List (ClassId × FieldType) := [(jg_I G, .int), (jg_Z G, .boolean), (jg_O G, .object RX5), (jg_A G, .array .int)]
def jm_ad (G : jm_G) : Nat → Nat
  | 0 => jg_b G
  | a + 1 => jg_sz G + a
def jm_cv (G : jm_G) : jm_V → Value
  | .inl i => .int (Int32.ofInt i)
  | .inr (.inl r) => .ref (jm_ad G r)
  | .inr (.inr j) => .long (Int64.ofInt j)
def jm_ct : jm_V → Nat
  | .inr (.inr _) => 2
  | _ => 1
def jm_fv (G : jm_G) (M : jm_M) (c a k : Nat) : Value := match jm_fk c k with
  | 1 => va_rf ((M.2.2.1 a k).map (jm_ad G))
  | 2 => if M.2.2.2 a k = 0 then .null else .ref (jm_ad G (M.2.2.2 a k).toNat)
  | 3 => .long (Int64.ofInt (M.2.2.2 a k))
  | _ => .int (Int32.ofInt (M.2.2.2 a k))
def jm_cl (G : jm_G) (M : jm_M) (a : Nat) : va_E := match (M.2.1 a).1 with
  | 20 => .inl (jg_I G, (M.2.1 a).2, .inl (fun k => Int32.ofInt (M.2.2.2 a k)))
  | 21 => .inl (jg_Z G, (M.2.1 a).2, .inl (fun k => Int32.ofInt (M.2.2.2 a k)))
  | 22 => .inl (jg_O G, (M.2.1 a).2, .inr (.inr (.inr (.inr (fun k => (M.2.2.1 a k).map (jm_ad G))))))
  | 23 => .inl (jg_A G, (M.2.1 a).2, .inr (.inr (.inr (.inr (fun k => (M.2.2.1 a k).map (jm_ad G))))))
  | c => .inr (c, (List.range (jm_nf c)).map (jm_fv G M c a))
def jm_ws (G : jm_G) (M : jm_M) : va_W := (List.range M.1.1).map (fun a => (jg_sz G + a, jm_cl G M (a + 1)))
def jm_A (G : jm_G) : Nat → Prop := fun q => jg_sz G ≤ q
/-- a kind below 98 is that of a made cell -/
def jm_wf (M : jm_M) : Prop := ∀ a, (M.2.1 a).1 < 98 → 1 ≤ a ∧ a ≤ M.1.1
/-- cell 0 is the script -/
def jm_sc (G : jm_G) (M : jm_M) : Prop := M.2.1 0 = (98, jg_L G) ∧ ∀ k, k < jg_L G → M.2.2.2 0 k = (jg_xs G k).toInt
def jm_Rp (G : jm_G) (M : jm_M) (H : Heap) : Prop := H.size = jg_sz G + M.1.1 ∧ va_P G.2.1 vwCl (jm_ws G M) H ∧ jm_wf M ∧ jm_sc G M
/-- words that a callee is handed beside its own -/
def jm_nOk (w : Cond) : Bool := match w with
  | .methodLinkNest _ _ _ _ => true
  | .arrayOver _ => true
  | _ => false
def jm_nw : List Cond := lw_tbl.filter jm_nOk
/-- what holds in a method's body -/
def jm_Cx (G : jm_G) (μ : jm_Md) (p : Program) (s : State) (m : MethodId) (args : Array Value) (meth : Method) (c : Code) : Prop :=
  p.tables.exec = Jvm.exec ∧ c.code = μ.2.1 ∧ meth.sig.returnType = μ.2.2.2 ∧ meth.locks = false ∧ c.maxLocals = μ.2.2.1 ∧ s.vm.findClass μ.1.cls = some m.cls ∧ meth.name = μ.1.name ∧ (∀ w ∈ jm_gt, w.before args s = true) ∧ (∀ w ∈ jm_nw, w.before #[] s = true) ∧ va_K G.2.1 vwCl (jm_tys G) s ∧ va_X (jg_b G) (jg_L G) (jg_xs G) s s.heap ∧ jg_b G < jg_sz G ∧ jg_sz G ≤ s.heap.size
/-- the locals: no long among them -/
def jm_Lo (G : jm_G) (n : Nat) (ls : jm_Ls) (lr : Array Slot) : Prop := ls.length = n ∧ lr.size = n ∧ lv_wf lr ∧ ∀ (k : Nat) (v : jm_V), ls[k]? = some (some v) → jm_ct v = 1 ∧ lr[k]? = some (.val (jm_cv G v))
def jm_Qc (G : jm_G) (Q : Option jm_V → jm_M → Prop) : Array Value → State → Outcome → State → Prop := fun _ st o t => (∃ (r : Option jm_V) (M : jm_M), o = .returned (r.map (jm_cv G)) ∧ Q r M ∧ jm_Rp G M t.heap) ∧ va_F (jm_A G) st t
/-- from here the method comes to its end, with Q of what it gives back and of the memory: d calls deep at most, mc cells of ms slots more -/
def jm_Go (d mc ms : Nat) (μ : jm_Md) (pc : Nat) (ls : jm_Ls) (st : List jm_V) (M : jm_M) (Q : Option jm_V → jm_M → Prop) : Prop :=
  ∀ (G : jm_G) (p : Program) (e : Env) (R : Room) (s : State) (m : MethodId) (args : Array Value) (below : List Frame) (meth : Method) (c : Code) (H : Heap) (locs : List Loc) (cells slots : Nat) (lr : Array Slot),
    jm_Cx G μ p s m args meth c → d + 1 ≤ R.frames → 64 * (d + 1) ≤ R.locals → cells + mc ≤ R.cells → slots + ms ≤ R.slots → jm_Rp G M H → va_S (jm_A G) s.heap H locs → jm_Lo G μ.2.2.1 ls lr →
    W p G.1 e R s m args below meth c H locs cells slots (MQ below (jm_Qc G Q) args s (cells + mc) (slots + ms) (jm_A G)) (F0 m pc lr (st.map (jm_cv G)))
/-- the instructions from a place on -/
def jm_dc (cc : ByteArray) : Nat → List (Instr × Nat) → Bool
  | _, [] => true
  | pc, (i, n) :: r => decide (decode cc pc = .ok (i, n)) && jm_dc cc (pc + n) r
theorem jm_d1 {cc : ByteArray} {pc n : Nat} {i : Instr} {r : List (Instr × Nat)} (h : jm_dc cc pc ((i, n) :: r) = true) : decode cc pc = .ok (i, n) := by
  simp only [jm_dc, Bool.and_eq_true, decide_eq_true_eq] at h
  exact h.1
theorem jm_d2 {cc : ByteArray} {pc n : Nat} {i : Instr} {r : List (Instr × Nat)} (h : jm_dc cc pc ((i, n) :: r) = true) : jm_dc cc (pc + n) r = true := by
  simp only [jm_dc, Bool.and_eq_true] at h
  exact h.2
/-! ===== the world's rows ===== -/
theorem jm_ws_get {G : jm_G} {M : jm_M} {a : Nat} (h : a < M.1.1) : (jm_ws G M)[a]? = some (jm_ad G (a + 1), jm_cl G M (a + 1)) := by
  unfold jm_ws
  rw [List.getElem?_map, List.getElem?_range h]
  rfl
theorem jm_ws_len {G : jm_G} {M : jm_M} : (jm_ws G M).length = M.1.1 := by
  unfold jm_ws
  rw [List.length_map, List.length_range]
theorem jm_ws_inv {G : jm_G} {M : jm_M} {k : Nat} {q : Nat × va_E} (h : (jm_ws G M)[k]? = some q) : k < M.1.1 ∧ q = (jg_sz G + k, jm_cl G M (k + 1)) := by
  have hl : k < M.1.1 := by
    have := (List.getElem?_eq_some_iff.mp h).1
    rwa [jm_ws_len] at this
  refine ⟨hl, ?_⟩
  rw [jm_ws_get hl] at h
  exact (Option.some.inj h).symm
theorem jm_D {G : jm_G} {M : jm_M} : va_D (jm_A G) (jm_ws G M) := by
  refine ⟨fun i j p q hi hj hpq => ?_, fun k q hk => ?_⟩
  · obtain ⟨-, rfl⟩ := jm_ws_inv hi
    obtain ⟨-, rfl⟩ := jm_ws_inv hj
    have h : jg_sz G + i = jg_sz G + j := hpq
    omega
  · obtain ⟨-, rfl⟩ := jm_ws_inv hk
    exact Nat.le_add_right _ _
/-- one cell changes -/
theorem jm_ws_set {G : jm_G} {M M' : jm_M} {a : Nat} {e : va_E} (hn : M'.1.1 = M.1.1) (he : jm_cl G M' (a + 1) = e) (ho : ∀ b, b ≠ a → jm_cl G M' (b + 1) = jm_cl G M (b + 1)) : (jm_ws G M).set a (jm_ad G (a + 1), e) = jm_ws G M' := by
  apply List.ext_getElem?
  intro k
  by_cases hk : k < M.1.1
  · rw [jm_ws_get (by rw [hn]; exact hk)]
    by_cases hka : k = a
    · subst hka
      rw [List.getElem?_set_self (by rw [jm_ws_len]; exact hk), he]
    · rw [List.getElem?_set_ne (fun h => hka h.symm), jm_ws_get hk, ho k hka]
  · rw [List.getElem?_eq_none (by rw [List.length_set, jm_ws_len]; omega), List.getElem?_eq_none (by rw [jm_ws_len, hn]; omega)]
/-- a cell by its number -/
theorem jm_at {G : jm_G} {M : jm_M} {H : Heap} (h : jm_Rp G M H) {a : Nat} (hk : (M.2.1 a).1 < 98) : ∃ b, a = b + 1 ∧ (jm_ws G M)[b]? = some (jm_ad G a, jm_cl G M a) := by
  obtain ⟨h1, h2⟩ := h.2.2.1 a hk
  obtain ⟨b, rfl⟩ : ∃ b, a = b + 1 := ⟨a - 1, by omega⟩
  exact ⟨b, rfl, jm_ws_get (by omega)⟩
theorem jm_cl_I {G : jm_G} {M : jm_M} {a n : Nat} (h : M.2.1 a = (20, n)) : jm_cl G M a = .inl (jg_I G, n, .inl (fun k => Int32.ofInt (M.2.2.2 a k))) := by
  simp [jm_cl, h]
theorem jm_cl_Z {G : jm_G} {M : jm_M} {a n : Nat} (h : M.2.1 a = (21, n)) : jm_cl G M a = .inl (jg_Z G, n, .inl (fun k => Int32.ofInt (M.2.2.2 a k))) := by
  simp [jm_cl, h]
theorem jm_cl_O {G : jm_G} {M : jm_M} {a n : Nat} (h : M.2.1 a = (22, n)) : jm_cl G M a = .inl (jg_O G, n, .inr (.inr (.inr (.inr (fun k => (M.2.2.1 a k).map (jm_ad G)))))) := by
  simp [jm_cl, h]
theorem jm_cl_A {G : jm_G} {M : jm_M} {a n : Nat} (h : M.2.1 a = (23, n)) : jm_cl G M a = .inl (jg_A G, n, .inr (.inr (.inr (.inr (fun k => (M.2.2.1 a k).map (jm_ad G)))))) := by
  simp [jm_cl, h]
theorem jm_cl_C {G : jm_G} {M : jm_M} {a c : Nat} (h : (M.2.1 a).1 = c) (hc : c < 10) : jm_cl G M a = .inr (c, (List.range (jm_nf c)).map (jm_fv G M c a)) := by
  unfold jm_cl
  rw [h]
  split <;> first | omega | rfl
/-- a cell that neither kind, references nor numbers have changed -/
theorem jm_cl_eq {G : jm_G} {M M' : jm_M} {a : Nat} (h1 : M'.2.1 a = M.2.1 a) (h2 : M'.2.2.1 a = M.2.2.1 a) (h3 : M'.2.2.2 a = M.2.2.2 a) : jm_cl G M' a = jm_cl G M a := by
  unfold jm_cl
  rw [h1, h2, h3]
  have hf : ∀ c, jm_fv G M' c a = jm_fv G M c a := by
    intro c
    funext k
    unfold jm_fv
    rw [h2, h3]
  split <;> simp [hf]
/-- a number put -/
def jm_up (I : Nat → Nat → Int) (a k : Nat) (v : Int) : Nat → Nat → Int := fun b j => if b = a ∧ j = k then v else I b j
theorem jm_up_o {I : Nat → Nat → Int} {a b k : Nat} {v : Int} (h : b ≠ a) : jm_up I a k v b = I b := by
  funext j
  simp [jm_up, h]
abbrev jm_pu (M : jm_M) (a k : Nat) (v : Int) : jm_M := (M.1, M.2.1, M.2.2.1, jm_up M.2.2.2 a k v)
theorem jm_fs_set {n k : Nat} {f g : Nat → Value} {v : Value} (hk : k < n) (h1 : g k = v) (h2 : ∀ j, j ≠ k → g j = f j) : ((List.range n).map f).set k v = (List.range n).map g := by
  apply List.ext_getElem?
  intro j
  by_cases hj : j < n
  · by_cases e : j = k
    · subst e
      rw [List.getElem?_set_self (by simpa using hj), List.getElem?_map, List.getElem?_range hj]
      simp [h1]
    · rw [List.getElem?_set_ne (fun h => e h.symm), List.getElem?_map, List.getElem?_map, List.getElem?_range hj]
      simp [h2 j e]
  · rw [List.getElem?_eq_none (by simpa using hj), List.getElem?_eq_none (by simpa using hj)]
theorem jm_clamp {i : Int} {n : Nat} (h0 : 0 ≤ i) (h1 : i < n) (hn : n < 2 ^ 31) : vp_in (Int32.ofInt i) n ∧ (Int32.ofInt i).toNatClampNeg = i.toNat := by
  obtain ⟨j, rfl⟩ : ∃ j : Nat, i = j := ⟨i.toNat, by omega⟩
  have e : Int32.ofInt (j : Int) = nI j := Int32.ofInt_eq_ofNat
  rw [e]
  exact ⟨vp_in_nI (by omega) hn, by rw [nI_clamp (by omega)]; simp⟩
