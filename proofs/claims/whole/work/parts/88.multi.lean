/-! ===== rows of rows (the library's multianewarray2F, by its name) ===== -/
theorem jm_outer (c : ClassId) (N h0 : Nat) : ∀ i : Nat, Jvm.Free.Multi.outerC c N h0 i = arrV c N (fun j => va_rf (if j < i then some (h0 + 1 + j) else none)) := by
  intro i
  induction i with
  | zero =>
    show ({ cls := c, slots := Array.replicate N .null, vm := .none } : Cell) = _
    rw [arrV_new]
    congr 1
  | succ i ih =>
    show (Jvm.Free.Multi.outerC c N h0 i).setSlot i (.ref (h0 + 1 + i)) = _
    rw [ih, arrV_store]
    congr 1
    funext j
    by_cases e : j = i
    · subst e
      simp [updV, va_rf]
    · have e2 : (j < i + 1) = (j < i) := by simp only [eq_iff_iff]; omega
      simp [updV, e, e2]
theorem jm_Wmulti {p : Program} {l : Launch} {e : Env} {R : Room} {s : State} {m : MethodId} {args : Array Value} {below : List Frame} {meth : Method} {c : Code} {H : Heap} {locs : List Loc} {cells slots pc : Nat} {Qz : State → Prop} {lr : Array Slot} {rest : List Value} {cc : ByteArray} (hexec : p.tables.exec = Jvm.exec) (hb : c.code = cc) {own : String} {index : Nat} (hown : s.vm.findClass own = some m.cls) (hclink : (Cond.classLink own index "[[I").before args s = true) (hover : (Cond.arrayOver (.array .int)).before args s = true) (harr : (Cond.arrayClass .int).before args s = true)
    {n k : Int32} (hn : ¬ n < 0) (hk : ¬ k < 0) (h1 : n.toNatClampNeg ≤ 1000) (h2 : k.toNatClampNeg ≤ 1000) (hcells : cells + (1 + n.toNatClampNeg) ≤ R.cells) (hslots : slots + (n.toNatClampNeg + n.toNatClampNeg * k.toNatClampNeg) ≤ R.slots) (hdg : decode cc pc = .ok (.multianewarray index 2, 4))
    (kk : ∀ (cA cI : ClassId) (H1 : Heap), s.vm.findClass "[[I" = some cA → s.vm.findClass "[I" = some cI → H1[H.size]? = some (arrV cA n.toNatClampNeg (fun j => va_rf (if j < n.toNatClampNeg then some (H.size + 1 + j) else none))) → (∀ j, j < n.toNatClampNeg → H1[H.size + 1 + j]? = some (arrV cI k.toNatClampNeg (fun _ => .int 0))) → H1.size = H.size + 1 + n.toNatClampNeg → (∀ q : Nat, q < H.size → H1[q]? = H[q]?) → W p l e R s m args below meth c H1 locs (cells + 1 + n.toNatClampNeg) (slots + n.toNatClampNeg + n.toNatClampNeg * k.toNatClampNeg) Qz (F0 m (pc + 4) lr (.ref H.size :: rest))) : W p l e R s m args below meth c H locs cells slots Qz (F0 m pc lr (.int k :: .int n :: rest)) := by
  intro T hT X
  obtain ⟨vm₁, cA, cI, -, fA, fC, -, -, X', step⟩ := X.multianewarray2F hexec hown (ty := .int) hclink hover harr (g := F0 m pc lr (.int k :: .int n :: rest)) rfl (by rw [hb]; exact hdg) rfl hn hk (by omega) (by show k.toNatClampNeg * 4 ≤ _; omega) (by omega) rfl rfl hcells hslots
  have hTh : (T.setVm vm₁).heap = H := hT
  obtain ⟨f1, f2, -, -⟩ := Jvm.Free.Multi.fill_facts (T.setVm vm₁) cA cI n.toNatClampNeg k.toNatClampNeg (defaultValue .int) n.toNatClampNeg
  have f3 := fun (x : Nat) (hx : x < (T.setVm vm₁).heap.size) => Jvm.Free.Multi.fill_old (T.setVm vm₁) cA cI n.toNatClampNeg k.toNatClampNeg (defaultValue .int) (a := x) hx n.toNatClampNeg
  have f4 := fun (j : Nat) (hj : j < n.toNatClampNeg) => Jvm.Free.Multi.fill_inner (T.setVm vm₁) cA cI n.toNatClampNeg k.toNatClampNeg (defaultValue .int) n.toNatClampNeg j hj
  generalize Jvm.Free.Multi.fill (T.setVm vm₁) cA cI n.toNatClampNeg k.toNatClampNeg (defaultValue .int) n.toNatClampNeg = F at X' step f1 f2 f3 f4
  rw [hTh] at f1 f2 f3 f4
  rw [jm_outer] at f2
  obtain ⟨t, q1, q2⟩ := kk cA cI F.heap fA fC f2 (fun j hj => (f4 j hj).trans (by
    show some ({ cls := cI, slots := Array.replicate k.toNatClampNeg (.int 0), vm := .none } : Cell) = _
    rw [arrV_new])) f1 f3 F rfl X'
  refine ⟨t, step t ?_, q2⟩
  rw [hT]
  exact q1
def jm_grid (M : jm_M) (n k : Nat) : jm_M := ((M.1.1 + 1 + n, M.1.2 + (n + n * k)), (fun a => if a = M.1.1 + 1 then (23, n) else if M.1.1 < a ∧ a ≤ M.1.1 + 1 + n then (20, k) else M.2.1 a), (fun a => if a = M.1.1 + 1 then (fun j => if j < n then some (M.1.1 + 1 + 1 + j) else none) else if M.1.1 < a ∧ a ≤ M.1.1 + 1 + n then (fun _ => none) else M.2.2.1 a), (fun a => if M.1.1 < a ∧ a ≤ M.1.1 + 1 + n then (fun _ => 0) else M.2.2.2 a))
theorem jm_Rp_grid {G : jm_G} {M : jm_M} {H H1 : Heap} {n k : Nat} (hR : jm_Rp G M H) (z : H1.size = H.size + 1 + n) (oq : ∀ q : Nat, q < H.size → H1[q]? = H[q]?) (e1 : H1[H.size]? = some (arrV (jg_A G) n (fun j => va_rf (if j < n then some (H.size + 1 + j) else none)))) (e2 : ∀ j, j < n → H1[H.size + 1 + j]? = some (arrV (jg_I G) k (fun _ => .int 0))) : jm_Rp G (jm_grid M n k) H1 := by
  obtain ⟨h1, h2, h3, h4⟩ := hR
  have hold : ∀ a, a ≤ M.1.1 → jm_cl G (jm_grid M n k) a = jm_cl G M a := fun a ha => by
    have q1 : ¬ a = M.1.1 + 1 := by omega
    have q2 : ¬ (M.1.1 < a ∧ a ≤ M.1.1 + 1 + n) := by omega
    exact jm_cl_eq (by simp only [jm_grid, if_neg q1, if_neg q2]) (by simp only [jm_grid, if_neg q1, if_neg q2]) (by simp only [jm_grid, if_neg q2])
  refine ⟨by rw [z, h1]; simp only [jm_grid]; omega, fun x q hx => ?_, fun a ha => ?_, ?_, fun x hx => ?_⟩
  · obtain ⟨hl, rfl⟩ := jm_ws_inv hx
    have hl' : x < M.1.1 + 1 + n := hl
    by_cases c1 : x < M.1.1
    · rw [hold (x + 1) (by omega)]
      exact (h2 x _ (jm_ws_get c1)).kept (oq _ (by show jg_sz G + x < _; omega))
    · by_cases c2 : x = M.1.1
      · subst c2
        rw [jm_cl_A (n := n) (by simp only [jm_grid, if_pos])]
        show H1[jg_sz G + M.1.1]? = some (vp_cell _ _)
        rw [← h1, e1, vp_cell_q]
        congr 2
        funext j
        simp only [jm_grid, if_pos]
        by_cases hj : j < n
        · simp only [if_pos hj, Option.map_some]
          congr 2
          rw [show M.1.1 + 1 + 1 + j = (M.1.1 + 1 + j) + 1 by omega]
          show H.size + 1 + j = jg_sz G + (M.1.1 + 1 + j)
          omega
        · simp only [if_neg hj, Option.map_none]
      · obtain ⟨j, rfl⟩ : ∃ j, x = M.1.1 + 1 + j := ⟨x - (M.1.1 + 1), by omega⟩
        have q1 : ¬ M.1.1 + 1 + j + 1 = M.1.1 + 1 := by omega
        have q2 : M.1.1 < M.1.1 + 1 + j + 1 ∧ M.1.1 + 1 + j + 1 ≤ M.1.1 + 1 + n := by omega
        rw [jm_cl_I (n := k) (by simp only [jm_grid, if_neg q1, if_pos q2])]
        show H1[jg_sz G + (M.1.1 + 1 + j)]? = some (vp_cell _ _)
        rw [show jg_sz G + (M.1.1 + 1 + j) = H.size + 1 + j by omega, e2 j (by omega), vp_cell_i]
        congr 2
        funext y
        simp only [jm_grid, if_pos q2]
        rfl
  · simp only [jm_grid] at ha ⊢
    by_cases q1 : a = M.1.1 + 1
    · omega
    · by_cases q2 : M.1.1 < a ∧ a ≤ M.1.1 + 1 + n
      · omega
      · rw [if_neg q1, if_neg q2] at ha
        have := h3 a ha
        omega
  · simp only [jm_grid]
    rw [if_neg (by omega), if_neg (by omega)]
    exact h4.1
  · simp only [jm_grid]
    rw [if_neg (by omega)]
    exact h4.2 x hx
section MULTIRULE
variable {d mc ms pc i : Nat} {μ : jm_Md} {ls : jm_Ls} {st : List jm_V} {M : jm_M} {Q : Option jm_V → jm_M → Prop} {r : List (Instr × Nat)}
theorem go_multi {n k : Int} (hw : Cond.classLink μ.1.cls i "[[I" ∈ jm_gt) (h0 : 0 ≤ n) (h1 : n < 1000) (h2 : 0 ≤ k) (h3 : k < 1000) (hd : jm_dc μ.2.1 pc ((.multianewarray i 2, 4) :: r) = true) (kk : jm_dc μ.2.1 (pc + 4) r = true → jm_Go d mc ms μ (pc + 4) ls (.inr (.inl (M.1.1 + 1)) :: st) (jm_grid M n.toNat k.toNat) Q) : jm_Go d (mc + (1 + n.toNat)) (ms + (n.toNat + n.toNat * k.toNat)) μ pc ls (.inl k :: .inl n :: st) M Q := by
  intro G p e R s m args below meth c H locs cells slots lr C hF hL hcc hss hR hS hl
  have hts := C.2.2.2.2.2.2.2.1
  have hK := C.2.2.2.2.2.2.2.2.2.1
  have hN := C.2.2.2.2.2.2.2.2.1
  obtain ⟨g1, g2⟩ := jm_clamp (n := 1000) h0 h1 (by omega)
  obtain ⟨g3, g4⟩ := jm_clamp (n := 1000) h2 h3 (by omega)
  refine jm_Wmulti C.1 C.2.1 C.2.2.2.2.2.1 (hts _ hw) (hN _ w_aoI) (hts _ w_ar_int) (fun h => g1 (Or.inl h)) (fun h => g3 (Or.inl h)) (by rw [g2]; omega) (by rw [g4]; omega) (by rw [g2]; omega) (by rw [g2, g4]; omega) (jm_d1 hd) (fun cA cI H1 fA fC e1 e2 z1 o1 => ?_)
  have hcA : cA = jg_A G := Option.some.inj (fA.symm.trans (hK.2 3 _ rfl).2)
  have hcI : cI = jg_I G := Option.some.inj (fC.symm.trans (hK.2 0 _ rfl).2)
  subst hcA
  subst hcI
  rw [g2] at e1 e2 z1 ⊢
  rw [g4] at e2 ⊢
  have K := kk (jm_d2 hd) G p e R s m args below meth c H1 locs (cells + 1 + n.toNat) (slots + n.toNat + n.toNat * k.toNat) lr C hF hL (by omega) (by omega) (jm_Rp_grid hR z1 o1 e1 e2) ⟨Nat.le_trans hS.1 (by omega), fun x q1 q2 => (o1 x (Nat.lt_of_lt_of_le q1 hS.1)).trans (hS.2.1 x q1 q2), hS.2.2⟩ hl
  rw [show cells + 1 + n.toNat + mc = cells + (mc + (1 + n.toNat)) by omega, show slots + n.toNat + n.toNat * k.toNat + ms = slots + (ms + (n.toNat + n.toNat * k.toNat)) by omega] at K
  rw [hR.1]
  exact K
end MULTIRULE
