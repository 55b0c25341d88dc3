/-! ===== rules: calls ===== -/
def jm_ls0 (n : Nat) (as : List jm_V) : jm_Ls := as.map some ++ List.replicate (n - as.length) none
/-- a method, called -/
def jm_Call (d mc ms : Nat) (ν : jm_Md) (as : List jm_V) (M : jm_M) (K : Option jm_V → jm_M → Prop) : Prop := jm_Go d mc ms ν 0 (jm_ls0 ν.2.2.1 as) [] M K
/-- what the tables say of a method -/
def jm_MOk (ν : jm_Md) (n : Nat) : Prop := Cond.code ν.1 ν.2.1 ν.2.2.1 ν.2.2.2 ∈ jm_gt ∧ Cond.initialized ν.1.cls ∈ jm_gt ∧ plainName ν.1.cls = true ∧ (ν.1.cls ≠ "java/lang/invoke/MethodHandle" ∧ ν.1.cls ≠ "java/lang/invoke/VarHandle") ∧ (parseMethodDescriptor ν.1.desc).map (fun d => d.parameters.length) = some n ∧ ν.2.2.1 ≤ 45
theorem jm_gt_good {w : Cond} (h : w ∈ jm_gt) : (w.onTables && w.keeps) = true ∨ ∃ ty, w = .arrayClass ty := good_of_word (List.mem_filter.mp h).2
theorem jm_gt_pay {args : Array Value} {s : State} (hts : ∀ w ∈ jm_gt, w.before args s = true) : ∀ w ∈ jm_gt, ∀ (a' : Array Value) (U : State), s.WarmedH U.vm → w.before a' U = true := fun w hw a' U hW => word_at hW (jm_gt_good hw) (hts w hw)
theorem jm_ao {ty : FieldType} {u U : State} (h : u.vm = U.vm) : (Cond.arrayOver ty).before #[] u = (Cond.arrayOver ty).before #[] U := by
  unfold Cond.before Cond.holds
  simp only [Cond.value, h]
/-- the words beside them are moved, too -/
theorem jm_nw_pay {s U : State} (hW : s.WarmedH U.vm) (h : ∀ w ∈ jm_nw, w.before #[] s = true) : ∀ w ∈ jm_nw, w.before #[] U = true := by
  intro w hw
  have h1 := h w hw
  have h2 := (List.mem_filter.mp hw).2
  unfold jm_nOk at h2
  split at h2
  · exact va_Nw.warmM hW h1
  · rename_i ty
    exact ((jm_ao (rfl : (s.setVm U.vm).vm = U.vm)).symm.trans (Cond.arrayOver_setVmC (args := #[]) hW.alike ty)).trans h1
  · cases h2
theorem jm_blind {as : Array Value} {B : State → Prop} (hB : ∀ (U : State) (g : JFrame) (mk : MethodId) (a : Array Value), B U → B (U.calling g mk a)) : FrameBlind (fun v U => v = as ∧ B U) := fun a U g mk h => ⟨h.1, hB U g mk a h.2⟩
theorem jm_nw_same {u U : State} (h : u.vm = U.vm) (hZ : ∀ w ∈ jm_nw, w.before #[] u = true) : ∀ w ∈ jm_nw, w.before #[] U = true := by
  intro w hw
  have h2 := (List.mem_filter.mp hw).2
  unfold jm_nOk at h2
  split at h2
  · exact va_tabs rfl h (hZ _ hw)
  · exact (jm_ao h).symm.trans (hZ _ hw)
  · cases h2
/-- what a callee is given of the state -/
def jm_St (G : jm_G) (M : jm_M) (U : State) : Prop := jm_Rp G M U.heap ∧ (∀ w ∈ jm_nw, w.before #[] U = true) ∧ va_K G.2.1 vwCl (jm_tys G) U ∧ va_X (jg_b G) (jg_L G) (jg_xs G) U U.heap ∧ jg_b G < jg_sz G ∧ jg_sz G ≤ U.heap.size
theorem jm_St.call {G : jm_G} {M : jm_M} {U : State} (h : jm_St G M U) (g : JFrame) (mk : MethodId) (a : Array Value) : jm_St G M (U.calling g mk a) := by
  obtain ⟨h1, h2, h3, h4, h5, h6⟩ := h
  exact ⟨h1, jm_nw_same (u := U) (U := U.calling g mk a) rfl h2, va_K.moved (u := U) (U := U.calling g mk a) (Vm.Alike.refl U.vm) h3, va_X.moved (u := U) (U := U.calling g mk a) (Vm.Alike.refl U.vm) h4, h5, h6⟩
theorem jm_sl {vs : List Value} (h : ∀ v ∈ vs, v.category = 1) : lg_sl vs = vs.map Slot.val := by
  induction vs with
  | nil => rfl
  | cons v t ih =>
    have h1 := h v List.mem_cons_self
    have h2 := ih (fun x hx => h x (List.mem_cons_of_mem _ hx))
    unfold lg_sl at h2 ⊢
    rw [List.flatMap_cons, h2, if_neg (by omega)]
    rfl
theorem jm_entry {G : jm_G} {m : MethodId} {n : Nat} {as : List jm_V} (h : as.length ≤ n) (hc : ∀ v ∈ as, jm_ct v = 1) : ∃ lr : Array Slot, entryFrame m (as.map (jm_cv G)).toArray n = F0 m 0 lr [] ∧ jm_Lo G n (jm_ls0 n as) lr := by
  have hs : lg_sl (as.map (jm_cv G)) = (as.map (jm_cv G)).map Slot.val := jm_sl (fun v hv => by
    obtain ⟨x, hx, rfl⟩ := List.mem_map.mp hv
    rw [jm_cat]
    exact hc x hx)
  have hlen : (lg_sl (as.map (jm_cv G))).length = as.length := by rw [hs]; simp
  have hE := lv_entry (as.map (jm_cv G)) (n := n) (by rw [hlen]; exact h)
  refine ⟨_, lg_entry_eq m _ n, by simp [jm_ls0]; omega, hE.1, hE.2.1, fun k v hk => ?_⟩
  by_cases hkl : k < as.length
  · unfold jm_ls0 at hk
    rw [List.getElem?_append_left (by simpa using hkl), List.getElem?_map] at hk
    obtain ⟨x, hx⟩ : ∃ x, as[k]? = some x := ⟨as[k], List.getElem?_eq_getElem hkl⟩
    rw [hx] at hk
    cases hk
    refine ⟨hc _ (List.mem_of_getElem? hx), ?_⟩
    rw [hs]
    simp only [List.getElem?_toArray]
    rw [List.getElem?_append_left (by simpa using hkl)]
    simp [hx]
  · unfold jm_ls0 at hk
    rw [List.getElem?_append_right (by simpa using hkl)] at hk
    have := List.mem_of_getElem? hk
    simp at this
theorem jm_Met {d mc ms n : Nat} {ν : jm_Md} {as : List jm_V} {M : jm_M} {K : Option jm_V → jm_M → Prop} (hM : jm_MOk ν n) (hlen : as.length ≤ ν.2.2.1) (hc : ∀ v ∈ as, jm_ct v = 1) (h : jm_Call d mc ms ν as M K) (G : jm_G) :
    Met G.1 ν.1 (Cond.code ν.1 ν.2.1 ν.2.2.1 ν.2.2.2 :: jm_gt) ({ frames := d + 1, cells := mc, slots := ms, locals := 64 * (d + 1) }) (fun v U => v = (as.map (jm_cv G)).toArray ∧ jm_St G M U) (jm_Qc G K) mc ms (jm_A G) := by
  refine Met.ofW (cc := ν.2.1) (maxL := ν.2.2.1) (ret := ν.2.2.2) hM.2.2.1 rfl ?_
  intro p e s m args below meth c s₁ B hml hv
  obtain ⟨rfl, hR, hN, hK, hX, hb, hz⟩ := hv
  have hts := atoms_spec (ws := Cond.code ν.1 ν.2.1 ν.2.2.1 ν.2.2.2 :: jm_gt) B.pre
  obtain ⟨lr, he, hl⟩ := jm_entry (G := G) (m := m) hlen hc
  rw [he]
  have K0 := h G p e ({ frames := d + 1, cells := mc, slots := ms, locals := 64 * (d + 1) }) s m (as.map (jm_cv G)).toArray below meth c s.heap [] 0 0 lr ⟨B.exec, B.bytes, B.returns, B.notSynchronized, hml, findClass_of_methodNamed B.named, (name_of_methodNamed B.named B.method).1, fun w hw => hts w (List.mem_cons_of_mem _ hw), hN, hK, hX, hb, hz⟩ (Nat.le_refl _) (Nat.le_refl _) (by rw [Nat.zero_add]; exact Nat.le_refl _) (by rw [Nat.zero_add]; exact Nat.le_refl _) hR va_S.rf hl
  rw [Nat.zero_add, Nat.zero_add] at K0
  exact K0
theorem jm_after {p : Program} {e : Env} {R : Room} {s : State} {m : MethodId} {args a : Array Value} {below : List Frame} {meth : Method} {c : Code} {H : Heap} {locs : List Loc} {cells slots mc ms pc : Nat} {lr : Array Slot} {st0 rest : List Value} {G : jm_G} {K : Option jm_V → jm_M → Prop} {Qz : State → Prop}
    (hr : va_Run p G.1 e R s m args below meth c H locs cells slots mc ms (F0 m pc lr st0) rest (jm_Qc G K a) (jm_A G)) (hS : va_S (jm_A G) s.heap H locs)
    (kk : ∀ (r : Option jm_V) (M : jm_M) (H1 : Heap) (locs1 : List Loc), K r M → jm_Rp G M H1 → va_S (jm_A G) s.heap H1 locs1 → W p G.1 e R s m args below meth c H1 locs1 (cells + mc) (slots + ms) Qz (F0 m (pc + 3) lr ((r.map (jm_cv G)).toList ++ rest))) : W p G.1 e R s m args below meth c H locs cells slots Qz (F0 m pc lr st0) := by
  intro T hT X
  obtain ⟨v, st₀, t, T', L, h0, X', hL, e1, e2, ⟨⟨r, M, hv, hk, hRp⟩, hz, hkk⟩, st⟩ := hr T hT X
  cases hv
  rw [h0] at hz hkk
  obtain ⟨t2, a1, b1⟩ := kk r M T'.heap (locs ++ L) hk (by rw [e1]; exact hRp) ⟨Nat.le_trans hS.1 (by rw [e1]; exact hz), fun q h1 h2 => by rw [e1, hkk q (Nat.lt_of_lt_of_le h1 hS.1) h2]; exact hS.2.1 q h1 h2, fun q hq => by
      rcases List.mem_append.mp hq with h | h
      · exact hS.2.2 q h
      · exact hL q h⟩ T' rfl X'
  exact ⟨t2, st t2 a1, b1⟩
section CALLRULES
variable {d mc ms mc1 ms1 mc2 ms2 pc n i : Nat} {μ ν : jm_Md} {ls : jm_Ls} {st rest as : List jm_V} {M : jm_M} {Q : Option jm_V → jm_M → Prop} {r : List (Instr × Nat)}
theorem jm_pre {G : jm_G} {μ : jm_Md} {p : Program} {s U : State} {m : MethodId} {args : Array Value} {meth : Method} {c : Code} {H : Heap} {locs : List Loc} {M : jm_M} (C : jm_Cx G μ p s m args meth c) (hR : jm_Rp G M H) (hS : va_S (jm_A G) s.heap H locs) (hU : U.heap = H) (hW : s.WarmedH U.vm) : jm_St G M U := by
  obtain ⟨-, -, -, -, -, -, -, -, hN, hK, hX, hb, hz⟩ := C
  have hXH : va_X (jg_b G) (jg_L G) (jg_xs G) s H := hX.kept (hS.2.1 _ (Nat.lt_of_lt_of_le hb hz) (Nat.not_le.mpr hb))
  refine ⟨by rw [hU]; exact hR, jm_nw_pay hW hN, va_K.moved hW.alike hK, by rw [hU]; exact va_X.moved hW.alike hXH, hb, by rw [hU, hR.1]; exact Nat.le_add_right _ _⟩
theorem jm_wt {G : jm_G} {rest : List jm_V} (h : (rest.map jm_ct).sum ≤ 8) : ((rest.map (jm_cv G)).map fun v => v.category).sum ≤ 8 := by
  rw [List.map_map]
  have : ((fun v : Value => v.category) ∘ jm_cv G) = jm_ct := by
    funext v
    exact jm_cat
  rw [this]
  exact h
theorem jm_alls {as : List jm_V} (h : as.all (fun v => jm_ct v == 1) = true) : ∀ v ∈ as, jm_ct v = 1 := fun v hv => by
  have := List.all_eq_true.mp h v hv
  simpa using this
theorem jm_tl {r : Option jm_V} {G : jm_G} {rest : List jm_V} : (r.map (jm_cv G)).toList ++ rest.map (jm_cv G) = (r.toList ++ rest).map (jm_cv G) := by
  cases r <;> rfl
theorem jm_callB {G : jm_G} {p : Program} {R : Room} {s : State} {m : MethodId} {args : Array Value} {meth : Method} {c : Code} (C : jm_Cx G μ p s m args meth c) (hM : jm_MOk ν n) (hw : Cond.methodLink μ.1.cls i ν.1 ∈ jm_gt) (hF : d + 1 + 1 ≤ R.frames) (hL : 64 * (d + 1 + 1) ≤ R.locals) : CallB R s args μ.1.cls i ν.1 ν.2.1 ν.2.2.1 ν.2.2.2 (Cond.code ν.1 ν.2.1 ν.2.2.1 ν.2.2.2 :: jm_gt) ({ frames := d + 1, cells := mc1, slots := ms1, locals := 64 * (d + 1) }) mc1 ms1 n := by
  obtain ⟨h1, h2, h3, h4, h5, h6⟩ := hM
  have hts := C.2.2.2.2.2.2.2.1
  refine ⟨rfl, rfl, hF, by show 8 + (ν.2.2.1 + 11) + 64 * (d + 1) ≤ R.locals; omega, ?_, List.mem_cons_self, hts _ h1, hts _ h2, h4, fun sig h => ?_, hts _ hw⟩
  · intro w hw
    rcases List.mem_cons.mp hw with rfl | hw
    · exact jm_gt_pay hts _ h1
    · exact jm_gt_pay hts _ hw
  · rw [h] at h5
    exact (Option.some.inj h5).symm
theorem go_static (as rest : List jm_V) (hM : jm_MOk ν n) (hw : Cond.methodLink μ.1.cls i ν.1 ∈ jm_gt) (hst : Cond.static ν.1 ∈ jm_gt) (hn : as.length = n) (hx : as.length ≤ ν.2.2.1) (hc : as.all (fun v => jm_ct v == 1) = true) (h8 : (rest.map jm_ct).sum ≤ 8) (hs : st = as.reverse ++ rest) (hmc : mc = mc1 + mc2) (hms : ms = ms1 + ms2)
    (hd : jm_dc μ.2.1 pc ((.invokestatic i, 3) :: r) = true) (k : jm_Call d mc1 ms1 ν as M (fun v M' => jm_Go (d + 1) mc2 ms2 μ (pc + 3) ls (v.toList ++ rest) M' Q)) : jm_Go (d + 1) mc ms μ pc ls st M Q := by
  intro G p e R s m args below meth c H locs cells slots lr C hF hL hcc hss hR hS hl
  subst hs; subst hmc; subst hms
  have hst2 : ((as.reverse ++ rest).map (jm_cv G)) = (as.map (jm_cv G)).reverse ++ rest.map (jm_cv G) := by simp
  rw [hst2]
  refine jm_after (va_runS (As := as.map (jm_cv G)) (rest := rest.map (jm_cv G)) ⟨C.1, C.2.1, C.2.2.2.2.1, C.2.2.2.2.2.1, C.2.2.2.2.2.2.2.1⟩ (jm_Met hM hx (jm_alls hc) k G) ⟨jm_callB C hM hw hF hL, C.2.2.2.2.2.2.2.1 _ hst⟩ ⟨jm_blind (fun U g mk a h => h.call g mk a), fun U hU hW => ⟨rfl, jm_pre C hR hS hU hW⟩⟩ rfl (by rw [List.length_map]; exact hn) hl.2.1 rfl (lv_room (jm_wt h8)) (jm_d1 hd) ⟨by omega, by omega⟩) hS (fun r0 M0 H1 locs1 hk hR1 hS1 => ?_)
  rw [jm_tl]
  have K := hk G p e R s m args below meth c H1 locs1 (cells + mc1) (slots + ms1) lr C hF hL (by omega) (by omega) hR1 hS1 hl
  rw [Nat.add_assoc, Nat.add_assoc] at K
  exact K
theorem go_virtual (a c : Nat) (as rest : List jm_V) (hM : jm_MOk ν n) (hC : jm_COk c) (hcn : jm_cn c = ν.1.cls) (hw : Cond.methodLink μ.1.cls i ν.1 ∈ jm_gt) (hin : Cond.instanceMethod ν.1 ∈ jm_gt) (hse : Cond.selects ν.1.cls ν.1 ν.1 ∈ jm_gt) (hk : (M.2.1 a).1 = c) (hn : as.length = n) (hx : as.length + 1 ≤ ν.2.2.1) (hc : as.all (fun v => jm_ct v == 1) = true) (h8 : (rest.map jm_ct).sum ≤ 8) (hs : st = as.reverse ++ .inr (.inl a) :: rest) (hmc : mc = mc1 + mc2) (hms : ms = ms1 + ms2)
    (hd : jm_dc μ.2.1 pc ((.invokevirtual i, 3) :: r) = true) (k : jm_Call d mc1 ms1 ν (.inr (.inl a) :: as) M (fun v M' => jm_Go (d + 1) mc2 ms2 μ (pc + 3) ls (v.toList ++ rest) M' Q)) : jm_Go (d + 1) mc ms μ pc ls st M Q := by
  intro G p e R s m args below meth c0 H locs cells slots lr C hF hL hcc hss hR hS hl
  subst hs; subst hmc; subst hms
  have hst2 : ((as.reverse ++ .inr (.inl a) :: rest).map (jm_cv G)) = (as.map (jm_cv G)).reverse ++ .ref (jm_ad G a) :: rest.map (jm_cv G) := by simp [jm_cv]
  rw [hst2]
  obtain ⟨c1, c2, c3, c4, c5, c6⟩ := hC
  obtain ⟨b, rfl, hb⟩ := jm_at hR (jm_ne99 c6 hk)
  rw [jm_cl_C hk c6] at hb
  have hrecv := va_recv C.2.2.2.2.2.2.2.2.2.1 hR.2.1 c1 hb
  rw [show (jm_cn c, jm_T c, jm_nf c).1 = ν.1.cls from hcn] at hrecv
  have hm := jm_Met hM (by simpa using hx) (jm_alls (by rw [List.all_cons, hc]; rfl)) k G
  refine jm_after (va_runV (As := as.map (jm_cv G)) (rest := rest.map (jm_cv G)) ⟨C.1, C.2.1, C.2.2.2.2.1, C.2.2.2.2.2.1, C.2.2.2.2.2.2.2.1⟩ hm ⟨jm_callB C hM hw hF hL, C.2.2.2.2.2.2.2.1 _ hin, C.2.2.2.2.2.2.2.1 _ hse⟩ ⟨jm_blind (fun U g mk a h => h.call g mk a), hrecv, fun U hU hW => ⟨rfl, jm_pre C hR hS hU hW⟩⟩ rfl (by rw [List.length_map]; exact hn) hl.2.1 rfl (lv_room (jm_wt h8)) (jm_d1 hd) ⟨by omega, by omega⟩) hS (fun r0 M0 H1 locs1 hk hR1 hS1 => ?_)
  rw [jm_tl]
  have K := hk G p e R s m args below meth c0 H1 locs1 (cells + mc1) (slots + ms1) lr C hF hL (by omega) (by omega) hR1 hS1 hl
  rw [Nat.add_assoc, Nat.add_assoc] at K
  exact K
theorem go_init (a : Nat) (rest : List jm_V) (hM : jm_MOk ν 0) (hnm : ν.1.name = "<init>") (hvd : ν.2.2.2 = none) (hw : Cond.methodLink μ.1.cls i ν.1 ∈ jm_gt) (hin : Cond.instanceMethod ν.1 ∈ jm_gt) (hx : 1 ≤ ν.2.2.1) (h8 : (rest.map jm_ct).sum ≤ 8) (hs : st = .inr (.inl a) :: rest) (hmc : mc = mc1 + mc2) (hms : ms = ms1 + ms2)
    (hd : jm_dc μ.2.1 pc ((.invokespecial i, 3) :: r) = true) (k : jm_Call d mc1 ms1 ν [.inr (.inl a)] M (fun v M' => jm_Go (d + 1) mc2 ms2 μ (pc + 3) ls (v.toList ++ rest) M' Q)) : jm_Go (d + 1) mc ms μ pc ls st M Q := by
  intro G p e R s m args below meth c0 H locs cells slots lr C hF hL hcc hss hR hS hl
  subst hs; subst hmc; subst hms
  have hm := jm_Met hM (by simpa using hx) (jm_alls rfl) k G
  have hB := jm_callB (mc1 := mc1) (ms1 := ms1) C hM hw hF hL
  rw [hvd] at hB hm
  refine jm_after (va_runI (b := jm_ad G a) (As := []) (rest := rest.map (jm_cv G)) ⟨C.1, C.2.1, C.2.2.2.2.1, C.2.2.2.2.2.1, C.2.2.2.2.2.2.2.1⟩ hm ⟨hB, hnm, C.2.2.2.2.2.2.2.1 _ hin⟩ ⟨jm_blind (fun U g mk a h => h.call g mk a), fun U hU hW => ⟨rfl, jm_pre C hR hS hU hW⟩⟩ rfl rfl hl.2.1 rfl (lv_room (jm_wt h8)) (jm_d1 hd) ⟨by omega, by omega⟩) hS (fun r0 M0 H1 locs1 hk hR1 hS1 => ?_)
  rw [jm_tl]
  have K := hk G p e R s m args below meth c0 H1 locs1 (cells + mc1) (slots + ms1) lr C hF hL (by omega) (by omega) hR1 hS1 hl
  rw [Nat.add_assoc, Nat.add_assoc] at K
  exact K
end CALLRULES
