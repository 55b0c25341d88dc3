/-! ===== rules: what the constructors need, and the copy of a row ===== -/
section MORERULES
variable {d mc ms pc i : Nat} {μ : jm_Md} {ls : jm_Ls} {st : List jm_V} {M : jm_M} {Q : Option jm_V → jm_M → Prop} {r : List (Instr × Nat)}
theorem go_objinit {a : Nat} (hw : Cond.methodLink μ.1.cls i Lib.objectInit ∈ jm_gt) (h1 : Cond.instanceMethod Lib.objectInit ∈ jm_gt) (h2 : Cond.code Lib.objectInit ⟨#[0xb1]⟩ 1 none ∈ jm_gt) (h8 : (st.map jm_ct).sum ≤ 8) (hd : jm_dc μ.2.1 pc ((.invokespecial i, 3) :: r) = true) (k : jm_dc μ.2.1 (pc + 3) r = true → jm_Go d mc ms μ (pc + 3) ls st M Q) : jm_Go d mc ms μ pc ls (.inr (.inl a) :: st) M Q := by
  intro G p e R s m args below meth c H locs cells slots lr C hF hL hcc hss hR hS hl
  have hts := C.2.2.2.2.2.2.2.1
  refine W.objInit C.1 C.2.1 C.2.2.2.2.2.1 (hts _ hw) (hts _ h1) (hts _ h2) rfl (hl.2.1.trans C.2.2.2.2.1.symm) rfl (jm_d1 hd) (by omega) ?_ (k (jm_d2 hd) G p e R s m args below meth c H locs cells slots lr C hF hL hcc hss hR hS hl)
  have := lv_room (m := m) (pc := pc) (ls := lr) (rest := []) (jm_wt (G := G) h8)
  show 2 * 0 + _ + 12 ≤ R.locals
  have h9 := jm_wt (G := G) h8
  omega
/-- a cell more -/
def jm_grow (M : jm_M) (sl kd len : Nat) : jm_M := ((M.1.1 + 1, M.1.2 + sl), (fun a => if a = M.1.1 + 1 then (kd, len) else M.2.1 a), (fun a => if a = M.1.1 + 1 then (fun _ => none) else M.2.2.1 a), (fun a => if a = M.1.1 + 1 then (fun _ => 0) else M.2.2.2 a))
theorem jm_Rp_grow {G : jm_G} {M : jm_M} {H H1 : Heap} {sl kd len : Nat} (hkd : kd < 98) (hR : jm_Rp G M H) (z : H1.size = H.size + 1) (oq : ∀ q : Nat, q < H.size → H1[q]? = H[q]?) (he : va_at G.2.1 vwCl (H.size, jm_cl G (jm_grow M sl kd len) (M.1.1 + 1)) H1) : jm_Rp G (jm_grow M sl kd len) H1 := by
  obtain ⟨h1, h2, h3, h4⟩ := hR
  have hold : ∀ a, a ≠ M.1.1 + 1 → jm_cl G (jm_grow M sl kd len) a = jm_cl G M a := fun a ha => jm_cl_eq (by simp [jm_grow, ha]) (by simp [jm_grow, ha]) (by simp [jm_grow, ha])
  refine ⟨by rw [z, h1]; simp [jm_grow]; omega, fun k q hk => ?_, fun a ha => ?_, ?_, fun k hk => ?_⟩
  · obtain ⟨hl, rfl⟩ := jm_ws_inv hk
    have hl' : k < M.1.1 + 1 := hl
    by_cases hkn : k = M.1.1
    · subst hkn
      rw [← h1]
      exact he
    · have hk2 : k < M.1.1 := by omega
      rw [hold (k + 1) (by omega)]
      exact (h2 k _ (jm_ws_get hk2)).kept (oq _ (by show jg_sz G + k < _; omega))
  · simp only [jm_grow] at ha ⊢
    by_cases e : a = M.1.1 + 1
    · omega
    · rw [if_neg e] at ha
      have := h3 a ha
      omega
  · simp only [jm_grow]
    rw [if_neg (by omega)]
    exact h4.1
  · simp only [jm_grow]
    rw [if_neg (by omega)]
    exact h4.2 k hk
theorem jm_S_grow {G : jm_G} {H0 H H1 : Heap} {locs : List Loc} (hS : va_S (jm_A G) H0 H locs) (z : H1.size = H.size + 1) (oq : ∀ q : Nat, q < H.size → H1[q]? = H[q]?) : va_S (jm_A G) H0 H1 locs :=
  ⟨Nat.le_trans hS.1 (by omega), fun x h1 h2 => (oq x (Nat.lt_of_lt_of_le h1 hS.1)).trans (hS.2.1 x h1 h2), hS.2.2⟩
/-- an int row -/
theorem go_newI {n : Int} (hw : Cond.arrayClass .int ∈ jm_gt) (h0 : 0 ≤ n) (h1 : n < 100000) (hd : jm_dc μ.2.1 pc ((.newarray .int, 2) :: r) = true) (k : jm_dc μ.2.1 (pc + 2) r = true → jm_Go d mc ms μ (pc + 2) ls (.inr (.inl (M.1.1 + 1)) :: st) (jm_grow M n.toNat 20 n.toNat) Q) : jm_Go d (mc + 1) (ms + n.toNat) μ pc ls (.inl n :: st) M Q := by
  intro G p e R s m args below meth c H locs cells slots lr C hF hL hcc hss hR hS hl
  have hts := C.2.2.2.2.2.2.2.1
  have hK := C.2.2.2.2.2.2.2.2.2.1
  obtain ⟨g1, g2⟩ := jm_clamp (n := 100000) h0 h1 (by omega)
  refine va_newaK (atype := .int) C.1 C.2.1 (hts _ hw) rfl (jm_d1 hd) rfl (fun h => g1 (Or.inl h)) g2 (by show n.toNat * 4 ≤ _; omega) (by omega) (by omega) rfl (fun H1 cA e1 z1 o1 hAr hNm => ?_)
  have hcA : cA = jg_I G := Option.some.inj (hNm.symm.trans (hK.2 0 _ rfl).2)
  subst hcA
  have K := k (jm_d2 hd) G p e R s m args below meth c H1 locs (cells + 1) (slots + n.toNat) lr C hF hL (by omega) (by omega) (jm_Rp_grow (by omega) hR z1 o1 (by
    rw [jm_cl_I (n := n.toNat) (by simp [jm_grow])]
    show H1[H.size]? = some (vp_cell _ _)
    rw [e1, vp_cell_i]
    simp [jm_grow]
    rfl)) (jm_S_grow hS z1 o1) hl
  rw [show cells + 1 + mc = cells + (mc + 1) by omega, show slots + n.toNat + ms = slots + (ms + n.toNat) by omega] at K
  rw [hR.1]
  exact K
theorem go_newZ {n : Int} (hw : Cond.arrayClass .boolean ∈ jm_gt) (h0 : 0 ≤ n) (h1 : n < 100000) (hd : jm_dc μ.2.1 pc ((.newarray .boolean, 2) :: r) = true) (k : jm_dc μ.2.1 (pc + 2) r = true → jm_Go d mc ms μ (pc + 2) ls (.inr (.inl (M.1.1 + 1)) :: st) (jm_grow M n.toNat 21 n.toNat) Q) : jm_Go d (mc + 1) (ms + n.toNat) μ pc ls (.inl n :: st) M Q := by
  intro G p e R s m args below meth c H locs cells slots lr C hF hL hcc hss hR hS hl
  have hts := C.2.2.2.2.2.2.2.1
  have hK := C.2.2.2.2.2.2.2.2.2.1
  obtain ⟨g1, g2⟩ := jm_clamp (n := 100000) h0 h1 (by omega)
  refine va_newaK (atype := .boolean) C.1 C.2.1 (hts _ hw) rfl (jm_d1 hd) rfl (fun h => g1 (Or.inl h)) g2 (by show n.toNat * 1 ≤ _; omega) (by omega) (by omega) rfl (fun H1 cA e1 z1 o1 hAr hNm => ?_)
  have hcA : cA = jg_Z G := Option.some.inj (hNm.symm.trans (hK.2 1 _ rfl).2)
  subst hcA
  have K := k (jm_d2 hd) G p e R s m args below meth c H1 locs (cells + 1) (slots + n.toNat) lr C hF hL (by omega) (by omega) (jm_Rp_grow (by omega) hR z1 o1 (by
    rw [jm_cl_Z (n := n.toNat) (by simp [jm_grow])]
    show H1[H.size]? = some (vp_cell _ _)
    rw [e1, vp_cell_i]
    simp [jm_grow]
    rfl)) (jm_S_grow hS z1 o1) hl
  rw [show cells + 1 + mc = cells + (mc + 1) by omega, show slots + n.toNat + ms = slots + (ms + n.toNat) by omega] at K
  rw [hR.1]
  exact K
/-- a row of moments -/
theorem go_newO {n : Int} (hw : Cond.classLink μ.1.cls i RX5 ∈ jm_gt) (ho : Cond.arrayOver (.object RX5) ∈ jm_nw) (h0 : 0 ≤ n) (h1 : n < 100000) (hd : jm_dc μ.2.1 pc ((.anewarray i, 3) :: r) = true) (k : jm_dc μ.2.1 (pc + 3) r = true → jm_Go d mc ms μ (pc + 3) ls (.inr (.inl (M.1.1 + 1)) :: st) (jm_grow M n.toNat 22 n.toNat) Q) : jm_Go d (mc + 1) (ms + n.toNat) μ pc ls (.inl n :: st) M Q := by
  intro G p e R s m args below meth c H locs cells slots lr C hF hL hcc hss hR hS hl
  have hts := C.2.2.2.2.2.2.2.1
  have hK := C.2.2.2.2.2.2.2.2.2.1
  have hN := C.2.2.2.2.2.2.2.2.1
  obtain ⟨g1, g2⟩ := jm_clamp (n := 100000) h0 h1 (by omega)
  refine W.anew C.1 C.2.1 C.2.2.2.2.2.1 (hts _ hw) (va_AO.use (hN _ ho)) rfl (jm_d1 hd) rfl (fun h => g1 (Or.inl h)) (by rw [g2]; omega) (by omega) (by rw [g2]; omega) (fun cA kA comp f1 f2 f3 f4 => ?_)
  have hcA : cA = jg_O G := by
    obtain ⟨_, _, -, -, -, h⟩ := (hK.2 2 _ rfl).2
    exact Option.some.inj (f1.symm.trans h)
  subst hcA
  rw [g2]
  generalize hH1 : H.push ({ cls := jg_O G, slots := Array.replicate n.toNat .null, vm := .none } : Cell) = H1
  have z1 : H1.size = H.size + 1 := by rw [← hH1, Array.size_push]
  have e1 : H1[H.size]? = some (arrV (jg_O G) n.toNat (fun _ => .null)) := by rw [← hH1, Array.getElem?_push_size, ← arrV_new]
  have o1 : ∀ q : Nat, q < H.size → H1[q]? = H[q]? := fun q hq => by rw [← hH1, Array.getElem?_push, if_neg (Nat.ne_of_lt hq)]
  have K := k (jm_d2 hd) G p e R s m args below meth c H1 locs (cells + 1) (slots + n.toNat) lr C hF hL (by omega) (by omega) (jm_Rp_grow (by omega) hR z1 o1 (by
    rw [jm_cl_O (n := n.toNat) (by simp [jm_grow])]
    show H1[H.size]? = some (vp_cell _ _)
    rw [e1, vp_cell_q]
    simp [jm_grow, va_rf])) (jm_S_grow hS z1 o1) hl
  rw [show cells + 1 + mc = cells + (mc + 1) by omega, show slots + n.toNat + ms = slots + (ms + n.toNat) by omega] at K
  rw [hR.1]
  exact K
/-- an object -/
theorem go_new {c : Nat} (hC : jm_COk c) (hw : Cond.classLink μ.1.cls i (jm_cn c) ∈ jm_gt) (h1 : Cond.instantiable (jm_cn c) (jm_nf c) ∈ jm_gt) (h2 : Cond.initialized (jm_cn c) ∈ jm_gt) (hd : jm_dc μ.2.1 pc ((.new i, 3) :: r) = true) (k : jm_dc μ.2.1 (pc + 3) r = true → jm_Go d mc ms μ (pc + 3) ls (.inr (.inl (M.1.1 + 1)) :: st) (jm_grow M (jm_nf c) c 0) Q) : jm_Go d (mc + 1) (ms + jm_nf c) μ pc ls st M Q := by
  intro G p e R s m args below meth c0 H locs cells slots lr C hF hL hcc hss hR hS hl
  have hts := C.2.2.2.2.2.2.2.1
  have hK := C.2.2.2.2.2.2.2.2.2.1
  obtain ⟨c1, c2, c3, c4, c5, c6⟩ := hC
  have hKn := hK.1 c _ c1
  refine W.newcK C.1 C.2.1 C.2.2.2.2.2.1 (hts _ hw) (hts _ h1) (hts _ h2) rfl (jm_d1 hd) (by omega) (by omega) hKn.2.1 rfl (fun H1 kC hkC e1 z1 o1 => ?_)
  have K := k (jm_d2 hd) G p e R s m args below meth c0 H1 locs (cells + 1) (slots + jm_nf c) lr C hF hL (by omega) (by omega) (jm_Rp_grow (by omega) hR z1 o1 (by
    rw [jm_cl_C (c := c) (by simp [jm_grow]) c6]
    refine ⟨_, c1, (u_born (jm_ty c) hts c2 hKn hkC e1 c3).to (fun j hj => ?_)⟩
    have hj' : j < jm_nf c := hj
    have hv : vp_V ((List.range (jm_nf c)).map (jm_fv G (jm_grow M (jm_nf c) c 0) c (M.1.1 + 1))) j = jm_fv G (jm_grow M (jm_nf c) c 0) c (M.1.1 + 1) j := by
      unfold vp_V
      rw [List.getD_eq_getElem?_getD, List.getElem?_map, List.getElem?_range hj']
      rfl
    show defaultValue (jm_ty c j) = _
    rw [hv]
    have h := c5 j hj'
    unfold jm_kd at h
    unfold jm_fv
    split at h <;> simp_all [jm_grow, defaultValue, va_rf] <;> rfl)) (jm_S_grow hS z1 o1) hl
  rw [show cells + 1 + mc = cells + (mc + 1) by omega, show slots + jm_nf c + ms = slots + (ms + jm_nf c) by omega] at K
  rw [hR.1]
  exact K
/-- a moment comes into a row of moments -/
theorem go_aastore {a n v : Nat} {i0 : Int} (hC : jm_COk 5) (hs : M.2.1 a = (22, n)) (hv : (M.2.1 v).1 = 5) (h0 : 0 ≤ i0) (h1 : i0 < n) (hn : n < 2 ^ 31) (hd : jm_dc μ.2.1 pc ((.aastore, 1) :: r) = true) (kk : jm_dc μ.2.1 (pc + 1) r = true → jm_Go d mc ms μ (pc + 1) ls st (jm_pr2 M a i0.toNat v) Q) : jm_Go d mc ms μ pc ls (.inr (.inl v) :: .inl i0 :: .inr (.inl a) :: st) M Q := by
  intro G p e R s m args below meth c0 H locs cells slots lr C hF hL hc hs0 hR hS hl
  have hK := C.2.2.2.2.2.2.2.2.2.1
  obtain ⟨c1, c2, c3, c4, c5, c6⟩ := hC
  obtain ⟨b, rfl, hb⟩ := jm_at hR (show (M.2.1 a).1 < 98 by rw [hs]; simp)
  obtain ⟨bv, rfl, hbv⟩ := jm_at hR (show (M.2.1 v).1 < 98 by rw [hv]; simp)
  have hb' := hb
  rw [jm_cl_O hs] at hb'
  rw [jm_cl_C hv (by omega)] at hbv
  obtain ⟨g1, g2⟩ := jm_clamp h0 h1 hn
  obtain ⟨r', hr', cellV, q1, q2, q3, -⟩ := hR.2.1 bv _ hbv
  have hcls := (hK.1 5 _ c1).2
  obtain ⟨kA, comp, k1, k2, k3, -⟩ := (hK.2 2 _ rfl).2
  have hcomp : comp = G.2.1.1 5 := Option.some.inj (k3.symm.trans hcls.1)
  subst hcomp
  obtain ⟨kC, hkC, -⟩ := hcls.2
  have hlt : (Int32.ofInt i0).toNatClampNeg < n := by rw [g2]; omega
  refine W.aast C.1 C.2.1 (hR.2.1 b _ hb') (fun q h => by cases h) (fun h => by cases h) k1 k2 rfl hkC ⟨fun h => g1 (Or.inl h), by show _ < (arrV _ _ _).slots.size; rw [arrV_size]; exact hlt⟩ q1 (fun q h => by rw [q3] at h; cases h) (by rw [q2]; exact hkC) (by rw [q2]; exact va_assign hcls) rfl rfl (jm_d1 hd) (fun H1 e1 e2 e3 => ?_)
  have h00 : (0 : Nat) ≠ b + 1 := by omega
  refine kk (jm_d2 hd) G p e R s m args below meth c0 H1 _ cells slots lr C hF hL hc hs0 (jm_Rp_put (M' := jm_pr2 M (b + 1) i0.toNat (bv + 1)) (e := jm_cl G (jm_pr2 M (b + 1) i0.toNat (bv + 1)) (b + 1)) hR hb ?_ e2 e3 (jm_ws_set rfl rfl (fun x hx => jm_cl_eq rfl (jm_ur_o (by omega)) rfl)) rfl rfl rfl) (hS.put e2 e3 (show jm_A G (jm_ad G (b + 1)) from Nat.le_add_right _ _)) hl
  rw [jm_cl_O (M := jm_pr2 M (b + 1) i0.toNat (bv + 1)) hs]
  show H1[_]? = some (vp_cell _ _)
  rw [e1, g2, vp_cell_q, vp_cell_q, arrV_store]
  congr 2
  funext q
  by_cases hq : q = i0.toNat
  · simp [updV, jm_ur, hq, va_rf]
  · simp [updV, jm_ur, hq]
theorem go_initN {d mc ms mc1 ms1 mc2 ms2 : Nat} {ν : jm_Md} (host : String) (a : Nat) (rest : List jm_V) (hM : jm_MOk ν 0) (hnm : ν.1.name = "<init>") (hvd : ν.2.2.2 = none) (hw : Cond.methodLinkNest μ.1.cls i ν.1 host ∈ jm_nw) (hin : Cond.instanceMethod ν.1 ∈ jm_gt) (hx : 1 ≤ ν.2.2.1) (h8 : (rest.map jm_ct).sum ≤ 8) (hs : st = .inr (.inl a) :: rest) (hmc : mc = mc1 + mc2) (hms : ms = ms1 + ms2)
    (hd : jm_dc μ.2.1 pc ((.invokespecial i, 3) :: r) = true) (k : jm_Call d mc1 ms1 ν [.inr (.inl a)] M (fun v M' => jm_Go (d + 1) mc2 ms2 μ (pc + 3) ls (v.toList ++ rest) M' Q)) : jm_Go (d + 1) mc ms μ pc ls st M Q := by
  intro G p e R s m args below meth c0 H locs cells slots lr C hF hL hcc hss hR hS hl
  subst hs; subst hmc; subst hms
  have hm := jm_Met hM (by simpa using hx) (jm_alls rfl) k G
  have hts := C.2.2.2.2.2.2.2.1
  have hN := C.2.2.2.2.2.2.2.2.1
  obtain ⟨m1, m2, m3, m4, m5, m6⟩ := hM
  rw [hvd] at hm m1
  have hB : va_CN R s args μ.1.cls i ν.1 host ν.2.1 ν.2.2.1 none (Cond.code ν.1 ν.2.1 ν.2.2.1 none :: jm_gt) ({ frames := d + 1, cells := mc1, slots := ms1, locals := 64 * (d + 1) }) mc1 ms1 0 := by
    refine ⟨⟨rfl, rfl, hF, by show 8 + (ν.2.2.1 + 11) + 64 * (d + 1) ≤ R.locals; omega, ?_, List.mem_cons_self⟩, hts _ m1, hts _ m2, m4, fun sig h => ?_, va_Nw.use rfl (hN _ hw)⟩
    · intro w hw
      rcases List.mem_cons.mp hw with rfl | hw
      · exact jm_gt_pay hts _ m1
      · exact jm_gt_pay hts _ hw
    · rw [h] at m5
      exact (Option.some.inj m5).symm
  refine jm_after (va_runIN (b := jm_ad G a) (As := []) (rest := rest.map (jm_cv G)) ⟨C.1, C.2.1, C.2.2.2.2.1, C.2.2.2.2.2.1, C.2.2.2.2.2.2.2.1⟩ hm ⟨hB, hnm, C.2.2.2.2.2.2.2.1 _ hin⟩ ⟨jm_blind (fun U g mk a h => h.call g mk a), fun U hU hW => ⟨rfl, jm_pre C hR hS hU hW⟩⟩ rfl rfl hl.2.1 rfl (lv_room (jm_wt h8)) (jm_d1 hd) ⟨by omega, by omega⟩) hS (fun r0 M0 H1 locs1 hk hR1 hS1 => ?_)
  rw [jm_tl]
  have K := hk G p e R s m args below meth c0 H1 locs1 (cells + mc1) (slots + ms1) lr C hF hL (by omega) (by omega) hR1 hS1 hl
  rw [Nat.add_assoc, Nat.add_assoc] at K
  exact K
/-- the numbers of a row, copied -/
def jm_cpy (I : Nat → Nat → Int) (a0 a1 sp dp n : Nat) : Nat → Nat → Int := fun b k => if b = a1 ∧ dp ≤ k ∧ k < dp + n then I a0 (sp + (k - dp)) else I b k
theorem jm_Wcopy {p : Program} {l : Launch} {e : Env} {R : Room} {s : State} {m : MethodId} {args : Array Value} {below : List Frame} {meth : Method} {c : Code} {H : Heap} {locs : List Loc} {cells slots pc : Nat} {Qz : State → Prop} {lr : Array Slot} {rest : List Value} (hexec : p.tables.exec = Jvm.exec) (hml : c.maxLocals = lr.size) {own : String} {index : Nat} (hown : s.vm.findClass own = some m.cls) (hlink : (Cond.methodLink own index arraycopyName).before args s = true) (hnat : (Cond.native arraycopyName).before args s = true) (hstat : (Cond.static arraycopyName).before args s = true) (hini : (Cond.initialized "java/lang/System").before args s = true)
    {a0 a1 n0 n1 : Nat} {cI : ClassId} {f g : Nat → Int32} (hA : ArrOfT s cI .int) (hc0 : H[a0]? = some (vp_cell cI (n0, .inl f))) (hc1 : H[a1]? = some (vp_cell cI (n1, .inl g))) {sp dp n : Int32} (h1 : ¬ sp < 0) (h2 : ¬ dp < 0) (h3 : ¬ n < 0) (e1 : sp.toInt = sp.toNatClampNeg) (e2 : dp.toInt = dp.toNatClampNeg) (e3 : n.toInt = n.toNatClampNeg) (h4 : sp.toNatClampNeg + n.toNatClampNeg ≤ n0) (h5 : dp.toNatClampNeg + n.toNatClampNeg ≤ n1)
    (hframes : 1 ≤ R.frames) (hlocals : (rest.map fun v => v.category).sum + (nativeFrameWords "java/lang/System" "arraycopy" 5 + 11) ≤ R.locals) (hdg : decode c.code pc = .ok (.invokestatic index, 3))
    (kk : ∀ (H1 : Heap) (L : List Loc), H1[a1]? = some (vp_cell cI (n1, .inl (va_cpy f g sp.toNatClampNeg dp.toNatClampNeg n.toNatClampNeg))) → H1.size = H.size → (∀ q : Nat, q ≠ a1 → H1[q]? = H[q]?) → (∀ q ∈ L, q.base = a1) → W p l e R s m args below meth c H1 (locs ++ L) cells slots Qz (F0 m (pc + 3) lr rest)) : W p l e R s m args below meth c H locs cells slots Qz (F0 m pc lr (.int n :: .int dp :: .ref a1 :: .int sp :: .ref a0 :: rest)) := by
  intro T hT X
  obtain ⟨-, k0, hk0, cm0, hkk0⟩ := hA n0 (fun j => .int (f j))
  obtain ⟨-, k1, hk1, cm1, hkk1⟩ := hA n1 (fun j => .int (g j))
  obtain ⟨vm', X', step⟩ := X.arraycopy hexec hown hlink hnat hstat hini (src := a0) (dst := a1) (cs := vp_cell cI (n0, .inl f)) (cd := vp_cell cI (n1, .inl g)) (srcPos := sp) (destPos := dp) (n := n) (by rw [hT]; exact hc0) (by rw [hT]; exact hc1)
    (fun _ h => by cases h) (fun _ h => by cases h) (fun h => by cases h) (fun h => by cases h) hk0 hk1 hkk0 hkk1 (by simp [refKind]) h1 h2 h3
    (by rw [e1, e3]; show ¬ _ > ((arrV cI n0 (fun j => .int (f j))).slots.size : Int); rw [arrV_size]; omega)
    (by rw [e2, e3]; show ¬ _ > ((arrV cI n1 (fun j => .int (g j))).slots.size : Int); rw [arrV_size]; omega)
    (fun vm₁ _ j hj => by
      have hE : (vp_cell cI (n0, .inl f)).slots.getD (sp.toNatClampNeg + j) .null = .int (f (sp.toNatClampNeg + j)) := by
        show (arrV cI n0 (fun j => .int (f j))).slots.getD _ _ = _
        rw [Array.getD_eq_getD_getElem?, arrV_read _ _ (by omega)]
        rfl
      exact ⟨by rw [hE]; rfl, by rw [hE]; exact trivial⟩)
    (g := F0 m pc lr (.int n :: .int dp :: .ref a1 :: .int sp :: .ref a0 :: rest)) rfl (by rw [hml]) (rest := rest) rfl hdg hframes (by show 2 * 0 + _ + _ ≤ _; omega)
  have hco : copied (vp_cell cI (n0, .inl f)) (vp_cell cI (n1, .inl g)) sp dp n = vp_cell cI (n1, .inl (va_cpy f g sp.toNatClampNeg dp.toNatClampNeg n.toNatClampNeg)) := va_copied (fun z => .int z) cI cI f g h4
  rw [hco] at X' step
  have hl : a1 < H.size := (Array.getElem?_eq_some_iff.mp hc1).1
  have hheap : ((T.setVm vm').setCell a1 (vp_cell cI (n1, .inl (va_cpy f g sp.toNatClampNeg dp.toNatClampNeg n.toNatClampNeg)))).heap = H.setIfInBounds a1 (vp_cell cI (n1, .inl (va_cpy f g sp.toNatClampNeg dp.toNatClampNeg n.toNatClampNeg))) := by rw [← hT]; rfl
  obtain ⟨t, q1, q2⟩ := kk _ _ (by simp [Array.getElem?_setIfInBounds, hl]) (by simp) (fun q hq => by simp [Array.getElem?_setIfInBounds, Ne.symm hq]) (fun q hq => by
    obtain ⟨z, -, hz⟩ := List.mem_map.mp hq
    rw [← hz]) _ hheap X'
  exact ⟨t, step t q1, q2⟩
theorem go_copy {a0 a1 n0 n1 : Nat} {sp dp n : Int} (hw : Cond.methodLink μ.1.cls i arraycopyName ∈ jm_gt) (w1 : Cond.native arraycopyName ∈ jm_gt) (w2 : Cond.static arraycopyName ∈ jm_gt) (w3 : Cond.initialized "java/lang/System" ∈ jm_gt) (hs0 : M.2.1 a0 = (20, n0)) (hs1 : M.2.1 a1 = (20, n1)) (hn0 : n0 < 2 ^ 31) (hn1 : n1 < 2 ^ 31) (h1 : 0 ≤ sp) (h2 : 0 ≤ dp) (h3 : 0 ≤ n) (h4 : sp + n ≤ n0) (h5 : dp + n ≤ n1) (h8 : (st.map jm_ct).sum ≤ 8)
    (hd : jm_dc μ.2.1 pc ((.invokestatic i, 3) :: r) = true) (kk : jm_dc μ.2.1 (pc + 3) r = true → jm_Go d mc ms μ (pc + 3) ls st (M.1, M.2.1, M.2.2.1, jm_cpy M.2.2.2 a0 a1 sp.toNat dp.toNat n.toNat) Q) : jm_Go d mc ms μ pc ls (.inl n :: .inl dp :: .inr (.inl a1) :: .inl sp :: .inr (.inl a0) :: st) M Q := by
  intro G p e R s m args below meth c0 H locs cells slots lr C hF hL hc hs hR hS hl
  have hts := C.2.2.2.2.2.2.2.1
  have hK := C.2.2.2.2.2.2.2.2.2.1
  obtain ⟨b0, rfl, hb0⟩ := jm_at hR (show (M.2.1 a0).1 < 98 by rw [hs0]; simp)
  obtain ⟨b1, rfl, hb1⟩ := jm_at hR (show (M.2.1 a1).1 < 98 by rw [hs1]; simp)
  have hb0' := hb0
  have hb1' := hb1
  rw [jm_cl_I hs0] at hb0'
  rw [jm_cl_I hs1] at hb1'
  have cl : ∀ z : Int, 0 ≤ z → z < 2147483648 → ¬ Int32.ofInt z < 0 ∧ (Int32.ofInt z).toNatClampNeg = z.toNat ∧ (Int32.ofInt z).toInt = (Int32.ofInt z).toNatClampNeg := fun z hz hz2 => by
    have q : (Int32.ofInt z).toNatClampNeg = z.toNat := by rw [jm_nat hz, nI_clamp (by omega)]
    refine ⟨fun h => ?_, q, ?_⟩
    · have := (jr_lt ⟨by omega, by omega⟩ jr_0).mp h
      omega
    · rw [q, Int32.toInt_ofInt_of_le (by omega) (by omega)]
      omega
  obtain ⟨a1, a2, a3⟩ := cl sp h1 (by omega)
  obtain ⟨d1, d2, d3⟩ := cl dp h2 (by omega)
  obtain ⟨m1, m2, m3⟩ := cl n h3 (by omega)
  have hwt := jm_wt (G := G) h8
  refine jm_Wcopy C.1 (C.2.2.2.2.1.trans hl.2.1.symm) C.2.2.2.2.2.1 (hts _ hw) (hts _ w1) (hts _ w2) (hts _ w3) (hK.2 0 _ rfl).1 (hR.2.1 b0 _ hb0') (hR.2.1 b1 _ hb1') a1 d1 m1 a3 d3 m3 (by rw [a2, m2]; omega) (by rw [d2, m2]; omega) (by omega) (by
      have : nativeFrameWords "java/lang/System" "arraycopy" 5 + 11 ≤ 50 := by decide
      omega) (by rw [C.2.1]; exact jm_d1 hd) (fun H1 L e1 e2 e3 eL => ?_)
  have h00 : (0 : Nat) ≠ b1 + 1 := by omega
  have hS1 : va_S (jm_A G) s.heap H1 (locs ++ L) := by
    refine ⟨by rw [e2]; exact hS.1, fun q g1 g2 => ?_, fun q hq => ?_⟩
    · rw [e3 q (fun h => g2 (by rw [h]; exact Nat.le_add_right _ _))]
      exact hS.2.1 q g1 g2
    · rcases List.mem_append.mp hq with h | h
      · exact hS.2.2 q h
      · rw [eL q h]
        exact Nat.le_add_right _ _
  have hoth : ∀ b, b ≠ b1 + 1 → jm_cpy M.2.2.2 (b0 + 1) (b1 + 1) sp.toNat dp.toNat n.toNat b = M.2.2.2 b := fun b hb => by
    funext k
    simp [jm_cpy, hb]
  refine kk (jm_d2 hd) G p e R s m args below meth c0 H1 _ cells slots lr C hF hL hc hs (jm_Rp_put (M' := (M.1, M.2.1, M.2.2.1, jm_cpy M.2.2.2 (b0 + 1) (b1 + 1) sp.toNat dp.toNat n.toNat)) (e := jm_cl G (M.1, M.2.1, M.2.2.1, jm_cpy M.2.2.2 (b0 + 1) (b1 + 1) sp.toNat dp.toNat n.toNat) (b1 + 1)) hR hb1 ?_ e2 e3 (jm_ws_set rfl rfl (fun x hx => jm_cl_eq rfl rfl (hoth _ (by omega)))) rfl rfl (hoth 0 h00)) hS1 hl
  rw [jm_cl_I (M := (M.1, M.2.1, M.2.2.1, jm_cpy M.2.2.2 (b0 + 1) (b1 + 1) sp.toNat dp.toNat n.toNat)) hs1]
  show H1[_]? = some (vp_cell _ _)
  rw [e1, a2, d2, m2, vp_cell_i, vp_cell_i]
  congr 2
  funext q
  by_cases hq : dp.toNat ≤ q ∧ q < dp.toNat + n.toNat
  · simp [va_cpy, jm_cpy, hq]
  · simp only [va_cpy, jm_cpy, if_neg hq]
    rw [if_neg (fun h => hq h.2)]
end MORERULES
