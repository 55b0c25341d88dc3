/-! ===== rules: fields and arrays ===== -/
section MEMRULES
variable {d mc ms pc : Nat} {μ : jm_Md} {ls : jm_Ls} {st : List jm_V} {M : jm_M} {Q : Option jm_V → jm_M → Prop} {r : List (Instr × Nat)}
theorem jm_ne99 {c : Nat} (h : c < 10) {M : jm_M} {a : Nat} (hs : (M.2.1 a).1 = c) : (M.2.1 a).1 < 98 := by omega
/-- a field, read -/
theorem go_getf {c k i a : Nat} {w : jm_V} (hC : jm_COk c) (hw : Cond.fieldLink μ.1.cls i (jm_T c k).1 (jm_T c k).2.1 (jm_T c k).2.2.1 ∈ jm_gt) (hk : k < jm_nf c) (hs : (M.2.1 a).1 = c) (hv : ∀ G : jm_G, jm_fv G M c a k = jm_cv G w) (hd : jm_dc μ.2.1 pc ((.getfield i, 3) :: r) = true) (kk : jm_dc μ.2.1 (pc + 3) r = true → jm_Go d mc ms μ (pc + 3) ls (w :: st) M Q) : jm_Go d mc ms μ pc ls (.inr (.inl a) :: st) M Q := by
  intro G p e R s m args below meth c0 H locs cells slots lr C hF hL hc hs0 hR hS hl
  obtain ⟨c1, c2, c3, c4, c5, c6⟩ := hC
  obtain ⟨b, rfl, hb⟩ := jm_at hR (jm_ne99 c6 hs)
  rw [jm_cl_C hs c6] at hb
  refine va_get C.1 C.2.1 (Ts := jm_gt) C.2.2.2.2.2.2.2.1 c2 C.2.2.2.2.2.1 C.2.2.2.2.2.2.2.2.2.1 hR.2.1 b hb c1 k hk (C.2.2.2.2.2.2.2.1 _ hw) (fun x hx => hx) (v := jm_cv G w) ?_ (jm_d1 hd) (kk (jm_d2 hd) G p e R s m args below meth c0 H locs cells slots lr C hF hL hc hs0 hR hS hl)
  rw [List.getElem?_map, List.getElem?_range hk, ← hv G]
  rfl
theorem go_getI {c k i a : Nat} (hC : jm_COk c) (hw : Cond.fieldLink μ.1.cls i (jm_T c k).1 (jm_T c k).2.1 (jm_T c k).2.2.1 ∈ jm_gt) (hk : k < jm_nf c) (hf : jm_fk c k = 0 ∨ jm_fk c k = 4) (hs : (M.2.1 a).1 = c) (hd : jm_dc μ.2.1 pc ((.getfield i, 3) :: r) = true) (kk : jm_dc μ.2.1 (pc + 3) r = true → jm_Go d mc ms μ (pc + 3) ls (.inl (M.2.2.2 a k) :: st) M Q) : jm_Go d mc ms μ pc ls (.inr (.inl a) :: st) M Q :=
  go_getf hC hw hk hs (fun G => by rcases hf with h | h <;> simp [jm_fv, h, jm_cv]) hd kk
theorem go_getJ {c k i a : Nat} (hC : jm_COk c) (hw : Cond.fieldLink μ.1.cls i (jm_T c k).1 (jm_T c k).2.1 (jm_T c k).2.2.1 ∈ jm_gt) (hk : k < jm_nf c) (hf : jm_fk c k = 3) (hs : (M.2.1 a).1 = c) (hd : jm_dc μ.2.1 pc ((.getfield i, 3) :: r) = true) (kk : jm_dc μ.2.1 (pc + 3) r = true → jm_Go d mc ms μ (pc + 3) ls (.inr (.inr (M.2.2.2 a k)) :: st) M Q) : jm_Go d mc ms μ pc ls (.inr (.inl a) :: st) M Q :=
  go_getf hC hw hk hs (fun G => by simp [jm_fv, hf, jm_cv]) hd kk
/-- a fixed reference -/
theorem go_getR {c k i a b : Nat} (hC : jm_COk c) (hw : Cond.fieldLink μ.1.cls i (jm_T c k).1 (jm_T c k).2.1 (jm_T c k).2.2.1 ∈ jm_gt) (hk : k < jm_nf c) (hf : jm_fk c k = 1) (hs : (M.2.1 a).1 = c) (hr : M.2.2.1 a k = some b) (hd : jm_dc μ.2.1 pc ((.getfield i, 3) :: r) = true) (kk : jm_dc μ.2.1 (pc + 3) r = true → jm_Go d mc ms μ (pc + 3) ls (.inr (.inl b) :: st) M Q) : jm_Go d mc ms μ pc ls (.inr (.inl a) :: st) M Q :=
  go_getf hC hw hk hs (fun G => by simp [jm_fv, hf, hr, jm_cv, va_rf]) hd kk
/-- a reference that may change -/
theorem go_getD {c k i a b : Nat} (hC : jm_COk c) (hw : Cond.fieldLink μ.1.cls i (jm_T c k).1 (jm_T c k).2.1 (jm_T c k).2.2.1 ∈ jm_gt) (hk : k < jm_nf c) (hf : jm_fk c k = 2) (hs : (M.2.1 a).1 = c) (hr : M.2.2.2 a k = (b : Int)) (h0 : 0 < b) (hd : jm_dc μ.2.1 pc ((.getfield i, 3) :: r) = true) (kk : jm_dc μ.2.1 (pc + 3) r = true → jm_Go d mc ms μ (pc + 3) ls (.inr (.inl b) :: st) M Q) : jm_Go d mc ms μ pc ls (.inr (.inl a) :: st) M Q :=
  go_getf hC hw hk hs (fun G => by
    have hne : ¬ (b = 0) := by omega
    simp [jm_fv, hf, hr, jm_cv, hne]) hd kk
/-- one cell of the heap is another one -/
theorem jm_Rp_put {G : jm_G} {M M' : jm_M} {H H1 : Heap} {b : Nat} {e0 e : va_E} (hR : jm_Rp G M H) (hb : (jm_ws G M)[b]? = some (jm_ad G (b + 1), e0)) (he : va_at G.2.1 vwCl (jm_ad G (b + 1), e) H1) (z : H1.size = H.size) (oq : ∀ q : Nat, q ≠ jm_ad G (b + 1) → H1[q]? = H[q]?) (hset : (jm_ws G M).set b (jm_ad G (b + 1), e) = jm_ws G M') (hM1 : M'.1 = M.1) (hM2 : M'.2.1 = M.2.1) (hM0 : M'.2.2.2 0 = M.2.2.2 0) : jm_Rp G M' H1 := by
  refine ⟨by rw [z, hR.1, hM1], ?_, fun x hx => ?_, by rw [hM2]; exact hR.2.2.2.1, by rw [hM0]; exact hR.2.2.2.2⟩
  · rw [← hset]
    exact hR.2.1.set jm_D hb he oq
  · rw [hM2] at hx
    rw [hM1]
    exact hR.2.2.1 x hx
/-- a field, put: M' is M but for that field -/
theorem go_putf {c k i a : Nat} {w : jm_V} {M' : jm_M} (hC : jm_COk c) (hw : Cond.fieldLink μ.1.cls i (jm_T c k).1 (jm_T c k).2.1 (jm_T c k).2.2.1 ∈ jm_gt) (hk : k < jm_nf c) (hs : (M.2.1 a).1 = c) (hfin : (jm_T c k).2.2.2 = false ∨ ((jm_T c k).2.2.2 = true ∧ μ.1.name = "<init>" ∧ (jm_T c k).1 = μ.1.cls)) (hn : ∀ G : jm_G, narrow (jm_ty c k) (jm_cv G w) = jm_cv G w) (hfit : ∀ G : jm_G, fits (jm_ty c k) (jm_cv G w) = true)
    (hM1 : M'.1 = M.1) (hM2 : M'.2.1 = M.2.1) (hM3 : ∀ b, b ≠ a → M'.2.2.1 b = M.2.2.1 b ∧ M'.2.2.2 b = M.2.2.2 b) (hv : ∀ G : jm_G, jm_fv G M' c a k = jm_cv G w) (ho : ∀ (G : jm_G) (j : Nat), j ≠ k → jm_fv G M' c a j = jm_fv G M c a j)
    (hd : jm_dc μ.2.1 pc ((.putfield i, 3) :: r) = true) (kk : jm_dc μ.2.1 (pc + 3) r = true → jm_Go d mc ms μ (pc + 3) ls st M' Q) : jm_Go d mc ms μ pc ls (w :: .inr (.inl a) :: st) M Q := by
  intro G p e R s m args below meth c0 H locs cells slots lr C hF hL hc hs0 hR hS hl
  obtain ⟨c1, c2, c3, c4, c5, c6⟩ := hC
  obtain ⟨b, rfl, hb⟩ := jm_at hR (jm_ne99 c6 hs)
  rw [jm_cl_C hs c6] at hb
  have hset : (jm_ws G M).set b (jm_ad G (b + 1), .inr (c, ((List.range (jm_nf c)).map (jm_fv G M c (b + 1))).set k (jm_cv G w))) = jm_ws G M' := by
    refine jm_ws_set (by rw [hM1]) ?_ (fun x hx => jm_cl_eq (by rw [hM2]) (hM3 (x + 1) (by omega)).1 (hM3 (x + 1) (by omega)).2)
    rw [jm_cl_C (by rw [hM2]; exact hs) c6, jm_fs_set hk (hv G) (fun j hj => ho G j hj)]
  have hts := C.2.2.2.2.2.2.2.1
  have hown := C.2.2.2.2.2.1
  have hK := C.2.2.2.2.2.2.2.2.2.1
  have hap := va_apart (own := μ.1.cls) hts c2 (jm_ty c) c3 c4 hK c1
  obtain ⟨r0, h1, cell, q1, q2, q3, q4⟩ := hR.2.1 b _ hb
  have hr : r0 = (jm_cn c, jm_T c, jm_nf c) := Option.some.inj (h1.symm.trans c1)
  subst hr
  obtain ⟨hSl, hfc, kC, hkC, hkind⟩ := hK.1 c _ c1
  obtain ⟨cf, kf, fi, f, hi, hsl⟩ := hSl k hk
  have hst := (u_facts hfc hkC (u_lays hts c2 hk) hi).1
  have hlay := hts _ (c2 _ (u_in_lay hk))
  unfold u_lay at hlay
  have fin : ∀ H' : Heap, H'[jm_ad G (b + 1)]? = some (cell.setSlot f.slot (jm_cv G w)) → H'.size = H.size → (∀ q, q ≠ jm_ad G (b + 1) → H'[q]? = H[q]?) → W p G.1 e R s m args below meth c0 H' (locs ++ [⟨jm_ad G (b + 1), f.slot⟩]) cells slots (MQ below (jm_Qc G Q) args s (cells + mc) (slots + ms) (jm_A G)) (F0 m (pc + 3) lr (st.map (jm_cv G))) := by
    intro H' e1 e2 e3
    rw [hsl] at e1 ⊢
    refine kk (jm_d2 hd) G p e R s m args below meth c0 H' _ cells slots lr C hF hL hc hs0 (jm_Rp_put (e := .inr (c, ((List.range (jm_nf c)).map (jm_fv G M c (b + 1))).set k (jm_cv G w))) hR hb ⟨_, c1, t_OB.to (V := updV (vp_V ((List.range (jm_nf c)).map (jm_fv G M c (b + 1)))) k (jm_cv G w)) ⟨_, e1, q2, q3, t_set q4 hap hk _⟩ (fun j _ => vp_updV_set (by simpa using hk) _ j)⟩ e2 e3 hset hM1 hM2 (hM3 0 (by omega)).2) (hS.put e2 e3 (jm_D.2 b _ hb)) hl
  rcases hfin with hfin | ⟨hfin, hin, hcl⟩
  · rw [if_neg (by rw [hfin]; decide)] at hlay
    exact W.putK C.1 C.2.1 (f := f) ⟨hown, hts _ hw, ⟨_, _, _, hi⟩, hst⟩ (by rw [q2]; exact u_store hfc hkC hkind hlay hi (c3 k hk) (hn G) (hfit G)) q1 q3 (by rw [hsl]; exact k2_hasslot (q4 k hk)) rfl rfl (jm_d1 hd) fin
  · rw [if_pos hfin] at hlay
    have hcf : m.cls = cf := by
      obtain ⟨_, _, c', _, _, _, -, -, hf', -, -, -, hown2, -⟩ := Cond.laysFinal_spec hlay
      have e1 : c' = cf := by have := hi.symm.trans hf'; simp at this; exact this.1.symm
      rw [hcl] at hown2
      rw [← e1]; exact Option.some.inj (hown.symm.trans hown2)
    exact W.putFinK C.1 C.2.1 hown (hts _ hw) hi hst hcf (C.2.2.2.2.2.2.1.trans hin) (by rw [q2]; exact u_fits hfc hkC hkind (Or.inr hlay) hi (c3 k hk) (hn G) (hfit G)) q1 q3 (by rw [hsl]; exact k2_hasslot (q4 k hk)) rfl rfl (jm_d1 hd) fin
theorem jm_kd_spec {c k : Nat} (h : jm_kd c k = true) : (jm_fk c k = 0 → jm_ty c k = .int ∧ (jm_T c k).2.2.2 = false) ∧ (jm_fk c k = 4 → jm_ty c k = .boolean ∧ (jm_T c k).2.2.2 = false) ∧ (jm_fk c k = 3 → jm_ty c k = .long ∧ (jm_T c k).2.2.2 = false) ∧ (jm_fk c k = 1 → ((∃ x, jm_ty c k = .object x) ∨ ∃ x, jm_ty c k = .array x) ∧ (jm_T c k).2.2.2 = true) ∧ (jm_fk c k = 2 → ((∃ x, jm_ty c k = .object x) ∨ ∃ x, jm_ty c k = .array x) ∧ (jm_T c k).2.2.2 = false) := by
  unfold jm_kd at h
  split at h <;> simp_all
theorem jm_fv_up {G : jm_G} {M : jm_M} {c a k j : Nat} {v : Int} (h : j ≠ k) : jm_fv G (jm_pu M a k v) c a j = jm_fv G M c a j := by
  simp [jm_fv, jm_pu, jm_up, h]
theorem go_putI {c k i a : Nat} {v : Int} (hC : jm_COk c) (hw : Cond.fieldLink μ.1.cls i (jm_T c k).1 (jm_T c k).2.1 (jm_T c k).2.2.1 ∈ jm_gt) (hk : k < jm_nf c) (hf : jm_fk c k = 0) (hs : (M.2.1 a).1 = c) (hd : jm_dc μ.2.1 pc ((.putfield i, 3) :: r) = true) (kk : jm_dc μ.2.1 (pc + 3) r = true → jm_Go d mc ms μ (pc + 3) ls st (jm_pu M a k v) Q) : jm_Go d mc ms μ pc ls (.inl v :: .inr (.inl a) :: st) M Q := by
  obtain ⟨h1, h2⟩ := (jm_kd_spec (hC.2.2.2.2.1 k hk)).1 hf
  exact go_putf (M' := jm_pu M a k v) hC hw hk hs (Or.inl h2) (fun G => by rw [h1]; rfl) (fun G => by rw [h1]; rfl) rfl rfl (fun b hb => ⟨rfl, jm_up_o hb⟩) (fun G => by simp [jm_fv, hf, jm_up, jm_cv]) (fun G j hj => jm_fv_up hj) hd kk
theorem go_putZ {c k i a : Nat} {v : Int} (hC : jm_COk c) (hw : Cond.fieldLink μ.1.cls i (jm_T c k).1 (jm_T c k).2.1 (jm_T c k).2.2.1 ∈ jm_gt) (hk : k < jm_nf c) (hf : jm_fk c k = 4) (hs : (M.2.1 a).1 = c) (hv : v = 0 ∨ v = 1) (hd : jm_dc μ.2.1 pc ((.putfield i, 3) :: r) = true) (kk : jm_dc μ.2.1 (pc + 3) r = true → jm_Go d mc ms μ (pc + 3) ls st (jm_pu M a k v) Q) : jm_Go d mc ms μ pc ls (.inl v :: .inr (.inl a) :: st) M Q := by
  obtain ⟨h1, h2⟩ := (jm_kd_spec (hC.2.2.2.2.1 k hk)).2.1 hf
  exact go_putf (M' := jm_pu M a k v) hC hw hk hs (Or.inl h2) (fun G => by rw [h1]; rcases hv with rfl | rfl <;> simp only [jm_cv] <;> decide) (fun G => by rw [h1]; rcases hv with rfl | rfl <;> simp only [jm_cv] <;> decide) rfl rfl (fun b hb => ⟨rfl, jm_up_o hb⟩) (fun G => by simp [jm_fv, hf, jm_up, jm_cv]) (fun G j hj => jm_fv_up hj) hd kk
theorem go_putJ {c k i a : Nat} {v : Int} (hC : jm_COk c) (hw : Cond.fieldLink μ.1.cls i (jm_T c k).1 (jm_T c k).2.1 (jm_T c k).2.2.1 ∈ jm_gt) (hk : k < jm_nf c) (hf : jm_fk c k = 3) (hs : (M.2.1 a).1 = c) (hd : jm_dc μ.2.1 pc ((.putfield i, 3) :: r) = true) (kk : jm_dc μ.2.1 (pc + 3) r = true → jm_Go d mc ms μ (pc + 3) ls st (jm_pu M a k v) Q) : jm_Go d mc ms μ pc ls (.inr (.inr v) :: .inr (.inl a) :: st) M Q := by
  obtain ⟨h1, h2⟩ := (jm_kd_spec (hC.2.2.2.2.1 k hk)).2.2.1 hf
  exact go_putf (M' := jm_pu M a k v) hC hw hk hs (Or.inl h2) (fun G => by rw [h1]; rfl) (fun G => by rw [h1]; rfl) rfl rfl (fun b hb => ⟨rfl, jm_up_o hb⟩) (fun G => by simp [jm_fv, hf, jm_up, jm_cv]) (fun G j hj => jm_fv_up hj) hd kk
theorem go_putD {c k i a b : Nat} (hC : jm_COk c) (hw : Cond.fieldLink μ.1.cls i (jm_T c k).1 (jm_T c k).2.1 (jm_T c k).2.2.1 ∈ jm_gt) (hk : k < jm_nf c) (hf : jm_fk c k = 2) (hs : (M.2.1 a).1 = c) (h0 : 0 < b) (hd : jm_dc μ.2.1 pc ((.putfield i, 3) :: r) = true) (kk : jm_dc μ.2.1 (pc + 3) r = true → jm_Go d mc ms μ (pc + 3) ls st (jm_pu M a k (b : Int)) Q) : jm_Go d mc ms μ pc ls (.inr (.inl b) :: .inr (.inl a) :: st) M Q := by
  obtain ⟨h1, h2⟩ := (jm_kd_spec (hC.2.2.2.2.1 k hk)).2.2.2.2 hf
  have hne : ¬ b = 0 := by omega
  exact go_putf (M' := jm_pu M a k (b : Int)) hC hw hk hs (Or.inl h2) (fun G => by rcases h1 with ⟨x, h1⟩ | ⟨x, h1⟩ <;> rw [h1] <;> rfl) (fun G => by rcases h1 with ⟨x, h1⟩ | ⟨x, h1⟩ <;> rw [h1] <;> rfl) rfl rfl (fun b hb => ⟨rfl, jm_up_o hb⟩) (fun G => by simp [jm_fv, hf, jm_up, jm_cv, hne]) (fun G j hj => jm_fv_up hj) hd kk
/-- a fixed reference, put by its own constructor -/
def jm_ur (R : Nat → Nat → Option Nat) (a k : Nat) (v : Nat) : Nat → Nat → Option Nat := fun b j => if b = a ∧ j = k then some v else R b j
abbrev jm_pr2 (M : jm_M) (a k : Nat) (v : Nat) : jm_M := (M.1, M.2.1, jm_ur M.2.2.1 a k v, M.2.2.2)
theorem jm_ur_o {R : Nat → Nat → Option Nat} {a b k v : Nat} (h : b ≠ a) : jm_ur R a k v b = R b := by
  funext j
  simp [jm_ur, h]
theorem go_putR {c k i a b : Nat} (hC : jm_COk c) (hw : Cond.fieldLink μ.1.cls i (jm_T c k).1 (jm_T c k).2.1 (jm_T c k).2.2.1 ∈ jm_gt) (hk : k < jm_nf c) (hf : jm_fk c k = 1) (hs : (M.2.1 a).1 = c) (hin : μ.1.name = "<init>") (hcl : (jm_T c k).1 = μ.1.cls) (hd : jm_dc μ.2.1 pc ((.putfield i, 3) :: r) = true) (kk : jm_dc μ.2.1 (pc + 3) r = true → jm_Go d mc ms μ (pc + 3) ls st (jm_pr2 M a k b) Q) : jm_Go d mc ms μ pc ls (.inr (.inl b) :: .inr (.inl a) :: st) M Q := by
  obtain ⟨h1, h2⟩ := (jm_kd_spec (hC.2.2.2.2.1 k hk)).2.2.2.1 hf
  exact go_putf (M' := jm_pr2 M a k b) hC hw hk hs (Or.inr ⟨h2, hin, hcl⟩) (fun G => by rcases h1 with ⟨x, h1⟩ | ⟨x, h1⟩ <;> rw [h1] <;> rfl) (fun G => by rcases h1 with ⟨x, h1⟩ | ⟨x, h1⟩ <;> rw [h1] <;> rfl) rfl rfl (fun b hb => ⟨jm_ur_o hb, rfl⟩) (fun G => by simp [jm_fv, hf, jm_ur, jm_cv, va_rf]) (fun G j hj => by simp [jm_fv, jm_pr2, jm_ur, hj]) hd kk
/-! arrays -/
theorem go_iaload {a n : Nat} {i : Int} (hs : M.2.1 a = (20, n)) (h0 : 0 ≤ i) (h1 : i < n) (hn : n < 2 ^ 31) (hd : jm_dc μ.2.1 pc ((.iaload, 1) :: r) = true) (kk : jm_dc μ.2.1 (pc + 1) r = true → jm_Go d mc ms μ (pc + 1) ls (.inl (M.2.2.2 a i.toNat) :: st) M Q) : jm_Go d mc ms μ pc ls (.inl i :: .inr (.inl a) :: st) M Q := by
  intro G p e R s m args below meth c0 H locs cells slots lr C hF hL hc hs0 hR hS hl
  obtain ⟨b, rfl, hb⟩ := jm_at hR (show (M.2.1 a).1 < 98 by rw [hs]; simp)
  rw [jm_cl_I hs] at hb
  obtain ⟨g1, g2⟩ := jm_clamp h0 h1 hn
  refine va_iald C.1 C.2.1 C.2.2.2.2.2.2.2.2.2.1 hR.2.1 b 0 hb rfl g1 (jm_d1 hd) ?_
  rw [g2]
  exact kk (jm_d2 hd) G p e R s m args below meth c0 H locs cells slots lr C hF hL hc hs0 hR hS hl
theorem go_zaload {a n : Nat} {i : Int} (hs : M.2.1 a = (21, n)) (h0 : 0 ≤ i) (h1 : i < n) (hn : n < 2 ^ 31) (hd : jm_dc μ.2.1 pc ((.baload, 1) :: r) = true) (kk : jm_dc μ.2.1 (pc + 1) r = true → jm_Go d mc ms μ (pc + 1) ls (.inl (M.2.2.2 a i.toNat) :: st) M Q) : jm_Go d mc ms μ pc ls (.inl i :: .inr (.inl a) :: st) M Q := by
  intro G p e R s m args below meth c0 H locs cells slots lr C hF hL hc hs0 hR hS hl
  obtain ⟨b, rfl, hb⟩ := jm_at hR (show (M.2.1 a).1 < 98 by rw [hs]; simp)
  rw [jm_cl_Z hs] at hb
  obtain ⟨g1, g2⟩ := jm_clamp h0 h1 hn
  refine va_zald C.1 C.2.1 C.2.2.2.2.2.2.2.2.2.1 hR.2.1 b 1 hb rfl g1 (jm_d1 hd) ?_
  rw [g2]
  exact kk (jm_d2 hd) G p e R s m args below meth c0 H locs cells slots lr C hF hL hc hs0 hR hS hl
/-- an array of references -/
theorem go_aaload {a n b0 : Nat} {i : Int} (hs : M.2.1 a = (22, n) ∨ M.2.1 a = (23, n)) (h0 : 0 ≤ i) (h1 : i < n) (hn : n < 2 ^ 31) (hb0 : M.2.2.1 a i.toNat = some b0) (hd : jm_dc μ.2.1 pc ((.aaload, 1) :: r) = true) (kk : jm_dc μ.2.1 (pc + 1) r = true → jm_Go d mc ms μ (pc + 1) ls (.inr (.inl b0) :: st) M Q) : jm_Go d mc ms μ pc ls (.inl i :: .inr (.inl a) :: st) M Q := by
  intro G p e R s m args below meth c0 H locs cells slots lr C hF hL hc hs0 hR hS hl
  obtain ⟨b, rfl, hb⟩ := jm_at hR (show (M.2.1 a).1 < 98 by rcases hs with h | h <;> rw [h] <;> simp)
  obtain ⟨g1, g2⟩ := jm_clamp h0 h1 hn
  have hlt : (Int32.ofInt i).toNatClampNeg < n := by rw [g2]; omega
  have K := kk (jm_d2 hd) G p e R s m args below meth c0 H locs cells slots lr C hF hL hc hs0 hR hS hl
  have hK := C.2.2.2.2.2.2.2.2.2.1
  rcases hs with hs | hs
  · rw [jm_cl_O hs] at hb
    refine W.aald (v := .ref (jm_ad G b0)) (ty := .object RX5) C.1 C.2.1 (hR.2.1 b _ hb) ((hK.2 2 _ rfl).1 n (fun j => va_rf ((M.2.2.1 (b + 1) j).map (jm_ad G)))) rfl (fun q => by cases q) ?_ ?_ rfl rfl (jm_d1 hd) K
    · show ¬ (_ ∨ (arrV _ _ _).slots.size ≤ _)
      rw [arrV_size]; exact g1
    · show (arrV _ _ _).slots[_]? = _
      rw [arrV_read _ _ hlt, g2]
      show some (va_rf (Option.map (jm_ad G) (M.2.2.1 (b + 1) i.toNat))) = _
      rw [hb0]
      rfl
  · rw [jm_cl_A hs] at hb
    refine W.aald (v := .ref (jm_ad G b0)) (ty := .array .int) C.1 C.2.1 (hR.2.1 b _ hb) ((hK.2 3 _ rfl).1 n (fun j => va_rf ((M.2.2.1 (b + 1) j).map (jm_ad G)))) rfl (fun q => by cases q) ?_ ?_ rfl rfl (jm_d1 hd) K
    · show ¬ (_ ∨ (arrV _ _ _).slots.size ≤ _)
      rw [arrV_size]; exact g1
    · show (arrV _ _ _).slots[_]? = _
      rw [arrV_read _ _ hlt, g2]
      show some (va_rf (Option.map (jm_ad G) (M.2.2.1 (b + 1) i.toNat))) = _
      rw [hb0]
      rfl
theorem jm_set_num {G : jm_G} {M : jm_M} {b k : Nat} {v : Int} {e : va_E} (he : jm_cl G (jm_pu M (b + 1) k v) (b + 1) = e) : (jm_ws G M).set b (jm_ad G (b + 1), e) = jm_ws G (jm_pu M (b + 1) k v) :=
  jm_ws_set rfl he (fun x hx => jm_cl_eq rfl rfl (jm_up_o (by omega)))
theorem jm_upf {I : Nat → Nat → Int} {a k : Nat} {v : Int} : (fun j => Int32.ofInt (jm_up I a k v a j)) = upd (fun j => Int32.ofInt (I a j)) k (Int32.ofInt v) := by
  funext j
  by_cases h : j = k
  · simp [jm_up, upd, h]
  · simp [jm_up, upd, h]
theorem go_iastore {a n : Nat} {i v : Int} (hs : M.2.1 a = (20, n)) (h0 : 0 ≤ i) (h1 : i < n) (hn : n < 2 ^ 31) (hd : jm_dc μ.2.1 pc ((.iastore, 1) :: r) = true) (kk : jm_dc μ.2.1 (pc + 1) r = true → jm_Go d mc ms μ (pc + 1) ls st (jm_pu M a i.toNat v) Q) : jm_Go d mc ms μ pc ls (.inl v :: .inl i :: .inr (.inl a) :: st) M Q := by
  intro G p e R s m args below meth c0 H locs cells slots lr C hF hL hc hs0 hR hS hl
  obtain ⟨b, rfl, hb⟩ := jm_at hR (show (M.2.1 a).1 < 98 by rw [hs]; simp)
  have hb' := hb
  rw [jm_cl_I hs] at hb'
  obtain ⟨g1, g2⟩ := jm_clamp h0 h1 hn
  refine W.iast (x := Int32.ofInt v) C.1 C.2.1 (hR.2.1 b _ hb') ((C.2.2.2.2.2.2.2.2.2.1.2 0 _ rfl).1 n (fun j => .int (Int32.ofInt (M.2.2.2 (b + 1) j)))) (fun q => by cases q) (by show ¬ (_ ∨ (arrV _ _ _).slots.size ≤ _); rw [arrV_size]; exact g1) rfl rfl (jm_d1 hd) (fun H1 e1 e2 e3 => ?_)
  have h00 : (0 : Nat) ≠ b + 1 := by omega
  refine kk (jm_d2 hd) G p e R s m args below meth c0 H1 _ cells slots lr C hF hL hc hs0 (jm_Rp_put (M' := jm_pu M (b + 1) i.toNat v) (e := jm_cl G (jm_pu M (b + 1) i.toNat v) (b + 1)) hR hb ?_ e2 e3 (jm_set_num rfl) rfl rfl (jm_up_o (I := M.2.2.2) (k := i.toNat) (v := v) h00)) (hS.put e2 e3 (show jm_A G (jm_ad G (b + 1)) from Nat.le_add_right _ _)) hl
  rw [jm_cl_I (M := jm_pu M (b + 1) i.toNat v) hs]
  show H1[_]? = some (vp_cell _ _)
  rw [e1, g2, vp_cell_i, vp_cell_i, arrV_store]
  congr 2
  funext q
  by_cases hq : q = i.toNat
  · simp [updV, jm_up, hq]
  · simp [updV, jm_up, hq]
theorem go_zastore {a n : Nat} {i v : Int} (hs : M.2.1 a = (21, n)) (h0 : 0 ≤ i) (h1 : i < n) (hn : n < 2 ^ 31) (hv : v = 0 ∨ v = 1) (hd : jm_dc μ.2.1 pc ((.bastore, 1) :: r) = true) (kk : jm_dc μ.2.1 (pc + 1) r = true → jm_Go d mc ms μ (pc + 1) ls st (jm_pu M a i.toNat v) Q) : jm_Go d mc ms μ pc ls (.inl v :: .inl i :: .inr (.inl a) :: st) M Q := by
  intro G p e R s m args below meth c0 H locs cells slots lr C hF hL hc hs0 hR hS hl
  obtain ⟨b, rfl, hb⟩ := jm_at hR (show (M.2.1 a).1 < 98 by rw [hs]; simp)
  have hb' := hb
  rw [jm_cl_Z hs] at hb'
  obtain ⟨g1, g2⟩ := jm_clamp h0 h1 hn
  have hnar : narrow .boolean (.int (Int32.ofInt v)) = .int (Int32.ofInt v) := by rcases hv with rfl | rfl <;> decide
  refine W.zast (x := Int32.ofInt v) C.1 C.2.1 (hR.2.1 b _ hb') ((C.2.2.2.2.2.2.2.2.2.1.2 1 _ rfl).1 n (fun j => .int (Int32.ofInt (M.2.2.2 (b + 1) j)))) (fun q => by cases q) (by show ¬ (_ ∨ (arrV _ _ _).slots.size ≤ _); rw [arrV_size]; exact g1) rfl rfl (jm_d1 hd) (fun H1 e1 e2 e3 => ?_)
  have h00 : (0 : Nat) ≠ b + 1 := by omega
  refine kk (jm_d2 hd) G p e R s m args below meth c0 H1 _ cells slots lr C hF hL hc hs0 (jm_Rp_put (M' := jm_pu M (b + 1) i.toNat v) (e := jm_cl G (jm_pu M (b + 1) i.toNat v) (b + 1)) hR hb ?_ e2 e3 (jm_set_num rfl) rfl rfl (jm_up_o (I := M.2.2.2) (k := i.toNat) (v := v) h00)) (hS.put e2 e3 (show jm_A G (jm_ad G (b + 1)) from Nat.le_add_right _ _)) hl
  rw [jm_cl_Z (M := jm_pu M (b + 1) i.toNat v) hs]
  show H1[_]? = some (vp_cell _ _)
  rw [e1, g2, hnar, vp_cell_i, vp_cell_i, arrV_store]
  congr 2
  funext q
  by_cases hq : q = i.toNat
  · simp [updV, jm_up, hq]
  · simp [updV, jm_up, hq]
/-- the script: its length, a number of it -/
theorem go_slen (hd : jm_dc μ.2.1 pc ((.arraylength, 1) :: r) = true) (kk : jm_dc μ.2.1 (pc + 1) r = true → jm_Go d mc ms μ (pc + 1) ls (.inl ((M.2.1 0).2 : Int) :: st) M Q) : jm_Go d mc ms μ pc ls (.inr (.inl 0) :: st) M Q := by
  intro G p e R s m args below meth c0 H locs cells slots lr C hF hL hc hs0 hR hS hl
  have hA : ¬ jm_A G (jg_b G) := Nat.not_le.mpr C.2.2.2.2.2.2.2.2.2.2.2.1
  refine va_slen C.1 C.2.1 C.2.2.2.2.2.2.2.2.2.2.1 (Nat.lt_of_lt_of_le C.2.2.2.2.2.2.2.2.2.2.2.1 C.2.2.2.2.2.2.2.2.2.2.2.2) hA hS (jm_d1 hd) ?_
  have K := kk (jm_d2 hd) G p e R s m args below meth c0 H locs cells slots lr C hF hL hc hs0 hR hS hl
  rw [hR.2.2.2.1] at K
  simp only [List.map_cons, jm_cv, Int32.ofInt_eq_ofNat] at K
  exact K
theorem go_sload {i : Int} (h0 : 0 ≤ i) (h1 : i < (M.2.1 0).2) (hn : (M.2.1 0).2 < 2 ^ 31) (hd : jm_dc μ.2.1 pc ((.iaload, 1) :: r) = true) (kk : jm_dc μ.2.1 (pc + 1) r = true → jm_Go d mc ms μ (pc + 1) ls (.inl (M.2.2.2 0 i.toNat) :: st) M Q) : jm_Go d mc ms μ pc ls (.inl i :: .inr (.inl 0) :: st) M Q := by
  intro G p e R s m args below meth c0 H locs cells slots lr C hF hL hc hs0 hR hS hl
  have hA : ¬ jm_A G (jg_b G) := Nat.not_le.mpr C.2.2.2.2.2.2.2.2.2.2.2.1
  rw [hR.2.2.2.1] at h1 hn
  obtain ⟨g1, g2⟩ := jm_clamp h0 h1 hn
  refine va_sld C.1 C.2.1 C.2.2.2.2.2.2.2.2.2.2.1 (Nat.lt_of_lt_of_le C.2.2.2.2.2.2.2.2.2.2.2.1 C.2.2.2.2.2.2.2.2.2.2.2.2) hA hS g1 (jm_d1 hd) ?_
  have K := kk (jm_d2 hd) G p e R s m args below meth c0 H locs cells slots lr C hF hL hc hs0 hR hS hl
  rw [hR.2.2.2.2 i.toNat (by have : i < (jg_L G : Int) := h1; omega)] at K
  simp only [List.map_cons, jm_cv, Int32.ofInt_toInt] at K
  rw [g2]
  exact K
end MEMRULES
