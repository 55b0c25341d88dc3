/-! ===== what holds between calls ===== -/
/-- a state row: rooms, people, things, the rounds -/
def stOk (nr np nt : Int) (lo ro f : Nat → Int) : Prop := (0 ≤ f 0 ∧ f 0 ≤ 9999) ∧ (0 ≤ f 16 ∧ f 16 < 32) ∧ (∀ p : Nat, (p : Int) < np → (0 ≤ f (1 + p) ∧ f (1 + p) < nr) ∧ (f (11 + p) = -9 ∨ (0 ≤ f (11 + p) ∧ f (11 + p) ≤ 20))) ∧ ∀ t : Nat, (t : Int) < nt → (f (22 + t) = -9 ∧ 0 ≤ f (17 + t) ∧ f (17 + t) < nr) ∨ (0 ≤ f (22 + t) ∧ f (22 + t) < lo t ∧ f (17 + t) = ro (4 * t + (f (22 + t)).toNat))
def tgOk (nr nt : Int) (lo ro : Nat → Int) : Prop := ∀ t : Nat, (t : Int) < nt → (1 ≤ lo t ∧ lo t ≤ 4) ∧ ∀ k : Nat, (k : Int) < lo t → 0 ≤ ro (4 * t + k) ∧ ro (4 * t + k) < nr
def foOk (nr nt nf : Int) (fo : Nat → Int) : Prop := ∀ i : Nat, (i : Int) < nf → (0 ≤ fo (3 * i) ∧ fo (3 * i) < nt) ∧ (0 ≤ fo (3 * i + 1) ∧ fo (3 * i + 1) < nr) ∧ (0 ≤ fo (3 * i + 2) ∧ fo (3 * i + 2) ≤ 20)
def mRng (I : jm_I) : Prop := (2 ≤ I 167 0 ∧ I 167 0 ≤ 6) ∧ (0 ≤ I 167 1 ∧ I 167 1 ≤ 8) ∧ (1 ≤ I 167 3 ∧ I 167 3 ≤ 20) ∧ (0 ≤ I 167 4 ∧ I 167 4 ≤ 5) ∧ (0 ≤ I 167 5 ∧ I 167 5 ≤ 5) ∧ (0 ≤ I 167 10 ∧ I 167 10 ≤ 10) ∧ (0 ≤ I 167 13 ∧ I 167 13 ≤ 4) ∧ (0 ≤ I 167 17 ∧ I 167 17 ≤ 200)
def stI (I : jm_I) (f : Nat → Int) : Prop := stOk (I 167 0) (I 167 4) (I 167 5) (I 169) (I 170) f
def mOk (I : jm_I) : Prop := mRng I ∧ doOk I ∧ tgOk (I 167 0) (I 167 5) (I 169) (I 170) ∧ stI I (I 171) ∧ (∀ i : Nat, (i : Int) < I 167 10 → stI I (fun k => I 172 (27 * i + k))) ∧ (∀ i : Nat, i < 2 → I 174 i = 0 ∨ (I 174 i = 1 ∧ stI I (fun k => I 173 (27 * i + k)))) ∧ foOk (I 167 0) (I 167 5) (I 167 13) (I 175) ∧ (∀ k : Nat, k < 200 → 0 ≤ I 176 k ∧ I 176 k ≤ 255)
/-- a moment's cells stand for a state row -/
def xMm (np nt : Int) (h rm ag lf sp f : Nat → Int) : Prop := h 0 = f 0 ∧ h 1 = f 16 ∧ (∀ p : Nat, (p : Int) < np → rm p = f (1 + p) ∧ ag p = f (6 + p) ∧ lf p = f (11 + p)) ∧ ∀ t : Nat, (t : Int) < nt → sp t = if f (22 + t) = -9 then 4 + f (17 + t) else f (22 + t)
def xMom (I : jm_I) (m : Nat) (f : Nat → Int) : Prop := xMm (I 167 4) (I 167 5) (I m) (I (m + 1)) (I (m + 2)) (I (m + 3)) (I (m + 4)) f
def xCity (I : jm_I) (c : Nat) : Prop := (I c 0 = I 167 0 ∧ I c 1 = I 167 3 ∧ I c 2 = I 167 1 ∧ I c 3 = I 167 4 ∧ I c 4 = I 167 5) ∧ (∀ e : Nat, (e : Int) < I 167 1 → I (c + 1) e = I 168 (3 * e) ∧ I (c + 2) e = I 168 (3 * e + 1) ∧ I (c + 3) e = I 168 (3 * e + 2)) ∧ (∀ t : Nat, (t : Int) < I 167 5 → I (c + 6) t = I 169 t ∧ ∀ k : Nat, (k : Int) < I 169 t → I (c + 8 + t) k = I 170 (4 * t + k)) ∧ (∀ r s : Nat, (r : Int) < I 167 0 → (s : Int) < I 167 0 → isD (adjM I 0) 1000 r s (I (c + 14 + r) s))
def hix (I : jm_I) (i : Nat) : Nat := ((I 49 1 + 10 - I 167 10 + i) % 10).toNat
def cits (c e : Nat) : Prop := (c = 2 ∧ e = 22) ∨ (c = 22 ∧ e = 2)
def xRel (I : jm_I) (c e : Nat) : Prop := cits c e ∧ I 1 0 = c ∧ I 1 1 = e ∧ xCity I c ∧ (I 1 4 = I 167 17 ∧ ∀ k : Nat, k < 200 → I 43 k = I 176 k) ∧ xMom I 44 (I 171) ∧ (I 49 2 = I 167 10 ∧ (0 ≤ I 49 1 ∧ I 49 1 < 10) ∧ ∀ i : Nat, (i : Int) < I 167 10 → xMom I (51 + 5 * hix I i) (fun k => I 172 (27 * i + k))) ∧ (∀ i : Nat, i < 2 → I 102 i = I 174 i ∧ (I 174 i = 1 → xMom I (157 + 5 * i) (fun k => I 173 (27 * i + k)))) ∧ (I 103 0 = I 167 13 ∧ ∀ i : Nat, (i : Int) < I 167 13 → I 104 i = I 175 (3 * i) ∧ I 105 i = I 175 (3 * i + 1) ∧ I 106 i = I 175 (3 * i + 2)) ∧ I 1 14 = I 167 15
def Rel (I : jm_I) : Prop := mOk I ∧ ∃ c e : Nat, xRel I c e
/-- the fields of the model that count -/
def mKeep (I J : jm_I) : Prop := (∀ k, k ≤ 17 → J 167 k = I 167 k) ∧ ∀ a, 168 ≤ a → a ≤ 176 → J a = I a
theorem mKeep_rng {I J : jm_I} (h : mKeep I J) : J 167 0 = I 167 0 ∧ J 167 1 = I 167 1 ∧ J 167 3 = I 167 3 ∧ J 167 4 = I 167 4 ∧ J 167 5 = I 167 5 ∧ J 167 10 = I 167 10 ∧ J 167 13 = I 167 13 ∧ J 167 15 = I 167 15 ∧ J 167 17 = I 167 17 := ⟨h.1 _ (by omega), h.1 _ (by omega), h.1 _ (by omega), h.1 _ (by omega), h.1 _ (by omega), h.1 _ (by omega), h.1 _ (by omega), h.1 _ (by omega), h.1 _ (by omega)⟩
theorem mKeep_cells {I J : jm_I} (h : mKeep I J) : J 168 = I 168 ∧ J 169 = I 169 ∧ J 170 = I 170 ∧ J 171 = I 171 ∧ J 172 = I 172 ∧ J 173 = I 173 ∧ J 174 = I 174 ∧ J 175 = I 175 ∧ J 176 = I 176 := ⟨h.2 _ (by omega) (by omega), h.2 _ (by omega) (by omega), h.2 _ (by omega) (by omega), h.2 _ (by omega) (by omega), h.2 _ (by omega) (by omega), h.2 _ (by omega) (by omega), h.2 _ (by omega) (by omega), h.2 _ (by omega) (by omega), h.2 _ (by omega) (by omega)⟩
theorem adjM_keep {I J : jm_I} (h : mKeep I J) (s : Int) : adjM J s = adjM I s := by
  obtain ⟨-, e1, -⟩ := mKeep_rng h
  obtain ⟨d1, -⟩ := mKeep_cells h
  unfold adjM
  rw [e1, d1]
theorem mOk_keep {I J : jm_I} (h : mKeep I J) (hm : mOk I) : mOk J := by
  obtain ⟨e0, e1, e3, e4, e5, e10, e13, e15, e17⟩ := mKeep_rng h
  obtain ⟨d1, d2, d3, d4, d5, d6, d7, d8, d9⟩ := mKeep_cells h
  unfold mOk mRng doOk stI at *
  rw [e0, e1, e3, e4, e5, e10, e13, e17, d1, d2, d3, d4, d5, d6, d7, d8, d9]
  exact hm
/-- the cells of the class that count, for the city c -/
def xKeep (I J : jm_I) (c : Nat) : Prop := J 1 = I 1 ∧ (∀ a, 43 ≤ a → a ≤ 106 → J a = I a) ∧ (∀ a, 157 ≤ a → a ≤ 166 → J a = I a) ∧ ∀ a, c ≤ a → a < c + 20 → J a = I a
theorem xRel_keep {I J : jm_I} {c e : Nat} (hm : mKeep I J) (hx : xKeep I J c) (hok : mRng I) (h : xRel I c e) : xRel J c e := by
  obtain ⟨e0, e1, e3, e4, e5, e10, e13, e15, e17⟩ := mKeep_rng hm
  obtain ⟨d1, d2, d3, d4, d5, d6, d7, d8, d9⟩ := mKeep_cells hm
  obtain ⟨x1, x2, x3, x4⟩ := hx
  obtain ⟨h1, h2, h3, ⟨c1, c2, c3, c4⟩, ⟨h5, h6⟩, h7, ⟨h8, h9, h10⟩, h11, ⟨h12, h13⟩, h14⟩ := h
  have ha := adjM_keep hm 0
  have hh : ∀ i, hix J i = hix I i := fun i => by unfold hix; rw [e10, x2 49 (by omega) (by omega)]
  refine ⟨h1, by rw [x1]; exact h2, by rw [x1]; exact h3, ⟨?_, fun i hi => ?_, fun t ht => ?_, fun r s hr hs => ?_⟩, ⟨by rw [x1, e17]; exact h5, fun k hk => by rw [x2 43 (by omega) (by omega), d9]; exact h6 k hk⟩, ?_, ⟨by rw [x2 49 (by omega) (by omega), e10]; exact h8, by rw [x2 49 (by omega) (by omega)]; exact h9, fun i hi => ?_⟩, fun i hi => ?_, ⟨by rw [x2 103 (by omega) (by omega), e13]; exact h12, fun i hi => ?_⟩, by rw [x1, e15]; exact h14⟩
  · rw [x4 c (by omega) (by omega), e0, e1, e3, e4, e5]; exact c1
  · rw [e1] at hi
    rw [x4 (c + 1) (by omega) (by omega), x4 (c + 2) (by omega) (by omega), x4 (c + 3) (by omega) (by omega), d1]
    exact c2 i hi
  · rw [e5] at ht
    unfold mRng at hok
    rw [x4 (c + 6) (by omega) (by omega), x4 (c + 8 + t) (by omega) (by omega), d2, d3]
    exact c3 t ht
  · rw [e0] at hr hs
    unfold mRng at hok
    rw [ha, x4 (c + 14 + r) (by omega) (by omega)]
    exact c4 r s hr hs
  · unfold xMom at *
    rw [e4, e5, x2 44 (by omega) (by omega), x2 (44 + 1) (by omega) (by omega), x2 (44 + 2) (by omega) (by omega), x2 (44 + 3) (by omega) (by omega), x2 (44 + 4) (by omega) (by omega), d4]
    exact h7
  · rw [e10] at hi
    have hb : hix I i < 10 := by unfold hix; omega
    have := h10 i hi
    unfold xMom at *
    rw [hh, e4, e5, x2 (51 + 5 * hix I i) (by omega) (by omega), x2 (51 + 5 * hix I i + 1) (by omega) (by omega), x2 (51 + 5 * hix I i + 2) (by omega) (by omega), x2 (51 + 5 * hix I i + 3) (by omega) (by omega), x2 (51 + 5 * hix I i + 4) (by omega) (by omega), d5]
    exact this
  · have := h11 i hi
    unfold xMom at *
    rw [x2 102 (by omega) (by omega), d7, e4, e5, x3 (157 + 5 * i) (by omega) (by omega), x3 (157 + 5 * i + 1) (by omega) (by omega), x3 (157 + 5 * i + 2) (by omega) (by omega), x3 (157 + 5 * i + 3) (by omega) (by omega), x3 (157 + 5 * i + 4) (by omega) (by omega), d6]
    exact this
  · rw [e13] at hi
    rw [x2 104 (by omega) (by omega), x2 105 (by omega) (by omega), x2 106 (by omega) (by omega), d8]
    exact h13 i hi
/-- what follows for the model's own helpers -/
theorem th_of {I : jm_I} (hm : mOk I) {t : Int} (h0 : 0 ≤ t) (h1 : t < I 167 5) : thOk I t := by
  obtain ⟨hr, -, ht, hs, -⟩ := hm
  unfold mRng at hr
  obtain ⟨q, rfl⟩ : ∃ q : Nat, t = q := ⟨t.toNat, by omega⟩
  obtain ⟨a1, a2⟩ := ht q h1
  have a3 := hs.2.2.2 q h1
  have n1 : (22 + (q : Int)).toNat = 22 + q := by omega
  have n2 : (17 + (q : Int)).toNat = 17 + q := by omega
  refine ⟨by omega, by rw [Int.toNat_natCast]; exact a1, fun k hk => ?_, ?_⟩
  · rw [Int.toNat_natCast] at hk
    have := a2 k hk
    rw [show (4 * (q : Int) + k).toNat = 4 * q + k by omega]
    omega
  · rw [n1, n2, Int.toNat_natCast]
    rcases a3 with ⟨b1, b2, b3⟩ | ⟨b1, b2, b3⟩
    · left; omega
    · right; omega
