/-! ===== taking: the class ===== -/
def sg_ (w : Nat) : Int := if w = 0 then 1 else -1
theorem sg_o {w : Nat} (h : w < 2) : sg_ (1 - w) = -sg_ w := by
  rcases (show w = 0 ∨ w = 1 by omega) with rfl | rfl <;> decide
theorem tgT_r {nt : Nat} {D : Nat → Nat → Int} {T : Nat → Nat} {n tk ra t : Nat} {la : Int} {rb : Nat} {lb : Int} {eb : Bool} : -((n : Int) + 1) ≤ tgT nt D T n tk ra la rb lb eb t ∧ tgT nt D T n tk ra la rb lb eb t ≤ (n : Int) + 1 := by
  have h1 := tg_r (nt := nt) (D := D) (T := T) (n := n) (tk := tk ||| 2 ^ t) (ra := T t) (la := la - D ra (T t)) (rb := rb) (lb := lb) (eb := true)
  have h2 := tg_r (nt := nt) (D := D) (T := T) (n := n) (tk := tk ||| 2 ^ t) (ra := rb) (la := lb) (rb := T t) (lb := la - D ra (T t)) (eb := false)
  unfold tgT
  split <;> omega
theorem tgE_r {nt : Nat} {D : Nat → Nat → Int} {T : Nat → Nat} {n tk ra : Nat} {la : Int} {rb : Nat} {lb : Int} {eb : Bool} : -((n : Int) + 1) ≤ tgE nt D T n tk ra la rb lb eb ∧ tgE nt D T n tk ra la rb lb eb ≤ (n : Int) + 1 := by
  have h1 := tg_r (nt := nt) (D := D) (T := T) (n := n) (tk := tk) (ra := rb) (la := lb) (rb := ra) (lb := la) (eb := true)
  unfold tgE
  split <;> omega
/-- the worth, for the first one, behind a move of w -/
def nxV (nt : Nat) (D : Nat → Nat → Int) (T : Nat → Nat) (n tk : Nat) (r : Nat → Nat) (l : Nat → Int) (e : Nat → Bool) (w : Nat) : Int := if e (1 - w) = true then (if e w = true then 0 else sg_ w * tgW nt D T n tk (r w) (l w) (r (1 - w)) (l (1 - w)) true) else sg_ (1 - w) * tgW nt D T n tk (r (1 - w)) (l (1 - w)) (r w) (l w) (e w)
/-- the city of a game -/
def tgB (I : jm_I) (c nt R : Nat) (T : Nat → Nat) : Prop := (nt ≤ 5 ∧ R ≤ 6 ∧ 2 ≤ c ∧ c ≤ 22) ∧ I c 4 = (nt : Int) ∧ (∀ t, t < nt → T t < R) ∧ ∀ a b : Nat, a < R → b < R → 0 ≤ I (c + 14 + a) b ∧ I (c + 14 + a) b ≤ 1000
/-- a game's cells -/
def tgS (I J : jm_I) (c nt R : Nat) (T : Nat → Nat) (tk : Nat) (r : Nat → Nat) (l : Nat → Int) (e : Nat → Bool) : Prop := (∀ a, a < 107 → J a = I a) ∧ J 151 0 = (c : Int) ∧ J 151 1 = (tk : Int) ∧ (∀ t : Nat, t < nt → J 152 t = (T t : Int)) ∧ (∀ w : Nat, w < 2 → J 153 w = (r w : Int) ∧ J 154 w = l w ∧ J 155 w = (if e w = true then 1 else 0)) ∧ tk < 32 ∧ ∀ w : Nat, w < 2 → r w < R ∧ 0 ≤ l w ∧ l w ≤ 20
def tgA (L : Nat) (I : jm_I) (c nt R : Nat) (T : Nat → Nat) (n : Nat) : Prop := ∀ (d : Nat) (J : jm_I) (tk : Nat) (r : Nat → Nat) (l : Nat → Int) (e : Nat → Bool) (w : Nat) (dep : Int) (K : Option jm_V → jm_I → Prop), tgS I J c nt R T tk r l e → w < 2 → e w = false → tgM nt tk (e (1 - w)) ≤ n → 0 ≤ dep ∧ dep + 2 * n ≤ 20 → K (some (.inl (sg_ w * tgW nt (fun a b => I (c + 14 + a) b) T n tk (r w) (l w) (r (1 - w)) (l (1 - w)) (e (1 - w))))) J → Cx (jx_0 L) (d + 3 * n + 1) md_TakingGame_lead [.inr (.inl 151), .inl (w : Int), .inl dep] J K
section LEAD
variable {L d : Nat} {I J : jm_I} {K : Option jm_V → jm_I → Prop} {x0 x1 x2 x3 x4 : Int} {c nt R : Nat} {T : Nat → Nat}
theorem tl_in {w : Nat} {dep : Int} {e : Nat → Bool} (h155 : ∀ w : Nat, w < 2 → J 155 w = (if e w = true then 1 else 0)) (hne : ¬ (e 0 = true ∧ e 1 = true)) (hd : 0 ≤ dep ∧ dep ≤ 20) (k : Gx (jx_0 L) d md_TakingGame_lead 26 [some (.inr (.inl 151)), some (.inl (w : Int)), some (.inl dep), none, none] [] J K) : Cx (jx_0 L) d md_TakingGame_lead [.inr (.inl 151), .inl (w : Int), .inl dep] J K := by
  have h0 := h155 0 (by omega)
  have h1 := h155 1 (by omega)
  refine b_TakingGame_lead_0 (by omega) (fun h => by omega) (fun _ => ?_)
  refine b_TakingGame_lead_6 (by split at h0 <;> omega) (fun _ => k) (fun h => ?_)
  refine b_TakingGame_lead_15 (by split at h1 <;> omega) (fun _ => k) (fun h' => ?_)
  exfalso
  apply hne
  constructor
  · cases h2 : e 0
    · rw [h2] at h0; simp at h0; omega
    · rfl
  · cases h2 : e 1
    · rw [h2] at h1; simp at h1; omega
    · rfl
theorem tl_over {w : Nat} {dep : Int} (h0 : J 155 0 = 1) (h1 : J 155 1 = 1) (hd : 0 ≤ dep ∧ dep ≤ 20) (k : K (some (.inl 0)) J) : Cx (jx_0 L) d md_TakingGame_lead [.inr (.inl 151), .inl (w : Int), .inl dep] J K := by
  refine b_TakingGame_lead_0 (by omega) (fun h => by omega) (fun _ => ?_)
  refine b_TakingGame_lead_6 (by omega) (fun h => by omega) (fun _ => ?_)
  refine b_TakingGame_lead_15 (by omega) (fun h => by omega) (fun _ => ?_)
  exact b_TakingGame_lead_24 k
/-- behind a move -/
theorem tl_next {n tk w : Nat} {r : Nat → Nat} {l : Nat → Int} {e : Nat → Bool} {dep : Int} (hA : tgA L I c nt R T n) (hS : tgS I J c nt R T tk r l e) (hw : w < 2) (hM1 : e (1 - w) = true → e w = false → unF tk nt + 1 ≤ n) (hM2 : e (1 - w) = false → tgM nt tk (e w) ≤ n) (hd : 0 ≤ dep ∧ dep + 1 + 2 * n ≤ 20) (k : K (some (.inl (nxV nt (fun a b => I (c + 14 + a) b) T n tk r l e w))) J) : Cx (jx_0 L) (d + 3 * n + 1 + 1) md_TakingGame_lead [.inr (.inl 151), .inl ((1 - w : Nat) : Int), .inl dep] J K := by
  have h155 : ∀ w : Nat, w < 2 → J 155 w = (if e w = true then 1 else 0) := fun w hw => (hS.2.2.2.2.1 w hw).2.2
  unfold nxV at k
  cases h1 : e (1 - w) with
  | true =>
    rw [if_pos h1] at k
    have e1 := h155 (1 - w) (by omega)
    rw [h1, if_pos rfl] at e1
    cases h2 : e w with
    | true =>
      rw [if_pos h2] at k
      have e2 := h155 w hw
      rw [h2, if_pos rfl] at e2
      refine tl_over ?_ ?_ (by omega) k
      · rcases (show w = 0 ∨ w = 1 by omega) with rfl | rfl
        · exact e2
        · exact e1
      · rcases (show w = 0 ∨ w = 1 by omega) with rfl | rfl
        · exact e1
        · exact e2
    | false =>
      rw [if_neg (by rw [h2]; simp)] at k
      refine tl_in h155 ?_ (by omega) ?_
      · intro ⟨q0, q1⟩
        rcases (show w = 0 ∨ w = 1 by omega) with rfl | rfl
        · rw [h2] at q0; simp at q0
        · rw [h2] at q1; simp at q1
      · refine b_TakingGame_lead_26 (by rw [Int.toNat_natCast, e1]; omega) (fun h => by rw [Int.toNat_natCast, e1] at h; omega) (fun _ => ?_)
        refine b_TakingGame_lead_35 ?_
        rw [show (1 : Int) - ((1 - w : Nat) : Int) = (w : Int) by omega]
        refine hA d J tk r l e w (dep + 1) _ hS hw h2 ?_ (by omega) ?_
        · unfold tgM
          rw [h1, if_pos rfl]
          exact hM1 h1 h2
        · rw [h1]
          exact b_TakingGame_lead_45 k
  | false =>
    rw [if_neg (by rw [h1]; simp)] at k
    rw [show d + 3 * n + 1 + 1 = (d + 1) + 3 * n + 1 by omega]
    refine hA (d + 1) J tk r l e (1 - w) dep _ hS (by omega) h1 ?_ (by omega) ?_
    · rw [show 1 - (1 - w) = w by omega]; exact hM2 h1
    · rw [show 1 - (1 - w) = w by omega]; exact k
theorem tg_restore {tk w : Nat} {a b : Int} {x y : Int} {z z' : Int} (h1 : J 151 1 = z) (h2 : J 153 w = x) (h3 : J 154 w = y) : jm_up (jm_up (jm_up (jm_up (jm_up (jm_up J 154 w a) 153 w b) 151 1 z') 151 1 z) 153 w x) 154 w y = J := by
  funext p q
  by_cases e1 : p = 154 ∧ q = w
  · obtain ⟨rfl, rfl⟩ := e1; rw [up_s, h3]
  · by_cases e2 : p = 153 ∧ q = w
    · obtain ⟨rfl, rfl⟩ := e2; rw [up_a (by decide), up_s, h2]
    · by_cases e3 : p = 151 ∧ q = 1
      · obtain ⟨rfl, rfl⟩ := e3; rw [up_a (by decide), up_a (by decide), up_s, h1]
      · simp only [jm_up, if_neg e1, if_neg e2, if_neg e3]
theorem tl_take {n tk w t : Nat} {r : Nat → Nat} {l : Nat → Int} {e : Nat → Bool} {dep : Int} (hB : tgB I c nt R T) (hc : jx_City (jx_0 L) c) (hA : tgA L I c nt R T n) (hS : tgS I J c nt R T tk r l e) (hw : w < 2) (hew : e w = false) (ht : t < nt) (hct : tgC (fun a b => I (c + 14 + a) b) T tk (r w) (l w) t = true) (hM : tgM nt tk (e (1 - w)) ≤ (n : Int) + 1) (hd : 0 ≤ dep ∧ dep + 2 + 2 * n ≤ 20) (k : K (some (.inl (sg_ w * tgT nt (fun a b => I (c + 14 + a) b) T n tk (r w) (l w) (r (1 - w)) (l (1 - w)) (e (1 - w)) t))) J) : Cx (jx_0 L) (d + 3 * n + 1 + 1 + 1) md_TakingGame_leadByTaking [.inr (.inl 151), .inl (w : Int), .inl (t : Int), .inl dep] J K := by
  obtain ⟨⟨b1, b2, b3, b4⟩, bn, bT, bD⟩ := hB
  obtain ⟨o, s0, s1, s2, s3, s4, s5⟩ := id hS
  obtain ⟨v1, v2, v3⟩ := s3 w hw
  obtain ⟨u1, u2, u3⟩ := s5 w hw
  have hTt := bT t ht
  have hcd := tgC_i.1 hct
  have hbk := un_back ⟨tk, s4⟩ ⟨t, by omega⟩ hcd.1
  have hbk1 : jb_and (jb_or (tk : Int) (jb_shl 1 (t : Int))) (jb_xor (jb_shl 1 (t : Int)) (-1)) = (tk : Int) := hbk.1
  have hbk2 : jb_or (tk : Int) (jb_shl 1 (t : Int)) = ((tk ||| 2 ^ t : Nat) : Int) := hbk.2
  have hun := (un_tab ⟨tk, s4⟩ ⟨nt, by omega⟩).2 ⟨t, by omega⟩ ht hcd.1
  have hun : unF (tk ||| 2 ^ t) nt + 1 = unF tk nt := hun
  have hdist : J (c + 14 + r w) (T t) = I (c + 14 + r w) (T t) := by rw [o (c + 14 + r w) (by omega)]
  have hDr := bD (r w) (T t) u1 hTt
  have hcd2 : I (c + 14 + r w) (T t) ≤ l w := hcd.2
  -- the new game
  have hS' : tgS I (jm_up (jm_up (jm_up J 154 w (l w - I (c + 14 + r w) (T t))) 153 w (T t : Int)) 151 1 ((tk ||| 2 ^ t : Nat) : Int)) c nt R T (tk ||| 2 ^ t) (fun v => if v = w then T t else r v) (fun v => if v = w then l w - I (c + 14 + r w) (T t) else l v) e := by
    refine ⟨fun a ha => by rw [jm_up_o (by omega), jm_up_o (by omega), jm_up_o (by omega), o a ha], by rw [up_k (by decide), up_a (by decide), up_a (by decide)]; exact s0, by rw [up_s], fun t' ht' => by rw [up_a (by decide), up_a (by decide), up_a (by decide)]; exact s2 t' ht', fun v hv => ?_, (sx_0 s4 (by omega) hcd.1).2.1, fun v hv => ?_⟩
    · obtain ⟨y1, y2, y3⟩ := s3 v hv
      by_cases ev : v = w
      · subst ev
        simp only [↓reduceIte]
        refine ⟨by rw [up_a (by decide), up_s], by rw [up_a (by decide), up_a (by decide), up_s], by rw [up_a (by decide), up_a (by decide), up_a (by decide)]; exact y3⟩
      · simp only [if_neg ev]
        refine ⟨by rw [up_a (by decide), up_k ev, up_a (by decide)]; exact y1, by rw [up_a (by decide), up_a (by decide), up_k ev]; exact y2, by rw [up_a (by decide), up_a (by decide), up_a (by decide)]; exact y3⟩
    · by_cases ev : v = w
      · simp only [if_pos ev]
        exact ⟨hTt, by omega, by omega⟩
      · simp only [if_neg ev]
        exact s5 v hv
  have hval : ∀ s : Int, s = sg_ w → s + nxV nt (fun a b => I (c + 14 + a) b) T n (tk ||| 2 ^ t) (fun v => if v = w then T t else r v) (fun v => if v = w then l w - I (c + 14 + r w) (T t) else l v) e w = sg_ w * tgT nt (fun a b => I (c + 14 + a) b) T n tk (r w) (l w) (r (1 - w)) (l (1 - w)) (e (1 - w)) t := by
    intro s hs
    unfold nxV tgT
    rw [sg_o hw, hew, hs]
    simp only [if_pos (rfl : w = w), if_neg (show ¬ 1 - w = w by omega)]
    cases e (1 - w)
    · simp only [Bool.false_eq_true, if_false, if_true]
      rw [Int.mul_add, Int.mul_one, Int.mul_neg, Int.neg_mul]
    · simp only [if_true, Bool.false_eq_true, if_false]
      rw [Int.mul_add, Int.mul_one]
  have fin : ∀ s : Int, s = sg_ w → Gx (jx_0 L) (d + 3 * n + 1 + 1 + 1) md_TakingGame_leadByTaking 75 [some (.inr (.inl 151)), some (.inl (w : Int)), some (.inl (t : Int)), some (.inl dep), some (.inl (r w : Int)), some (.inl (l w)), none] [.inl s] (jm_up (jm_up (jm_up J 154 w (l w - I (c + 14 + r w) (T t))) 153 w (T t : Int)) 151 1 ((tk ||| 2 ^ t : Nat) : Int)) K := by
    intro s hs
    refine b_TakingGame_leadByTaking_75 ?_
    rw [show (1 : Int) - (w : Int) = ((1 - w : Nat) : Int) by omega]
    refine tl_next hA hS' hw (fun q1 _ => ?_) (fun q1 => ?_) (by omega) ?_
    · unfold tgM at hM
      rw [q1, if_pos rfl] at hM
      omega
    · unfold tgM at hM ⊢
      rw [q1, if_neg (by simp)] at hM
      rw [hew, if_neg (by simp)]
      omega
    · refine b_TakingGame_leadByTaking_85 (by omega) ?_
      rw [hval s hs, up_s, Int.toNat_natCast, ← hbk2, hbk1, tg_restore (tk := tk) (w := w) s1 v1 v2]
      exact k
  have q0 : J 153 (w : Int).toNat = (r w : Int) := by rw [Int.toNat_natCast]; exact v1
  have q1 : J 152 (t : Int).toNat = (T t : Int) := by rw [Int.toNat_natCast]; exact s2 t ht
  have q2 : J 154 (w : Int).toNat = l w := by rw [Int.toNat_natCast]; exact v2
  refine b_TakingGame_leadByTaking_0 s0 hc (by rw [q0, q1]; omega) (fun h => ?_) (fun h => ?_)
  · rw [q0, q1, q2, s1, hbk2, Int.toNat_natCast, Int.toNat_natCast, Int.toNat_natCast, hdist]
    refine b_TakingGame_leadByTaking_74 ?_
    exact fin (-1) (by unfold sg_; rw [if_neg (by omega)])
  · rw [q0, q1, q2, s1, hbk2, Int.toNat_natCast, Int.toNat_natCast, Int.toNat_natCast, hdist]
    refine b_TakingGame_leadByTaking_70 ?_
    exact fin 1 (by unfold sg_; rw [if_pos (by omega)])
theorem tl_end {n tk w : Nat} {r : Nat → Nat} {l : Nat → Int} {e : Nat → Bool} {dep : Int} (hA : tgA L I c nt R T n) (hS : tgS I J c nt R T tk r l e) (hw : w < 2) (hew : e w = false) (hM : tgM nt tk (e (1 - w)) ≤ (n : Int) + 1) (hd : 0 ≤ dep ∧ dep + 2 + 2 * n ≤ 20) (k : K (some (.inl (sg_ w * tgE nt (fun a b => I (c + 14 + a) b) T n tk (r w) (l w) (r (1 - w)) (l (1 - w)) (e (1 - w))))) J) : Cx (jx_0 L) (d + 3 * n + 1 + 1 + 1) md_TakingGame_leadByEnding [.inr (.inl 151), .inl (w : Int), .inl dep] J K := by
  obtain ⟨o, s0, s1, s2, s3, s4, s5⟩ := id hS
  obtain ⟨v1, v2, v3⟩ := s3 w hw
  rw [hew, if_neg (by simp)] at v3
  have hS' : tgS I (jm_up J 155 w 1) c nt R T tk r l (fun v => if v = w then true else e v) := by
    refine ⟨fun a ha => by rw [jm_up_o (by omega), o a ha], by rw [up_a (by decide)]; exact s0, by rw [up_a (by decide)]; exact s1, fun t' ht' => by rw [up_a (by decide)]; exact s2 t' ht', fun v hv => ?_, s4, s5⟩
    obtain ⟨y1, y2, y3⟩ := s3 v hv
    refine ⟨by rw [up_a (by decide)]; exact y1, by rw [up_a (by decide)]; exact y2, ?_⟩
    by_cases ev : v = w
    · subst ev
      rw [up_s]; simp
    · rw [up_k ev]; simp only [if_neg ev]; exact y3
  refine b_TakingGame_leadByEnding_0 (by omega) ?_
  rw [Int.toNat_natCast, show (1 : Int) - (w : Int) = ((1 - w : Nat) : Int) by omega]
  have en : (1 - w = w) = False := eq_false (by omega)
  refine tl_next hA hS' hw (fun q1 q2 => ?_) (fun q1 => ?_) (by omega) ?_
  · simp at q2
  · simp only [en, if_false] at q1
    unfold tgM at hM ⊢
    rw [q1, if_neg (by simp)] at hM
    simp only [if_true]
    omega
  · refine b_TakingGame_leadByEnding_17 (by omega) ?_
    rw [Int.toNat_natCast, up_up, show jm_up J 155 w 0 = J by rw [← v3]; exact up_id]
    have hv : nxV nt (fun a b => I (c + 14 + a) b) T n tk r l (fun v => if v = w then true else e v) w = sg_ w * tgE nt (fun a b => I (c + 14 + a) b) T n tk (r w) (l w) (r (1 - w)) (l (1 - w)) (e (1 - w)) := by
      unfold nxV tgE
      rw [sg_o hw]
      simp only [en, if_false, if_true]
      cases e (1 - w)
      · simp only [Bool.false_eq_true, if_false]
        rw [Int.neg_mul, Int.mul_neg]
      · simp
    rw [hv]
    exact k
theorem tl_main (hB : tgB I c nt R T) (hc : jx_City (jx_0 L) c) : ∀ n : Nat, n ≤ 7 → tgA L I c nt R T n := by
  intro n
  induction n with
  | zero =>
    intro _ d J tk r l e w dep K hS hw hew hM
    exfalso
    have := (un_tab ⟨tk, hS.2.2.2.2.2.1⟩ ⟨nt, by have := hB.1; omega⟩).1
    have : 0 ≤ unF tk nt := this.1
    unfold tgM at hM
    split at hM <;> omega
  | succ n ih =>
    intro hn7 d J tk r l e w dep K hS hw hew hM hd k
    have hA := ih (by omega)
    obtain ⟨⟨b1, b2, b3, b4⟩, bn, bT, bD⟩ := id hB
    obtain ⟨o, s0, s1, s2, s3, s4, s5⟩ := id hS
    obtain ⟨v1, v2, v3⟩ := s3 w hw
    obtain ⟨u1, u2, u3⟩ := s5 w hw
    have h155 : ∀ w : Nat, w < 2 → J 155 w = (if e w = true then 1 else 0) := fun w hw => (s3 w hw).2.2
    have hun0 : 0 ≤ unF tk nt := ((un_tab ⟨tk, s4⟩ ⟨nt, by omega⟩).1).1
    rw [hew, if_neg (by simp)] at v3
    have ec : J c = I c := o c (by omega)
    rw [show d + 3 * (n + 1) + 1 = (d + 3 * n + 1 + 1 + 1) + 1 by omega]
    have hM' : tgM nt tk (e (1 - w)) ≤ (n : Int) + 1 := by omega
    refine tl_in h155 ?_ (by omega) ?_
    · intro ⟨q0, q1⟩
      rcases (show w = 0 ∨ w = 1 by omega) with rfl | rfl
      · rw [hew] at q0; simp at q0
      · rw [hew] at q1; simp at q1
    refine b_TakingGame_lead_26 (by rw [Int.toNat_natCast, v3]; omega) (fun _ => ?_) (fun h => by rw [Int.toNat_natCast, v3] at h; omega)
    refine b_TakingGame_lead_46 ?_
    have htr : ∀ t, -((n : Int) + 1) ≤ tgT nt (fun a b => I (c + 14 + a) b) T n tk (r w) (l w) (r (1 - w)) (l (1 - w)) (e (1 - w)) t ∧ tgT nt (fun a b => I (c + 14 + a) b) T n tk (r w) (l w) (r (1 - w)) (l (1 - w)) (e (1 - w)) t ≤ (n : Int) + 1 := fun t => tgT_r
    rw [tgW_s] at k
    generalize hCe : tgC (fun a b => I (c + 14 + a) b) T tk (r w) (l w) = C at *
    generalize hFe : tgT nt (fun a b => I (c + 14 + a) b) T n tk (r w) (l w) (r (1 - w)) (l (1 - w)) (e (1 - w)) = F at *
    generalize hEe : tgE nt (fun a b => I (c + 14 + a) b) T n tk (r w) (l w) (r (1 - w)) (l (1 - w)) (e (1 - w)) = E at *
    have hsg : sg_ w = 1 ∨ sg_ w = -1 := by unfold sg_; split <;> omega
    refine lp_up (σ := Int) (Inv := fun x b => 0 ≤ x ∧ ((b = -1000000 ∧ ∀ t : Nat, (t : Int) < x → C t = false) ∨ ∃ m, b = sg_ w * m ∧ (-8 ≤ m ∧ m ≤ 8) ∧ bsR C F x.toNat m)) (G := fun x b => Gx (jx_0 L) (d + 3 * n + 1 + 1 + 1 + 1) md_TakingGame_lead 52 [some (.inr (.inl 151)), some (.inl (w : Int)), some (.inl dep), some (.inl b), some (.inl x)] [] J K) (nt : Int) ?_ ?_ 0 (-1000000) (by omega) ⟨by omega, Or.inl ⟨rfl, fun t ht => by omega⟩⟩
    · intro x b hx hi ih2
      obtain ⟨h0, hi⟩ := hi
      obtain ⟨t, rfl⟩ : ∃ t : Nat, x = t := ⟨x.toNat, by omega⟩
      rw [Int.toNat_natCast] at hi
      have ht : t < nt := by omega
      have hTt := bT t ht
      have hbit := jn_bit (a := tk) (h := t) (by omega) (by omega)
      have hDr := bD (r w) (T t) u1 hTt
      have q0 : J 153 (w : Int).toNat = (r w : Int) := by rw [Int.toNat_natCast]; exact v1
      have q1 : J 152 (t : Int).toNat = (T t : Int) := by rw [Int.toNat_natCast]; exact s2 t ht
      have q2 : J 154 (w : Int).toNat = l w := by rw [Int.toNat_natCast]; exact v2
      have hdist : J (c + 14 + r w) (T t) = I (c + 14 + r w) (T t) := by rw [o (c + 14 + r w) (by omega)]
      have hbr : (b = -1000000 ∨ (-8 ≤ b ∧ b ≤ 8)) := by
        rcases hi with ⟨q, -⟩ | ⟨m, q, q2, -⟩
        · exact Or.inl q
        · right
          rcases hsg with z | z <;> rw [z] at q <;> omega
      refine b_TakingGame_lead_52 s0 hc (by rw [ec, bn]; omega) (fun h => by rw [ec, bn] at h; omega) (fun _ => ?_)
      have can : ∀ K' : Option jm_V → jm_I → Prop, (∀ v, (v = 1 ∧ C t = true) ∨ (v = 0 ∧ C t = false) → K' (some (.inl v)) J) → Cx (jx_0 L) (d + 3 * n + 1 + 1 + 1) md_TakingGame_canTake [.inr (.inl 151), .inl (w : Int), .inl (t : Int)] J K' := by
        intro K' kk
        have hno : ¬ (tk.testBit t = false ∧ I (c + 14 + r w) (T t) ≤ l w) → C t = false := fun q => by
          cases hb : C t
          · rfl
          · rw [← hCe, tgC_i] at hb
            exact absurd hb q
        refine b_TakingGame_canTake_0 (by rw [s1]; rcases hbit with ⟨q, -⟩ | ⟨q, -⟩ <;> omega) (fun h => ?_) (fun h => ?_)
        · rw [s1] at h
          refine b_TakingGame_canTake_45 ?_
          refine b_TakingGame_canTake_46 (by omega) (kk _ (Or.inr ⟨rfl, hno (fun q => ?_)⟩))
          rcases hbit with ⟨-, z⟩ | ⟨z, -⟩
          · rw [q.1] at z; simp at z
          · exact h z
        · rw [s1] at h
          have hb0 : tk.testBit t = false := by
            rcases hbit with ⟨z, -⟩ | ⟨-, z⟩
            · omega
            · exact z
          refine b_TakingGame_canTake_11 s0 hc (by rw [q0, q1, q2, Int.toNat_natCast, Int.toNat_natCast, hdist]; omega) (fun h' => ?_) (fun h' => ?_)
          · rw [q0, q1, q2, Int.toNat_natCast, Int.toNat_natCast, hdist] at h'
            refine b_TakingGame_canTake_45 ?_
            exact b_TakingGame_canTake_46 (by omega) (kk _ (Or.inr ⟨rfl, hno (fun q => by have := q.2; omega)⟩))
          · rw [q0, q1, q2, Int.toNat_natCast, Int.toNat_natCast, hdist] at h'
            refine b_TakingGame_canTake_41 ?_
            refine b_TakingGame_canTake_46 (by omega) (kk _ (Or.inl ⟨rfl, ?_⟩))
            rw [← hCe, tgC_i]
            exact ⟨hb0, show I (c + 14 + r w) (T t) ≤ l w by omega⟩
      refine b_TakingGame_lead_64 (can _ (fun v hv => ?_))
      refine b_TakingGame_lead_71 (by rcases hv with ⟨q, -⟩ | ⟨q, -⟩ <;> omega) (fun h => ?_) (fun h => ?_)
      · have hCt : C t = false := by
          rcases hv with ⟨q, -⟩ | ⟨-, q⟩
          · omega
          · exact q
        refine b_TakingGame_lead_88 ?_
        refine ih2 _ ⟨by omega, ?_⟩
        rw [show ((t : Int) + 1).toNat = t + 1 by omega]
        rcases hi with ⟨q1, q2⟩ | ⟨m, q1, q2, q3⟩
        · refine Or.inl ⟨q1, fun u hu => ?_⟩
          by_cases eu : u = t
          · rw [eu]; exact hCt
          · exact q2 u (by omega)
        · exact Or.inr ⟨m, q1, q2, bsR_no q3 hCt⟩
      · have hCt : C t = true := by
          rcases hv with ⟨-, q⟩ | ⟨q, -⟩
          · exact q
          · exact absurd q h
        have hFt := htr t
        refine b_TakingGame_lead_74 (tl_take hB hc hA hS hw hew ht (by rw [hCe]; exact hCt) hM' (by omega) ?_)
        rw [hFe]
        have go : ∀ z : Int, (∃ m, z = sg_ w * m ∧ (-8 ≤ m ∧ m ≤ 8) ∧ bsR C F (t + 1) m) → Gx (jx_0 L) (d + 3 * n + 1 + 1 + 1 + 1) md_TakingGame_lead 87 [some (.inr (.inl 151)), some (.inl (w : Int)), some (.inl dep), some (.inl b), some (.inl (t : Int))] [.inl z] J K := by
          intro z hz
          refine b_TakingGame_lead_87 ?_
          refine b_TakingGame_lead_88 ?_
          refine ih2 _ ⟨by omega, Or.inr ?_⟩
          rw [show ((t : Int) + 1).toNat = t + 1 by omega]
          exact hz
        have hsr : -8 ≤ sg_ w * F t ∧ sg_ w * F t ≤ 8 := by rcases hsg with z | z <;> rw [z] <;> omega
        refine b_TakingGame_lead_84 ?_
        rcases hi with ⟨q1, q2⟩ | ⟨m, q1, q2, q3⟩
        · refine b_TakingGame_better_0 (by omega) (fun h => absurd q1 h) (fun _ => ?_)
          refine b_TakingGame_better_6 ?_
          exact go _ ⟨F t, rfl, by omega, bsR_1 (fun u hu => q2 u (by omega)) hCt⟩
        · have hb8 : -8 ≤ b ∧ b ≤ 8 := by rcases hsg with z | z <;> rw [z] at q1 <;> omega
          refine b_TakingGame_better_0 (by omega) (fun _ => ?_) (fun h => by omega)
          refine b_TakingGame_better_8 (by omega) (fun hw1 => ?_) (fun hw0 => ?_)
          · have hs1 : sg_ w = -1 := by unfold sg_; rw [if_neg (by omega)]
            refine b_TakingGame_better_20 (by omega) ?_
            refine b_TakingGame_better_25 ?_
            refine go _ ⟨max m (F t), ?_, by omega, bsR_up q3 hCt⟩
            rw [q1, hs1]
            omega
          · have hs1 : sg_ w = 1 := by unfold sg_; rw [if_pos (by omega)]
            refine b_TakingGame_better_12 (by omega) ?_
            refine b_TakingGame_better_25 ?_
            refine go _ ⟨max m (F t), ?_, by omega, bsR_up q3 hCt⟩
            rw [q1, hs1]
            omega
    · intro b hi
      obtain ⟨-, hi⟩ := hi
      rw [Int.toNat_natCast] at hi
      refine b_TakingGame_lead_52 s0 hc (by rw [ec, bn]; omega) (fun _ => ?_) (fun h => by rw [ec, bn] at h; omega)
      rcases hi with ⟨q1, q2⟩ | ⟨m, q1, q2, q3⟩
      · rw [mx_no (fun t ht => q2 t (by omega))] at k
        refine b_TakingGame_lead_94 (by omega) (fun h => absurd q1 h) (fun _ => ?_)
        refine b_TakingGame_lead_100 (tl_end hA hS hw hew hM' (by omega) ?_)
        rw [hEe]
        refine b_TakingGame_lead_106 ?_
        exact b_TakingGame_lead_110 k
      · have hb8 : -8 ≤ b ∧ b ≤ 8 := by rcases hsg with z | z <;> rw [z] at q1 <;> omega
        refine b_TakingGame_lead_94 (by omega) (fun _ => ?_) (fun h => by omega)
        refine b_TakingGame_lead_109 ?_
        refine b_TakingGame_lead_110 ?_
        rw [mx_bs q3] at k
        have hEm : max m E = m := by
          obtain ⟨⟨t, t1, t2, t3⟩, -⟩ := q3
          have hcd : tk.testBit t = false := by
            rw [← hCe] at t2
            exact (tgC_i.1 t2).1
          have hun := (un_tab ⟨tk, s4⟩ ⟨nt, by omega⟩).2 ⟨t, by omega⟩ t1 hcd
          have hun : unF (tk ||| 2 ^ t) nt + 1 = unF tk nt := hun
          have hun2 := ((un_tab ⟨tk ||| 2 ^ t, (sx_0 s4 (show t < 5 by omega) hcd).2.1⟩ ⟨nt, by omega⟩).1).1
          have hun2 : 0 ≤ unF (tk ||| 2 ^ t) nt := hun2
          have hd2 : e (1 - w) = true ∨ 2 ≤ n := by
            cases he : e (1 - w)
            · right
              unfold tgM at hM'
              rw [he, if_neg (by simp)] at hM'
              omega
            · exact Or.inl rfl
          have := tg_take (nt := nt) (D := fun a b => I (c + 14 + a) b) (T := T) (n := n) (tk := tk) (ra := r w) (la := l w) (rb := r (1 - w)) (lb := l (1 - w)) (eb := e (1 - w)) hd2 t
          rw [hEe, hFe] at this
          omega
        rw [hEm, ← q1] at k
        exact k
end LEAD
