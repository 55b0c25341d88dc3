/-! ===== the law's loop (by program, wip/gen/gen11.py) ===== -/
theorem Cx.sc {P : jm_P} {d : Nat} {ν : jm_Md} {as : List jm_V} {I : jm_I} {K K' : Option jm_V → jm_I → Prop} (h : Cx P d ν as I K') (hk : ∀ r J, K' r J → (∀ k, k < (P.2.1 0).2 → J 0 k = I 0 k) → K r J) : Cx P d ν as I K := by
  intro G p e R s m args below meth c H locs cells slots lr C hF hL hc hs hR hS hl
  intro T hT X
  obtain ⟨t, h1, o, h2, h3, ⟨⟨r, M', h4, ⟨J, h5, h5'⟩, h6⟩, h7⟩, h8⟩ := h G p e R s m args below meth c H locs cells slots lr C hF hL hc hs hR hS hl T hT X
  subst h5
  refine ⟨t, h1, o, h2, h3, ⟨⟨r, _, h4, ⟨J, rfl, hk r J h5' (fun k hkk => ?_)⟩, h6⟩, h7⟩, h8⟩
  have e1 := hR.2.2.2
  have e2 := h6.2.2.2
  have hL1 : (P.2.1 0).2 = jg_L G := by
    have : P.2.1 0 = (98, jg_L G) := e1.1
    rw [this]
  have a1 : I 0 k = (jg_xs G k).toInt := e1.2 k (by omega)
  have a2 : J 0 k = (jg_xs G k).toInt := e2.2 k (by omega)
  rw [a1, a2]
section LAWLOOP
variable {L d : Nat} {K : Option jm_V → jm_I → Prop} {f : Nat → Int}
set_option maxHeartbeats 1000000 in
theorem law_loop (hL : L ≤ 2560) (hf : ∀ k, k < L → -2147483648 ≤ f k ∧ f k < 2147483648) (hK : ∀ I, K (some (.inl 1)) I) : ∀ (m : Nat) (x : Int) (I : jm_I), (L : Int) - x ≤ m → 0 ≤ x → x ≤ 2570 → Rel I → (∀ k, k < L → I 0 k = f k) → Gx (jx_0 L) (d + 100 + 1) md_L_law 18 [some (.inr (.inl 0)), some (.inr (.inl 1)), some (.inr (.inl 167)), some (.inl x)] [] I K := by
  intro m
  induction m with
  | zero =>
    intro x I hm hx hx2 hrel hsc
    refine b_L_law_18 (by omega) (fun _ => ?_) (fun h => by omega)
    exact b_L_law_921 (hK I)
  | succ m ih =>
    intro x I hm hx hx2 hrel hsc
    have hr : ∀ k, k < L → -2147483648 ≤ I 0 k ∧ I 0 k < 2147483648 := fun k hk => by rw [hsc k hk]; exact hf k hk
    refine b_L_law_18 (by omega) (fun _ => b_L_law_921 (hK I)) (fun h => ?_)
    have next : ∀ A : jm_I, Rel A → A 0 = I 0 → Gx (jx_0 L) (d + 100 + 1) md_L_law 915 [some (.inr (.inl 0)), some (.inr (.inl 1)), some (.inr (.inl 167)), some (.inl x)] [] A K := by
      intro A hA hA0
      refine b_L_law_915 ?_
      exact ih (x + 5) A (by omega) (by omega) (by omega) hA (fun k hk => by rw [hA0]; exact hsc k hk)
    have har := jb_and_r (I 0 x.toNat) 31
    refine b_L_law_26 (by omega) (fun _ => ?_) (fun _ => ?_) (fun _ => ?_) (fun _ => ?_) (fun _ => ?_) (fun _ => ?_) (fun _ => ?_) (fun _ => ?_) (fun _ => ?_) (fun _ => ?_) (fun _ => ?_) (fun _ => ?_) (fun _ => ?_) (fun _ => ?_) (fun _ => ?_) (fun _ => ?_) (fun _ => ?_) (fun _ => ?_) (fun _ => ?_) (fun _ => ?_) (fun _ => ?_) (fun _ => ?_) (fun _ => ?_) (fun _ => ?_) (fun _ => ?_) (fun _ => ?_) (fun _ => ?_) (fun _ => ?_) (fun _ => ?_)
    · refine b_L_law_160 (by omega) (Cx.sc (g_type (L := L) (d := d) hrel (hr _ (by omega))) (fun v J hv hs => ?_))
      obtain ⟨y, rfl, h2⟩ := hv
      refine b_L_law_169 (by omega) ?_
      rw [hs (x + 1).toNat (show (x + 1).toNat < L by omega)]
      refine Cx.mono h2 (fun w A hw => ?_)
      obtain ⟨rfl, hrA, hA0⟩ := hw
      refine b_L_law_178 rfl ?_
      exact next A hrA hA0
    · refine b_L_law_183 (Cx.sc (g_clear (L := L) (d := d) hrel) (fun v J hv hs => ?_))
      obtain ⟨y, rfl, h2⟩ := hv
      refine b_L_law_187 ?_
      refine Cx.mono h2 (fun w A hw => ?_)
      obtain ⟨rfl, hrA, hA0⟩ := hw
      refine b_L_law_191 rfl ?_
      exact next A hrA hA0
    · refine b_L_law_196 (Cx.sc (g_city (L := L) (d := d) hrel) (fun v J hv hs => ?_))
      obtain ⟨y, rfl, h2⟩ := hv
      refine b_L_law_200 ?_
      refine Cx.mono h2 (fun w A hw => ?_)
      obtain ⟨rfl, hrA, hA0⟩ := hw
      refine b_L_law_204 rfl ?_
      exact next A hrA hA0
    · refine b_L_law_209 (by omega) (Cx.sc (g_door (L := L) (d := d) hrel ⟨hr _ (by omega), hr _ (by omega)⟩) (fun v J hv hs => ?_))
      obtain ⟨y, rfl, h2⟩ := hv
      refine b_L_law_223 (by omega) ?_
      rw [hs (x + 1).toNat (show (x + 1).toNat < L by omega), hs (x + 2).toNat (show (x + 2).toNat < L by omega)]
      refine Cx.mono h2 (fun w A hw => ?_)
      obtain ⟨rfl, hrA, hA0⟩ := hw
      refine b_L_law_237 rfl ?_
      exact next A hrA hA0
    · refine b_L_law_242 (by omega) (Cx.sc (g_person (L := L) (d := d) hrel ⟨hr _ (by omega), hr _ (by omega)⟩) (fun v J hv hs => ?_))
      obtain ⟨y, rfl, h2⟩ := hv
      refine b_L_law_256 (by omega) ?_
      rw [hs (x + 1).toNat (show (x + 1).toNat < L by omega), hs (x + 2).toNat (show (x + 2).toNat < L by omega)]
      refine Cx.mono h2 (fun w A hw => ?_)
      obtain ⟨rfl, hrA, hA0⟩ := hw
      refine b_L_law_270 rfl ?_
      exact next A hrA hA0
    · refine b_L_law_275 (by omega) (Cx.sc (g_thing (L := L) (d := d) hrel ⟨hr _ (by omega), hr _ (by omega)⟩) (fun v J hv hs => ?_))
      obtain ⟨y, rfl, h2⟩ := hv
      refine b_L_law_289 (by omega) ?_
      rw [hs (x + 1).toNat (show (x + 1).toNat < L by omega), hs (x + 2).toNat (show (x + 2).toNat < L by omega)]
      refine Cx.mono h2 (fun w A hw => ?_)
      obtain ⟨rfl, hrA, hA0⟩ := hw
      refine b_L_law_303 rfl ?_
      exact next A hrA hA0
    · refine b_L_law_308 (by omega) (Cx.sc (g_now (L := L) (d := d) hrel (hr _ (by omega))) (fun v J hv hs => ?_))
      obtain ⟨y, rfl, h2⟩ := hv
      refine b_L_law_317 (by omega) ?_
      rw [hs (x + 1).toNat (show (x + 1).toNat < L by omega)]
      refine Cx.mono h2 (fun w A hw => ?_)
      obtain ⟨rfl, hrA, hA0⟩ := hw
      refine b_L_law_326 rfl ?_
      exact next A hrA hA0
    · refine b_L_law_331 (Cx.sc (g_second (L := L) (d := d) hrel) (fun v J hv hs => ?_))
      obtain ⟨y, rfl, h2⟩ := hv
      refine b_L_law_335 ?_
      refine Cx.mono h2 (fun w A hw => ?_)
      obtain ⟨rfl, hrA, hA0⟩ := hw
      refine b_L_law_339 rfl ?_
      exact next A hrA hA0
    · refine b_L_law_344 (by omega) (Cx.sc (g_press (L := L) (d := d) hrel (hr _ (by omega))) (fun v J hv hs => ?_))
      obtain ⟨y, rfl, h2⟩ := hv
      refine b_L_law_353 (by omega) ?_
      rw [hs (x + 1).toNat (show (x + 1).toNat < L by omega)]
      refine Cx.mono h2 (fun w A hw => ?_)
      obtain ⟨rfl, hrA, hA0⟩ := hw
      refine b_L_law_362 rfl ?_
      exact next A hrA hA0
    · refine b_L_law_367 (by omega) (Cx.sc (g_carry (L := L) (d := d) hrel ⟨hr _ (by omega), hr _ (by omega), hr _ (by omega)⟩) (fun v J hv hs => ?_))
      obtain ⟨y, rfl, h2⟩ := hv
      refine b_L_law_386 (by omega) ?_
      rw [hs (x + 1).toNat (show (x + 1).toNat < L by omega), hs (x + 2).toNat (show (x + 2).toNat < L by omega), hs (x + 3).toNat (show (x + 3).toNat < L by omega)]
      refine Cx.mono h2 (fun w A hw => ?_)
      obtain ⟨rfl, hrA, hA0⟩ := hw
      refine b_L_law_405 rfl ?_
      exact next A hrA hA0
    · refine b_L_law_410 (by omega) (Cx.sc (g_walk (L := L) (d := d) hrel ⟨hr _ (by omega), hr _ (by omega)⟩) (fun v J hv hs => ?_))
      obtain ⟨y, rfl, h2⟩ := hv
      refine b_L_law_424 (by omega) ?_
      rw [hs (x + 1).toNat (show (x + 1).toNat < L by omega), hs (x + 2).toNat (show (x + 2).toNat < L by omega)]
      refine Cx.mono h2 (fun w A hw => ?_)
      obtain ⟨rfl, hrA, hA0⟩ := hw
      refine b_L_law_438 rfl ?_
      exact next A hrA hA0
    · refine b_L_law_443 (Cx.sc (g_undo (L := L) (d := d) hrel) (fun v J hv hs => ?_))
      obtain ⟨y, rfl, h2⟩ := hv
      refine b_L_law_447 ?_
      refine Cx.mono h2 (fun w A hw => ?_)
      obtain ⟨rfl, hrA, hA0⟩ := hw
      refine b_L_law_451 rfl ?_
      exact next A hrA hA0
    · refine b_L_law_456 (by omega) (Cx.sc (g_where (L := L) (d := d) hrel ⟨hr _ (by omega), hr _ (by omega)⟩) (fun v J hv hs => ?_))
      obtain ⟨y, rfl, h2⟩ := hv
      refine b_L_law_470 (by omega) ?_
      rw [hs (x + 1).toNat (show (x + 1).toNat < L by omega), hs (x + 2).toNat (show (x + 2).toNat < L by omega)]
      refine Cx.mono h2 (fun w A hw => ?_)
      obtain ⟨rfl, hrA, hA0⟩ := hw
      refine b_L_law_484 rfl ?_
      exact next A hrA hA0
    · refine b_L_law_489 (by omega) (Cx.sc (g_upon (L := L) (d := d) hrel ⟨hr _ (by omega), hr _ (by omega)⟩) (fun v J hv hs => ?_))
      obtain ⟨y, rfl, h2⟩ := hv
      refine b_L_law_503 (by omega) ?_
      rw [hs (x + 1).toNat (show (x + 1).toNat < L by omega), hs (x + 2).toNat (show (x + 2).toNat < L by omega)]
      refine Cx.mono h2 (fun w A hw => ?_)
      obtain ⟨rfl, hrA, hA0⟩ := hw
      refine b_L_law_517 rfl ?_
      exact next A hrA hA0
    · refine b_L_law_522 (by omega) (Cx.sc (g_reach (L := L) (d := d) hrel (hr _ (by omega))) (fun v J hv hs => ?_))
      obtain ⟨y, rfl, h2⟩ := hv
      refine b_L_law_531 (by omega) ?_
      rw [hs (x + 1).toNat (show (x + 1).toNat < L by omega)]
      refine Cx.mono h2 (fun w A hw => ?_)
      obtain ⟨rfl, hrA, hA0⟩ := hw
      refine b_L_law_540 rfl ?_
      exact next A hrA hA0
    · refine b_L_law_545 (by omega) (Cx.sc (g_presses (L := L) (d := d) hrel ⟨hr _ (by omega), hr _ (by omega), hr _ (by omega), hr _ (by omega)⟩) (fun v J hv hs => ?_))
      obtain ⟨y, rfl, h2⟩ := hv
      refine b_L_law_569 (by omega) ?_
      rw [hs (x + 1).toNat (show (x + 1).toNat < L by omega), hs (x + 2).toNat (show (x + 2).toNat < L by omega), hs (x + 3).toNat (show (x + 3).toNat < L by omega), hs (x + 4).toNat (show (x + 4).toNat < L by omega)]
      refine Cx.mono h2 (fun w A hw => ?_)
      obtain ⟨rfl, hrA, hA0⟩ := hw
      refine b_L_law_593 rfl ?_
      exact next A hrA hA0
    · refine b_L_law_598 (by omega) (Cx.sc (g_found (L := L) (d := d) hrel ⟨hr _ (by omega), hr _ (by omega), hr _ (by omega)⟩) (fun v J hv hs => ?_))
      obtain ⟨y, rfl, h2⟩ := hv
      refine b_L_law_617 (by omega) ?_
      rw [hs (x + 1).toNat (show (x + 1).toNat < L by omega), hs (x + 2).toNat (show (x + 2).toNat < L by omega), hs (x + 3).toNat (show (x + 3).toNat < L by omega)]
      refine Cx.mono h2 (fun w A hw => ?_)
      obtain ⟨rfl, hrA, hA0⟩ := hw
      refine b_L_law_636 rfl ?_
      exact next A hrA hA0
    · refine b_L_law_641 (Cx.sc (g_forget (L := L) (d := d) hrel) (fun v J hv hs => ?_))
      obtain ⟨y, rfl, h2⟩ := hv
      refine b_L_law_645 ?_
      refine Cx.mono h2 (fun w A hw => ?_)
      obtain ⟨rfl, hrA, hA0⟩ := hw
      refine b_L_law_649 rfl ?_
      exact next A hrA hA0
    · refine b_L_law_654 (Cx.sc (g_doneBy (L := L) (d := d) hrel) (fun v J hv hs => ?_))
      obtain ⟨y, rfl, h2⟩ := hv
      refine b_L_law_658 ?_
      refine Cx.mono h2 (fun w A hw => ?_)
      obtain ⟨rfl, hrA, hA0⟩ := hw
      refine b_L_law_662 rfl ?_
      exact next A hrA hA0
    · refine b_L_law_667 (by omega) (Cx.sc (g_guard (L := L) (d := d) hrel ⟨hr _ (by omega), hr _ (by omega)⟩) (fun v J hv hs => ?_))
      obtain ⟨y, rfl, h2⟩ := hv
      refine b_L_law_681 (by omega) ?_
      rw [hs (x + 1).toNat (show (x + 1).toNat < L by omega), hs (x + 2).toNat (show (x + 2).toNat < L by omega)]
      refine Cx.mono h2 (fun w A hw => ?_)
      obtain ⟨rfl, hrA, hA0⟩ := hw
      refine b_L_law_695 rfl ?_
      exact next A hrA hA0
    · refine b_L_law_700 (by omega) (Cx.sc (g_taking (L := L) (d := d) hrel ⟨hr _ (by omega), hr _ (by omega)⟩) (fun v J hv hs => ?_))
      obtain ⟨y, rfl, h2⟩ := hv
      refine b_L_law_714 (by omega) ?_
      rw [hs (x + 1).toNat (show (x + 1).toNat < L by omega), hs (x + 2).toNat (show (x + 2).toNat < L by omega)]
      refine Cx.mono h2 (fun w A hw => ?_)
      obtain ⟨rfl, hrA, hA0⟩ := hw
      refine b_L_law_728 rfl ?_
      exact next A hrA hA0
    · refine b_L_law_733 (by omega) (Cx.sc (g_odds (L := L) (d := d) hrel ⟨hr _ (by omega), hr _ (by omega), hr _ (by omega)⟩) (fun v J hv hs => ?_))
      obtain ⟨y, rfl, h2⟩ := hv
      refine b_L_law_752 (by omega) ?_
      rw [hs (x + 1).toNat (show (x + 1).toNat < L by omega), hs (x + 2).toNat (show (x + 2).toNat < L by omega), hs (x + 3).toNat (show (x + 3).toNat < L by omega)]
      refine Cx.mono h2 (fun w A hw => ?_)
      obtain ⟨rfl, hrA, hA0⟩ := hw
      refine b_L_law_771 rfl ?_
      exact next A hrA hA0
    · refine b_L_law_776 (by omega) (Cx.sc (g_worth (L := L) (d := d) hrel (hr _ (by omega))) (fun v J hv hs => ?_))
      obtain ⟨y, rfl, h2⟩ := hv
      refine b_L_law_785 (by omega) ?_
      rw [hs (x + 1).toNat (show (x + 1).toNat < L by omega)]
      refine Cx.mono h2 (fun w A hw => ?_)
      obtain ⟨rfl, hrA, hA0⟩ := hw
      refine b_L_law_794 rfl ?_
      exact next A hrA hA0
    · refine b_L_law_799 (by omega) (Cx.sc (g_rate (L := L) (d := d) hrel ⟨hr _ (by omega), hr _ (by omega)⟩) (fun v J hv hs => ?_))
      obtain ⟨y, rfl, h2⟩ := hv
      refine b_L_law_813 (by omega) ?_
      rw [hs (x + 1).toNat (show (x + 1).toNat < L by omega), hs (x + 2).toNat (show (x + 2).toNat < L by omega)]
      refine Cx.mono h2 (fun w A hw => ?_)
      obtain ⟨rfl, hrA, hA0⟩ := hw
      refine b_L_law_827 rfl ?_
      exact next A hrA hA0
    · refine b_L_law_832 (by omega) (Cx.sc (g_keep (L := L) (d := d) hrel (hr _ (by omega))) (fun v J hv hs => ?_))
      obtain ⟨y, rfl, h2⟩ := hv
      refine b_L_law_841 (by omega) ?_
      rw [hs (x + 1).toNat (show (x + 1).toNat < L by omega)]
      refine Cx.mono h2 (fun w A hw => ?_)
      obtain ⟨rfl, hrA, hA0⟩ := hw
      refine b_L_law_850 rfl ?_
      exact next A hrA hA0
    · refine b_L_law_855 (by omega) (Cx.sc (g_back (L := L) (d := d) hrel (hr _ (by omega))) (fun v J hv hs => ?_))
      obtain ⟨y, rfl, h2⟩ := hv
      refine b_L_law_864 (by omega) ?_
      rw [hs (x + 1).toNat (show (x + 1).toNat < L by omega)]
      refine Cx.mono h2 (fun w A hw => ?_)
      obtain ⟨rfl, hrA, hA0⟩ := hw
      refine b_L_law_873 rfl ?_
      exact next A hrA hA0
    · refine b_L_law_878 (by omega) (Cx.sc (g_count (L := L) (d := d) hrel (hr _ (by omega))) (fun v J hv hs => ?_))
      obtain ⟨y, rfl, h2⟩ := hv
      refine b_L_law_887 (by omega) ?_
      rw [hs (x + 1).toNat (show (x + 1).toNat < L by omega)]
      refine Cx.mono h2 (fun w A hw => ?_)
      obtain ⟨rfl, hrA, hA0⟩ := hw
      refine b_L_law_896 rfl ?_
      exact next A hrA hA0
    · refine b_L_law_901 (Cx.sc (g_trace (L := L) (d := d) hrel) (fun v J hv hs => ?_))
      obtain ⟨y, rfl, h2⟩ := hv
      refine b_L_law_905 ?_
      refine Cx.mono h2 (fun w A hw => ?_)
      obtain ⟨rfl, hrA, hA0⟩ := hw
      refine b_L_law_909 rfl (fun _ => ?_) (fun h => absurd rfl h)
      exact next A hrA hA0
    · exact next I hrel rfl
end LAWLOOP
