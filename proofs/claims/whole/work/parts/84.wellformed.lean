/-! THE READER: what it makes is well formed -/
theorem rg_zpd {w : Int → Int} (h : ∀ j, rg (w j)) {i v : Int} (hv : rg v) (j : Int) : rg (zpd w i v j) := by
  by_cases c : j = i
  · rw [c, zpd_s]; exact hv
  · rw [zpd_n c]; exact h j
theorem WF_of {w u : Int → Int} (wf : WF w) (hr : ∀ j, rg (u j)) (h0 : 0 ≤ u 0 ∧ u 0 ≤ 2) (h1 : 0 ≤ u 1 ∧ u 1 ≤ 1) (h2 : w 2 ≤ u 2 ∧ u 2 ≤ 8) (h3 : u 3 = w 3) (h4 : u 4 = w 4) (h5 : 0 ≤ u 5 ∧ u 5 ≤ 1200) (hb : ∀ j, 6 ≤ j → j < 6 + 11 * w 3 → u j = w j) (hs : ∀ j, 116 ≤ j → j < 116 + 4 * w 4 → u j = w j) : WF u := by
  obtain ⟨n0, n1, n2, n3, n4, n5⟩ := WF_n wf
  refine ⟨hr, h0, h1, ⟨by omega, by omega⟩, ⟨by omega, by omega⟩, ⟨by omega, by omega⟩, h5, fun s s0 s1 => ?_, fun s t s0 s1 t0 t1 e1 e2 => ?_, fun b b0 b1 => ?_⟩
  · have := WF_s wf s0 (by omega)
    rw [hs (116 + (4 * s)) (by omega) (by omega), hs ((116 + (4 * s)) + 1) (by omega) (by omega), hs ((116 + (4 * s)) + 2) (by omega) (by omega), hs ((116 + (4 * s)) + 3) (by omega) (by omega), h3]
    exact ⟨⟨by omega, by omega⟩, this.2.1, this.2.2.1, this.2.2.2.1, fun e => ⟨(this.2.2.2.2 e).1, by have := (this.2.2.2.2 e).2; omega⟩⟩
  · rw [hs _ (by omega) (by omega), hs _ (by omega) (by omega)] at e1
    rw [hs _ (by omega) (by omega), hs _ (by omega) (by omega)] at e2
    exact WF_d wf s0 (by omega) t0 (by omega) e1 e2
  · have := WF_b wf b0 (by omega)
    rw [hb _ (by omega) (by omega), hb _ (by omega) (by omega), hb _ (by omega) (by omega)]
    refine ⟨this.1, this.2.1, this.2.2.1, fun i i0 i1 => ?_, fun i i0 i1 => ?_⟩
    · rw [hb _ (by omega) (by omega)]
      have := this.2.2.2.1 i i0 i1; omega
    · rw [hb _ (by omega) (by omega)]
      have := this.2.2.2.2 i i0 i1; omega
theorem WF_nb {w : Int → Int} (wf : WF w) (h3 : w 3 < 10) (hb : (1 ≤ (w (6 + (11 * (w 3)))) ∧ (w (6 + (11 * (w 3)))) ≤ 999) ∧ (0 ≤ (w ((6 + (11 * (w 3))) + 1)) ∧ (w ((6 + (11 * (w 3))) + 1)) ≤ 4) ∧ (0 ≤ (w ((6 + (11 * (w 3))) + 2)) ∧ (w ((6 + (11 * (w 3))) + 2)) ≤ 4) ∧ (∀ i, 0 ≤ i → i < (w ((6 + (11 * (w 3))) + 1)) → 0 ≤ (w (((6 + (11 * (w 3))) + 3) + i)) ∧ (w (((6 + (11 * (w 3))) + 3) + i)) < w 2) ∧ (∀ i, 0 ≤ i → i < (w ((6 + (11 * (w 3))) + 2)) → 0 ≤ (w (((6 + (11 * (w 3))) + 7) + i)) ∧ (w (((6 + (11 * (w 3))) + 7) + i)) < w 2)) : WF (zpd w 3 (w 3 + 1)) := by
  obtain ⟨n0, n1, n2, n3, n4, n5⟩ := WF_n wf
  have e : ∀ j, j ≠ 3 → zpd w 3 (w 3 + 1) j = w j := fun j h => zpd_n h
  refine ⟨rg_zpd (WF_rg wf) ⟨by omega, by omega⟩, by rw [e _ (by omega)]; exact n0, by rw [e _ (by omega)]; exact n1, by rw [e _ (by omega)]; exact n2, by rw [zpd_s]; omega, by rw [e _ (by omega)]; exact n4, by rw [e _ (by omega)]; exact n5, fun s s0 s1 => ?_, fun s t s0 s1 t0 t1 e1 e2 => ?_, fun b b0 b1 => ?_⟩
  · rw [e _ (by omega)] at s1
    have := WF_s wf s0 s1
    rw [e _ (by omega), e _ (by omega), e _ (by omega), e _ (by omega), e _ (by omega), zpd_s]
    exact ⟨this.1, this.2.1, this.2.2.1, fun h => ⟨(this.2.2.2.1 h).1, by have := (this.2.2.2.1 h).2; omega⟩, this.2.2.2.2⟩
  · rw [e _ (by omega)] at s1 t1
    rw [e _ (by omega), e _ (by omega)] at e1 e2
    exact WF_d wf s0 s1 t0 t1 e1 e2
  · rw [zpd_s] at b1
    rw [e _ (by omega), e _ (by omega), e _ (by omega), e 2 (by omega)]
    have hh : (∀ i, 0 ≤ i → i < (w ((6 + (11 * b)) + 1)) → 0 ≤ (w (((6 + (11 * b)) + 3) + i)) ∧ (w (((6 + (11 * b)) + 3) + i)) < w 2) → (∀ i, 0 ≤ i → i < (w ((6 + (11 * b)) + 2)) → 0 ≤ (w (((6 + (11 * b)) + 7) + i)) ∧ (w (((6 + (11 * b)) + 7) + i)) < w 2) → (∀ i, 0 ≤ i → i < (w ((6 + (11 * b)) + 1)) → 0 ≤ ((zpd w 3 (w 3 + 1)) (((6 + (11 * b)) + 3) + i)) ∧ ((zpd w 3 (w 3 + 1)) (((6 + (11 * b)) + 3) + i)) < w 2) ∧ (∀ i, 0 ≤ i → i < (w ((6 + (11 * b)) + 2)) → 0 ≤ ((zpd w 3 (w 3 + 1)) (((6 + (11 * b)) + 7) + i)) ∧ ((zpd w 3 (w 3 + 1)) (((6 + (11 * b)) + 7) + i)) < w 2) := fun g1 g2 => ⟨fun i i0 i1 => by rw [e _ (by omega)]; exact g1 i i0 i1, fun i i0 i1 => by rw [e _ (by omega)]; exact g2 i i0 i1⟩
    by_cases c : b = w 3
    · rw [c] at hh ⊢
      exact ⟨hb.1, hb.2.1, hb.2.2.1, hh hb.2.2.2.1 hb.2.2.2.2⟩
    · have := WF_b wf b0 (by omega)
      exact ⟨this.1, this.2.1, this.2.2.1, hh this.2.2.2.1 this.2.2.2.2⟩
def putS (w : Int → Int) (p day k o : Int) : Int → Int := zpd (zpd (zpd (zpd (zpd w (116 + (4 * w 4)) p) ((116 + (4 * w 4)) + 1) day) ((116 + (4 * w 4)) + 2) k) ((116 + (4 * w 4)) + 3) o) 4 (w 4 + 1)
theorem putS_o {w : Int → Int} {p day k o j : Int} (h : j < 116 + 4 * w 4 ∨ 116 + 4 * w 4 + 4 ≤ j) (h4 : j ≠ 4) : putS w p day k o j = w j := by
  unfold putS
  rw [zpd_n h4, zpd_n (by omega), zpd_n (by omega), zpd_n (by omega), zpd_n (by omega)]
theorem putS_at {w : Int → Int} {p day k o : Int} (h4 : 0 ≤ w 4) : putS w p day k o 4 = w 4 + 1 ∧ putS w p day k o (116 + (4 * w 4)) = p ∧ putS w p day k o ((116 + (4 * w 4)) + 1) = day ∧ putS w p day k o ((116 + (4 * w 4)) + 2) = k ∧ putS w p day k o ((116 + (4 * w 4)) + 3) = o := by
  unfold putS
  refine ⟨zpd_s, ?_, ?_, ?_, ?_⟩
  · rw [zpd_n (by omega), zpd_n (by omega), zpd_n (by omega), zpd_n (by omega), zpd_s]
  · rw [zpd_n (by omega), zpd_n (by omega), zpd_n (by omega), zpd_s]
  · rw [zpd_n (by omega), zpd_n (by omega), zpd_s]
  · rw [zpd_n (by omega), zpd_s]
theorem WF_ns {w : Int → Int} (wf : WF w) (h4 : w 4 < 60) {p day k o : Int} (p0 : 0 ≤ p ∧ p < w 2) (d0 : 0 ≤ day ∧ day ≤ 365) (k0 : 0 ≤ k ∧ k ≤ 3) (o0 : k = 0 → 0 ≤ o ∧ o < w 3) (o2 : k = 2 → 0 ≤ o ∧ o < w 2) (ho : rg o) (hn : ¬ has w p day) : WF (putS w p day k o) := by
  obtain ⟨n0, n1, n2, n3, n4, n5⟩ := WF_n wf
  have e : ∀ j, (j < 116 + 4 * w 4 ∨ 116 + 4 * w 4 + 4 ≤ j) → j ≠ 4 → putS w p day k o j = w j := fun j h h4 => putS_o h h4
  obtain ⟨a4, a0, a1, a2, a3⟩ := putS_at (w := w) (p := p) (day := day) (k := k) (o := o) (by omega)
  have hr : ∀ j, rg (putS w p day k o j) := by
    unfold putS
    exact rg_zpd (rg_zpd (rg_zpd (rg_zpd (rg_zpd (WF_rg wf) ⟨by omega, by omega⟩) ⟨by omega, by omega⟩) ⟨by omega, by omega⟩) ho) ⟨by omega, by omega⟩
  generalize putS w p day k o = u at *
  refine ⟨hr, by rw [e _ (by omega) (by omega)]; exact n0, by rw [e _ (by omega) (by omega)]; exact n1, by rw [e _ (by omega) (by omega)]; exact n2, by rw [e _ (by omega) (by omega)]; exact n3, by rw [a4]; omega, by rw [e _ (by omega) (by omega)]; exact n5, fun s s0 s1 => ?_, fun s t s0 s1 t0 t1 e1 e2 => ?_, fun b b0 b1 => ?_⟩
  · rw [a4] at s1
    rw [e 2 (by omega) (by omega), e 3 (by omega) (by omega)]
    by_cases c : s = w 4
    · rw [c, a0, a1, a2, a3]; exact ⟨p0, d0, k0, o0, o2⟩
    · have := WF_s wf s0 (by omega)
      rw [e _ (by omega) (by omega), e _ (by omega) (by omega), e _ (by omega) (by omega), e _ (by omega) (by omega)]
      exact this
  · rw [a4] at s1 t1
    have ho : ∀ s, 0 ≤ s → s < w 4 → u (116 + (4 * s)) = (w (116 + (4 * s))) ∧ u ((116 + (4 * s)) + 1) = (w ((116 + (4 * s)) + 1)) := fun s s0 s1 => ⟨e _ (by omega) (by omega), e _ (by omega) (by omega)⟩
    by_cases c : s = w 4
    · by_cases c2 : t = w 4
      · rw [c, c2]
      · have := ho t t0 (by omega)
        rw [c, a0, this.1] at e1
        rw [c, a1, this.2] at e2
        exact absurd ⟨t, t0, by omega, e1.symm, e2.symm⟩ hn
    · by_cases c2 : t = w 4
      · have := ho s s0 (by omega)
        rw [c2, a0, this.1] at e1
        rw [c2, a1, this.2] at e2
        exact absurd ⟨s, s0, by omega, e1, e2⟩ hn
      · have g1 := ho s s0 (by omega)
        have g2 := ho t t0 (by omega)
        rw [g1.1, g2.1] at e1
        rw [g1.2, g2.2] at e2
        exact WF_d wf s0 (by omega) t0 (by omega) e1 e2
  · rw [e 3 (by omega) (by omega)] at b1
    have := WF_b wf b0 b1
    rw [e 2 (by omega) (by omega), e (6 + (11 * b)) (by omega) (by omega), e ((6 + (11 * b)) + 1) (by omega) (by omega), e ((6 + (11 * b)) + 2) (by omega) (by omega)]
    exact ⟨this.1, this.2.1, this.2.2.1, fun i i0 i1 => by rw [e _ (by omega) (by omega)]; exact this.2.2.2.1 i i0 i1, fun i i0 i1 => by rw [e _ (by omega) (by omega)]; exact this.2.2.2.2 i i0 i1⟩
theorem bind_ok {α β : Type} {r : RE α} {f : α → RE β} {y : β} (h : Except.bind r f = Except.ok y) : ∃ x, r = Except.ok x ∧ f x = Except.ok y := by
  cases r with
  | error e => cases h
  | ok x => exact ⟨x, rfl, h⟩
section OK
variable {B : Int → Int} {n : Int} {S T : PS}
theorem word_ok {x : Int} {m : Nat} (e : oWord B n x m S = Except.ok T) : T = oStep B n S ∧ isW B S.1 x m := by
  unfold oWord at e
  by_cases c : isW B S.1 x m
  · rw [cif_t c] at e; cases e; exact ⟨rfl, c⟩
  · rw [cif_f c] at e; cases e
theorem num_ok {lo hi : Int} {r : Int × PS} (e : oNum B n lo hi S = Except.ok r) : r.2 = oStep B n S ∧ r.1 = S.1.2.2.2 ∧ S.1.1 = 2 ∧ lo ≤ r.1 ∧ r.1 ≤ hi := by
  unfold oNum at e
  split at e
  · split at e
    · rename_i h1 h2; cases e; exact ⟨rfl, rfl, h1, h2⟩
    · cases e
  · cases e
theorem told_ok {base j : Int} {r : Int × PS} (h0 : 0 ≤ S.2.1 j) (e : oTold B n base j S = Except.ok r) : r.2 = oStep B n S ∧ S.1.1 = 1 ∧ 0 ≤ r.1 ∧ r.1 < S.2.1 j := by
  unfold oTold at e
  split at e
  · split at e
    · cases e
    · rename_i h1 h2
      cases e
      have := fnd_rg (B := B) (c := S.1) (N := S.2.2) (base := base) h0
      exact ⟨rfl, h1, (this.resolve_left h2).1, (this.resolve_left h2).2⟩
  · cases e
theorem new_ok {slot : Int} (e : oNew B n slot S = Except.ok T) : T = (nx B n S.1.2.2.1, S.2.1, zpn S.2.2 slot (S.1.2.1, S.1.2.2.1 - S.1.2.1)) ∧ S.1.1 = 1 ∧ S.1.2.2.1 - S.1.2.1 ≤ 6 := by
  unfold oNew at e
  split at e
  · rename_i h1
    by_cases c : 6 < S.1.2.2.1 - S.1.2.1 ∨ own B S.1 ∨ fnd B S.1 S.2.2 0 (S.2.1 2) ≠ -1 ∨ fnd B S.1 S.2.2 8 (S.2.1 3) ≠ -1
    · rw [cif_t c] at e; cases e
    · rw [cif_f c] at e; cases e; exact ⟨rfl, h1, by omega⟩
  · cases e
theorem full_ok {j m : Int} (e : oFull B n j m S = Except.ok T) : T = oStep B n S ∧ S.2.1 j ≠ m := by
  unfold oFull at e
  split at e
  · cases e
  · rename_i h; cases e; exact ⟨rfl, h⟩
theorem stop_ok (e : oStop B n S = Except.ok T) : T = oStep B n S ∧ S.1.1 = 3 := by
  unfold oStop at e
  split at e
  · rename_i h; cases e; exact ⟨rfl, h⟩
  · cases e
theorem step_go (h : PSok B n S) : PSok B n (oStep B n S) ∧ S.1.2.1 ≤ (oStep B n S).1.2.1 := by
  have := step_ok h
  have h1 := h.1.1
  exact ⟨this.1, by omega⟩
/-- a name more -/
theorem name_ok (h : PSok B n S) {slot : Int} (hs : ¬ ((0 ≤ slot ∧ slot < S.2.1 2) ∨ (8 ≤ slot ∧ slot < 8 + S.2.1 3))) (e : oNew B n slot S = Except.ok T) : PSok B n T ∧ S.1.2.1 ≤ T.1.2.1 ∧ T.2.1 = S.2.1 ∧ NMs B n (T.2.2 slot) := by
  obtain ⟨e1, e2, e3⟩ := new_ok e
  have g := step_go h
  obtain ⟨h1, h2, h3, h4, h5⟩ := h
  rw [e1]
  have hz : zpn S.2.2 slot (S.1.2.1, S.1.2.2.1 - S.1.2.1) slot = (S.1.2.1, S.1.2.2.1 - S.1.2.1) := if_pos rfl
  refine ⟨⟨g.1.1, h2, h3, g.1.2.2.2.1, fun p hp => ?_⟩, g.2, rfl, ?_⟩
  · have : zpn S.2.2 slot (S.1.2.1, S.1.2.2.1 - S.1.2.1) p = S.2.2 p := if_neg (fun e => hs (by rw [← e]; exact hp))
    show NMs B n (zpn S.2.2 slot (S.1.2.1, S.1.2.2.1 - S.1.2.1) p)
    rw [this]; exact h5 p hp
  · show NMs B n (zpn S.2.2 slot (S.1.2.1, S.1.2.2.1 - S.1.2.1) slot)
    rw [hz]
    have a1 := h1.1
    have a2 := h1.2.2.2.1 (by omega)
    refine ⟨⟨by show 1 ≤ S.1.2.2.1 - S.1.2.1; omega, e3⟩, ⟨a1.1, by show S.1.2.1 + (S.1.2.2.1 - S.1.2.1) ≤ n; omega⟩, fun k k0 k1 => ?_⟩
    have k1 : k < S.1.2.2.1 - S.1.2.1 := k1
    exact h1.2.2.2.2.2 e2 (S.1.2.1 + k) (by omega) (by omega)
theorem page_ok (h : PSok B n S) (e : oPage B n S = Except.ok T) : PSok B n T ∧ S.1.2.1 ≤ T.1.2.1 := by
  obtain ⟨S1, e1, e⟩ := bind_ok e
  obtain ⟨S2, e2, e⟩ := bind_ok e
  obtain ⟨r1, r2⟩ := full_ok e1
  have g1 := step_go h
  have hw1 : S1.2 = S.2 := by rw [r1]; rfl
  rw [← r1] at g1
  have n1 := WF_n g1.1.2.1
  have hw2 : S1.2.1 2 ≠ 8 := by rw [hw1]; exact r2
  have g2 := name_ok g1.1 (slot := S1.2.1 2) (by omega) e2
  cases e
  obtain ⟨p1, p2, p3, p4⟩ := g2
  have n2 := WF_n p1.2.1
  rw [p3] at n2
  refine ⟨⟨p1.1, ?_, ?_, ?_, ?_⟩, by show S.1.2.1 ≤ S2.1.2.1; omega⟩
  · show WF (zpd S2.2.1 2 (S2.2.1 2 + 1))
    refine WF_of p1.2.1 (rg_zpd (WF_rg p1.2.1) (by rw [p3]; exact ⟨by omega, by omega⟩)) ?_ ?_ ?_ ?_ ?_ ?_ (fun j j0 j1 => zpd_n (by omega)) (fun j j0 j1 => zpd_n (by omega))
    · rw [zpd_n (by omega), p3]; exact n2.1
    · rw [zpd_n (by omega), p3]; exact n2.2.1
    · rw [zpd_s, p3]; omega
    · rw [zpd_n (by omega)]
    · rw [zpd_n (by omega)]
    · rw [zpd_n (by omega), p3]; exact n2.2.2.2.2.2
  · show zpd S2.2.1 2 (S2.2.1 2 + 1) 4 ≤ 40
    rw [zpd_n (by omega)]; exact p1.2.2.1
  · show zpd S2.2.1 2 (S2.2.1 2 + 1) 5 ≤ S2.1.2.1
    rw [zpd_n (by omega)]; exact p1.2.2.2.1
  · intro p hp
    have hp : (0 ≤ p ∧ p < zpd S2.2.1 2 (S2.2.1 2 + 1) 2) ∨ (8 ≤ p ∧ p < 8 + zpd S2.2.1 2 (S2.2.1 2 + 1) 3) := hp
    rw [zpd_s, zpd_n (by omega)] at hp
    by_cases c : p = S1.2.1 2
    · rw [c]; exact p4
    · exact p1.2.2.2.2 p (by rw [p3] at hp ⊢; omega)
theorem PSok_set (h : PSok B n S) {j v : Int} (hv : rg v) (h3 : S.2.1 3 < 10) (j0 : 6 + 11 * S.2.1 3 ≤ j) (j1 : j < 6 + 11 * S.2.1 3 + 11) : PSok B n (oSet j v S) := by
  obtain ⟨h1, h2, h4, h5, h6⟩ := h
  have nn := WF_n h2
  refine ⟨h1, WF_of h2 (rg_zpd (WF_rg h2) hv) ?_ ?_ ?_ ?_ ?_ ?_ (fun i i0 i1 => zpd_n (by omega)) (fun i i0 i1 => zpd_n (by omega)), ?_, ?_, ?_⟩
  · show 0 ≤ zpd S.2.1 j v 0 ∧ zpd S.2.1 j v 0 ≤ 2
    rw [zpd_n (by omega)]; exact nn.1
  · show 0 ≤ zpd S.2.1 j v 1 ∧ zpd S.2.1 j v 1 ≤ 1
    rw [zpd_n (by omega)]; exact nn.2.1
  · show S.2.1 2 ≤ zpd S.2.1 j v 2 ∧ zpd S.2.1 j v 2 ≤ 8
    rw [zpd_n (by omega)]; omega
  · exact zpd_n (by omega)
  · exact zpd_n (by omega)
  · show 0 ≤ zpd S.2.1 j v 5 ∧ zpd S.2.1 j v 5 ≤ 1200
    rw [zpd_n (by omega)]; exact nn.2.2.2.2.2
  · show zpd S.2.1 j v 4 ≤ 40
    rw [zpd_n (by omega)]; exact h4
  · show zpd S.2.1 j v 5 ≤ S.1.2.1
    rw [zpd_n (by omega)]; exact h5
  · intro p hp
    have hp : (0 ≤ p ∧ p < zpd S.2.1 j v 2) ∨ (8 ≤ p ∧ p < 8 + zpd S.2.1 j v 3) := hp
    rw [zpd_n (by omega), zpd_n (by omega)] at hp
    exact h6 p hp
end OK
