/-! THE READER: what it makes is well formed, to the end -/
section OK
variable {B : Int → Int} {n : Int} {S T : PS}
theorem of_ok {k : Int} {r : Int × PS} (h : PSok B n S) (e : oOf B n k S = Except.ok r) : PSok B n r.2 ∧ S.1.2.1 ≤ r.2.1.2.1 ∧ r.2.2 = S.2 ∧ (k = 0 → 0 ≤ r.1 ∧ r.1 < S.2.1 3) ∧ (k = 2 → 0 ≤ r.1 ∧ r.1 < S.2.1 2) ∧ rg r.1 := by
  have nn := WF_n h.2.1
  unfold oOf at e
  by_cases c0 : k = 0
  · rw [if_pos c0] at e
    obtain ⟨S1, e1, e⟩ := bind_ok e
    have r1 := (word_ok e1).1
    have g1 := step_go h
    have w1 : S1.2 = S.2 := by rw [r1]; rfl
    rw [← r1] at g1
    have t := told_ok (by rw [w1]; omega) e
    have g2 := step_go g1.1
    rw [← t.1] at g2
    rw [w1] at t
    exact ⟨g2.1, by have := g1.2; have := g2.2; omega, by rw [t.1]; exact w1, fun _ => ⟨t.2.2.1, t.2.2.2⟩, fun h2 => by omega, ⟨by omega, by omega⟩⟩
  · rw [if_neg c0] at e
    by_cases c2 : k = 2
    · rw [if_pos c2] at e
      obtain ⟨S1, e1, e⟩ := bind_ok e
      have r1 := (word_ok e1).1
      have g1 := step_go h
      have w1 : S1.2 = S.2 := by rw [r1]; rfl
      rw [← r1] at g1
      have t := told_ok (by rw [w1]; omega) e
      have g2 := step_go g1.1
      rw [← t.1] at g2
      rw [w1] at t
      exact ⟨g2.1, by have := g1.2; have := g2.2; omega, by rw [t.1]; exact w1, fun h2 => by omega, fun _ => ⟨t.2.2.1, t.2.2.2⟩, ⟨by omega, by omega⟩⟩
    · rw [if_neg c2] at e
      cases e
      exact ⟨h, Int.le_refl _, rfl, fun h => absurd h c0, fun h => absurd h c2, (⟨by decide, by decide⟩ : rg (-1))⟩
theorem day_ok {p : Int} {r : Int × PS} (e : oDay B n p S = Except.ok r) : r.2 = oStep B n S ∧ (0 ≤ r.1 ∧ r.1 ≤ 365) ∧ ¬ has S.2.1 p r.1 := by
  obtain ⟨q, e1, e⟩ := bind_ok e
  have t := num_ok e1
  by_cases c : has S.2.1 p q.1
  · rw [cif_t c] at e; cases e
  · rw [cif_f c] at e; cases e; exact ⟨t.1, t.2.2.2, c⟩
theorem shot_ok {k : Int} (k0 : 0 ≤ k ∧ k ≤ 3) (h : PSok B n S) (e : oShot B n k S = Except.ok T) : PSok B n T ∧ S.1.2.1 ≤ T.1.2.1 := by
  obtain ⟨S1, e1, e⟩ := bind_ok e
  obtain ⟨p, e2, e⟩ := bind_ok e
  obtain ⟨S3, e3, e⟩ := bind_ok e
  obtain ⟨y, e4, e⟩ := bind_ok e
  obtain ⟨o, e5, e⟩ := bind_ok e
  have nn := WF_n h.2.1
  obtain ⟨r1, r2⟩ := full_ok e1
  have g1 := step_go h
  have w1 : S1.2 = S.2 := by rw [r1]; rfl
  rw [← r1] at g1
  have t2 := told_ok (by rw [w1]; omega) e2
  have g2 := step_go g1.1
  rw [← t2.1] at g2
  have w2 : p.2.2 = S.2 := by rw [t2.1]; exact w1
  have r3 := (word_ok e3).1
  have g3 := step_go g2.1
  rw [← r3] at g3
  have w3 : S3.2 = S.2 := by rw [r3]; exact w2
  have t4 := day_ok e4
  have g4 := step_go g3.1
  rw [← t4.1] at g4
  have w4 : y.2.2 = S.2 := by rw [t4.1]; exact w3
  obtain ⟨a1, a2, a3, a4, a5, a6⟩ := of_ok g4.1 e5
  rw [w4] at a3 a4 a5
  rw [w3] at t4
  rw [w1] at t2
  have hT : T = oPut p.1 y.1 k o.1 o.2 := by cases e; rfl
  have h41 : S.2.1 4 < 40 := by have := h.2.2.1; omega
  have hw : T.2.1 = putS S.2.1 p.1 y.1 k o.1 := by rw [hT, ← a3]; rfl
  have hT1 : T.1 = o.2.1 := by rw [hT]; rfl
  have hT2 : T.2.2 = S.2.2 := by rw [hT]; show o.2.2.2 = _; rw [a3]
  have hwf : WF T.2.1 := by
    rw [hw]
    exact WF_ns h.2.1 (by omega) ⟨t2.2.2.1, t2.2.2.2⟩ t4.2.1 k0 a4 a5 a6 t4.2.2
  have hp := putS_at (w := S.2.1) (p := p.1) (day := y.1) (k := k) (o := o.1) (by omega)
  have hmn : S.1.2.1 ≤ o.2.1.2.1 := by have := g1.2; have := g2.2; have := g3.2; have := g4.2; omega
  refine ⟨⟨by rw [hT1]; exact a1.1, hwf, ?_, ?_, ?_⟩, by rw [hT1]; exact hmn⟩
  · rw [hw, hp.1]; omega
  · rw [hw, putS_o (by omega) (by omega), hT1]
    have := h.2.2.2.1; omega
  · intro q hq
    rw [hw, putS_o (by omega) (by omega), putS_o (by omega) (by omega)] at hq
    rw [hT2]; exact h.2.2.2.2 q hq
theorem PSok_top (h : PSok B n S) {j v : Int} (hj : j = 0 ∧ 0 ≤ v ∧ v ≤ 2 ∨ j = 1 ∧ 0 ≤ v ∧ v ≤ 1) : PSok B n (oSet j v S) := by
  obtain ⟨h1, h2, h4, h5, h6⟩ := h
  have nn := WF_n h2
  have e : ∀ i, i ≠ j → (oSet j v S).2.1 i = S.2.1 i := fun i hi => zpd_n hi
  have es : (oSet j v S).2.1 j = v := zpd_s
  refine ⟨h1, WF_of h2 (rg_zpd (WF_rg h2) ⟨by omega, by omega⟩) ?_ ?_ ?_ ?_ ?_ ?_ (fun i i0 i1 => e i (by omega)) (fun i i0 i1 => e i (by omega)), ?_, ?_, ?_⟩
  · by_cases c : j = 0
    · rw [c] at es ⊢; show 0 ≤ (oSet 0 v S).2.1 0 ∧ (oSet 0 v S).2.1 0 ≤ 2; rw [es]; omega
    · show 0 ≤ (oSet j v S).2.1 0 ∧ (oSet j v S).2.1 0 ≤ 2; rw [e _ (by omega)]; exact nn.1
  · by_cases c : j = 1
    · rw [c] at es ⊢; show 0 ≤ (oSet 1 v S).2.1 1 ∧ (oSet 1 v S).2.1 1 ≤ 1; rw [es]; omega
    · show 0 ≤ (oSet j v S).2.1 1 ∧ (oSet j v S).2.1 1 ≤ 1; rw [e _ (by omega)]; exact nn.2.1
  · show S.2.1 2 ≤ (oSet j v S).2.1 2 ∧ (oSet j v S).2.1 2 ≤ 8; rw [e _ (by omega)]; omega
  · exact e _ (by omega)
  · exact e _ (by omega)
  · show 0 ≤ (oSet j v S).2.1 5 ∧ (oSet j v S).2.1 5 ≤ 1200; rw [e _ (by omega)]; exact nn.2.2.2.2.2
  · rw [e _ (by omega)]; exact h4
  · rw [e _ (by omega)]; exact h5
  · intro p hp
    rw [e _ (by omega), e _ (by omega)] at hp
    exact h6 p hp
theorem first_ok (h : PSok B n S) (e : oFirst B n S = Except.ok T) : PSok B n T ∧ S.1.2.1 ≤ T.1.2.1 := by
  obtain ⟨S1, e1, e⟩ := bind_ok e
  obtain ⟨S2, e2, e⟩ := bind_ok e
  obtain ⟨r, e3, e⟩ := bind_ok e
  obtain ⟨S4, e4, e⟩ := bind_ok e
  obtain ⟨q, e5, e⟩ := bind_ok e
  have g1 := step_go h
  rw [← (word_ok e1).1] at g1
  have g2 := step_go g1.1
  rw [← (word_ok e2).1] at g2
  have t3 := num_ok e3
  have g3 := step_go g2.1
  rw [← t3.1] at g3
  have g4 := PSok_top g3.1 (j := 0) (v := r.1) (Or.inl ⟨rfl, t3.2.2.2⟩)
  have g5 := step_go g4
  rw [← (word_ok e4).1] at g5
  have t5 := num_ok e5
  have g6 := step_go g5.1
  rw [← t5.1] at g6
  have g7 := PSok_top g6.1 (j := 1) (v := q.1) (Or.inr ⟨rfl, t5.2.2.2⟩)
  have hT : T = oSet 1 q.1 q.2 := by cases e; rfl
  rw [hT]
  have m5 : r.2.1.2.1 ≤ S4.1.2.1 := g5.2
  exact ⟨g7, by show S.1.2.1 ≤ q.2.1.2.1; have := g1.2; have := g2.2; have := g3.2; have := g6.2; omega⟩
theorem line_ok (h : PSok B n S) (e : oLine B n S = Except.ok T) : PSok B n T ∧ S.1.2.1 ≤ T.1.2.1 := by
  unfold oLine at e
  by_cases c1 : isW B S.1 1000 4
  · rw [cif_t c1] at e; exact page_ok h e
  · rw [cif_f c1] at e
    by_cases c2 : isW B S.1 1001 4
    · rw [cif_t c2] at e; exact body_ok h e
    · rw [cif_f c2] at e
      by_cases c3 : isW B S.1 1005 4
      · rw [cif_t c3] at e; exact shot_ok (by omega) h e
      · rw [cif_f c3] at e
        by_cases c4 : isW B S.1 1006 4
        · rw [cif_t c4] at e; exact shot_ok (by omega) h e
        · rw [cif_f c4] at e
          by_cases c5 : isW B S.1 1007 4
          · rw [cif_t c5] at e; exact shot_ok (by omega) h e
          · rw [cif_f c5] at e
            by_cases c6 : isW B S.1 1008 4
            · rw [cif_t c6] at e; exact shot_ok (by omega) h e
            · rw [cif_f c6] at e; cases e
theorem stop5_ok (hn : n ≤ 1200) (h : PSok B n S) (e1 : S.1.1 = 3) : PSok B n (oSet 5 ((oStep B n S).2.1 5 + 1) (oStep B n S)) ∧ S.1.2.1 < (oStep B n S).1.2.1 := by
  have g := step_ok h
  have hl := h.1.2.2.2.1 (by omega)
  have h5 := h.2.2.2.1
  have nn := WF_n h.2.1
  have g1 := g.1.1.1
  obtain ⟨a1, a2, a3, a4, a5⟩ := g.1
  have ew : (oStep B n S).2.1 = S.2.1 := rfl
  have e : ∀ i, i ≠ 5 → (oSet 5 ((oStep B n S).2.1 5 + 1) (oStep B n S)).2.1 i = S.2.1 i := fun i hi => zpd_n hi
  have es : (oSet 5 ((oStep B n S).2.1 5 + 1) (oStep B n S)).2.1 5 = S.2.1 5 + 1 := by show zpd S.2.1 5 (S.2.1 5 + 1) 5 = _; rw [zpd_s]
  refine ⟨⟨a1, WF_of h.2.1 (rg_zpd (WF_rg h.2.1) (by rw [ew]; exact ⟨by omega, by omega⟩)) ?_ ?_ ?_ ?_ ?_ ?_ (fun i i0 i1 => e i (by omega)) (fun i i0 i1 => e i (by omega)), ?_, ?_, ?_⟩, by omega⟩
  · rw [e 0 (by omega)]; exact nn.1
  · rw [e 1 (by omega)]; exact nn.2.1
  · rw [e 2 (by omega)]; omega
  · exact e _ (by omega)
  · exact e _ (by omega)
  · rw [es]; omega
  · rw [e _ (by omega)]; exact h.2.2.1
  · rw [es]; show S.2.1 5 + 1 ≤ (oStep B n S).1.2.1; omega
  · intro p hp
    rw [e _ (by omega), e _ (by omega)] at hp
    exact a5 p hp
theorem text_ok (hn : n ≤ 1200) (h : PSok B n S) (e : oText B n S = Except.ok T) : PSok B n T ∧ S.1.2.1 < T.1.2.1 := by
  obtain ⟨S1, e1, e⟩ := bind_ok e
  obtain ⟨S2, e2, e⟩ := bind_ok e
  have g1 : PSok B n S1 ∧ S.1.2.1 ≤ S1.1.2.1 := by
    split at e1
    · exact first_ok h e1
    · exact line_ok h e1
  have t2 := stop_ok e2
  have g2 := stop5_ok hn g1.1 t2.2
  rw [← t2.1] at g2
  have hT : T = oSet 5 (S2.2.1 5 + 1) S2 := by cases e; rfl
  rw [hT]
  exact ⟨g2.1, by show S.1.2.1 < S2.1.2.1; have := g1.2; have := g2.2; omega⟩
end OK
