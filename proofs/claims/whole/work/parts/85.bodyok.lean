/-! THE READER: what it makes is well formed, on -/
section OK
variable {B : Int → Int} {n : Int} {S T : PS}
theorem pg_ok {x at0 : Int} : ∀ (k : Nat) (i : Int) (S T : PS) (m : Int), PSok B n S → S.2.1 3 < 10 → 6 + 11 * S.2.1 3 ≤ at0 → at0 + 4 ≤ 6 + 11 * S.2.1 3 + 11 → 0 ≤ i → i + k = 4 → oPg B n x at0 k i S = Except.ok (m, T) → PSok B n T ∧ S.1.2.1 ≤ T.1.2.1 ∧ (i ≤ m ∧ m ≤ 4) ∧ (∀ j, (j < at0 + i ∨ at0 + 4 ≤ j) → T.2.1 j = S.2.1 j) ∧ (∀ j, i ≤ j → j < m → 0 ≤ T.2.1 (at0 + j) ∧ T.2.1 (at0 + j) < S.2.1 2) := by
  intro k
  induction k with
  | zero =>
    intro i S T m h h3 a0 a1 i0 ik e
    unfold oPg at e
    by_cases c : isW B S.1 x 4
    · rw [cif_t c] at e; cases e
    · rw [cif_f c] at e; cases e
      exact ⟨h, Int.le_refl _, ⟨Int.le_refl _, by omega⟩, fun j _ => rfl, fun j j0 j1 => by omega⟩
  | succ k ih =>
    intro i S T m h h3 a0 a1 i0 ik e
    unfold oPg at e
    by_cases c : isW B S.1 x 4
    · rw [cif_t c] at e
      obtain ⟨r, e1, e⟩ := bind_ok e
      have g1 := step_go h
      have n1 := WF_n g1.1.2.1
      have ew : (oStep B n S).2.1 = S.2.1 := rfl
      have g2 := told_ok (by omega) e1
      have g3 := step_go g1.1
      rw [← g2.1] at g3
      have ew2 : r.2.2.1 = S.2.1 := by rw [g2.1]; rfl
      rw [ew] at n1 g2
      have g4 := PSok_set (j := at0 + i) (v := r.1) g3.1 ⟨by omega, by omega⟩ (by rw [ew2]; exact h3) (by rw [ew2]; omega) (by rw [ew2]; omega)
      have hs : (oSet (at0 + i) r.1 r.2).2.1 = zpd S.2.1 (at0 + i) r.1 := by show zpd r.2.2.1 (at0 + i) r.1 = _; rw [ew2]
      have hk : ∀ j, j ≠ at0 + i → (oSet (at0 + i) r.1 r.2).2.1 j = S.2.1 j := fun j hj => by rw [hs, zpd_n hj]
      have h33 : (oSet (at0 + i) r.1 r.2).2.1 3 = S.2.1 3 := hk 3 (by have := n1; omega)
      have h22 : (oSet (at0 + i) r.1 r.2).2.1 2 = S.2.1 2 := hk 2 (by have := n1; omega)
      have := ih (i + 1) _ T m g4 (by rw [h33]; exact h3) (by rw [h33]; exact a0) (by rw [h33]; exact a1) (by omega) (by omega) e
      obtain ⟨q1, q2, q3, q4, q5⟩ := this
      rw [h22] at q5
      refine ⟨q1, ?_, ⟨by omega, q3.2⟩, fun j hj => ?_, fun j j0 j1 => ?_⟩
      · have : r.2.1.2.1 ≤ T.1.2.1 := q2
        have := g3.2
        have := g1.2
        omega
      · rw [q4 j (by omega), hk j (by omega)]
      · by_cases c2 : j = i
        · rw [c2, q4 _ (by omega), hs, zpd_s]; omega
        · exact q5 j (by omega) j1
    · rw [cif_f c] at e; cases e
      exact ⟨h, Int.le_refl _, ⟨Int.le_refl _, by omega⟩, fun j _ => rfl, fun j j0 j1 => by omega⟩
theorem pg_N {x at0 : Int} : ∀ {k : Nat} {i : Int} {S T : PS} {m : Int}, oPg B n x at0 k i S = Except.ok (m, T) → T.2.2 = S.2.2 := by
  intro k
  induction k with
  | zero =>
    intro i S T m e
    unfold oPg at e
    by_cases c : isW B S.1 x 4
    · rw [cif_t c] at e; cases e
    · rw [cif_f c] at e; cases e; rfl
  | succ k ih =>
    intro i S T m e
    unfold oPg at e
    by_cases c : isW B S.1 x 4
    · rw [cif_t c] at e
      obtain ⟨r, e1, e⟩ := bind_ok e
      rw [ih e]
      show r.2.2.2 = _
      have : r.2 = oStep B n (oStep B n S) := by
        unfold oTold at e1
        split at e1
        · split at e1
          · cases e1
          · cases e1; rfl
        · cases e1
      rw [this]; rfl
    · rw [cif_f c] at e; cases e; rfl
theorem body_ok (h : PSok B n S) (e : oBody B n S = Except.ok T) : PSok B n T ∧ S.1.2.1 ≤ T.1.2.1 := by
  obtain ⟨S1, e1, e⟩ := bind_ok e
  obtain ⟨S2, e2, e⟩ := bind_ok e
  obtain ⟨S3, e3, e⟩ := bind_ok e
  obtain ⟨⟨v, S4⟩, e4, e⟩ := bind_ok e
  obtain ⟨⟨p, S5⟩, e5, e⟩ := bind_ok e
  obtain ⟨⟨l, S6⟩, e6, e⟩ := bind_ok e
  obtain ⟨r1, r2⟩ := full_ok e1
  have g1 := step_go h
  have w1 : S1.2 = S.2 := by rw [r1]; rfl
  rw [← r1] at g1
  have n1 := WF_n g1.1.2.1
  have h3 : S1.2.1 3 < 10 := by
    have : S1.2.1 3 ≠ 10 := by rw [w1]; exact r2
    omega
  obtain ⟨g2, m2, w2, nm⟩ := name_ok g1.1 (slot := 8 + S1.2.1 3) (by omega) e2
  have r3 := (word_ok e3).1
  have g3 := step_go g2
  have w3 : S3.2 = S2.2 := by rw [r3]; rfl
  rw [← r3] at g3
  have r4 := num_ok e4
  have g4 := step_go g3.1
  have hS4 : S4 = oStep B n S3 := r4.1
  have w4 : S4.2 = S3.2 := by rw [hS4]; rfl
  rw [← hS4] at g4
  have hv : 1 ≤ v ∧ v ≤ 999 := r4.2.2.2
  have ww : S4.2.1 = S1.2.1 := by rw [w4, w3, w2]
  generalize hb : 6 + 11 * S1.2.1 3 = b at *
  have e5 : oPg B n 1010 (6 + 11 * S2.2.1 3 + 3) 4 0 (oSet (6 + 11 * S2.2.1 3) v S4) = Except.ok (p, S5) := e5
  have e6 : oPg B n 1011 (6 + 11 * S2.2.1 3 + 7) 4 0 (oSet (6 + 11 * S2.2.1 3 + 1) p S5) = Except.ok (l, S6) := e6
  have e : Except.ok (oSet 3 (S6.2.1 3 + 1) (oSet (6 + 11 * S2.2.1 3 + 2) l S6)) = Except.ok T := e
  rw [w2, hb] at e5 e6 e
  have f4 : S4.2.1 3 = S1.2.1 3 := by rw [ww]
  have g5 := PSok_set (j := b) (v := v) g4.1 ⟨by omega, by omega⟩ (by omega) (by omega) (by omega)
  have u5 : ∀ j, j ≠ b → (oSet b v S4).2.1 j = S1.2.1 j := fun j hj => by show zpd S4.2.1 b v j = _; rw [zpd_n hj, ww]
  have u53 := u5 3 (by omega)
  have u52 := u5 2 (by omega)
  have k5 := pg_ok 4 0 _ S5 p g5 (by omega) (by omega) (by omega) (by omega) (by omega) e5
  obtain ⟨q1, q2, q3, q4, q5⟩ := k5
  have f53 : S5.2.1 3 = S1.2.1 3 := by rw [q4 3 (by omega), u53]
  have f52 : S5.2.1 2 = S1.2.1 2 := by rw [q4 2 (by omega), u52]
  have g6 := PSok_set (j := b + 1) (v := p) q1 ⟨by omega, by omega⟩ (by omega) (by omega) (by omega)
  have u6 : ∀ j, j ≠ b + 1 → (oSet (b + 1) p S5).2.1 j = S5.2.1 j := fun j hj => by show zpd S5.2.1 (b + 1) p j = _; rw [zpd_n hj]
  have u6s : (oSet (b + 1) p S5).2.1 (b + 1) = p := zpd_s
  have u63 := u6 3 (by omega)
  have u62 := u6 2 (by omega)
  have k6 := pg_ok 4 0 _ S6 l g6 (by omega) (by omega) (by omega) (by omega) (by omega) e6
  obtain ⟨s1, s2, s3, s4, s5⟩ := k6
  have f63 : S6.2.1 3 = S1.2.1 3 := by rw [s4 3 (by omega), u63, f53]
  have f62 : S6.2.1 2 = S1.2.1 2 := by rw [s4 2 (by omega), u62, f52]
  rw [f63] at e
  have g7 := PSok_set (j := b + 2) (v := l) s1 ⟨by omega, by omega⟩ (by omega) (by omega) (by omega)
  have u7 : ∀ j, j ≠ b + 2 → (oSet (b + 2) l S6).2.1 j = S6.2.1 j := fun j hj => by show zpd S6.2.1 (b + 2) l j = _; rw [zpd_n hj]
  have u7s : (oSet (b + 2) l S6).2.1 (b + 2) = l := zpd_s
  have hT : T = oSet 3 (S1.2.1 3 + 1) (oSet (b + 2) l S6) := by cases e; rfl
  have m7 : S.1.2.1 ≤ S6.1.2.1 := by
    have a1 : S4.1.2.1 ≤ S5.1.2.1 := q2
    have a2 : S5.1.2.1 ≤ S6.1.2.1 := s2
    have := g1.2
    have := g3.2
    have := g4.2
    omega
  have u73 : (oSet (b + 2) l S6).2.1 3 = S1.2.1 3 := by rw [u7 3 (by omega), f63]
  have u72 : (oSet (b + 2) l S6).2.1 2 = S1.2.1 2 := by rw [u7 2 (by omega), f62]
  have x0 : (oSet (b + 2) l S6).2.1 b = v := by
    rw [u7 _ (by omega), s4 _ (by omega), u6 _ (by omega), q4 _ (by omega)]; exact zpd_s
  have x1 : (oSet (b + 2) l S6).2.1 (b + 1) = p := by rw [u7 _ (by omega), s4 _ (by omega), u6s]
  have x3 : ∀ i, 0 ≤ i → i < p → 0 ≤ (oSet (b + 2) l S6).2.1 (b + 3 + i) ∧ (oSet (b + 2) l S6).2.1 (b + 3 + i) < S1.2.1 2 := fun i i0 i1 => by
    rw [u7 _ (by omega), s4 _ (by omega), u6 _ (by omega)]
    have := q5 i i0 i1
    rw [u52] at this; exact this
  have x7 : ∀ i, 0 ≤ i → i < l → 0 ≤ (oSet (b + 2) l S6).2.1 (b + 7 + i) ∧ (oSet (b + 2) l S6).2.1 (b + 7 + i) < S1.2.1 2 := fun i i0 i1 => by
    rw [u7 _ (by omega)]
    have := s5 i i0 i1
    rw [u62, f52] at this; exact this
  have N7 : (oSet (b + 2) l S6).2.2 = S6.2.2 := rfl
  have m8 : (oSet (b + 2) l S6).1 = S6.1 := rfl
  generalize hU : oSet (b + 2) l S6 = U at *
  obtain ⟨y1, y2, y3, y4, y5⟩ := g7
  rw [hT]
  have hwf : WF (zpd U.2.1 3 (U.2.1 3 + 1)) := by
    refine WF_nb y2 (by omega) ?_
    rw [u73, hb, x0, x1, u7s, u72]
    exact ⟨hv, ⟨q3.1, q3.2⟩, ⟨s3.1, s3.2⟩, x3, x7⟩
  rw [u73] at hwf
  refine ⟨⟨y1, hwf, ?_, ?_, ?_⟩, by show S.1.2.1 ≤ U.1.2.1; rw [m8]; exact m7⟩
  · show zpd U.2.1 3 (S1.2.1 3 + 1) 4 ≤ 40
    rw [zpd_n (by omega)]; exact y3
  · show zpd U.2.1 3 (S1.2.1 3 + 1) 5 ≤ U.1.2.1
    rw [zpd_n (by omega)]; exact y4
  · intro q hq
    have hq : (0 ≤ q ∧ q < zpd U.2.1 3 (S1.2.1 3 + 1) 2) ∨ (8 ≤ q ∧ q < 8 + zpd U.2.1 3 (S1.2.1 3 + 1) 3) := hq
    rw [zpd_n (by omega), zpd_s] at hq
    by_cases c : q = 8 + S1.2.1 3
    · have hN : U.2.2 = S2.2.2 := by
        rw [N7, pg_N e6]
        show S5.2.2 = _
        rw [pg_N e5]
        show S4.2.2 = _
        rw [w4, w3]
      show NMs B n (U.2.2 q)
      rw [hN, c]; exact nm
    · exact y5 q (by omega)
end OK
