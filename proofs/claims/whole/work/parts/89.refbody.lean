/-! THE READER by the reference: first line, page, body -/
theorem ebind_assoc {α β γ : Type} (r : RE α) (f : α → RE β) (g : β → RE γ) : Except.bind (Except.bind r f) g = Except.bind r (fun x => Except.bind (f x) g) := by
  cases r <;> rfl
section RE
variable {d : Nat} {G : zG} {Q : zQ} {B : Int → Int} {n : Int} {S : PS} {r : RE PS}
theorem PR_set {j v : Int} (h : PR B n G S) : PR B n (zu G 299 j v) (oSet j v S) := by
  obtain ⟨h2, h3, h4, h5, h6⟩ := h
  refine ⟨⟨by rw [zu_kj (by omega)]; exact h2.1, fun i i0 i1 => by rw [zu_kj (by omega)]; exact h2.2 i i0 i1⟩, ⟨by rw [zu_kj (by omega)]; exact h3.1, by rw [zu_kj (by omega)]; exact h3.2.1, by rw [zu_kj (by omega)]; exact h3.2.2.1, fun h => by rw [zu_kj (by omega)]; exact h3.2.2.2 h⟩, ⟨by rw [zu_kj (by omega)]; exact h4.1, by rw [zu_kj (by omega)]; exact h4.2⟩, ?_, fun p p0 p1 hp i i0 i1 => by rw [zu_kj (by omega)]; exact h6 p p0 p1 hp i i0 i1⟩
  rw [zu_f, h5]; rfl
set_option maxHeartbeats 4000000 in
theorem c209 (hT : TP B n) (hR : RS B n G r) (hQ : ∀ G1, fr G G1 SRD → RS B n G1 (Except.bind r (oFirst B n)) → Q none G1) : zW (d + 6) 209 [zr 9 0 297] G Q := by
  refine zm_209 (zs_209_0 (c199 hT hR (by omega) (fun G1 f1 hR1 => zs_209_7 (c201 hT hR1 (by omega) (by omega) (by omega) (fun G2 v f2 hR2 => ?_)))))
  apply zs_209_21
  · exact ⟨by decide, by decide⟩
  have hR3 := RS_set (j := 0) hR2 (by omega) (fun p hp hok => PSok_top hok (Or.inl ⟨rfl, by
    obtain ⟨x, _, hx⟩ := bind_ok hp
    exact (num_ok hx).2.2.2⟩))
  refine c201 hT hR3 (by omega) (by omega) (by omega) (fun G3 u f3 hR4 => ?_)
  apply zs_209_36
  · exact ⟨by decide, by decide⟩
  have hR5 := RS_set (j := 1) hR4 (by omega) (fun p hp hok => PSok_top hok (Or.inr ⟨rfl, by
    obtain ⟨x, _, hx⟩ := bind_ok hp
    exact (num_ok hx).2.2.2⟩))
  refine hQ _ (fr_u (fr_trans (fr_u (fr_trans f1 f2 (fun _ _ t => t)) (Or.inl ⟨rfl, by omega, by omega⟩)) f3 (fun _ _ t => t)) (Or.inl ⟨rfl, by omega, by omega⟩)) ?_
  simp only [ebind_assoc] at hR5
  exact hR5
set_option maxHeartbeats 4000000 in
theorem c210 (hT : TP B n) (hR : RS B n G (Except.ok S)) (hQ : ∀ G1, fr G G1 SRD → RS B n G1 (oPage B n S) → Q none G1) : zW (d + 6) 210 [zr 9 0 297] G Q := by
  obtain ⟨e33, e34, e35, e37, e299, eB, a, a5⟩ := RS_n hR
  have nn := WF_n hR.1.2.1
  have e2 := e299 2
  have rest : ∀ (G1 : zG) (r1 : RE PS), r1 = oFull B n 2 8 S → fr G G1 SRD → RS B n G1 r1 → zAt xT_210 (zW (d + 5)) Q 27 [zr 9 0 297] [] G1 := by
    intro G1 r1 hr f1 hR1
    refine zs_210_27 (c207 hT hR1 (Or.inl rfl) (fun S1 h1 => ⟨fun _ => ?_, fun h => by omega⟩) (fun G2 f2 hR2 => ?_))
    · obtain ⟨q1, q2⟩ := full_ok (hr.symm.trans h1)
      rw [q1]
      show S.2.1 2 < 8
      omega
    · have f3 := fr_trans f1 f2 (fun _ _ t => t)
      have hs : oPage B n S = Except.bind (Except.bind r1 (fun S => oNew B n (if (0 : Int) = 0 then S.2.1 2 else 8 + S.2.1 3) S)) (fun S => Except.ok (oSet 2 (S.2.1 2 + 1) S)) := by
        rw [hr, ebind_assoc]; rfl
      generalize Except.bind r1 (fun S => oNew B n (if (0 : Int) = 0 then S.2.1 2 else 8 + S.2.1 3) S) = r2 at *
      cases r2 with
      | error e =>
        have hF : FT G2 e := hR2
        have h37 := hF.2.1
        have hk := hF.1
        apply zs_210_32 <;> intros
        case h2 => exact hQ G2 f3 (by rw [hs]; exact hF)
        all_goals first | omega | (repeat' first | exact hrg _ | assumption | (unfold rg; omega) | omega | refine And.intro ?_ ?_)
      | ok S2 =>
        have h37 := (RS_n hR2).2.2.2.1
        have h299 := (RS_n hR2).2.2.2.2.1 2
        apply zs_210_32 <;> intros
        case h3 =>
          rw [h299]
          exact hQ _ (fr_u f3 (Or.inl ⟨rfl, by omega, by omega⟩)) (by rw [hs]; exact ⟨(page_ok hR.1 hs).1, PR_set hR2.2⟩)
        all_goals first | omega | (repeat' first | exact hrg _ | assumption | (unfold rg; omega) | omega | refine And.intro ?_ ?_)
  refine zm_210 ?_
  apply zs_210_0 <;> intros
  case h4 => exact c195s hT hR (fun G1 f1 hR1 => rest G1 _ (by unfold oFull; rw [if_neg (by omega)]) f1 hR1)
  case h7 => exact rest _ (Except.error (3, S.1.2.1)) (by unfold oFull; rw [if_pos (by omega)]) (srd_u (fr_refl _ _) _ _) (RS_err hR (by omega))
  all_goals first | omega | (repeat' first | exact hrg _ | assumption | (unfold rg; omega) | omega | refine And.intro ?_ ?_)
set_option maxHeartbeats 4000000 in
theorem c211 (hT : TP B n) {x at0 : Int} (h0 : 0 ≤ at0 ∧ at0 ≤ 300) : ∀ (k : Nat) (i : Int) (r : RE PS) (G : zG) (Q : zQ), 0 ≤ i → i + k = 4 → RS B n G r → (∀ S, r = Except.ok S → S.2.1 3 < 10 ∧ 6 + 11 * S.2.1 3 ≤ at0 ∧ at0 + 4 ≤ 6 + 11 * S.2.1 3 + 11) → (∀ G1 v, fr G G1 SRD → RSV B n v G1 (Except.bind r (oPg B n x at0 k i)) → Q (some (zi v)) G1) → ∀ l4, zAt xT_211 (zW (d + 6)) Q 2 [zr 9 0 297, zr 15 4 x, zi at0, zi i, l4] [] G := by
  have flt : ∀ (G : zG) (Q : zQ) (e : Int × Int) (i : Int), 0 ≤ i → i ≤ 5 → FT G e → (∀ G1 v, fr G G1 SRD → rg v → FT G1 e → Q (some (zi v)) G1) → ∀ l4, zAt xT_211 (zW (d + 6)) Q 2 [zr 9 0 297, zr 15 4 x, zi at0, zi i, l4] [] G := by
    intro G Q e i i0 i1 hF hQ l4
    refine zs_211_2 (c198 (r := Except.error e) hT hF (by omega) (fun ⟨S, h, _⟩ => by cases h) (fun _ => ?_))
    apply zs_211_7 <;> intros
    case h2 => exact hQ G _ (fr_refl _ _) ⟨by omega, by omega⟩ hF
    all_goals first | omega | (repeat' first | exact hrg _ | assumption | (unfold rg; omega) | omega | refine And.intro ?_ ?_)
  intro k
  induction k with
  | zero =>
    intro i r G Q i0 hi hR hr hQ l4
    refine zs_211_2 (c198 hT hR (by omega) (fun ⟨S, h, hw⟩ => ?_) (fun hn => ?_))
    · subst h
      have hs : Except.bind (Except.ok S) (oPg B n x at0 0 i) = Except.error (3, S.1.2.1) := by show cif _ _ _ = _; rw [cif_t hw]
      rw [hs] at hQ
      have e37 := (RS_n hR).2.2.2.1
      apply zs_211_7 <;> intros
      case h9 =>
        have hE := RS_err hR (k := 3) (by omega)
        refine zs_211_31 (c208 (r := Except.error (3, S.1.2.1)) hT hE (Or.inl ⟨rfl, rfl, rfl⟩) (fun G1 v f1 hR1 => ?_))
        have hF : FT G1 (3, S.1.2.1) := hR1.2
        have h37 := hF.2.1
        apply zs_211_36 <;> intros
        case h2 => exact flt G1 Q _ (i + 1) (by omega) (by omega) hF (fun G2 u f2 hu hF2 => hQ G2 u (fr_trans (srd_u (fr_refl _ _) _ _) (fr_trans f1 f2 (fun _ _ t => t)) (fun _ _ t => t)) ⟨hu, hF2⟩) _
        all_goals first | omega | (rw [h37] at *; (repeat' first | exact hrg _ | assumption | (unfold rg; omega) | omega | refine And.intro ?_ ?_))
      all_goals first | omega | (repeat' first | exact hrg _ | assumption | (unfold rg; omega) | omega | refine And.intro ?_ ?_)
    · apply zs_211_7 <;> intros
      case h2 =>
        refine hQ G i (fr_refl _ _) ?_
        cases r with
        | error e => exact ⟨⟨by omega, by omega⟩, hR⟩
        | ok S =>
          have hs : Except.bind (Except.ok S) (oPg B n x at0 0 i) = Except.ok (i, S) := by show cif _ _ _ = _; rw [cif_f (fun h => hn ⟨S, rfl, h⟩)]
          rw [hs]; exact ⟨rfl, hR⟩
      all_goals first | omega | (repeat' first | exact hrg _ | assumption | (unfold rg; omega) | omega | refine And.intro ?_ ?_)
  | succ k ih =>
    intro i r G Q i0 hi hR hr hQ l4
    refine zs_211_2 (c198 hT hR (by omega) (fun ⟨S, h, hw⟩ => ?_) (fun hn => ?_))
    · subst h
      have hr := hr S rfl
      have nn := WF_n hR.1.2.1
      have hs : Except.bind (Except.ok S) (oPg B n x at0 (k + 1) i) = Except.bind (oTold B n 0 2 (oStep B n S)) (fun r => oPg B n x at0 k (i + 1) (oSet (at0 + i) r.1 r.2)) := by show cif _ _ _ = _; rw [cif_t hw]
      rw [hs] at hQ
      have e37 := (RS_n hR).2.2.2.1
      apply zs_211_7 <;> intros
      case h6 =>
        refine c195s hT hR (fun G1 f1 hR1 => zs_211_31 (c208 hT hR1 (Or.inl ⟨rfl, rfl, rfl⟩) (fun G2 v f2 hR2 => ?_)))
        have f12 := fr_trans f1 f2 (fun _ _ t => t)
        have hR2 : RSV B n v G2 (oTold B n 0 2 (oStep B n S)) := hR2
        cases hq : oTold B n 0 2 (oStep B n S) with
        | error e =>
          rw [hq] at hR2 hQ
          have hF : FT G2 e := hR2.2
          have h37 := hF.2.1
          have hk := hF.1
          apply zs_211_36 <;> intros
          case h2 => exact flt G2 Q _ (i + 1) (by omega) (by omega) hF (fun G3 u f3 hu hF3 => hQ G3 u (fr_trans f12 f3 (fun _ _ t => t)) ⟨hu, hF3⟩) _
          all_goals first | omega | (repeat' first | exact hrg _ | assumption | (unfold rg; omega) | omega | refine And.intro ?_ ?_)
        | ok q =>
          rw [hq] at hR2 hQ
          obtain ⟨hv, hok, hpr⟩ := hR2
          have t := told_ok (by show 0 ≤ S.2.1 2; omega) hq
          have ew : q.2.2.1 = S.2.1 := by rw [t.1]; rfl
          have t2 : 0 ≤ q.1 ∧ q.1 < S.2.1 2 := t.2.2
          have h37 : G2 297 37 = 0 := hpr.2.2.1.1
          apply zs_211_36 <;> intros
          case h4 =>
            have hR3 : RS B n (zu G2 299 (at0 + i) v) (Except.ok (oSet (at0 + i) q.1 q.2)) := by
              rw [hv]
              exact ⟨PSok_set hok ⟨by omega, by omega⟩ (by rw [ew]; omega) (by rw [ew]; omega) (by rw [ew]; omega), PR_set hpr⟩
            have e3 : (oSet (at0 + i) q.1 q.2).2.1 3 = S.2.1 3 := by show zpd q.2.2.1 (at0 + i) q.1 3 = _; rw [zpd_n (by omega), ew]
            refine ih (i + 1) _ _ _ (by omega) (by omega) hR3 (fun S' h' => ?_) (fun G3 u f3 hR4 => hQ G3 u (fr_trans (fr_u f12 (Or.inl ⟨rfl, by omega, by omega⟩)) f3 (fun _ _ t => t)) hR4) _
            cases h'
            rw [e3]; exact hr
          all_goals first | omega | (repeat' first | exact hrg _ | assumption | (unfold rg; omega) | omega | refine And.intro ?_ ?_)
      all_goals first | omega | (repeat' first | exact hrg _ | assumption | (unfold rg; omega) | omega | refine And.intro ?_ ?_)
    · apply zs_211_7 <;> intros
      case h2 =>
        refine hQ G i (fr_refl _ _) ?_
        cases r with
        | error e => exact ⟨⟨by omega, by omega⟩, hR⟩
        | ok S =>
          have hs : Except.bind (Except.ok S) (oPg B n x at0 (k + 1) i) = Except.ok (i, S) := by show cif _ _ _ = _; rw [cif_f (fun h => hn ⟨S, rfl, h⟩)]
          rw [hs]; exact ⟨rfl, hR⟩
      all_goals first | omega | (repeat' first | exact hrg _ | assumption | (unfold rg; omega) | omega | refine And.intro ?_ ?_)
theorem pg_lo {x at0 : Int} : ∀ {k : Nat} {i : Int} {S T : PS} {m : Int}, 0 ≤ i → oPg B n x at0 k i S = Except.ok (m, T) → (∀ j, j < at0 → T.2.1 j = S.2.1 j) ∧ i ≤ m ∧ m ≤ i + k := by
  intro k
  induction k with
  | zero =>
    intro i S T m _ e
    unfold oPg at e
    by_cases c : isW B S.1 x 4
    · rw [cif_t c] at e; cases e
    · rw [cif_f c] at e; cases e; exact ⟨fun j _ => rfl, Int.le_refl _, by omega⟩
  | succ k ih =>
    intro i S T m i0 e
    unfold oPg at e
    by_cases c : isW B S.1 x 4
    · rw [cif_t c] at e
      obtain ⟨r, e1, e⟩ := bind_ok e
      have this := ih (by omega) e
      refine ⟨fun j hj => ?_, by omega, by omega⟩
      rw [this.1 j hj]
      have e2 : r.2 = oStep B n (oStep B n S) := by
        unfold oTold at e1
        split at e1
        · split at e1
          · cases e1
          · cases e1; rfl
        · cases e1
      show zpd r.2.2.1 (at0 + i) r.1 j = _
      rw [zpd_n (by omega), e2]; rfl
    · rw [cif_f c] at e; cases e; exact ⟨fun j _ => rfl, Int.le_refl _, by omega⟩
set_option maxHeartbeats 8000000 in
theorem c212 (hT : TP B n) (hR : RS B n G (Except.ok S)) (hQ : ∀ G1, fr G G1 SRD → RS B n G1 (oBody B n S) → Q none G1) : zW (d + 8) 212 [zr 9 0 297] G Q := by
  obtain ⟨e33, e34, e35, e37, e299, eB, a, a5⟩ := RS_n hR
  have nn := WF_n hR.1.2.1
  have e3 := e299 3
  have rest : ∀ (G1 : zG) (r1 : RE PS), r1 = oFull B n 3 10 S → fr G G1 SRD → RS B n G1 r1 → ∀ l1, zAt xT_212 (zW (d + 7)) Q 27 [zr 9 0 297, l1] [] G1 := by
    intro G1 r1 hr f1 hR1 l1
    refine zs_212_27 (c207 hT hR1 (Or.inr rfl) (fun S1 h1 => ⟨fun h => by omega, fun _ => ?_⟩) (fun G2 f2 hR2 => ?_))
    · obtain ⟨q1, q2⟩ := full_ok (hr.symm.trans h1)
      rw [q1]
      show S.2.1 3 < 10
      omega
    have f3 := fr_trans f1 f2 (fun _ _ t => t)
    have hs : oBody B n S = Except.bind (Except.bind r1 (fun S => oNew B n (if (1 : Int) = 0 then S.2.1 2 else 8 + S.2.1 3) S)) (fun S => oBd B n (6 + 11 * S.2.1 3) S) := by
      rw [hr, ebind_assoc]; rfl
    have hw3 : ∀ S2, Except.bind r1 (fun S => oNew B n (if (1 : Int) = 0 then S.2.1 2 else 8 + S.2.1 3) S) = Except.ok S2 → S2.2.1 = S.2.1 ∧ S.2.1 3 < 10 := by
      intro S2 h2
      obtain ⟨S1, h1, h2⟩ := bind_ok h2
      obtain ⟨q1, q2⟩ := full_ok (hr.symm.trans h1)
      have := (new_ok h2).1
      rw [this, q1]
      exact ⟨rfl, by omega⟩
    generalize Except.bind r1 (fun S => oNew B n (if (1 : Int) = 0 then S.2.1 2 else 8 + S.2.1 3) S) = r2 at *
    have h3 : 0 ≤ G2 299 3 ∧ G2 299 3 ≤ 1200 ∧ (∀ S2, r2 = Except.ok S2 → min (G2 299 3) 9 = S2.2.1 3) := by
      cases r2 with
      | error e =>
        have := hR2.2.2.2 3 (by omega) (by omega)
        exact ⟨this.1, this.2, fun S2 h => by cases h⟩
      | ok S2 =>
        have h299 := (RS_n hR2).2.2.2.2.1 3
        have hw := hw3 S2 rfl
        rw [hw.1] at h299
        refine ⟨by omega, by omega, fun S3 h => ?_⟩
        cases h
        rw [hw.1]; omega
    generalize hv : 6 + 11 * min (G2 299 3) 9 = v1
    have hv1 : 6 ≤ v1 ∧ v1 ≤ 105 := by omega
    have hs2 : oBody B n S = Except.bind r2 (oBd B n v1) := by
      rw [hs]
      cases r2 with
      | error e => rfl
      | ok S2 =>
        show oBd B n (6 + 11 * S2.2.1 3) S2 = oBd B n v1 S2
        rw [← hv, h3.2.2 S2 rfl]
    have hb3 : ∀ S2, r2 = Except.ok S2 → S2.2.1 3 < 10 ∧ v1 = 6 + 11 * S2.2.1 3 := fun S2 h => by
      have h1 := hw3 S2 h
      have h2 := h3.2.2 S2 h
      rw [h1.1] at h2 ⊢
      omega
    apply zs_212_32
    · exact ⟨by omega, by omega⟩
    rw [hv]
    refine c201 hT hR2 (by omega) (by omega) (by omega) (fun G3 v f4 hR3 => ?_)
    have f5 := fr_trans f3 f4 (fun _ _ t => t)
    have hw4 : ∀ p, Except.bind (Except.bind r2 (oWord B n 1009 6)) (oNum B n 1 999) = Except.ok p → p.2.2.1 3 < 10 ∧ v1 = 6 + 11 * p.2.2.1 3 ∧ rg p.1 := by
      intro p hp
      obtain ⟨S3, h1, h2⟩ := bind_ok hp
      obtain ⟨S2, h0, h1⟩ := bind_ok h1
      have q := num_ok h2
      rw [q.1, (word_ok h1).1]
      exact ⟨(hb3 S2 h0).1, (hb3 S2 h0).2, ⟨by omega, by omega⟩⟩
    apply zs_212_66
    · show 0 ≤ v1 ∧ v1 < ((356 : Nat) : Int)
      omega
    have hR4 := RS_set (j := v1) hR3 (by omega) (fun p hp hok => PSok_set hok (hw4 p hp).2.2 (hw4 p hp).1 (by have := (hw4 p hp).2.1; omega) (by have := (hw4 p hp).2.1; omega))
    have hw5 : ∀ S', Except.bind (Except.bind (Except.bind r2 (oWord B n 1009 6)) (oNum B n 1 999)) (fun p => Except.ok (oSet v1 p.1 p.2)) = Except.ok S' → S'.2.1 3 < 10 ∧ v1 = 6 + 11 * S'.2.1 3 := by
      intro S' h
      obtain ⟨p, h1, h2⟩ := bind_ok h
      cases h2
      have := hw4 p h1
      have e : (oSet v1 p.1 p.2).2.1 3 = p.2.2.1 3 := zpd_n (by omega)
      rw [e]; exact ⟨this.1, this.2.1⟩
    have hs3 : oBody B n S = Except.bind (Except.bind (Except.bind (Except.bind r2 (oWord B n 1009 6)) (oNum B n 1 999)) (fun p => Except.ok (oSet v1 p.1 p.2))) (fun S => Except.bind (oPg B n 1010 (v1 + 3) 4 0 S) (fun q => Except.bind (oPg B n 1011 (v1 + 7) 4 0 (oSet (v1 + 1) q.1 q.2)) (fun q => Except.ok (oSet 3 (q.2.2.1 3 + 1) (oSet (v1 + 2) q.1 q.2))))) := by
      rw [hs2]; simp only [ebind_assoc]; rfl
    generalize Except.bind (Except.bind (Except.bind r2 (oWord B n 1009 6)) (oNum B n 1 999)) (fun p => Except.ok (oSet v1 p.1 p.2)) = r4 at *
    refine zm_211 (zs_211_0 (c211 hT (by omega) 4 0 r4 _ _ (by omega) (by omega) hR4 (fun S' h => by have := hw5 S' h; omega) (fun G4 u f6 hR5 => ?_) _))
    have f7 := fr_trans (fr_u (i := v1) (v := v) f5 (Or.inl ⟨rfl, by omega, by omega⟩)) f6 (fun _ _ t => t)
    have hw6 : ∀ p, Except.bind r4 (oPg B n 1010 (v1 + 3) 4 0) = Except.ok p → p.2.2.1 3 < 10 ∧ v1 = 6 + 11 * p.2.2.1 3 ∧ rg p.1 := by
      intro p hp
      obtain ⟨S3, h1, h2⟩ := bind_ok hp
      have q := pg_lo (m := p.1) (T := p.2) (by omega) h2
      rw [q.1 3 (by omega)]
      exact ⟨(hw5 S3 h1).1, (hw5 S3 h1).2, ⟨by omega, by omega⟩⟩
    apply zs_212_84
    · show 0 ≤ v1 + 1 ∧ v1 + 1 < ((356 : Nat) : Int)
      omega
    have hR6 := RS_set (j := v1 + 1) hR5 (by omega) (fun p hp hok => PSok_set hok (hw6 p hp).2.2 (hw6 p hp).1 (by have := (hw6 p hp).2.1; omega) (by have := (hw6 p hp).2.1; omega))
    have hw7 : ∀ S', Except.bind (Except.bind r4 (oPg B n 1010 (v1 + 3) 4 0)) (fun p => Except.ok (oSet (v1 + 1) p.1 p.2)) = Except.ok S' → S'.2.1 3 < 10 ∧ v1 = 6 + 11 * S'.2.1 3 := by
      intro S' h
      obtain ⟨p, h1, h2⟩ := bind_ok h
      cases h2
      have := hw6 p h1
      have e : (oSet (v1 + 1) p.1 p.2).2.1 3 = p.2.2.1 3 := zpd_n (by omega)
      rw [e]; exact ⟨this.1, this.2.1⟩
    have hs4 : oBody B n S = Except.bind (Except.bind (Except.bind r4 (oPg B n 1010 (v1 + 3) 4 0)) (fun p => Except.ok (oSet (v1 + 1) p.1 p.2))) (fun S => Except.bind (oPg B n 1011 (v1 + 7) 4 0 S) (fun q => Except.ok (oSet 3 (q.2.2.1 3 + 1) (oSet (v1 + 2) q.1 q.2)))) := by
      rw [hs3]; simp only [ebind_assoc]; rfl
    generalize Except.bind (Except.bind r4 (oPg B n 1010 (v1 + 3) 4 0)) (fun p => Except.ok (oSet (v1 + 1) p.1 p.2)) = r6 at *
    refine zm_211 (zs_211_0 (c211 hT (by omega) 4 0 r6 _ _ (by omega) (by omega) hR6 (fun S' h => by have := hw7 S' h; omega) (fun G5 y f8 hR7 => ?_) _))
    have f9 := fr_trans (fr_u (i := v1 + 1) (v := u) f7 (Or.inl ⟨rfl, by omega, by omega⟩)) f8 (fun _ _ t => t)
    have hs5 : oBody B n S = Except.bind (Except.bind r6 (oPg B n 1011 (v1 + 7) 4 0)) (fun q => Except.ok (oSet 3 (q.2.2.1 3 + 1) (oSet (v1 + 2) q.1 q.2))) := by
      rw [hs4, ebind_assoc]
    have hw8 : ∀ p, Except.bind r6 (oPg B n 1011 (v1 + 7) 4 0) = Except.ok p → p.2.2.1 3 < 10 ∧ v1 = 6 + 11 * p.2.2.1 3 ∧ rg p.1 := by
      intro p hp
      obtain ⟨S3, h1, h2⟩ := bind_ok hp
      have q := pg_lo (m := p.1) (T := p.2) (by omega) h2
      rw [q.1 3 (by omega)]
      exact ⟨(hw7 S3 h1).1, (hw7 S3 h1).2, ⟨by omega, by omega⟩⟩
    generalize Except.bind r6 (oPg B n 1011 (v1 + 7) 4 0) = r7 at *
    have hR8 := RS_set (j := v1 + 2) hR7 (by omega) (fun p hp hok => PSok_set hok (hw8 p hp).2.2 (hw8 p hp).1 (by have := (hw8 p hp).2.1; omega) (by have := (hw8 p hp).2.1; omega))
    have f10 : fr G (zu G5 299 (v1 + 2) y) SRD := fr_u f9 (Or.inl ⟨rfl, by omega, by omega⟩)
    cases r7 with
    | error e =>
      have hF : FT (zu G5 299 (v1 + 2) y) e := hR8
      have h37 := hF.2.1
      have hk := hF.1
      apply zs_212_103 <;> intros
      case h2 => exact hQ _ f10 (by rw [hs5]; exact hF)
      case h1 => exact ⟨⟨by omega, by show v1 + 2 < ((356 : Nat) : Int); omega⟩, by rw [h37]; exact ⟨by omega, by omega⟩⟩
      all_goals first | omega | (repeat' first | exact hrg _ | assumption | (unfold rg; omega) | omega | refine And.intro ?_ ?_)
    | ok q =>
      have hR8 : RS B n (zu G5 299 (v1 + 2) y) (Except.ok (oSet (v1 + 2) q.1 q.2)) := hR8
      have h37 := (RS_n hR8).2.2.2.1
      have h299 := (RS_n hR8).2.2.2.2.1 3
      have e : (oSet (v1 + 2) q.1 q.2).2.1 3 = q.2.2.1 3 := zpd_n (by omega)
      rw [e] at h299
      apply zs_212_103 <;> intros
      case h3 =>
        rw [h299]
        exact hQ _ (fr_u f10 (Or.inl ⟨rfl, by omega, by omega⟩)) (by rw [hs5]; exact ⟨(body_ok hR.1 hs5).1, PR_set hR8.2⟩)
      case h1 => exact ⟨⟨by omega, by show v1 + 2 < ((356 : Nat) : Int); omega⟩, by rw [h37]; exact ⟨by omega, by omega⟩⟩
      all_goals first | omega | (repeat' first | exact hrg _ | assumption | (unfold rg; omega) | omega | refine And.intro ?_ ?_)
  refine zm_212 ?_
  apply zs_212_0 <;> intros
  case h4 => exact c195s hT hR (fun G1 f1 hR1 => rest G1 _ (by unfold oFull; rw [if_neg (by omega)]) f1 hR1 _)
  case h7 => exact rest _ (Except.error (3, S.1.2.1)) (by unfold oFull; rw [if_pos (by omega)]) (srd_u (fr_refl _ _) _ _) (RS_err hR (by omega)) _
  all_goals first | omega | (repeat' first | exact hrg _ | assumption | (unfold rg; omega) | omega | refine And.intro ?_ ?_)
end RE
