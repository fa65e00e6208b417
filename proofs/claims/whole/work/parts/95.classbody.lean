/-! THE READER by the class: the first line, bodies -/
section CL
variable {d : Nat} {G : zG} {Q : zQ} {B : Int → Int} {n a x : Int} {S : PS}
theorem CP_top (ha : 5 ≤ a) (h : CP B n a 0 G S) {j v : Int} (hj : j = 0 ∨ j = 1) (hPS : PSok B n (oSet j v S)) : CP B n a 0 (zu G a j v) (oSet j v S) := by
  obtain ⟨h1, h2, h3, h4, h5, h6⟩ := h
  have g : ∀ k i, ¬ (k = a ∧ i = j) → zu G a j v k i = G k i := fun k i h => if_neg h
  refine ⟨hPS, CT_fr h2 (fun k j h => g _ _ (by omega)), fun p p0 p1 hp => by rw [g _ _ (by omega), g _ _ (by omega)]; exact h3 p p0 p1 hp, ⟨by rw [g _ _ (by omega)]; exact h4.1, by rw [g _ _ (by omega)]; exact h4.2⟩, ?_, ?_⟩
  · show DRX (zu G a j v) a (zpd S.2.1 j v) 0
    refine DRX_top h1.2.1 h5 (fun k j k0 k1 => by rw [g _ _ (by omega)]) (fun j j0 j1 => zpd_n (by omega)) (fun j j0 => zpd_n (by omega)) (zpd_n (by omega)) (zpd_n (by omega)) ?_
    refine ⟨⟨?_, ?_, ?_⟩, ⟨?_, ?_, ?_⟩, ?_⟩
    · rcases hj with c | c
      · rw [c, zu_s, zpd_s]
      · rw [g _ _ (by omega), zpd_n (by omega)]; exact h5.1.1
    · rcases hj with c | c
      · rw [g _ _ (by omega), zpd_n (by omega)]; exact h5.1.2.1
      · rw [c, zu_s, zpd_s]
    · rw [g _ _ (by omega), zpd_n (by omega)]; exact h5.1.2.2
    · rw [g _ _ (by omega), zpd_n (by omega)]; exact h5.2.1.1
    · rw [g _ _ (by omega), zpd_n (by omega)]; exact h5.2.1.2.1
    · rw [g _ _ (by omega), zpd_n (by omega)]; exact h5.2.1.2.2
    · rw [g _ _ (by omega)]; exact h5.2.2.1
  · obtain ⟨q1, q2, q3, q4⟩ := h6
    exact ⟨by rw [g _ _ (by omega)]; exact q1, BND_fr q2 (fun k j k0 k1 => by rw [g _ _ (by omega)]), by rw [g _ _ (by omega)]; exact q3, by rw [g _ _ (by omega)]; exact q4⟩
/-- a number as the class holds it -/
theorem CP_num (h : CP B n a x G S) (k2 : S.1.1 = 2) : 0 ≤ S.1.2.2.2 ∧ G 2 8 = min S.1.2.2.2 100000 := ⟨h.1.1.2.2.2.2.1, h.2.1.2.1.2.2.2 k2⟩
set_option maxHeartbeats 8000000 in
theorem k34 (hT : TP B n) (ha : 5 ≤ a) (h : CP B n a 0 G S) (hQ : ∀ G1 v, fr G G1 (SKA a) → CS B n a v G1 (Except.bind (oFirst B n S) (oEnd B n)) → Q (some (zi v)) G1) : zW (d + 6) 34 [zr 2 0 2] G Q := by
  have bad : ∀ G1 e, fr G G1 (SKA a) → oFirst B n S = Except.error e → CE a G1 e → Q (some (zi 0)) G1 := fun G1 e f he hE => hQ G1 0 f (by rw [he]; exact ⟨rfl, hE⟩)
  have w52 : ∀ {G1 G2 G3 : zG}, fr G1 G2 (SKA a) → fr G2 G3 S52 → fr G1 G3 (SKA a) := fun f g => fr_trans f g (fun _ _ t => ska52 t)
  have wKR : ∀ {G1 G2 G3 : zG}, fr G1 G2 (SKA a) → fr G2 G3 SKR → fr G1 G3 (SKA a) := fun f g => fr_trans f g (fun _ _ t => skaKR t)
  refine zm_34 (zs_34_0 (c41p hT ha h (by omega) (fun hw G1 f1 h1 => ?_) (fun hw G1 f1 hE => ?_)))
  case refine_2 =>
    apply zs_34_6 <;> intros
    case h2 => exact bad G1 _ (wKR (fr_refl _ _) f1) (by unfold oFirst oWord; rw [cif_f hw]; rfl) hE
    all_goals first | omega | (repeat' first | exact hrg _ | assumption | (unfold rg; omega) | omega | refine And.intro ?_ ?_)
  have hs : oFirst B n S = Except.bind (oWord B n 1003 3 (oStep B n S)) (fun S => Except.bind (oNum B n 0 2 S) (fun r => Except.bind (oWord B n 1004 5 (oSet 0 r.1 r.2)) (fun S => Except.bind (oNum B n 0 1 S) (fun r => Except.ok (oSet 1 r.1 r.2))))) := by
    have : oWord B n 1002 7 S = Except.ok (oStep B n S) := by unfold oWord; rw [cif_t hw]
    unfold oFirst; rw [this]; rfl
  generalize oStep B n S = S1 at *
  have F1 := w52 (fr_refl G _) f1
  apply zs_34_6 <;> intros
  case h1 => exact ⟨by omega, by omega⟩
  case h2 => omega
  case h3 =>
  refine c41p hT ha h1 (by omega) (fun hw2 G2 f2 h2 => ?_) (fun hw2 G2 f2 hE => ?_)
  case refine_2 =>
    apply zs_34_15 <;> intros
    case h2 => exact bad G2 _ (wKR F1 f2) (by rw [hs]; unfold oWord; rw [cif_f hw2]; rfl) hE
    all_goals first | omega | (repeat' first | exact hrg _ | assumption | (unfold rg; omega) | omega | refine And.intro ?_ ?_)
  have hs : oFirst B n S = Except.bind (oNum B n 0 2 (oStep B n S1)) (fun r => Except.bind (oWord B n 1004 5 (oSet 0 r.1 r.2)) (fun S => Except.bind (oNum B n 0 1 S) (fun r => Except.ok (oSet 1 r.1 r.2)))) := by
    have : oWord B n 1003 3 S1 = Except.ok (oStep B n S1) := by unfold oWord; rw [cif_t hw2]
    rw [hs, this]; rfl
  generalize oStep B n S1 = S2 at *
  have F2 := w52 F1 f2
  have c24 : G2 2 4 = a := h2.2.2.2.2.2.2.2.1
  have c6 : G2 2 6 = S2.1.1 := (CT_n h2.2.1).2.2.2.1
  have c5 := (CT_n h2.2.1).2.2.2.2.2.2
  apply zs_34_15 <;> intros
  case h9 =>
    have r := refuse_at ha h2 (k := 1) (by omega)
    exact bad _ _ (fr_trans F2 r.1 (fun _ _ t => t)) (by rw [hs]; unfold oNum; rw [if_neg (by omega)]; rfl) r.2
  case h8 =>
    have hv := CP_num h2 (by omega)
    have r := refuse_at ha h2 (k := 2) (by omega)
    exact bad _ _ (fr_trans F2 r.1 (fun _ _ t => t)) (by rw [hs]; unfold oNum; rw [if_pos (by omega), if_neg (by omega)]; rfl) r.2
  case h5 => have hv := CP_num h2 (by omega); omega
  case h4 => have hv := CP_num h2 (by omega); exact ⟨by omega, by omega⟩
  case h7 =>
    have hv := CP_num h2 (by omega)
    have hval : G2 2 8 = S2.1.2.2.2 := by omega
    rw [c24, hval]
    have hok2 : PSok B n (oSet 0 S2.1.2.2.2 S2) := PSok_top h2.1 (Or.inl ⟨rfl, by omega, by omega⟩)
    have h3 := CP_top ha h2 (j := 0) (Or.inl rfl) hok2
    refine c52s hT h3.2.1 (fun G3 f3 hC3 => zs_34_44 ?_)
    have h4 := CP_step ha h3 f3 hC3
    have hs : oFirst B n S = Except.bind (oWord B n 1004 5 (oStep B n (oSet 0 S2.1.2.2.2 S2))) (fun S => Except.bind (oNum B n 0 1 S) (fun r => Except.ok (oSet 1 r.1 r.2))) := by
      have : oNum B n 0 2 S2 = Except.ok (S2.1.2.2.2, oStep B n S2) := by unfold oNum; rw [if_pos (by omega), if_pos (by omega)]
      rw [hs, this]; rfl
    have F3 : fr G G3 (SKA a) := w52 (fr_u F2 (Or.inr (Or.inr (Or.inr ⟨by omega, by omega⟩)))) f3
    clear hC3
    generalize oStep B n (oSet 0 S2.1.2.2.2 S2) = S3 at *
    refine c41p hT ha h4 (by omega) (fun hw4 G4 f4 h5 => ?_) (fun hw4 G4 f4 hE => ?_)
    case refine_2 =>
      apply zs_34_50 <;> intros
      case h2 => exact bad G4 _ (wKR F3 f4) (by rw [hs]; unfold oWord; rw [cif_f hw4]; rfl) hE
      all_goals first | omega | (repeat' first | exact hrg _ | assumption | (unfold rg; omega) | omega | refine And.intro ?_ ?_)
    have hs : oFirst B n S = Except.bind (oNum B n 0 1 (oStep B n S3)) (fun r => Except.ok (oSet 1 r.1 r.2)) := by
      have : oWord B n 1004 5 S3 = Except.ok (oStep B n S3) := by unfold oWord; rw [cif_t hw4]
      rw [hs, this]; rfl
    generalize oStep B n S3 = S4 at *
    have F4 := w52 F3 f4
    have d24 : G4 2 4 = a := h5.2.2.2.2.2.2.2.1
    have d6 : G4 2 6 = S4.1.1 := (CT_n h5.2.1).2.2.2.1
    have d5 := (CT_n h5.2.1).2.2.2.2.2.2
    apply zs_34_50 <;> intros
    case h9 =>
      have r := refuse_at ha h5 (k := 1) (by omega)
      exact bad _ _ (fr_trans F4 r.1 (fun _ _ t => t)) (by rw [hs]; unfold oNum; rw [if_neg (by omega)]; rfl) r.2
    case h8 =>
      have hv := CP_num h5 (by omega)
      have r := refuse_at ha h5 (k := 2) (by omega)
      exact bad _ _ (fr_trans F4 r.1 (fun _ _ t => t)) (by rw [hs]; unfold oNum; rw [if_pos (by omega), if_neg (by omega)]; rfl) r.2
    case h5 => have hv := CP_num h5 (by omega); omega
    case h4 => have hv := CP_num h5 (by omega); exact ⟨by omega, by omega⟩
    case h7 =>
      have hv := CP_num h5 (by omega)
      have hval : G4 2 8 = S4.1.2.2.2 := by omega
      rw [d24, hval]
      have hok4 : PSok B n (oSet 1 S4.1.2.2.2 S4) := PSok_top h5.1 (Or.inr ⟨rfl, by omega, by omega⟩)
      have h6 := CP_top ha h5 (j := 1) (Or.inr rfl) hok4
      refine c52s hT h6.2.1 (fun G5 f5 hC5 => zs_34_79 ?_)
      have h7 := CP_step ha h6 f5 hC5
      have hs : oFirst B n S = Except.ok (oStep B n (oSet 1 S4.1.2.2.2 S4)) := by
        have : oNum B n 0 1 S4 = Except.ok (S4.1.2.2.2, oStep B n S4) := by unfold oNum; rw [if_pos (by omega), if_pos (by omega)]
        rw [hs, this]; rfl
      have F5 : fr G G5 (SKA a) := w52 (fr_u F4 (Or.inr (Or.inr (Or.inr ⟨by omega, by omega⟩)))) f5
      rw [hs] at hQ
      refine c43 hT ha h7 (fun G6 v f6 hS6 => zs_34_83 (CS_v hS6) (hQ G6 v (fr_trans F5 f6 (fun _ _ t => t)) hS6))
    all_goals first | omega | (rw [d6]; exact ⟨by omega, by omega⟩) | (unfold rg; omega)
  all_goals first | omega | (rw [c6]; exact ⟨by omega, by omega⟩) | (unfold rg; omega)
theorem CP_10 (ha : 5 ≤ a) (h : CP B n a 0 G S) (h3 : S.2.1 3 < 10) : CP B n a 1 (zu G a 4 (S.2.1 3 + 1)) S := by
  obtain ⟨h1, h2, hN, h4, h5, h6⟩ := h
  have nn := WF_n h1.2.1
  have g : ∀ k i, ¬ (k = a ∧ i = 4) → zu G a 4 (S.2.1 3 + 1) k i = G k i := fun k i h => if_neg h
  refine ⟨h1, CT_fr h2 (fun k j h => g _ _ (by omega)), fun p p0 p1 hp => by rw [g _ _ (by omega), g _ _ (by omega)]; exact hN p p0 p1 hp, ⟨by rw [g _ _ (by omega)]; exact h4.1, by rw [g _ _ (by omega)]; exact h4.2⟩, ?_, ?_⟩
  · refine DRX_top h1.2.1 h5 (fun k j k0 k1 => by rw [g _ _ (by omega)]) (fun j j0 j1 => rfl) (fun j j0 => rfl) rfl rfl ?_
    refine ⟨⟨?_, ?_, ?_⟩, ⟨?_, ?_, ?_⟩, ?_⟩
    · rw [g _ _ (by omega)]; exact h5.1.1
    · rw [g _ _ (by omega)]; exact h5.1.2.1
    · rw [g _ _ (by omega)]; exact h5.1.2.2
    · rw [g _ _ (by omega)]; exact h5.2.1.1
    · exact zu_s
    · rw [g _ _ (by omega)]; exact h5.2.1.2.2
    · rw [g _ _ (by omega)]; exact h5.2.2.1
  · obtain ⟨q1, q2, q3, q4⟩ := h6
    exact ⟨by rw [zu_s]; omega, BND_fr q2 (fun k j k0 k1 => by rw [g _ _ (by omega)]), by rw [g _ _ (by omega)]; exact q3, by rw [g _ _ (by omega)]; exact q4⟩
theorem BND_wt {i v : Int} (h : BND G a) (hv : rg v) : BND (zu G (a + 1) i v) a := by
  refine ⟨fun b b0 b1 => ?_, fun j j0 j1 => ?_⟩
  · have := h.1 b b0 b1
    refine ⟨?_, by rw [zu_kj (by omega)]; exact this.2.1, by rw [zu_kj (by omega)]; exact this.2.2⟩
    by_cases c : b = i
    · rw [c, zu_s]; exact hv
    · rw [zu_j c]; exact this.1
  · rw [zu_kj (by omega), zu_kj (by omega)]; exact h.2 j j0 j1
set_option maxHeartbeats 8000000 in
theorem k37 (hT : TP B n) (ha : 5 ≤ a) (h : CP B n a 0 G S) (hQ : ∀ G1 v, fr G G1 (SKA a) → CS B n a v G1 (Except.bind (oBody B n S) (oEnd B n)) → Q (some (zi v)) G1) : zW (d + 8) 37 [zr 2 0 2] G Q := by
  have bad : ∀ G1 e, fr G G1 (SKA a) → oBody B n S = Except.error e → CE a G1 e → Q (some (zi 0)) G1 := fun G1 e f he hE => hQ G1 0 f (by rw [he]; exact ⟨rfl, hE⟩)
  have w52 : ∀ {G1 G2 G3 : zG}, fr G1 G2 (SKA a) → fr G2 G3 S52 → fr G1 G3 (SKA a) := fun f g => fr_trans f g (fun _ _ t => ska52 t)
  have wKR : ∀ {G1 G2 G3 : zG}, fr G1 G2 (SKA a) → fr G2 G3 SKR → fr G1 G3 (SKA a) := fun f g => fr_trans f g (fun _ _ t => skaKR t)
  have wPg : ∀ {G1 G2 G3 : zG} {rk ck : Int}, (a ≤ rk ∧ rk ≤ a + 10) → (a ≤ ck ∧ ck ≤ a + 10) → fr G1 G2 (SKA a) → fr G2 G3 (SPg rk ck) → fr G1 G3 (SKA a) := fun hr hc f g => fr_trans f g (fun k j t => by
    rcases t with t | t | t
    · exact skaKR t
    · exact Or.inr (Or.inr (Or.inr ⟨by omega, by omega⟩))
    · exact Or.inr (Or.inr (Or.inr ⟨by omega, by omega⟩)))
  have e24 : G 2 4 = a := h.2.2.2.2.2.2.2.1
  have nn := WF_n h.1.2.1
  have e4 : G (G 2 4) 4 = S.2.1 3 := by rw [e24, h.2.2.2.2.1.2.1.2.1]; omega
  refine zm_37 ?_
  apply zs_37_0 <;> intros
  case h3 =>
    have r := refuse_at ha h (k := 3) (by omega)
    exact bad _ _ r.1 (by unfold oBody oFull; rw [if_pos (by omega)]; rfl) r.2
  case h1 => rw [e4]; exact ⟨by omega, by omega, by omega⟩
  case h2 =>
  have hb10 : S.2.1 3 < 10 := by omega
  refine c52s hT h.2.1 (fun G1 f1 hC1 => zs_37_24 ?_)
  have h1 := CP_step ha h f1 hC1
  have hs : oBody B n S = Except.bind (oNew B n (8 + S.2.1 3) (oStep B n S)) (fun S => oBd B n (6 + 11 * S.2.1 3) S) := by
    have : oFull B n 3 10 S = Except.ok (oStep B n S) := by unfold oFull; rw [if_neg (by omega)]
    unfold oBody; rw [this]; rfl
  have ew : (oStep B n S).2.1 = S.2.1 := rfl
  clear hC1
  generalize oStep B n S = S1 at *
  have F1 := w52 (fr_refl G _) f1
  rw [e4]
  have hbody := fun T e => (body_ok (T := T) h.1 e).1
  generalize hb : S.2.1 3 = b at *
  have hbr : 0 ≤ b ∧ b < 10 := by omega
  refine c44p hT ha h1 (slot := 8 + b) ⟨by omega, by omega⟩ (by rw [ew, hb]; omega) (fun G2 v f2 hS2 => ?_)
  have F2 := fr_trans F1 f2 (fun _ _ t => t)
  cases hnew : oNew B n (8 + b) S1 with
  | error e =>
    rw [hnew] at hS2 hs
    rw [hS2.1]
    apply zs_37_32 <;> intros
    case h4 => exact bad G2 e F2 hs hS2.2
    all_goals first | omega | (repeat' first | exact hrg _ | assumption | (unfold rg; omega) | omega | refine And.intro ?_ ?_)
  | ok T =>
  rw [hnew] at hS2 hs
  have hs : oBody B n S = oBd B n (6 + 11 * T.2.1 3) T := hs
  have eT : T.2.1 = S.2.1 := by rw [(new_ok hnew).1]; exact ew
  have eT3 : T.2.1 3 = b := by rw [eT]; exact hb
  rw [eT3] at hs
  obtain ⟨hv, hP⟩ := hS2
  rw [hv]
  have c24 : G2 2 4 = a := hP.2.2.2.2.2.2.2.1
  have c4 : G2 a 4 = b := by rw [hP.2.2.2.2.1.2.1.2.1, eT3]; omega
  generalize hb0 : 6 + 11 * b = b0 at *
  apply zs_37_32 <;> intros
  case h1 => exact ⟨by omega, by omega⟩
  case h2 => omega
  case h4 => omega
  case h3 =>
  rw [c24, c4]
  have hP3 := CP_10 ha hP (by rw [eT3]; omega)
  rw [eT3] at hP3
  have F3 : fr G (zu G2 a 4 (b + 1)) (SKA a) := fr_u F2 (Or.inr (Or.inr (Or.inr ⟨by omega, by omega⟩)))
  refine c41p hT ha hP3 (by omega) (fun hw G4 f4 h4 => ?_) (fun hw G4 f4 hE => ?_)
  case refine_2 =>
    apply zs_37_56 <;> intros
    case h2 => exact bad G4 _ (wKR F3 f4) (by rw [hs]; unfold oBd oWord; rw [cif_f hw]; rfl) hE
    all_goals first | omega | (repeat' first | exact hrg _ | assumption | (unfold rg; omega) | omega | refine And.intro ?_ ?_)
  have hs : oBody B n S = Except.bind (oNum B n 1 999 (oStep B n T)) (fun q => Except.bind (oPg B n 1010 (b0 + 3) 4 0 (oSet b0 q.1 q.2)) (fun q => Except.bind (oPg B n 1011 (b0 + 7) 4 0 (oSet (b0 + 1) q.1 q.2)) (fun q => Except.ok (oSet 3 (q.2.2.1 3 + 1) (oSet (b0 + 2) q.1 q.2))))) := by
    have : oWord B n 1009 6 T = Except.ok (oStep B n T) := by unfold oWord; rw [cif_t hw]
    rw [hs]; unfold oBd; rw [this]; rfl
  have eS4 : (oStep B n T).2.1 = T.2.1 := rfl
  generalize oStep B n T = S4 at *
  have F4 := w52 F3 f4
  have eS43 : S4.2.1 3 = b := by rw [eS4]; exact eT3
  have d24 : G4 2 4 = a := h4.2.2.2.2.2.2.2.1
  have d6 : G4 2 6 = S4.1.1 := (CT_n h4.2.1).2.2.2.1
  have d5 := (CT_n h4.2.1).2.2.2.2.2.2
  apply zs_37_56 <;> intros
  case h9 =>
    have r := refuse_at ha h4 (k := 1) (by omega)
    exact bad _ _ (fr_trans F4 r.1 (fun _ _ t => t)) (by rw [hs]; unfold oNum; rw [if_neg (by omega)]; rfl) r.2
  case h8 =>
    have hv := CP_num h4 (by omega)
    have r := refuse_at ha h4 (k := 2) (by omega)
    exact bad _ _ (fr_trans F4 r.1 (fun _ _ t => t)) (by rw [hs]; unfold oNum; rw [if_pos (by omega), if_neg (by omega)]; rfl) r.2
  case h5 =>
    have hv := CP_num h4 (by omega)
    have r := refuse_at ha h4 (k := 2) (by omega)
    exact bad _ _ (fr_trans F4 r.1 (fun _ _ t => t)) (by rw [hs]; unfold oNum; rw [if_pos (by omega), if_neg (by omega)]; rfl) r.2
  case h4 => have hv := CP_num h4 (by omega); exact ⟨by omega, by omega⟩
  case h1 => exact ⟨by omega, by omega⟩
  case h2 => omega
  case h3 => rw [d6]; exact ⟨by omega, by omega⟩
  case h6 => exact ⟨by omega, by omega, by omega⟩
  case h7 =>
  have hv := CP_num h4 (by omega)
  have hval : G4 2 8 = S4.1.2.2.2 := by omega
  have hvr : 1 ≤ S4.1.2.2.2 ∧ S4.1.2.2.2 ≤ 999 := by omega
  have hs : oBody B n S = Except.bind (oPg B n 1010 (b0 + 3) 4 0 (oStep B n (oSet b0 S4.1.2.2.2 S4))) (fun q => Except.bind (oPg B n 1011 (b0 + 7) 4 0 (oSet (b0 + 1) q.1 q.2)) (fun q => Except.ok (oSet 3 (q.2.2.1 3 + 1) (oSet (b0 + 2) q.1 q.2)))) := by
    have : oNum B n 1 999 S4 = Except.ok (S4.1.2.2.2, oStep B n S4) := by unfold oNum; rw [if_pos (by omega), if_pos hvr]
    rw [hs, this]; rfl
  rw [d24, hval]
  generalize S4.1.2.2.2 = wv at *
  have hP5 : CP B n a 1 (zu G4 (a + 1) b wv) (oSet b0 wv S4) := by
    refine CP1_set ha eS43 h4 (PSok_set h4.1 ⟨by omega, by omega⟩ (by rw [eS43]; omega) (by rw [eS43]; omega) (by rw [eS43]; omega)) (fun k j hk => zu_kj (by omega)) (fun k j k0 k1 hj => zu_j hj) (fun k j k0 k1 hj => zu_kj (by omega)) (BND_wt h4.2.2.2.2.2.2.1 ⟨by omega, by omega⟩) (fun j hj => zpd_n (by omega))
  refine c52s hT hP5.2.1 (fun G5 f5 hC5 => ?_)
  have h5 := CP_step ha hP5 f5 hC5
  have g51 : G5 (a + 1) b = wv := by rw [f5 _ _ (fun t => by unfold S52 at t; omega), zu_s]
  have F5 : fr G G5 (SKA a) := w52 (fr_u F4 (Or.inr (Or.inr (Or.inr ⟨by omega, by omega⟩)))) f5
  have w50 : (oStep B n (oSet b0 wv S4)).2.1 b0 = wv := zpd_s
  have w53 : (oStep B n (oSet b0 wv S4)).2.1 3 = b := by show zpd S4.2.1 b0 wv 3 = b; rw [zpd_n (by omega)]; exact eS43
  clear hC5
  generalize oStep B n (oSet b0 wv S4) = S5 at *
  have b24 : G5 2 4 = a := h5.2.2.2.2.2.2.2.1
  apply zs_37_89 <;> intros
  case h1 => omega
  case h2 =>
  rw [b24]
  refine zm_38 (zs_38_0 (c38 hT ha (rk := a + 4) (ck := a + 2) (at0 := b0 + 3) (b := b) (Or.inl rfl) (Or.inl rfl) hbr (by omega) 4 0 S5 _ _ (by omega) (by omega) h5 w53 (fun j j0 j1 => by omega) (fun G6 p T6 ho f6 h6 g1 g2 => ?_) (fun G6 e ho f6 hE => ?_) _))
  case refine_2 =>
    apply zs_37_110 <;> intros
    case h2 => exact bad G6 e (wPg (by omega) (by omega) F5 f6) (by rw [hs, ho]; rfl) hE
    all_goals first | omega | (repeat' first | exact hrg _ | assumption | (unfold rg; omega) | omega | refine And.intro ?_ ?_)
  have F6 := wPg (by omega) (by omega) F5 f6
  rw [ho] at hs
  have hs : oBody B n S = Except.bind (oPg B n 1011 (b0 + 7) 4 0 (oSet (b0 + 1) p T6)) (fun q => Except.ok (oSet 3 (q.2.2.1 3 + 1) (oSet (b0 + 2) q.1 q.2))) := hs
  have pl := pg_lo (by omega) ho
  have w60 : T6.2.1 b0 = wv := by rw [pl.1 _ (by omega)]; exact w50
  have w63 : T6.2.1 3 = b := by rw [pl.1 _ (by omega)]; exact w53
  have g61 : G6 (a + 1) b = wv := by rw [f6 _ _ (fun t => by unfold SPg SKR at t; omega)]; exact g51
  have hP7 : CP B n a 1 G6 (oSet (b0 + 1) p T6) := by
    refine CP1_set ha w63 h6 (PSok_set h6.1 ⟨by omega, by omega⟩ (by rw [w63]; omega) (by rw [w63]; omega) (by rw [w63]; omega)) (fun k j hk => rfl) (fun k j k0 k1 hj => rfl) (fun k j k0 k1 hj => rfl) h6.2.2.2.2.2.2.1 (fun j hj => zpd_n (by omega))
  have w70 : (oSet (b0 + 1) p T6).2.1 b0 = wv := by show zpd _ _ _ _ = _; rw [zpd_n (by omega)]; exact w60
  have w71 : (oSet (b0 + 1) p T6).2.1 (b0 + 1) = p := zpd_s
  have w73 : (oSet (b0 + 1) p T6).2.1 3 = b := by show zpd _ _ _ _ = _; rw [zpd_n (by omega)]; exact w63
  have w7r : ∀ j, 0 ≤ j → j < p → G6 (a + 4) ((b * 4) + j) = (oSet (b0 + 1) p T6).2.1 (b0 + 3 + j) := fun j j0 j1 => by
    rw [g2 j j0 j1]; show _ = zpd _ _ _ _; rw [zpd_n (by omega)]
  generalize oSet (b0 + 1) p T6 = S7 at *
  have a24 : G6 2 4 = a := h6.2.2.2.2.2.2.2.1
  apply zs_37_110 <;> intros
  case h1 => exact ⟨by omega, by omega⟩
  case h2 => omega
  case h3 => omega
  case h4 =>
  rw [a24]
  refine zm_38 (zs_38_0 (c38 hT ha (rk := a + 5) (ck := a + 3) (at0 := b0 + 7) (b := b) (Or.inr rfl) (Or.inr rfl) hbr (by omega) 4 0 S7 _ _ (by omega) (by omega) hP7 w73 (fun j j0 j1 => by omega) (fun G8 l T8 ho2 f8 h8 k1 k2 => ?_) (fun G8 e ho2 f8 hE => ?_) _))
  case refine_2 =>
    apply zs_37_134 <;> intros
    case h2 => exact bad G8 e (wPg (by omega) (by omega) F6 f8) (by rw [hs, ho2]; rfl) hE
    all_goals first | omega | (repeat' first | exact hrg _ | assumption | (unfold rg; omega) | omega | refine And.intro ?_ ?_)
  have F8 := wPg (by omega) (by omega) F6 f8
  rw [ho2] at hs
  have hs : oBody B n S = Except.ok (oSet 3 (T8.2.1 3 + 1) (oSet (b0 + 2) l T8)) := hs
  have pl2 := pg_lo (by omega) ho2
  have w83 : T8.2.1 3 = b := by rw [pl2.1 _ (by omega)]; exact w73
  rw [w83] at hs
  have hf8 : ∀ k j, ¬ ((k = 2 ∧ (j = 0 ∨ j = 1 ∨ (5 ≤ j ∧ j ≤ 8))) ∨ k = a + 5 ∨ k = a + 3) → G8 k j = G6 k j := fun k j t => f8 k j t
  have hW : ∀ j, j ≠ 3 → j ≠ b0 + 2 → (oSet 3 (b + 1) (oSet (b0 + 2) l T8)).2.1 j = T8.2.1 j := fun j j3 j2 => by
    show zpd (zpd T8.2.1 (b0 + 2) l) 3 (b + 1) j = _
    rw [zpd_n j3, zpd_n j2]
  have hW3 : (oSet 3 (b + 1) (oSet (b0 + 2) l T8)).2.1 3 = b + 1 := by show zpd (zpd T8.2.1 (b0 + 2) l) 3 (b + 1) 3 = _; rw [zpd_s]
  have hW2 : (oSet 3 (b + 1) (oSet (b0 + 2) l T8)).2.1 (b0 + 2) = l := by
    show zpd (zpd T8.2.1 (b0 + 2) l) 3 (b + 1) (b0 + 2) = _
    rw [zpd_n (by omega), zpd_s]
  have hPS := hbody _ hs
  have hNN : (oSet 3 (b + 1) (oSet (b0 + 2) l T8)).2.2 = T8.2.2 := rfl
  have hTT : (oSet 3 (b + 1) (oSet (b0 + 2) l T8)).1 = T8.1 := rfl
  rw [hs] at hQ
  have hQ : ∀ G1 v, fr G G1 (SKA a) → CS B n a v G1 (oEnd B n (oSet 3 (b + 1) (oSet (b0 + 2) l T8))) → Q (some (zi v)) G1 := hQ
  generalize hWW : oSet 3 (b + 1) (oSet (b0 + 2) l T8) = W at *
  obtain ⟨i1, i2, i3, i4, i5, i6⟩ := h8
  obtain ⟨t1, t2, t3, t4, t5, t6⟩ := i5
  have n8 := WF_n i1.2.1
  have hCPW : CP B n a 0 G8 W := by
    refine ⟨hPS, by rw [hTT]; exact i2, by rw [hNN]; exact i3, i4, ⟨⟨?_, ?_, ?_⟩, ⟨?_, ?_, ?_⟩, t3, fun b' b0' bl => ?_, fun s s0 sl => ?_, t6⟩, i6⟩
    · rw [hW _ (by omega) (by omega)]; exact t1.1
    · rw [hW _ (by omega) (by omega)]; exact t1.2.1
    · rw [hW _ (by omega) (by omega)]; exact t1.2.2
    · rw [hW _ (by omega) (by omega)]; exact t2.1
    · rw [hW3, t2.2.1, w83]; omega
    · rw [hW _ (by omega) (by omega)]; exact t2.2.2
    · rw [hW3] at bl
      by_cases c : b' = b
      · rw [c]
        unfold BD1
        rw [hb0, hW b0 (by omega) (by omega), hW (b0 + 1) (by omega) (by omega), hW2, pl2.1 b0 (by omega), pl2.1 (b0 + 1) (by omega), w70, w71]
        refine ⟨by rw [hf8 _ _ (by omega)]; exact g61, by rw [hf8 _ _ (by omega)]; exact g1, k1, fun i i0 i1 => ?_, fun i i0 i1 => ?_⟩
        · rw [hW _ (by omega) (by omega), pl2.1 _ (by omega), hf8 _ _ (by omega)]; exact w7r i i0 i1
        · rw [hW _ (by omega) (by omega)]; exact k2 i i0 i1
      · have wb := WF_b i1.2.1 (b := b') b0' (by omega)
        exact BD1_of (t4 b' b0' (by omega)) wb.2.1.2 wb.2.2.1.2 (fun k k0 k1 => rfl) (fun k i k0 k1 i0 i1 => rfl) (fun j j0 j1 => hW j (by omega) (by omega))
    · rw [hW _ (by omega) (by omega)] at sl
      exact SH1_of (t5 s s0 sl) (fun k k0 k1 => rfl) (fun j j0 j1 => hW j (by omega) (by omega))
  apply zs_37_134 <;> intros
  case h1 => exact ⟨by omega, by omega⟩
  case h2 => omega
  case h3 =>
  refine c43 hT ha hCPW (fun G9 v f9 hS9 => ?_)
  have hQ9 := hQ G9 v (fr_trans F8 f9 (fun _ _ t => t)) hS9
  have hv01 := CS_v hS9
  apply zs_37_141 <;> intros
  case h1 => exact ⟨by omega, by omega⟩
  case h2 => rw [show v = 0 by assumption] at hQ9; exact hQ9
  case h3 => rw [show v = 1 by omega] at hQ9; exact hQ9
end CL
