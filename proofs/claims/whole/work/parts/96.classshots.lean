/-! THE READER by the class: shots -/
section CL
variable {d : Nat} {G : zG} {Q : zQ} {B : Int → Int} {n a x : Int} {S : PS}
set_option maxHeartbeats 4000000 in
theorem c7 {w : Int → Int} (wf : WF w) (h5 : G a 5 = w 4) (hs : ∀ s, 0 ≤ s → s < w 4 → G (a + 7) s = (w (116 + (4 * s))) ∧ G (a + 8) s = (w ((116 + (4 * s)) + 1))) {p day : Int} (hp : rg p) (hd : rg day) (hY : has w p day → Q (some (zi 1)) G) (hN : ¬ has w p day → Q (some (zi 0)) G) : zW (d + 1) 7 [zr 0 0 a, zi p, zi day] G Q := by
  obtain ⟨n0, n1, n2, n3, n4, n5⟩ := WF_n wf; have hrg := WF_rg wf
  have key : ∀ (rem k : Nat), k + rem = w 4 → (∀ s : Int, 0 ≤ s → s < k → ¬ ((w (116 + (4 * s))) = p ∧ (w ((116 + (4 * s)) + 1)) = day)) → zAt xT_7 (zW d) Q 2 [zr 0 0 a, zi p, zi day, zi k] [] G := by
    intro rem
    induction rem with
    | zero =>
      intro k hk hno
      apply zs_7_2 <;> intros
      case h2 =>
        refine hN (fun ⟨s, s0, s1, sa, sb⟩ => hno s s0 (by omega) ⟨sa, sb⟩)
      all_goals first | omega | (repeat' first | exact hrg _ | assumption | (unfold rg; omega) | omega | refine And.intro ?_ ?_)
    | succ rem ih =>
      intro k hk hno
      obtain ⟨g1, g2⟩ := hs k (by omega) (by omega)
      have ws := WF_s wf (s := k) (by omega) (by omega)
      have nxt : ¬ ((w (116 + (4 * k))) = p ∧ (w ((116 + (4 * k)) + 1)) = day) → zAt xT_7 (zW d) Q 2 [zr 0 0 a, zi p, zi day, zi (k + 1)] [] G := fun hc => by
        refine ih (k + 1) (by omega) (fun s s0 s1 => ?_)
        by_cases c : s = k
        · rw [c]; exact hc
        · exact hno s s0 (by omega)
      apply zs_7_2 <;> intros
      case h4 => exact nxt (fun h => by have := h.1; omega)
      case h6 => exact nxt (fun h => by have := h.2; omega)
      case h7 => exact hY ⟨k, by omega, by omega, by omega, by omega⟩
      all_goals first | omega | (repeat' first | exact hrg _ | assumption | (unfold rg; omega) | omega | refine And.intro ?_ ?_)
  exact zm_7 (zs_7_0 (key (w 4).toNat 0 (by omega) (fun s s0 s1 => by omega)))
set_option maxHeartbeats 4000000 in
theorem c10e {m p y k o : Int} (h5 : G a 5 = m) (hm : 0 ≤ m ∧ m < 60) (hQ : Q none (zu (zu (zu (zu (zu G (a + 7) m p) (a + 8) m y) (a + 9) m k) (a + 10) m o) a 5 (m + 1))) : zW (d + 2) 10 [zr 0 0 a, zi m, zi p, zi y, zi k, zi o] G Q := by
  refine zm_10 (zs_10_0 ?_)
  rw [h5]
  apply zs_10_6 <;> intros
  case h3 => rw [zu_kj (by omega), zu_kj (by omega), zu_kj (by omega), zu_kj (by omega), h5]; exact hQ
  all_goals first | omega | (repeat' first | exact hrg _ | assumption | (unfold rg; omega) | omega | refine And.intro ?_ ?_)
set_option maxHeartbeats 4000000 in
theorem c46p (hT : TP B n) (ha : 5 ≤ a) (h : CP B n a 0 G S) {base j m : Int} (hj : base = 0 ∧ j = 2 ∨ base = 8 ∧ j = 3) (hm : m = S.2.1 j) (hY : ∀ G1 q, oTold B n base j S = Except.ok q → fr G G1 S52 → CP B n a 0 G1 q.2 → Q (some (zi q.1)) G1) (hN : ∀ G1 e, oTold B n base j S = Except.error e → fr G G1 SKR → CE a G1 e → Q (some (zi (-1))) G1) : zW (d + 5) 46 [zr 2 0 2, zi base, zi m] G Q := by
  have nn := WF_n h.1.2.1
  have hnm := h.1.2.2.2.2
  have hr : 0 ≤ base ∧ (0 ≤ m ∧ m ≤ 10) ∧ base + m ≤ 18 ∧ ∀ i, 0 ≤ i → i < m → NMs B n (S.2.2 (base + i)) := by
    rcases hj with ⟨c1, c2⟩ | ⟨c1, c2⟩
    · subst c1; subst c2; exact ⟨by omega, by omega, by omega, fun i i0 i1 => hnm _ (by omega)⟩
    · subst c1; subst c2; exact ⟨by omega, by omega, by omega, fun i i0 i1 => hnm _ (by omega)⟩
  refine c46 hT h.2.1 h.2.2.1 hr.1 hr.2.1 hr.2.2.1 hr.2.2.2 (fun k1 hf G2 f2 hC2 => ?_) (fun k1 G2 f2 hF => ?_) (fun k1 hf G2 f2 hF => ?_)
  · rw [hm] at hf ⊢
    exact hY G2 (fnd B S.1 S.2.2 base (S.2.1 j), oStep B n S) (by unfold oTold; rw [if_pos k1, if_neg hf]) f2 (CP_step ha h f2 hC2)
  · exact hN G2 _ (by unfold oTold; rw [if_neg k1]) f2 (CE_of ha h.2.2.2.2.2 f2 (by omega) hF)
  · rw [hm] at hf
    exact hN G2 _ (by unfold oTold; rw [if_pos k1, if_pos hf]) f2 (CE_of ha h.2.2.2.2.2 f2 (by omega) hF)
set_option maxHeartbeats 4000000 in
theorem c40 (hT : TP B n) (ha : 5 ≤ a) (h : CP B n a 0 G S) {k : Int} (hk : k = 0 ∨ k = 2) (hY : ∀ G1 q, oOf B n k S = Except.ok q → fr G G1 SKR → CP B n a 0 G1 q.2 → Q (some (zi q.1)) G1) (hN : ∀ G1 e, oOf B n k S = Except.error e → fr G G1 SKR → CE a G1 e → Q (some (zi (-1))) G1) : zW (d + 6) 40 [zr 2 0 2, zi k] G Q := by
  have w2 : ∀ {G1 G2 : zG}, fr G1 G2 S52 → fr G1 G2 SKR := fun f => fr_wide f (fun k j t => ⟨t.1, Or.inr (Or.inr t.2)⟩)
  have w3 : ∀ {G1 G2 G3 : zG}, fr G1 G2 S52 → fr G2 G3 SKR → fr G1 G3 SKR := fun f g => fr_trans (w2 f) g (fun _ _ t => t)
  refine zm_40 ?_
  rcases hk with hk | hk
  · have hs : oOf B n k S = Except.bind (oWord B n 1013 2 S) (oTold B n 8 3) := by unfold oOf; rw [if_pos hk]
    apply zs_40_0 <;> intros
    case h3 =>
      refine c41p hT ha h (by omega) (fun hw G1 f1 h1 => ?_) (fun hw G1 f1 hE => ?_)
      · have hs : oOf B n k S = oTold B n 8 3 (oStep B n S) := by
          have : oWord B n 1013 2 S = Except.ok (oStep B n S) := by unfold oWord; rw [cif_t hw]
          rw [hs, this]; rfl
        generalize oStep B n S = S1 at *
        have e24 : G1 2 4 = a := h1.2.2.2.2.2.2.2.1
        have e4 : G1 (G1 2 4) 4 = S1.2.1 3 := by rw [e24, h1.2.2.2.2.1.2.1.2.1]; omega
        apply zs_40_15 <;> intros
        case h6 =>
          rw [e4]
          refine c46p hT ha h1 (Or.inr ⟨rfl, rfl⟩) rfl (fun G2 q ho f2 h2 => zs_40_37 (zs_40_52 (hY G2 q (by rw [hs]; exact ho) (w3 f1 (w2 f2)) h2))) (fun G2 e ho f2 hE => zs_40_37 (zs_40_52 (hN G2 e (by rw [hs]; exact ho) (w3 f1 f2) hE)))
        all_goals first | omega | (repeat' first | exact hrg _ | assumption | (unfold rg; omega) | omega | refine And.intro ?_ ?_)
      · apply zs_40_15 <;> intros
        case h7 => exact hN G1 _ (by rw [hs]; unfold oWord; rw [cif_f hw]; rfl) f1 hE
        all_goals first | omega | (repeat' first | exact hrg _ | assumption | (unfold rg; omega) | omega | refine And.intro ?_ ?_)
    all_goals first | omega | (repeat' first | exact hrg _ | assumption | (unfold rg; omega) | omega | refine And.intro ?_ ?_)
  · have hs : oOf B n k S = Except.bind (oWord B n 1014 2 S) (oTold B n 0 2) := by unfold oOf; rw [if_neg (by omega), if_pos hk]
    apply zs_40_0 <;> intros
    case h2 =>
      refine c41p hT ha h (by omega) (fun hw G1 f1 h1 => ?_) (fun hw G1 f1 hE => ?_)
      · have hs : oOf B n k S = oTold B n 0 2 (oStep B n S) := by
          have : oWord B n 1014 2 S = Except.ok (oStep B n S) := by unfold oWord; rw [cif_t hw]
          rw [hs, this]; rfl
        generalize oStep B n S = S1 at *
        have e24 : G1 2 4 = a := h1.2.2.2.2.2.2.2.1
        have e4 : G1 (G1 2 4) 3 = S1.2.1 2 := by rw [e24]; exact h1.2.2.2.2.1.2.1.1
        apply zs_40_15 <;> intros
        case h4 =>
          rw [e4]
          refine c46p hT ha h1 (Or.inl ⟨rfl, rfl⟩) rfl (fun G2 q ho f2 h2 => zs_40_52 (hY G2 q (by rw [hs]; exact ho) (w3 f1 (w2 f2)) h2)) (fun G2 e ho f2 hE => zs_40_52 (hN G2 e (by rw [hs]; exact ho) (w3 f1 f2) hE))
        all_goals first | omega | (repeat' first | exact hrg _ | assumption | (unfold rg; omega) | omega | refine And.intro ?_ ?_)
      · apply zs_40_15 <;> intros
        case h7 => exact hN G1 _ (by rw [hs]; unfold oWord; rw [cif_f hw]; rfl) f1 hE
        all_goals first | omega | (repeat' first | exact hrg _ | assumption | (unfold rg; omega) | omega | refine And.intro ?_ ?_)
    all_goals first | omega | (repeat' first | exact hrg _ | assumption | (unfold rg; omega) | omega | refine And.intro ?_ ?_)
theorem CP_put (ha : 5 ≤ a) (h : CP B n a 0 G S) {p y k o m : Int} (hm : m = S.2.1 4) (hm0 : m < 60) (hPS : PSok B n (oPut p y k o S)) : CP B n a 0 (zu (zu (zu (zu (zu G (a + 7) m p) (a + 8) m y) (a + 9) m k) (a + 10) m o) a 5 (m + 1)) (oPut p y k o S) := by
  obtain ⟨h1, h2, h3, h4, h5, h6⟩ := h
  have nn := WF_n h1.2.1
  have hT : (oPut p y k o S).1 = S.1 := rfl
  have hNn : (oPut p y k o S).2.2 = S.2.2 := rfl
  have hw : (oPut p y k o S).2.1 = putS S.2.1 p y k o := rfl
  generalize hG : zu (zu (zu (zu (zu G (a + 7) m p) (a + 8) m y) (a + 9) m k) (a + 10) m o) a 5 (m + 1) = G1
  have g : ∀ q i, ¬ (q = a ∧ i = 5) → ¬ ((a + 7 ≤ q ∧ q ≤ a + 10) ∧ i = m) → G1 q i = G q i := fun q i c1 c2 => by
    rw [← hG]
    rw [show ∀ H : zG, zu H a 5 (m + 1) q i = H q i from fun H => if_neg c1]
    rw [show ∀ H : zG, zu H (a + 10) m o q i = H q i from fun H => if_neg (by omega)]
    rw [show ∀ H : zG, zu H (a + 9) m k q i = H q i from fun H => if_neg (by omega)]
    rw [show ∀ H : zG, zu H (a + 8) m y q i = H q i from fun H => if_neg (by omega)]
    rw [show ∀ H : zG, zu H (a + 7) m p q i = H q i from fun H => if_neg (by omega)]
  have g5 : G1 a 5 = m + 1 := by rw [← hG, zu_s]
  have g7 : G1 (a + 7) m = p := by rw [← hG, zu_kj (by omega), zu_kj (by omega), zu_kj (by omega), zu_kj (by omega), zu_s]
  have g8 : G1 (a + 8) m = y := by rw [← hG, zu_kj (by omega), zu_kj (by omega), zu_kj (by omega), zu_s]
  have g9 : G1 (a + 9) m = k := by rw [← hG, zu_kj (by omega), zu_kj (by omega), zu_s]
  have g10 : G1 (a + 10) m = o := by rw [← hG, zu_kj (by omega), zu_s]
  have po : ∀ j, (j < 116 + 4 * S.2.1 4 ∨ 116 + 4 * S.2.1 4 + 4 ≤ j) → j ≠ 4 → (oPut p y k o S).2.1 j = S.2.1 j := fun j c1 c2 => by rw [hw]; exact putS_o c1 c2
  have pa := putS_at (w := S.2.1) (p := p) (day := y) (k := k) (o := o) (by omega)
  rw [← hw] at pa
  obtain ⟨t1, t2, t3, t4, t5, t6⟩ := h5
  refine ⟨hPS, by rw [hT]; exact CT_fr h2 (fun k j h => g _ _ (by omega) (by omega)), by rw [hNn]; exact fun p p0 p1 hp => by rw [g _ _ (by omega) (by omega), g _ _ (by omega) (by omega)]; exact h3 p p0 p1 hp, ⟨by rw [g _ _ (by omega) (by omega)]; exact h4.1, by rw [g _ _ (by omega) (by omega)]; exact h4.2⟩, ⟨⟨?_, ?_, ?_⟩, ⟨?_, ?_, ?_⟩, ?_, fun b b0 bl => ?_, fun s s0 sl => ?_, ?_⟩, ?_⟩
  · rw [g _ _ (by omega) (by omega), po _ (by omega) (by omega)]; exact t1.1
  · rw [g _ _ (by omega) (by omega), po _ (by omega) (by omega)]; exact t1.2.1
  · rw [g _ _ (by omega) (by omega), po _ (by omega) (by omega)]; exact t1.2.2
  · rw [g _ _ (by omega) (by omega), po _ (by omega) (by omega)]; exact t2.1
  · rw [g _ _ (by omega) (by omega), po _ (by omega) (by omega)]; exact t2.2.1
  · rw [g5, pa.1, hm]
  · rw [g _ _ (by omega) (by omega)]; exact t3
  · rw [po _ (by omega) (by omega)] at bl
    have wb := WF_b h1.2.1 b0 bl
    exact BD1_of (t4 b b0 bl) wb.2.1.2 wb.2.2.1.2 (fun k k0 k1 => g _ _ (by omega) (by omega)) (fun k i k0 k1 i0 i1 => g _ _ (by omega) (by omega)) (fun j j0 j1 => po j (by omega) (by omega))
  · rw [pa.1] at sl
    by_cases c : s = S.2.1 4
    · unfold SH1
      rw [c, pa.2.1, pa.2.2.1, pa.2.2.2.1, pa.2.2.2.2, ← hm]
      exact ⟨g7, g8, g9, fun _ => g10⟩
    · exact SH1_of (t5 s s0 (by omega)) (fun k k0 k1 => g _ _ (by omega) (by omega)) (fun j j0 j1 => po j (by omega) (by omega))
  · exact BND_fr t6 (fun k j k0 k1 => g _ _ (by omega) (by omega))
  · obtain ⟨q1, q2, q3, q4⟩ := h6
    exact ⟨by rw [g _ _ (by omega) (by omega)]; exact q1, BND_fr q2 (fun k j k0 k1 => g _ _ (by omega) (by omega)), by rw [g _ _ (by omega) (by omega)]; exact q3, by rw [g _ _ (by omega) (by omega)]; exact q4⟩
set_option maxHeartbeats 8000000 in
theorem k39 (hT : TP B n) (ha : 5 ≤ a) (h : CP B n a 0 G S) {k : Int} (hk : 0 ≤ k ∧ k ≤ 3) (hQ : ∀ G1 v, fr G G1 (SKA a) → CS B n a v G1 (Except.bind (oShot B n k S) (oEnd B n)) → Q (some (zi v)) G1) : zW (d + 7) 39 [zr 2 0 2, zi k] G Q := by
  have bad : ∀ G1 e, fr G G1 (SKA a) → oShot B n k S = Except.error e → CE a G1 e → Q (some (zi 0)) G1 := fun G1 e f he hE => hQ G1 0 f (by rw [he]; exact ⟨rfl, hE⟩)
  have w52 : ∀ {G1 G2 G3 : zG}, fr G1 G2 (SKA a) → fr G2 G3 S52 → fr G1 G3 (SKA a) := fun f g => fr_trans f g (fun _ _ t => ska52 t)
  have wKR : ∀ {G1 G2 G3 : zG}, fr G1 G2 (SKA a) → fr G2 G3 SKR → fr G1 G3 (SKA a) := fun f g => fr_trans f g (fun _ _ t => skaKR t)
  have e24 : G 2 4 = a := h.2.2.2.2.2.2.2.1
  have nn := WF_n h.1.2.1
  have h40 := h.1.2.2.1
  have e5 : G (G 2 4) 5 = S.2.1 4 := by rw [e24]; exact h.2.2.2.2.1.2.1.2.2
  refine zm_39 ?_
  apply zs_39_0 <;> intros
  case h4 =>
    have r := refuse_at ha h (k := 3) (by omega)
    exact bad _ _ r.1 (by unfold oShot oFull; rw [if_pos (by omega)]; rfl) r.2
  case h5 => omega
  case h1 => exact ⟨by omega, by omega⟩
  case h2 => rw [e5]; exact ⟨by omega, by omega, by omega⟩
  case h3 =>
  refine c52s hT h.2.1 (fun G1 f1 hC1 => ?_)
  have h1 := CP_step ha h f1 hC1
  have hs : oShot B n k S = Except.bind (oTold B n 0 2 (oStep B n S)) (fun p => Except.bind (oWord B n 1012 2 p.2) (fun S => Except.bind (oDay B n p.1 S) (fun e => Except.bind (oOf B n k e.2) (fun o => Except.ok (oPut p.1 e.1 k o.1 o.2))))) := by
    have : oFull B n 4 40 S = Except.ok (oStep B n S) := by unfold oFull; rw [if_neg (by omega)]
    unfold oShot; rw [this]; rfl
  have ew : (oStep B n S).2.1 = S.2.1 := rfl
  have hshot := fun T e => (shot_ok (T := T) hk h.1 e).1
  clear hC1
  generalize oStep B n S = S1 at *
  have F1 := w52 (fr_refl G _) f1
  have d24 : G1 2 4 = a := h1.2.2.2.2.2.2.2.1
  have d3 : G1 (G1 2 4) 3 = S1.2.1 2 := by rw [d24]; exact h1.2.2.2.2.1.2.1.1
  apply zs_39_33 <;> intros
  case h1 => omega
  case h2 =>
  rw [d3]
  refine c46p hT ha h1 (Or.inl ⟨rfl, rfl⟩) rfl (fun G2 q ho f2 h2 => ?_) (fun G2 e ho f2 hE => ?_)
  case refine_2 =>
    apply zs_39_45 <;> intros
    case h2 => exact bad G2 e (wKR F1 f2) (by rw [hs, ho]; rfl) hE
    all_goals first | omega | (repeat' first | exact hrg _ | assumption | (unfold rg; omega) | omega | refine And.intro ?_ ?_)
  have F2 := w52 F1 f2
  have tq := told_ok (by rw [ew]; omega) ho
  rw [ew] at tq
  have ew2 : q.2.2.1 = S.2.1 := by rw [tq.1]; exact ew
  rw [ho] at hs
  have hs : oShot B n k S = Except.bind (oWord B n 1012 2 q.2) (fun S => Except.bind (oDay B n q.1 S) (fun e => Except.bind (oOf B n k e.2) (fun o => Except.ok (oPut q.1 e.1 k o.1 o.2)))) := hs
  obtain ⟨p, S2⟩ := q
  have tq2 : 0 ≤ p ∧ p < S.2.1 2 := tq.2.2
  have ew2 : S2.2.1 = S.2.1 := ew2
  have h2 : CP B n a 0 G2 S2 := h2
  apply zs_39_45 <;> intros
  case h1 => show rg p; exact ⟨by omega, by omega⟩
  case h2 => rename_i hh; have hh : p = -1 := hh; omega
  case h3 =>
  refine c41p hT ha h2 (by omega) (fun hw G3 f3 h3 => ?_) (fun hw G3 f3 hE => ?_)
  case refine_2 =>
    apply zs_39_57 <;> intros
    case h2 => exact bad G3 _ (wKR F2 f3) (by rw [hs]; unfold oWord; rw [cif_f hw]; rfl) hE
    all_goals first | omega | (repeat' first | exact hrg _ | assumption | (unfold rg; omega) | omega | refine And.intro ?_ ?_)
  have F3 := w52 F2 f3
  have hs : oShot B n k S = Except.bind (oDay B n p (oStep B n S2)) (fun e => Except.bind (oOf B n k e.2) (fun o => Except.ok (oPut p e.1 k o.1 o.2))) := by
    have : oWord B n 1012 2 S2 = Except.ok (oStep B n S2) := by unfold oWord; rw [cif_t hw]
    rw [hs]; show Except.bind (oWord B n 1012 2 S2) _ = _; rw [this]; rfl
  have ew3 : (oStep B n S2).2.1 = S.2.1 := ew2
  generalize oStep B n S2 = S3 at *
  have c24 : G3 2 4 = a := h3.2.2.2.2.2.2.2.1
  have c6 : G3 2 6 = S3.1.1 := (CT_n h3.2.1).2.2.2.1
  have c5 := (CT_n h3.2.1).2.2.2.2.2.2
  apply zs_39_57 <;> intros
  case h9 =>
    have r := refuse_at ha h3 (k := 1) (by omega)
    exact bad _ _ (fr_trans F3 r.1 (fun _ _ t => t)) (by rw [hs]; unfold oDay oNum; rw [if_neg (by omega)]; rfl) r.2
  case h8 =>
    have hv := CP_num h3 (by omega)
    have r := refuse_at ha h3 (k := 2) (by omega)
    exact bad _ _ (fr_trans F3 r.1 (fun _ _ t => t)) (by rw [hs]; unfold oDay oNum; rw [if_pos (by omega), if_neg (by omega)]; rfl) r.2
  case h5 => have hv := CP_num h3 (by omega); omega
  case h4 => have hv := CP_num h3 (by omega); exact ⟨by omega, by omega⟩
  case h1 => exact ⟨by omega, by omega⟩
  case h2 => omega
  case h3 => rw [c6]; exact ⟨by omega, by omega⟩
  case h6 => omega
  case h7 =>
  have hv := CP_num h3 (by omega)
  have hval : G3 2 8 = S3.1.2.2.2 := by omega
  have hvr : 0 ≤ S3.1.2.2.2 ∧ S3.1.2.2.2 ≤ 365 := by omega
  have hnum : oNum B n 0 365 S3 = Except.ok (S3.1.2.2.2, oStep B n S3) := by unfold oNum; rw [if_pos (by omega), if_pos hvr]
  rw [c24, hval]
  have hd3 := h3.2.2.2.2.1
  refine c7 h3.1.2.1 hd3.2.1.2.2 (fun s s0 s1 => ⟨(hd3.2.2.2.2.1 s s0 s1).1, (hd3.2.2.2.2.1 s s0 s1).2.1⟩) ⟨by omega, by omega⟩ ⟨by omega, by omega⟩ (fun hh => ?_) (fun hh => ?_)
  · apply zs_39_87 <;> intros
    case h3 =>
      have r := refuse_at ha h3 (k := 2) (by omega)
      exact bad _ _ (fr_trans F3 r.1 (fun _ _ t => t)) (by rw [hs]; unfold oDay; rw [hnum]; show Except.bind (cif _ _ _) _ = _; rw [cif_t hh]; rfl) r.2
    all_goals first | omega | (repeat' first | exact hrg _ | assumption | (unfold rg; omega) | omega | refine And.intro ?_ ?_)
  have hs : oShot B n k S = Except.bind (oOf B n k (oStep B n S3)) (fun o => Except.ok (oPut p S3.1.2.2.2 k o.1 o.2)) := by
    have : oDay B n p S3 = Except.ok (S3.1.2.2.2, oStep B n S3) := by unfold oDay; rw [hnum]; show cif _ _ _ = _; rw [cif_f hh]
    rw [hs, this]; rfl
  generalize S3.1.2.2.2 = y at *
  apply zs_39_87 <;> intros
  case h1 => exact rg_0
  case h3 => omega
  case h2 =>
  refine c52s hT h3.2.1 (fun G4 f4 hC4 => ?_)
  have h4 := CP_step ha h3 f4 hC4
  have ew4 : (oStep B n S3).2.1 = S.2.1 := ew3
  clear hC4 hnum
  generalize oStep B n S3 = S4 at *
  have F4 := w52 F3 f4
  have tail : ∀ G5 o T, fr G G5 (SKA a) → CP B n a 0 G5 T → T.2.1 4 = S.2.1 4 → oShot B n k S = Except.ok (oPut p y k o T) → zW (d + 6) 10 [zr 0 0 (G5 2 4), zi (G5 (G5 2 4) 5), zi p, zi y, zi k, zi o] G5 (fun r G1 => zq0 r (zAt xT_39 (zW (d + 6)) Q 146 [zr 2 0 2, zi k, zi p, zi y, zi o] [] G1)) := by
    intro G5 o T f5 h5 hT4 hs5
    have b24 : G5 2 4 = a := h5.2.2.2.2.2.2.2.1
    have b5 : G5 a 5 = S.2.1 4 := by rw [h5.2.2.2.2.1.2.1.2.2]; exact hT4
    rw [b24, b5]
    have hP := CP_put ha h5 (p := p) (y := y) (k := k) (o := o) (m := S.2.1 4) hT4.symm (by omega) (hshot _ hs5)
    refine c10e b5 ⟨by omega, by omega⟩ (zs_39_146 (c43 hT ha hP (fun G6 v f6 hS6 => zs_39_150 (CS_v hS6) ?_)))
    rw [hs5] at hQ
    refine hQ G6 v (fr_trans ?_ f6 (fun _ _ t => t)) hS6
    refine fr_u (fr_u (fr_u (fr_u (fr_u f5 ?_) ?_) ?_) ?_) ?_ <;> exact Or.inr (Or.inr (Or.inr ⟨by omega, by omega⟩))
  have go112 : (k = 0 ∨ k = 2) → ∀ l4, zAt xT_39 (zW (d + 6)) Q 112 [zr 2 0 2, zi k, zi p, zi y, l4] [] G4 := by
    intro hk02 l4
    refine zs_39_112 (c40 hT ha h4 hk02 (fun G5 o ho f5 h5 => ?_) (fun G5 e ho f5 hE => ?_))
    · have F5 := wKR F4 f5
      obtain ⟨o1, o2, o3, o4, o5, o6⟩ := of_ok h4.1 ho
      rw [ew4] at o4 o5
      have ho1 : 0 ≤ o.1 := by rcases hk02 with c | c; exact (o4 c).1; exact (o5 c).1
      rw [ho] at hs
      have b24 : G5 2 4 = a := h5.2.2.2.2.2.2.2.1
      apply zs_39_117 <;> intros
      case h3 => exact tail G5 o.1 o.2 F5 h5 (by rw [o3, ew4]) hs
      all_goals first | omega | exact o6
    · apply zs_39_117 <;> intros
      case h4 => exact bad G5 e (wKR F4 f5) (by rw [hs, ho]; rfl) hE
      all_goals first | omega | (repeat' first | exact hrg _ | assumption | (unfold rg; omega) | omega | refine And.intro ?_ ?_)
  have b24 : G4 2 4 = a := h4.2.2.2.2.2.2.2.1
  apply zs_39_100 <;> intros
  case h2 => exact go112 (Or.inl (by assumption)) _
  case h5 => exact go112 (Or.inr (by assumption)) _
  case h4 => exact tail G4 (-1) S4 F4 h4 (by rw [ew4]) (by rw [hs]; unfold oOf; rw [if_neg (by omega), if_neg (by omega)]; rfl)
  case h1 => exact ⟨by omega, by omega⟩
  case h3 => omega
end CL
