/-! THE READER by the class: equal bodies, the whole text, archive -/
def eqC (G : zG) (a i j : Int) : Prop := G (a + 1) i = G (a + 1) j ∧ G (a + 2) i = G (a + 2) j ∧ G (a + 3) i = G (a + 3) j ∧ (∀ t, 0 ≤ t → t < G (a + 2) i → G (a + 4) ((i * 4) + t) = G (a + 4) ((j * 4) + t)) ∧ (∀ t, 0 ≤ t → t < G (a + 3) i → G (a + 5) ((i * 4) + t) = G (a + 5) ((j * 4) + t))
def LF (G : zG) (a b f : Int) : Prop := 0 ≤ f ∧ f ≤ b ∧ (f < b → eqC G a f b) ∧ ∀ c, 0 ≤ c → c < f → ¬ eqC G a c b
section CL
variable {d : Nat} {G : zG} {Q : zQ} {B : Int → Int} {n a : Int} {S : PS}
set_option maxHeartbeats 4000000 in
theorem c9 (hb : BND G a) {i j : Int} (i0 : 0 ≤ i ∧ i < 10) (j0 : 0 ≤ j ∧ j < 10) (hY : eqC G a i j → Q (some (zi 1)) G) (hN : ¬ eqC G a i j → Q (some (zi 0)) G) : zW (d + 2) 9 [zr 0 0 a, zi i, zi j] G Q := by
  have bi := hb.1 i i0.1 i0.2
  have bj := hb.1 j j0.1 j0.2
  have l84 : ∀ (rem k : Nat), k + rem = G (a + 3) i → G (a + 1) i = G (a + 1) j → G (a + 2) i = G (a + 2) j → G (a + 3) i = G (a + 3) j → (∀ t, 0 ≤ t → t < G (a + 2) i → G (a + 4) ((i * 4) + t) = G (a + 4) ((j * 4) + t)) → (∀ t : Int, 0 ≤ t → t < k → G (a + 5) ((i * 4) + t) = G (a + 5) ((j * 4) + t)) → zAt xT_9 (zW (d + 1)) Q 84 [zr 0 0 a, zi i, zi j, zi k] [] G := by
    intro rem
    induction rem with
    | zero =>
      intro k hk e1 e2 e3 e4 hp
      apply zs_9_84 <;> intros
      case h2 => exact hY ⟨e1, e2, e3, e4, fun t t0 t1 => hp t t0 (by omega)⟩
      all_goals first | omega | (repeat' first | exact hrg _ | assumption | (unfold rg; omega) | omega | refine And.intro ?_ ?_)
    | succ rem ih =>
      intro k hk e1 e2 e3 e4 hp
      have r1 := (hb.2 ((i * 4) + k) (by omega) (by omega)).2
      have r2 := (hb.2 ((j * 4) + k) (by omega) (by omega)).2
      apply zs_9_84 <;> intros
      case h4 =>
        rename_i heq
        refine ih (k + 1) (by omega) e1 e2 e3 e4 (fun t t0 t1 => ?_)
        by_cases c : t = k
        · rw [c]; exact heq
        · exact hp t t0 (by omega)
      case h5 =>
        rename_i hne
        exact hN (fun h => hne (h.2.2.2.2 k (by omega) (by omega)))
      case h3 => exact ⟨⟨by omega, by omega⟩, ⟨by omega, by omega⟩, r1, r2⟩
      all_goals first | omega | (repeat' first | exact hrg _ | assumption | (unfold rg; omega) | omega | refine And.intro ?_ ?_)
  have l49 : ∀ (rem k : Nat), k + rem = G (a + 2) i → G (a + 1) i = G (a + 1) j → G (a + 2) i = G (a + 2) j → G (a + 3) i = G (a + 3) j → (∀ t : Int, 0 ≤ t → t < k → G (a + 4) ((i * 4) + t) = G (a + 4) ((j * 4) + t)) → zAt xT_9 (zW (d + 1)) Q 49 [zr 0 0 a, zi i, zi j, zi k] [] G := by
    intro rem
    induction rem with
    | zero =>
      intro k hk e1 e2 e3 hp
      apply zs_9_49 <;> intros
      case h2 => exact l84 (G (a + 3) i).toNat 0 (by omega) e1 e2 e3 (fun t t0 t1 => hp t t0 (by omega)) (fun t t0 t1 => by omega)
      all_goals first | omega | (repeat' first | exact hrg _ | assumption | (unfold rg; omega) | omega | refine And.intro ?_ ?_)
    | succ rem ih =>
      intro k hk e1 e2 e3 hp
      have r1 := (hb.2 ((i * 4) + k) (by omega) (by omega)).1
      have r2 := (hb.2 ((j * 4) + k) (by omega) (by omega)).1
      apply zs_9_49 <;> intros
      case h4 =>
        rename_i heq
        refine ih (k + 1) (by omega) e1 e2 e3 (fun t t0 t1 => ?_)
        by_cases c : t = k
        · rw [c]; exact heq
        · exact hp t t0 (by omega)
      case h5 =>
        rename_i hne
        exact hN (fun h => hne (h.2.2.2.1 k (by omega) (by omega)))
      case h3 => exact ⟨⟨by omega, by omega⟩, ⟨by omega, by omega⟩, r1, r2⟩
      all_goals first | omega | (repeat' first | exact hrg _ | assumption | (unfold rg; omega) | omega | refine And.intro ?_ ?_)
  refine zm_9 ?_
  apply zs_9_0 <;> intros
  case h2 => rename_i hne; exact hN (fun h => hne h.1)
  case h4 => rename_i hne; exact hN (fun h => hne h.2.1)
  case h7 => rename_i hne; exact hN (fun h => hne h.2.2.1)
  case h6 => exact l49 (G (a + 2) i).toNat 0 (by omega) (by assumption) (by assumption) (by assumption) (fun t t0 t1 => by omega)
  case h1 => exact ⟨i0, j0, bi.1, bj.1⟩
  all_goals first | omega | (repeat' first | exact hrg _ | assumption | (unfold rg; omega) | omega | refine And.intro ?_ ?_)
theorem eqC_fr {G1 : zG} {i j : Int} (e : ∀ k x, a + 1 ≤ k → k ≤ a + 5 → G1 k x = G k x) : eqC G1 a i j ↔ eqC G a i j := by
  unfold eqC
  rw [e (a + 1) i (by omega) (by omega), e (a + 1) j (by omega) (by omega), e (a + 2) i (by omega) (by omega), e (a + 2) j (by omega) (by omega), e (a + 3) i (by omega) (by omega), e (a + 3) j (by omega) (by omega)]
  have h4 : ∀ t, G1 (a + 4) t = G (a + 4) t := fun t => e _ _ (by omega) (by omega)
  have h5 : ∀ t, G1 (a + 5) t = G (a + 5) t := fun t => e _ _ (by omega) (by omega)
  simp only [h4, h5]
set_option maxHeartbeats 4000000 in
theorem c8 (hb : BND G a) {m : Int} (hm : G a 4 = m) (m0 : 0 ≤ m ∧ m ≤ 10) (hQ : ∀ G1, fr G G1 (fun k _ => k = a + 6) → (∀ b, 0 ≤ b → b < m → LF G a b (G1 (a + 6) b)) → Q none G1) : zW (d + 3) 8 [zr 0 0 a] G Q := by
  have outer : ∀ (rem k : Nat) (G1 : zG), k + rem = m → fr G G1 (fun k _ => k = a + 6) → (∀ b : Int, 0 ≤ b → b < k → LF G a b (G1 (a + 6) b)) → ∀ l2, zAt xT_8 (zW (d + 2)) Q 2 [zr 0 0 a, zi k, l2] [] G1 := by
    intro rem
    induction rem with
    | zero =>
      intro k G1 hk f1 hp l2
      have e4 : G1 a 4 = m := (f1 _ _ (by omega)).trans hm
      apply zs_8_2 <;> intros
      case h2 => exact hQ G1 f1 (fun b b0 b1 => hp b b0 (by omega))
      all_goals first | omega | (repeat' first | exact hrg _ | assumption | (unfold rg; omega) | omega | refine And.intro ?_ ?_)
    | succ rem ih =>
      intro k G1 hk f1 hp l2
      have e4 : G1 a 4 = m := (f1 _ _ (by omega)).trans hm
      have ef : ∀ q x, a + 1 ≤ q → q ≤ a + 5 → G1 q x = G q x := fun q x h1 h2 => f1 q x (by omega)
      have hb1 : BND G1 a := BND_fr hb ef
      have put : ∀ f : Int, LF G a k f → ∀ l2, zAt xT_8 (zW (d + 2)) Q 2 [zr 0 0 a, zi (k + 1), l2] [] (zu G1 (a + 6) k f) := by
        intro f hf
        refine ih (k + 1) _ (by omega) (fr_u f1 rfl) (fun b b0 b1 => ?_)
        by_cases c : b = k
        · rw [c, zu_s]; exact hf
        · rw [zu_j c]; exact hp b b0 (by omega)
      have inner : ∀ (rm i : Nat), i + rm = k → (∀ c : Int, 0 ≤ c → c < i → ¬ eqC G a c k) → zAt xT_8 (zW (d + 2)) Q 12 [zr 0 0 a, zi k, zi i] [] G1 := by
        intro rm
        induction rm with
        | zero =>
          intro i hi hno
          have e : (i : Int) = k := by omega
          apply zs_8_12 <;> intros
          case h3 => rw [e]; exact put k ⟨by omega, by omega, fun h => by omega, fun c c0 c1 => hno c c0 (by omega)⟩ _
          all_goals first | omega | (repeat' first | exact hrg _ | assumption | (unfold rg; omega) | omega | refine And.intro ?_ ?_)
        | succ rm ihr =>
          intro i hi hno
          apply zs_8_12 <;> intros
          case h4 =>
            refine c9 hb1 ⟨by omega, by omega⟩ ⟨by omega, by omega⟩ (fun hy => ?_) (fun hy => ?_)
            · rw [eqC_fr ef] at hy
              apply zs_8_23 <;> intros
              case h3 => exact put i ⟨by omega, by omega, fun _ => hy, hno⟩ _
              all_goals first | omega | (repeat' first | exact hrg _ | assumption | (unfold rg; omega) | omega | refine And.intro ?_ ?_)
            · rw [eqC_fr ef] at hy
              apply zs_8_23 <;> intros
              case h4 =>
                refine ihr (i + 1) (by omega) (fun c c0 c1 => ?_)
                by_cases cc : c = i
                · rw [cc]; exact hy
                · exact hno c c0 (by omega)
              all_goals first | omega | (repeat' first | exact hrg _ | assumption | (unfold rg; omega) | omega | refine And.intro ?_ ?_)
          all_goals first | omega | (repeat' first | exact hrg _ | assumption | (unfold rg; omega) | omega | refine And.intro ?_ ?_)
      apply zs_8_2 <;> intros
      case h3 => exact inner k 0 (by omega) (fun c c0 c1 => by omega)
      all_goals first | omega | (repeat' first | exact hrg _ | assumption | (unfold rg; omega) | omega | refine And.intro ?_ ?_)
  exact zm_8 (zs_8_0 (outer m.toNat 0 G (by omega) (fr_refl _ _) (fun b b0 b1 => by omega) _))
theorem eqC_EQB {w : Int → Int} (h : ∀ b, 0 ≤ b → b < w 3 → BD1 G a w b) {i j : Int} (i0 : 0 ≤ i ∧ i < w 3) (j0 : 0 ≤ j ∧ j < w 3) : eqC G a i j ↔ EQB w i j := by
  obtain ⟨a1, a2, a3, a4, a5⟩ := h i i0.1 i0.2
  obtain ⟨b1, b2, b3, b4, b5⟩ := h j j0.1 j0.2
  unfold eqC EQB
  rw [a1, a2, a3, b1, b2, b3]
  constructor
  · rintro ⟨h1, h2, h3, h4, h5⟩
    refine Or.inr ⟨by omega, by omega, h1, h2, h3, fun t t0 t1 => ?_, fun t t0 t1 => ?_⟩
    · rw [← a4 t t0 t1, ← b4 t t0 (by omega)]; exact h4 t t0 t1
    · rw [← a5 t t0 t1, ← b5 t t0 (by omega)]; exact h5 t t0 t1
  · rintro (h1 | ⟨_, _, h1, h2, h3, h4, h5⟩)
    · omega
    · refine ⟨h1, h2, h3, fun t t0 t1 => ?_, fun t t0 t1 => ?_⟩
      · rw [a4 t t0 t1, b4 t t0 (by omega)]; exact h4 t t0 t1
      · rw [a5 t t0 t1, b5 t t0 (by omega)]; exact h5 t t0 t1
/-- a draft with the least equal bodies is an archive -/
theorem DRX_ARC {G1 : zG} {w : Int → Int} (wf : WF w) (h : DRX G a w 0) (f : fr G G1 (fun k _ => k = a + 6)) (hl : ∀ b, 0 ≤ b → b < w 3 → LF G a b (G1 (a + 6) b)) : ARC G1 a w ∧ (G1 a 0 = w 0 ∧ G1 a 1 = w 1 ∧ G1 a 2 = w 5) ∧ G1 a 6 = 0 ∧ BND G1 a := by
  obtain ⟨t1, t2, t3, t4, t5, t6⟩ := h
  have e : ∀ k j, k ≠ a + 6 → G1 k j = G k j := fun k j h => f k j h
  refine ⟨⟨by rw [e _ _ (by omega)]; exact t2.1, by rw [e _ _ (by omega), t2.2.1]; omega, by rw [e _ _ (by omega)]; exact t2.2.2, fun b b0 bl => ?_, fun s s0 sl => ?_⟩, by rw [e _ _ (by omega), e _ _ (by omega), e _ _ (by omega)]; exact t1, by rw [e _ _ (by omega)]; exact t3, BND_fr t6 (fun k j k0 k1 => e _ _ (by omega))⟩
  · obtain ⟨q1, q2, q3, q4, q5⟩ := t4 b b0 bl
    refine ⟨by rw [e _ _ (by omega)]; exact q1, by rw [e _ _ (by omega)]; exact q2, by rw [e _ _ (by omega)]; exact q3, ?_, fun i i0 i1 => by rw [e _ _ (by omega)]; exact q4 i i0 i1, fun i i0 i1 => by rw [e _ _ (by omega)]; exact q5 i i0 i1⟩
    obtain ⟨l1, l2, l3, l4⟩ := hl b b0 bl
    refine (lq_eq ⟨l1, l2, ?_, fun c c0 c1 hc => l4 c c0 c1 ((eqC_EQB t4 ⟨c0, by omega⟩ ⟨b0, bl⟩).mpr hc)⟩).symm
    by_cases c : G1 (a + 6) b = b
    · rw [c]; exact EQB_refl w b
    · exact (eqC_EQB t4 ⟨l1, by omega⟩ ⟨b0, bl⟩).mp (l3 (by omega))
  · obtain ⟨q1, q2, q3, q4⟩ := t5 s s0 sl
    exact ⟨by rw [e _ _ (by omega)]; exact q1, by rw [e _ _ (by omega)]; exact q2, by rw [e _ _ (by omega)]; exact q3, fun h => by rw [e _ _ (by omega)]; exact q4 h⟩
def SKB (a k j : Int) : Prop := k = 2 ∨ k = 3 ∨ k = 4 ∨ (a ≤ k ∧ k ≤ a + 10)
set_option maxHeartbeats 8000000 in
theorem k33 (hT : TP B n) (ha : 5 ≤ a) (hB : ∀ j, 0 ≤ j → j < n → G 1 j = B j) (h0 : G a 0 = 0 ∧ G a 1 = 0 ∧ G a 2 = 0 ∧ G a 3 = 0 ∧ G a 4 = 0 ∧ G a 5 = 0 ∧ G a 6 = 0) (hbd : BND G a) {u : Int → Int} (hu : ∀ j, ¬ (0 ≤ j ∧ j < 356) → rg (u j))
    (hE : ∀ G1 e, oRd B n u = Except.error e → (1 ≤ e.1 ∧ e.1 ≤ 3) → fr G G1 (SKB a) → RF G1 e.1 e.2 → BND G1 a → Q (some (zi 0)) G1)
    (hK : ∀ G1 S, oRd B n u = Except.ok S → PSok B n S → fr G G1 (SKB a) → RF G1 0 (-1) → ARC G1 a S.2.1 → (G1 a 0 = S.2.1 0 ∧ G1 a 1 = S.2.1 1 ∧ G1 a 2 = S.2.1 5) → G1 a 6 = 0 → BND G1 a → Q (some (zi 1)) G1) : zW (d + 9) 33 [zr 2 0 2, zr 11 1200 1, zi n, zr 0 0 a] G Q := by
  have hn := hT.1
  have wA : ∀ {G1 G2 G3 : zG}, fr G1 G2 (SKB a) → fr G2 G3 (SKA a) → fr G1 G3 (SKB a) := fun f g => fr_trans f g (fun k j t => by
    rcases t with t | t
    · exact Or.inl t.1
    · exact Or.inr t)
  have errl : ∀ G1 e i, fr G G1 (SKB a) → oRd B n u = Except.error e → CE a G1 e → 0 ≤ i → i ≤ 2000 → ∀ l1 l2 l3, zAt xT_33 (zW (d + 8)) Q 57 [zr 2 0 2, l1, l2, l3, zi 0, zi i] [] G1 := by
    intro G1 e i f1 he hCE i0 i1 l1 l2 l3
    obtain ⟨c1, c2, c3⟩ := hCE
    have c24 := c3.2.2.1
    have c23 := c3.2.2.2
    have go : zW (d + 8) 8 [zr 0 0 (G1 2 4)] G1 (fun r G2 => zq0 r (zAt xT_33 (zW (d + 8)) Q 137 [zr 2 0 2, z0, z0, z0, zi 0, zi i] [] G2)) := by
      rw [c24]
      refine c8 c3.2.1 rfl c3.1 (fun G2 f2 _ => ?_)
      apply zs_33_137
      · exact Or.inl rfl
      · refine hE G2 e he c1 (fr_trans f1 f2 (fun k j t => Or.inr (Or.inr (Or.inr ⟨by omega, by omega⟩)))) ⟨(f2 _ _ (by omega)).trans c2.1, (f2 _ _ (by omega)).trans c2.2⟩ (BND_fr c3.2.1 (fun k j k0 k1 => f2 _ _ (by omega)))
    apply zs_33_57 <;> intros
    case h3 => exact go
    case h6 => exact go
    all_goals first | omega | (repeat' first | exact hrg _ | assumption | (unfold rg; omega) | omega | refine And.intro ?_ ?_)
  have okl : ∀ G1 S i, fr G G1 (SKB a) → oRd B n u = Except.ok S → CP B n a 0 G1 S → zW (d + 8) 8 [zr 0 0 (G1 2 4)] G1 (fun r G2 => zq0 r (zAt xT_33 (zW (d + 8)) Q 137 [zr 2 0 2, z0, z0, z0, zi 1, zi i] [] G2)) := by
    intro G1 S i f1 hs hP
    obtain ⟨p1, p2, p3, p4, p5, p6⟩ := hP
    rw [p6.2.2.1]
    refine c8 p5.2.2.2.2.2 (by rw [p5.2.1.2.1]) (by have := WF_n p1.2.1; omega) (fun G2 f2 hl => ?_)
    have hA := DRX_ARC p1.2.1 p5 f2 (fun b b0 bl => hl b b0 (by omega))
    apply zs_33_137
    · exact Or.inr rfl
    · exact hK G2 S hs p1 (fr_trans f1 f2 (fun k j t => Or.inr (Or.inr (Or.inr ⟨by omega, by omega⟩)))) ⟨(f2 _ _ (by omega)).trans p4.1, (f2 _ _ (by omega)).trans p4.2⟩ hA.1 hA.2.1 hA.2.2.1 hA.2.2.2
  have loop : ∀ (k : Nat) (S : PS) (i : Int) (G1 : zG), n - S.1.2.1 < k → 0 ≤ i → i ≤ S.1.2.1 → S.2.1 5 ≠ 0 → fr G G1 (SKB a) → CP B n a 0 G1 S → oRd B n u = oAll B n k S → ∀ l1 l2 l3, zAt xT_33 (zW (d + 8)) Q 57 [zr 2 0 2, l1, l2, l3, zi 1, zi i] [] G1 := by
    intro k
    induction k with
    | zero =>
      intro S i G1 hk i0 i1 h5 f1 hP hs l1 l2 l3
      have := hP.1.1.1
      omega
    | succ k ih =>
      intro S i G1 hk i0 i1 h5 f1 hP hs l1 l2 l3
      have hfr := hP.1.1.1
      have hkd := hP.1.1.2.1
      have hlt := hP.1.1.2.2.2.1
      have c23 : G1 2 3 = n := hP.2.1.1.2.1
      have c6 : G1 2 6 = S.1.1 := (CT_n hP.2.1).2.2.2.1
      have c24 : G1 2 4 = a := hP.2.2.2.2.2.2.2.1
      have fin : S.1.1 = 0 → oRd B n u = Except.ok S := fun h => by rw [hs]; unfold oAll; rw [if_pos h]
      have hgo : S.1.1 ≠ 0 → oRd B n u = Except.bind (oText B n S) (oAll B n k) := fun h => by rw [hs]; show (if S.1.1 = 0 then _ else _) = _; rw [if_neg h]
      have hln : oText B n S = Except.bind (oLine B n S) (oEnd B n) := by
        unfold oText; rw [if_neg h5]; rfl
      have cont : S.1.1 ≠ 0 → ∀ G2 v, fr G1 G2 (SKA a) → CS B n a v G2 (Except.bind (oLine B n S) (oEnd B n)) → ∀ l1 l2 l3, zAt xT_33 (zW (d + 8)) Q 57 [zr 2 0 2, l1, l2, l3, zi v, zi (i + 1)] [] G2 := by
        intro hk0 G2 v f2 hS l1 l2 l3
        have hs2 := hgo hk0
        rw [← hln] at hS
        cases hq : oText B n S with
        | error e =>
          rw [hq] at hS hs2
          obtain ⟨hv, hCE⟩ := hS
          rw [hv]
          exact errl G2 e (i + 1) (wA f1 f2) hs2 hCE (by omega) (by omega) _ _ _
        | ok S2 =>
          rw [hq] at hS hs2
          obtain ⟨hv, hP2⟩ := hS
          rw [hv]
          have hto := text_ok hn.2 hP.1 hq
          have h52 : S2.2.1 5 ≠ 0 := by
            rw [hln] at hq
            obtain ⟨S1, q1, q2⟩ := bind_ok hq
            obtain ⟨S3, q3, q4⟩ := bind_ok q2
            cases q4
            have n3 := WF_n (line_ok hP.1 q1).1.2.1
            have e3 : S3.2.1 = S1.2.1 := by rw [(stop_ok q3).1]; rfl
            show zpd S3.2.1 5 (S3.2.1 5 + 1) 5 ≠ 0
            rw [zpd_s, e3]; omega
          exact ih S2 (i + 1) G2 (by omega) (by omega) (by omega) h52 (wA f1 f2) hP2 hs2 _ _ _
      apply zs_33_57 <;> intros
      case h3 => exact okl G1 S i f1 (fin (by omega)) hP
      case h6 => omega
      case h9 => exact okl G1 S i f1 (fin (by omega)) hP
      case h10 =>
        have hk0 : S.1.1 ≠ 0 := by omega
        have cont := cont hk0
        unfold oLine at cont
        refine c50 hT hP.2.1 (by omega) (fun hw => ?_) (fun hw => ?_)
        · rw [cif_t hw] at cont
          apply zs_33_84 <;> intros
          case h3 => exact k36 hT ha hP (fun G2 v f2 hS => zs_33_91 (cont G2 v f2 hS _ _ _))
          all_goals first | omega | (repeat' first | exact hrg _ | assumption | (unfold rg; omega) | omega | refine And.intro ?_ ?_)
        · rw [cif_f hw] at cont
          apply zs_33_84 <;> intros
          case h2 =>
            refine c50 hT hP.2.1 (by omega) (fun hw2 => ?_) (fun hw2 => ?_)
            · rw [cif_t hw2] at cont
              apply zs_33_102 <;> intros
              case h3 => exact k37 hT ha hP (fun G2 v f2 hS => zs_33_109 (cont G2 v f2 hS _ _ _))
              all_goals first | omega | (repeat' first | exact hrg _ | assumption | (unfold rg; omega) | omega | refine And.intro ?_ ?_)
            · rw [cif_f hw2] at cont
              apply zs_33_102 <;> intros
              case h2 =>
                have sh : ∀ kd, 0 ≤ kd → kd ≤ 3 → (∀ G2 v, fr G1 G2 (SKA a) → CS B n a v G2 (Except.bind (oShot B n kd S) (oEnd B n)) → ∀ l1 l2 l3, zAt xT_33 (zW (d + 8)) Q 57 [zr 2 0 2, l1, l2, l3, zi v, zi (i + 1)] [] G2) → zAt xT_33 (zW (d + 8)) Q 119 [zr 2 0 2, z0, z0, z0, zi 1, zi i] [zi kd, zr 2 0 2] G1 := fun kd k0 k1 hc => zs_33_119 (k39 hT ha hP ⟨k0, k1⟩ (fun G2 v f2 hS => zs_33_122 (hc G2 v f2 hS _ _ _)))
                refine zm_35 (zs_35_0 (c50 hT hP.2.1 (by omega) (fun v1 => ?_) (fun v1 => ?_)))
                · rw [cif_t v1] at cont
                  apply zs_35_6 <;> intros
                  case h3 => exact sh 0 (by omega) (by omega) cont
                  all_goals first | omega | (repeat' first | exact hrg _ | assumption | (unfold rg; omega) | omega | refine And.intro ?_ ?_)
                rw [cif_f v1] at cont
                apply zs_35_6 <;> intros
                case h1 => exact rg_0
                case h3 => omega
                case h2 =>
                refine c50 hT hP.2.1 (by omega) (fun v2 => ?_) (fun v2 => ?_)
                · rw [cif_t v2] at cont
                  apply zs_35_17 <;> intros
                  case h3 => exact sh 1 (by omega) (by omega) cont
                  all_goals first | omega | (repeat' first | exact hrg _ | assumption | (unfold rg; omega) | omega | refine And.intro ?_ ?_)
                rw [cif_f v2] at cont
                apply zs_35_17 <;> intros
                case h1 => exact rg_0
                case h3 => omega
                case h2 =>
                refine c50 hT hP.2.1 (by omega) (fun v3 => ?_) (fun v3 => ?_)
                · rw [cif_t v3] at cont
                  apply zs_35_28 <;> intros
                  case h3 => exact sh 2 (by omega) (by omega) cont
                  all_goals first | omega | (repeat' first | exact hrg _ | assumption | (unfold rg; omega) | omega | refine And.intro ?_ ?_)
                rw [cif_f v3] at cont
                apply zs_35_28 <;> intros
                case h1 => exact rg_0
                case h3 => omega
                case h2 =>
                refine c50 hT hP.2.1 (by omega) (fun v4 => ?_) (fun v4 => ?_)
                · rw [cif_t v4] at cont
                  apply zs_35_39 <;> intros
                  case h3 => exact sh 3 (by omega) (by omega) cont
                  all_goals first | omega | (repeat' first | exact hrg _ | assumption | (unfold rg; omega) | omega | refine And.intro ?_ ?_)
                rw [cif_f v4] at cont
                apply zs_35_39 <;> intros
                case h1 => exact rg_0
                case h3 => omega
                case h2 =>
                have r := refuse_at ha hP (k := 1) (by omega)
                refine zs_33_119 (zm_39 ?_)
                apply zs_39_0 <;> intros
                case h5 => exact zs_33_122 (cont _ 0 r.1 ⟨rfl, r.2⟩ _ _ _)
                all_goals first | omega | exact ⟨by omega, by omega⟩
              all_goals first | omega | (repeat' first | exact hrg _ | assumption | (unfold rg; omega) | omega | refine And.intro ?_ ?_)
          all_goals first | omega | (repeat' first | exact hrg _ | assumption | (unfold rg; omega) | omega | refine And.intro ?_ ?_)
      all_goals first | omega | (repeat' first | exact hrg _ | assumption | (unfold rg; omega) | omega | refine And.intro ?_ ?_)
  refine zm_33 ?_
  apply zs_33_0 <;> intros
  case h1 => exact ⟨by omega, by omega⟩
  case h2 =>
  have emin : min n 1200 = n := by omega
  rw [emin]
  generalize hG0 : zu (zu (zu (zu (zu (zu G 2 0 0) 2 1 (-1)) 2 2 1) 2 3 n) 2 4 a) 2 5 0 = G0
  have f0 : fr G G0 (SKB a) := by
    rw [← hG0]
    repeat' (first | exact fr_refl _ _ | refine fr_u ?_ (Or.inl rfl))
  have g0 : ∀ k j, k ≠ 2 → G0 k j = G k j := fun k j hk => by rw [← hG0, zu_kj hk, zu_kj hk, zu_kj hk, zu_kj hk, zu_kj hk, zu_kj hk]
  have b5 : G0 2 5 = 0 := by rw [← hG0, zu_s]
  have b4 : G0 2 4 = a := by rw [← hG0, zu_j (by omega), zu_s]
  have b3 : G0 2 3 = n := by rw [← hG0, zu_j (by omega), zu_j (by omega), zu_s]
  have b2 : G0 2 2 = 1 := by rw [← hG0, zu_j (by omega), zu_j (by omega), zu_j (by omega), zu_s]
  have b1 : G0 2 1 = -1 := by rw [← hG0, zu_j (by omega), zu_j (by omega), zu_j (by omega), zu_j (by omega), zu_s]
  have b0 : G0 2 0 = 0 := by rw [← hG0, zu_j (by omega), zu_j (by omega), zu_j (by omega), zu_j (by omega), zu_j (by omega), zu_s]
  refine c52 hn hT.2 (fun j j0 j1 => (g0 _ _ (by omega)).trans (hB j j0 j1)) b2 b3 (i := 0) (by omega) (by omega) b5 (fun G1 f1 hT1 => ?_)
  have e : ∀ k j, ¬ (k = 2 ∧ 5 ≤ j ∧ j ≤ 8) → G1 k j = G0 k j := fun k j h => f1 k j h
  have ea : ∀ j, G1 a j = G a j := fun j => (e _ _ (by omega)).trans (g0 _ _ (by omega))
  have hps := PSok_0 (B := B) hT hu
  have F1 : fr G G1 (SKB a) := fr_trans f0 f1 (fun k j t => Or.inl t.1)
  have hz : ∀ j, 0 ≤ j → j < 356 → w00 u j = 0 := fun j h1 h2 => w00_in ⟨h1, h2⟩
  have hbd1 : BND G1 a := BND_fr hbd (fun k j k0 k1 => (e _ _ (by omega)).trans (g0 _ _ (by omega)))
  have hP : CP B n a 0 G1 (nx B n 0, w00 u, N00) := by
    refine ⟨hps, ⟨⟨(e _ _ (by omega)).trans b2, (e _ _ (by omega)).trans b3, fun j j0 j1 => (e _ _ (by omega)).trans ((g0 _ _ (by omega)).trans (hB j j0 j1))⟩, hT1, hps.1⟩, fun p p0 p1 hp => absurd rfl hp, ⟨(e _ _ (by omega)).trans b0, (e _ _ (by omega)).trans b1⟩, ⟨⟨?_, ?_, ?_⟩, ⟨?_, ?_, ?_⟩, ?_, fun b b0 bl => ?_, fun s s0 sl => ?_, hbd1⟩, ⟨by rw [ea]; omega, hbd1, (e _ _ (by omega)).trans b4, by rw [e _ _ (by omega), b3]; exact hn⟩⟩
    · show _ = w00 u 0; rw [ea, hz _ (by omega) (by omega)]; exact h0.1
    · show _ = w00 u 1; rw [ea, hz _ (by omega) (by omega)]; exact h0.2.1
    · show _ = w00 u 5; rw [ea, hz _ (by omega) (by omega)]; exact h0.2.2.1
    · show _ = w00 u 2; rw [ea, hz _ (by omega) (by omega)]; exact h0.2.2.2.1
    · show _ = w00 u 3 + 0; rw [ea, hz _ (by omega) (by omega)]; omega
    · show _ = w00 u 4; rw [ea, hz _ (by omega) (by omega)]; exact h0.2.2.2.2.2.1
    · rw [ea]; exact h0.2.2.2.2.2.2
    · have bl : b < w00 u 3 := bl
      rw [hz _ (by omega) (by omega)] at bl; omega
    · have sl : s < w00 u 4 := sl
      rw [hz _ (by omega) (by omega)] at sl; omega
  have hs0 : oRd B n u = oAll B n 1201 (nx B n 0, w00 u, N00) := rfl
  have h50 : (nx B n 0, w00 u, N00).2.1 5 = 0 := hz 5 (by omega) (by omega)
  generalize (nx B n 0, w00 u, N00) = S0 at *
  have c6 : G1 2 6 = S0.1.1 := (CT_n hP.2.1).2.2.2.1
  have c5 := (CT_n hP.2.1).2.2.2.2.2.2
  have hfr := hP.1.1.1
  apply zs_33_39 <;> intros
  case h1 => rw [c6]; exact ⟨by omega, by omega⟩
  case h3 =>
    have hs : oRd B n u = Except.ok S0 := by rw [hs0]; unfold oAll; rw [if_pos (by omega)]
    have hA := DRX_ARC hP.1.2.1 hP.2.2.2.2.1 (fr_refl G1 _) (fun b b0 bl => by
      have := hP.2.2.2.2.1.2.1.2.1
      rw [ea] at this
      omega)
    exact hK G1 S0 hs hP.1 F1 ⟨hP.2.2.2.1.1, hP.2.2.2.1.2⟩ hA.1 hA.2.1 hA.2.2.1 hA.2.2.2
  case h2 =>
    have hs : oRd B n u = Except.bind (oText B n S0) (oAll B n 1200) := by rw [hs0]; show (if S0.1.1 = 0 then _ else _) = _; rw [if_neg (by omega)]
    have htx : oText B n S0 = Except.bind (oFirst B n S0) (oEnd B n) := by unfold oText; rw [if_pos h50]; rfl
    refine k34 hT ha hP (fun G2 v f2 hS => zs_33_52 ?_)
    rw [← htx] at hS
    cases hq : oText B n S0 with
    | error er =>
      rw [hq] at hS hs
      obtain ⟨hv, hCE⟩ := hS
      rw [hv]
      exact errl G2 er 0 (wA F1 f2) hs hCE (by omega) (by omega) _ _ _
    | ok S2 =>
      rw [hq] at hS hs
      obtain ⟨hv, hP2⟩ := hS
      rw [hv]
      have hto := text_ok hn.2 hP.1 hq
      have h52 : S2.2.1 5 ≠ 0 := by
        rw [htx] at hq
        obtain ⟨S1, q1, q2⟩ := bind_ok hq
        obtain ⟨S3, q3, q4⟩ := bind_ok q2
        cases q4
        have n3 := WF_n (first_ok hP.1 q1).1.2.1
        have e3 : S3.2.1 = S1.2.1 := by rw [(stop_ok q3).1]; rfl
        show zpd S3.2.1 5 (S3.2.1 5 + 1) 5 ≠ 0
        rw [zpd_s, e3]; omega
      have hf2 := hP2.1.1.1
      exact loop 1200 S2 0 G2 (by omega) (by omega) (by omega) h52 (wA F1 f2) hP2 hs _ _ _
end CL
