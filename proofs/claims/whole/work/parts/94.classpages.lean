/-! THE READER by the class: pages of a body, bodies -/
section CL
variable {d : Nat} {G : zG} {Q : zQ} {B : Int → Int} {n a x : Int} {S : PS}
set_option maxHeartbeats 4000000 in
theorem c41p (hT : TP B n) (ha : 5 ≤ a) (h : CP B n a x G S) {q : Int} {m : Nat} (hm : m ≤ 10) (hY : isW B S.1 q m → ∀ G1, fr G G1 S52 → CP B n a x G1 (oStep B n S) → Q (some (zi 1)) G1) (hN : ¬ isW B S.1 q m → ∀ G1, fr G G1 SKR → CE a G1 (1, S.1.2.1) → Q (some (zi 0)) G1) : zW (d + 5) 41 [zr 2 0 2, zr 15 m q] G Q :=
  c41 hT h.2.1 hm (fun hw G1 f1 hC1 => hY hw G1 f1 (CP_step ha h f1 hC1)) (fun hw G1 f1 hF => hN hw G1 f1 (CE_of ha h.2.2.2.2.2 f1 (by omega) hF))
theorem CP1_set {G1 : zG} {u : Int → Int} {b : Int} (ha : 5 ≤ a) (hb : S.2.1 3 = b) (h : CP B n a 1 G S) (hPS : PSok B n (S.1, u, S.2.2)) (e0 : ∀ k j, ¬ (a + 1 ≤ k ∧ k ≤ a + 5) → G1 k j = G k j) (e1 : ∀ k j, a + 1 ≤ k → k ≤ a + 3 → j ≠ b → G1 k j = G k j) (e4 : ∀ k j, a + 4 ≤ k → k ≤ a + 5 → (j < b * 4 ∨ b * 4 + 4 ≤ j) → G1 k j = G k j) (hN : BND G1 a) (hu : ∀ j, (j < 6 + 11 * b ∨ 6 + 11 * b + 11 ≤ j) → u j = S.2.1 j) : CP B n a 1 G1 (S.1, u, S.2.2) := by
  obtain ⟨h1, h2, h3, h4, h5, h6⟩ := h
  have nn := WF_n h1.2.1
  have hb9 : b ≤ 9 := by
    have := h6.1
    have := h5.2.1.2.1
    omega
  refine ⟨hPS, CT_fr h2 (fun k j h => e0 _ _ (by omega)), fun p p0 p1 hp => by rw [e0 _ _ (by omega), e0 _ _ (by omega)]; exact h3 p p0 p1 hp, ⟨(e0 _ _ (by omega)).trans h4.1, (e0 _ _ (by omega)).trans h4.2⟩, ?_, ?_⟩
  · obtain ⟨t1, t2, t3, t4, t5, t6⟩ := h5
    refine ⟨⟨?_, ?_, ?_⟩, ⟨?_, ?_, ?_⟩, ?_, fun b' b0 bl => ?_, fun s s0 sl => ?_, hN⟩
    · rw [e0 _ _ (by omega)]; show _ = u 0; rw [hu _ (by omega)]; exact t1.1
    · rw [e0 _ _ (by omega)]; show _ = u 1; rw [hu _ (by omega)]; exact t1.2.1
    · rw [e0 _ _ (by omega)]; show _ = u 5; rw [hu _ (by omega)]; exact t1.2.2
    · rw [e0 _ _ (by omega)]; show _ = u 2; rw [hu _ (by omega)]; exact t2.1
    · rw [e0 _ _ (by omega)]; show _ = u 3 + 1; rw [hu _ (by omega)]; exact t2.2.1
    · rw [e0 _ _ (by omega)]; show _ = u 4; rw [hu _ (by omega)]; exact t2.2.2
    · rw [e0 _ _ (by omega)]; exact t3
    · have bl : b' < u 3 := bl
      rw [hu _ (by omega)] at bl
      have wb := WF_b h1.2.1 b0 bl
      exact BD1_of (t4 b' b0 bl) wb.2.1.2 wb.2.2.1.2 (fun k k0 k1 => e1 _ _ (by omega) (by omega) (by omega)) (fun k i k0 k1 i0 i1 => e4 _ _ (by omega) (by omega) (by omega)) (fun j j0 j1 => hu j (by omega))
    · have sl : s < u 4 := sl
      rw [hu _ (by omega)] at sl
      exact SH1_of (t5 s s0 sl) (fun k k0 k1 => e0 _ _ (by omega)) (fun j j0 j1 => hu j (by omega))
  · obtain ⟨q1, q2, q3, q4⟩ := h6
    exact ⟨by rw [e0 _ _ (by omega)]; exact q1, hN, (e0 _ _ (by omega)).trans q3, by rw [e0 _ _ (by omega)]; exact q4⟩
def SPg (rk ck k j : Int) : Prop := SKR k j ∨ k = rk ∨ k = ck
theorem BND_row {rk i v : Int} (h : BND G a) (hr : rk = a + 4 ∨ rk = a + 5) (hv : rg v) : BND (zu G rk i v) a := by
  refine ⟨fun b b0 b1 => ?_, fun j j0 j1 => ?_⟩
  · rw [zu_kj (by omega), zu_kj (by omega), zu_kj (by omega)]; exact h.1 b b0 b1
  · have := h.2 j j0 j1
    refine ⟨?_, ?_⟩
    · by_cases c : a + 4 = rk ∧ j = i
      · rw [zu_e c.1 c.2]; exact hv
      · rw [show zu G rk i v (a + 4) j = G (a + 4) j from if_neg c]; exact this.1
    · by_cases c : a + 5 = rk ∧ j = i
      · rw [zu_e c.1 c.2]; exact hv
      · rw [show zu G rk i v (a + 5) j = G (a + 5) j from if_neg c]; exact this.2
theorem BND_cnt {ck i v : Int} (h : BND G a) (hr : ck = a + 2 ∨ ck = a + 3) (hv : 0 ≤ v ∧ v ≤ 4) : BND (zu G ck i v) a := by
  refine ⟨fun b b0 b1 => ?_, fun j j0 j1 => ?_⟩
  · have := h.1 b b0 b1
    refine ⟨by rw [zu_kj (by omega)]; exact this.1, ?_, ?_⟩
    · by_cases c : a + 2 = ck ∧ b = i
      · rw [zu_e c.1 c.2]; exact hv
      · rw [show zu G ck i v (a + 2) b = G (a + 2) b from if_neg c]; exact this.2.1
    · by_cases c : a + 3 = ck ∧ b = i
      · rw [zu_e c.1 c.2]; exact hv
      · rw [show zu G ck i v (a + 3) b = G (a + 3) b from if_neg c]; exact this.2.2
  · rw [zu_kj (by omega), zu_kj (by omega)]; exact h.2 j j0 j1
set_option maxHeartbeats 8000000 in
theorem c38 (hT : TP B n) (ha : 5 ≤ a) {q rk ck at0 b : Int} (hrk : rk = a + 4 ∨ rk = a + 5) (hck : ck = a + 2 ∨ ck = a + 3) (hb : 0 ≤ b ∧ b < 10) (hat : 6 + 11 * b + 3 ≤ at0 ∧ at0 + 4 ≤ 6 + 11 * b + 11) : ∀ (k : Nat) (i : Int) (S : PS) (G : zG) (Q : zQ), 0 ≤ i → i + k = 4 → CP B n a 1 G S → S.2.1 3 = b → (∀ j, 0 ≤ j → j < i → G rk ((b * 4) + j) = S.2.1 (at0 + j)) →
    (∀ G1 m T, oPg B n q at0 k i S = Except.ok (m, T) → fr G G1 (SPg rk ck) → CP B n a 1 G1 T → G1 ck b = m → (∀ j, 0 ≤ j → j < m → G1 rk ((b * 4) + j) = T.2.1 (at0 + j)) → Q (some (zi 1)) G1) →
    (∀ G1 e, oPg B n q at0 k i S = Except.error e → fr G G1 (SPg rk ck) → CE a G1 e → Q (some (zi 0)) G1) → ∀ l6, zAt xT_38 (zW (d + 6)) Q 3 [zr 2 0 2, zr 15 4 q, zr 10 40 rk, zr 10 10 ck, zi b, zi i, l6] [] G := by
  have fin : ∀ (S : PS) (G : zG) (i : Int), 0 ≤ i → i ≤ 4 → CP B n a 1 G S → S.2.1 3 = b → CP B n a 1 (zu G ck b i) S := by
    intro S G i i0 i1 hP hS3
    have : S = (S.1, S.2.1, S.2.2) := rfl
    rw [this]
    refine CP1_set ha hS3 hP hP.1 (fun k j hk => zu_kj (by omega)) (fun k j k0 k1 hj => zu_j hj) (fun k j k0 k1 hj => zu_kj (by omega)) (BND_cnt hP.2.2.2.2.2.2.1 hck ⟨i0, i1⟩) (fun j hj => rfl)
  have k60 : ∀ (S : PS) (G : zG) (Q : zQ) (i : Int), 0 ≤ i → i < 4 → CP B n a 1 G S → S.2.1 3 = b → Q (some (zi 1)) (zu G ck b i) → ∀ l2 l6, zAt xT_38 (zW (d + 6)) Q 60 [zr 2 0 2, zr 15 4 q, l2, zr 10 10 ck, zi b, zi i, l6] [] G := by
    intro S G Q i i0 i1 hP hS3 hq l2 l6
    apply zs_38_60 <;> intros
    case h2 => exact hq
    case h1 => exact ⟨⟨by omega, by show b < ((10 : Nat) : Int); omega⟩, ⟨by omega, by omega⟩⟩
    all_goals first | omega | (repeat' first | exact hrg _ | assumption | (unfold rg; omega) | omega | refine And.intro ?_ ?_)
  intro k
  induction k with
  | zero =>
    intro i S G Q i0 hi hP hS3 hrow hY hN l6
    have hi4 : i = 4 := by simpa using hi
    have hP2 := fin S G 4 (by omega) (by omega) hP hS3
    apply zs_38_3 <;> intros
    case h2 =>
      rw [hi4]
      apply zs_38_60 <;> intros
      case h1 => exact ⟨⟨by omega, by show b < ((10 : Nat) : Int); omega⟩, ⟨by omega, by omega⟩⟩
      case h3 =>
        refine c50 hT hP2.2.1 (by omega) (fun hw => ?_) (fun hw => ?_)
        · have hs : oPg B n q at0 0 i S = Except.error (3, S.1.2.1) := by show cif _ _ _ = _; rw [cif_t hw]
          apply zs_38_77 <;> intros
          case h3 =>
            have e7 : (zu G ck b 4) 2 7 = S.1.2.1 := (CT_n hP2.2.1).2.2.1
            rw [e7]
            exact hN _ _ hs (fr_trans (fr_u (fr_refl _ _) (Or.inr (Or.inr rfl))) (sk_u _ _ _) (fun _ _ t => Or.inl t)) (CE_of ha hP2.2.2.2.2.2 (sk_u _ _ _) (by omega) (RF_u _))
          all_goals first | omega | (repeat' first | exact hrg _ | assumption | (unfold rg; omega) | omega | refine And.intro ?_ ?_)
        · have hs : oPg B n q at0 0 i S = Except.ok (i, S) := by show cif _ _ _ = _; rw [cif_f hw]
          apply zs_38_77 <;> intros
          case h2 =>
            refine hY _ i S hs (fr_u (fr_refl _ _) (Or.inr (Or.inr rfl))) hP2 (by rw [zu_s]; omega) (fun j j0 j1 => ?_)
            rw [zu_kj (by omega)]; exact hrow j j0 j1
          all_goals first | omega | (repeat' first | exact hrg _ | assumption | (unfold rg; omega) | omega | refine And.intro ?_ ?_)
      all_goals first | omega | (repeat' first | exact hrg _ | assumption | (unfold rg; omega) | omega | refine And.intro ?_ ?_)
    all_goals first | omega | (repeat' first | exact hrg _ | assumption | (unfold rg; omega) | omega | refine And.intro ?_ ?_)
  | succ k ih =>
    intro i S G Q i0 hi hP hS3 hrow hY hN l6
    have nn := WF_n hP.1.2.1
    apply zs_38_3 <;> intros
    case h3 =>
      refine c50 hT hP.2.1 (by omega) (fun hw => ?_) (fun hw => ?_)
      · have hs : oPg B n q at0 (k + 1) i S = Except.bind (oTold B n 0 2 (oStep B n S)) (fun r => oPg B n q at0 k (i + 1) (oSet (at0 + i) r.1 r.2)) := by show cif _ _ _ = _; rw [cif_t hw]
        apply zs_38_14 <;> intros
        case h3 =>
          refine c52s hT hP.2.1 (fun G1 f1 hC1 => ?_)
          have hP1 := CP_step ha hP f1 hC1
          have ew : (oStep B n S).2.1 = S.2.1 := rfl
          generalize oStep B n S = S1 at *
          clear hC1
          have d24 : G1 2 4 = a := hP1.2.2.2.2.2.2.2.1
          have d3 : G1 (G1 2 4) 3 = S1.2.1 2 := by rw [d24]; exact hP1.2.2.2.2.1.2.1.1
          have hk52 : ∀ k j, ¬ (k = 2 ∧ 5 ≤ j ∧ j ≤ 8) → G1 k j = G k j := fun k j h => f1 k j h
          have fA : fr G G1 (SPg rk ck) := fr_wide f1 (fun k j t => Or.inl ⟨t.1, Or.inr (Or.inr t.2)⟩)
          have n1 := WF_n hP1.1.2.1
          have frg := fnd_rg (B := B) (c := S1.1) (N := S1.2.2) (base := 0) (m := S1.2.1 2) (by omega)
          apply zs_38_21 <;> intros
          case h2 =>
            rw [d3]
            refine c46 hT hP1.2.1 hP1.2.2.1 (by omega) ⟨by omega, by omega⟩ (by omega) (fun j j0 j1 => by rw [Int.zero_add]; exact hP1.1.2.2.2.2 j (by omega)) (fun k1 hf G2 f2 hC2 => ?_) (fun k1 G2 f2 hF => ?_) (fun k1 hf G2 f2 hF => ?_)
            · have hs2 : oTold B n 0 2 S1 = Except.ok (fnd B S1.1 S1.2.2 0 (S1.2.1 2), oStep B n S1) := by unfold oTold; rw [if_pos k1, if_neg hf]
              rw [hs2] at hs
              have hs : oPg B n q at0 (k + 1) i S = oPg B n q at0 k (i + 1) (oSet (at0 + i) (fnd B S1.1 S1.2.2 0 (S1.2.1 2)) (oStep B n S1)) := hs
              have hP2 := CP_step ha hP1 f2 hC2
              have ew2 : (oStep B n S1).2.1 = S.2.1 := ew
              generalize fnd B S1.1 S1.2.2 0 (S1.2.1 2) = v at *
              generalize oStep B n S1 = S2 at *
              have hk2 : ∀ k j, ¬ (k = 2 ∧ 5 ≤ j ∧ j ≤ 8) → G2 k j = G1 k j := fun k j h => f2 k j h
              have fB : fr G G2 (SPg rk ck) := fr_trans fA f2 (fun k j t => Or.inl ⟨t.1, Or.inr (Or.inr t.2)⟩)
              apply zs_38_33 <;> intros
              case h3 =>
                have hok := PSok_set (j := at0 + i) (v := v) hP2.1 ⟨by omega, by omega⟩ (by rw [ew2]; omega) (by rw [ew2]; omega) (by rw [ew2]; omega)
                have hP3 : CP B n a 1 (zu G2 rk ((b * 4) + i) v) (oSet (at0 + i) v S2) := by
                  refine CP1_set ha (b := b) (by rw [ew2]; exact hS3) hP2 hok (fun k j hk => zu_kj (by omega)) (fun k j k0 k1 hj => zu_kj (by omega)) (fun k j k0 k1 hj => zu_j (by omega)) (BND_row hP2.2.2.2.2.2.2.1 hrk ⟨by omega, by omega⟩) (fun j hj => zpd_n (by omega))
                refine ih (i + 1) _ _ _ (by omega) (by omega) hP3 ?_ (fun j j0 j1 => ?_) (fun G3 m T ho f3 hP4 g1 g2 => hY G3 m T (by rw [hs]; exact ho) (fr_trans (fr_u fB (Or.inr (Or.inl rfl))) f3 (fun _ _ t => t)) hP4 g1 g2) (fun G3 e ho f3 hE => hN G3 e (by rw [hs]; exact ho) (fr_trans (fr_u fB (Or.inr (Or.inl rfl))) f3 (fun _ _ t => t)) hE) _
                · show zpd S2.2.1 (at0 + i) v 3 = b
                  rw [zpd_n (by omega), ew2]; exact hS3
                · show _ = zpd S2.2.1 (at0 + i) v (at0 + j)
                  by_cases c : j = i
                  · rw [c, zu_s, zpd_s]
                  · rw [zu_j (by omega), zpd_n (by omega), ew2, hk2 _ _ (by omega), hk52 _ _ (by omega)]; exact hrow j j0 (by omega)
              all_goals first | omega | (show _ ∧ _ < ((40 : Nat) : Int); omega) | (repeat' first | exact hrg _ | assumption | (unfold rg; omega) | omega | refine And.intro ?_ ?_)
            · have hs2 : oTold B n 0 2 S1 = Except.error (1, S1.1.2.1) := by unfold oTold; rw [if_neg k1]
              rw [hs2] at hs
              apply zs_38_33 <;> intros
              case h4 => exact hN G2 _ hs (fr_trans fA f2 (fun _ _ t => Or.inl t)) (CE_of ha hP1.2.2.2.2.2 f2 (by omega) hF)
              all_goals first | omega | (repeat' first | exact hrg _ | assumption | (unfold rg; omega) | omega | refine And.intro ?_ ?_)
            · have hs2 : oTold B n 0 2 S1 = Except.error (2, S1.1.2.1) := by unfold oTold; rw [if_pos k1, if_pos hf]
              rw [hs2] at hs
              apply zs_38_33 <;> intros
              case h4 => exact hN G2 _ hs (fr_trans fA f2 (fun _ _ t => Or.inl t)) (CE_of ha hP1.2.2.2.2.2 f2 (by omega) hF)
              all_goals first | omega | (repeat' first | exact hrg _ | assumption | (unfold rg; omega) | omega | refine And.intro ?_ ?_)
          all_goals first | omega | (repeat' first | exact hrg _ | assumption | (unfold rg; omega) | omega | refine And.intro ?_ ?_)
        all_goals first | omega | (repeat' first | exact hrg _ | assumption | (unfold rg; omega) | omega | refine And.intro ?_ ?_)
      · have hs : oPg B n q at0 (k + 1) i S = Except.ok (i, S) := by show cif _ _ _ = _; rw [cif_f hw]
        apply zs_38_14 <;> intros
        case h2 =>
          refine k60 S G Q i i0 (by omega) hP hS3 (hY _ i S hs (fr_u (fr_refl _ _) (Or.inr (Or.inr rfl))) (fin S G i i0 (by omega) hP hS3) zu_s (fun j j0 j1 => ?_)) _ _
          rw [zu_kj (by omega)]; exact hrow j j0 j1
        all_goals first | omega | (repeat' first | exact hrg _ | assumption | (unfold rg; omega) | omega | refine And.intro ?_ ?_)
    all_goals first | omega | (repeat' first | exact hrg _ | assumption | (unfold rg; omega) | omega | refine And.intro ?_ ?_)
end CL
