/-! THE CALLS: days, firstDay, changes, change, bestDay by the class -/
section KV
variable {d : Nat} {G : zG} {Q : zQ} {a : Int} {w : Int → Int}
theorem CI_sb {G1 : zG} {v : Int} (hC : CI G a w) (hI : IX G 66 a w (-1)) (hv : 94 ≤ v ∧ v ≤ 190) (f : fr G G1 (SB v)) : CI G1 a w ∧ IX G1 66 a w (-1) := by
  have e : ∀ k j, k ≤ 78 → G1 k j = G k j := fun k j h => f k j (by unfold SB; omega)
  exact ⟨CI_keep hC e, IX_fr hI (fun k j k0 k1 => e k j (by omega))⟩
theorem SB_SC {v k j : Int} (hv : 94 ≤ v ∧ v ≤ 190) (h : SB v k j) : SC k j := by unfold SB at h; unfold SC; omega
theorem VC_fr {G1 : zG} {v dr : Int} {L : List EL} (hl : L.length ≤ 85) (hV : VC G v w dr L) (e : ∀ k j, v ≤ k → k ≤ v + 94 → G1 k j = G k j) : VC G1 v w dr L := by
  obtain ⟨h1, h2, h3⟩ := hV
  unfold VC Q4M at *
  refine ⟨by rw [e _ _ (by omega) (by omega)]; exact h1, ?_, fun i i0 i1 => ?_⟩
  · rw [e _ _ (by omega) (by omega), e _ _ (by omega) (by omega), e _ _ (by omega) (by omega), e _ _ (by omega) (by omega)]; exact h2
  · rw [e _ _ (by omega) (by omega), e _ _ (by omega) (by omega), e _ _ (by omega) (by omega), e _ _ (by omega) (by omega), e _ _ (by omega) (by omega), e _ _ (by omega) (by omega), e _ _ (by omega) (by omega), e _ _ (by omega) (by omega), e _ _ (by omega) (by omega)]
    exact h3 i i0 i1
theorem all_at {G1 : zG} {p t : Int} (wf : WF w) (hV : VC G1 94 w (-1) (vw w (-1) p t)) : ((G1 188 1 < G1 188 0 → G1 188 3 < G1 188 2 → jdg w (-1) p t = 0) ∧ (G1 188 1 < G1 188 0 → G1 188 2 ≤ G1 188 3 → jdg w (-1) p t = 1) ∧ (G1 188 0 ≤ G1 188 1 → jdg w (-1) p t = 2)) ∧ rg (G1 188 0) ∧ rg (G1 188 1) ∧ rg (G1 188 2) ∧ rg (G1 188 3) := by
  have hd := all_d wf (-1) p t
  unfold jdg
  obtain ⟨q1, q2, q3, q4⟩ := hV.2.1
  have q1 : G1 188 0 = _ := q1
  have q2 : G1 188 1 = _ := q2
  have q3 : G1 188 2 = _ := q3
  have q4 : G1 188 3 = _ := q4
  generalize allS w (-1) (vw w (-1) p t) = q at *
  unfold Q4d at hd
  unfold vd
  refine ⟨⟨fun h1 h2 => ?_, fun h1 h2 => ?_, fun h1 => ?_⟩, ?_, ?_, ?_, ?_⟩
  · rw [if_neg (by omega), if_neg (by omega)]
  · rw [if_neg (by omega), if_pos (by omega)]
  · rw [if_pos (by omega)]
  · unfold rg; omega
  · unfold rg; omega
  · unfold rg; omega
  · unfold rg; omega
set_option maxHeartbeats 4000000 in
theorem k_days (wf : WF w) (hC : CI G a w) {p k : Int} (hp : rg p) (hk : rg k) (hQ : ∀ G1, fr G G1 SC → CI G1 a w → Q (some (zi (q_days w p k))) G1) : zW (d + 12) 122 [zr 8 0 0, zi p, zi k] G Q := by
  obtain ⟨h03, ha, hA, ⟨ha0, ha1, ha2⟩, hs7, hix⟩ := hC; have hC : CI G a w := ⟨h03, ha, hA, ⟨ha0, ha1, ha2⟩, hs7, hix⟩; obtain ⟨n0, n1, n2, n3, n4, n5⟩ := WF_n wf; have hrg := WF_rg wf; have e3 : G (G 0 3) 3 = w 2 := by { rw [h03]; exact hA.1 }; have e4 : G (G 0 3) 4 = w 3 := by { rw [h03]; exact hA.2.1 }; have e5 : G (G 0 3) 5 = w 4 := by { rw [h03]; exact hA.2.2.1 }; have e2 : G (G 0 3) 2 = w 5 := by { rw [h03]; exact ha2 }
  unfold q_days at hQ
  refine zm_122 ?_
  by_cases hg : (0 ≤ p ∧ p < w 2) ∧ 0 ≤ k ∧ k ≤ 2
  · rw [bP_t hg] at hQ
    have key : ∀ (r t : Nat), t + r = 366 → ∀ G1, fr G G1 SC → CI G1 a w → IX G1 66 a w (-1) → ∀ v5, (1 ≤ t → v5 = jdg w (-1) p (t - 1)) → rg v5 → zAt xT_122 (zW (d + 11)) Q 33 [zr 8 0 0, zi p, zi k, zr 1 0 66, zi (cn (fun t => jdg w (-1) p t = k) t), zi v5, zi t] [] G1 := by
      intro r
      induction r with
      | zero =>
        intro t t1 G1 f1 hC1 hI1 v5 h5 h5r
        have e : t = 366 := by omega
        apply zs_122_33 <;> intros
        case h2 => rw [e]; exact hQ G1 f1 hC1
        all_goals first | omega | (repeat' first | exact hrg _ | assumption | (unfold rg; omega) | omega | refine And.intro ?_ ?_)
      | succ r ih =>
        intro t t1 G1 f1 hC1 hI1 v5 h5 h5r
        have hT : G1 (66 + 7) t = 1 ∨ G1 (66 + 7) t = 0 := (hI1.2.2.2.2.2 t (by omega) (by omega)).imp (fun h => h.1) (fun h => h.1)
        have hj := jdg_rg (w := w) (-1) p t
        have e : cn (fun t => jdg w (-1) p t = k) (t + 1) = cn (fun t => jdg w (-1) p t = k) t + @ite Int (jdg w (-1) p t = k) (Classical.propDecidable _) 1 0 := rfl
        have nx : ∀ G2, fr G G2 SC → CI G2 a w → IX G2 66 a w (-1) → ∀ v5, v5 = jdg w (-1) p t → (v5 ≠ k → zAt xT_122 (zW (d + 11)) Q 33 [zr 8 0 0, zi p, zi k, zr 1 0 66, zi (cn (fun t => jdg w (-1) p t = k) t), zi v5, zi ((t : Int) + 1)] [] G2) ∧ (v5 = k → zAt xT_122 (zW (d + 11)) Q 33 [zr 8 0 0, zi p, zi k, zr 1 0 66, zi (cn (fun t => jdg w (-1) p t = k) t + 1), zi v5, zi ((t : Int) + 1)] [] G2) := by
          intro G2 f2 hC2 hI2 v5 h5
          have := ih (t + 1) (by omega) G2 f2 hC2 hI2 v5 (fun _ => by rw [show ((t + 1 : Nat) : Int) - 1 = t by omega]; exact h5) ⟨by omega, by omega⟩
          rw [e] at this
          refine ⟨fun h => ?_, fun h => ?_⟩
          · rw [if_neg (by omega), Int.add_zero] at this; exact this
          · rw [if_pos (by omega)] at this; exact this
        apply zs_122_33 <;> intros
        case h5 =>
          have hqp := vw_quiet (day := (t : Int)) wf hI1 (by omega) (by omega) (by assumption) hg.1.1 hg.1.2
          exact (nx G1 f1 hC1 hI1 v5 (by rw [h5 (by omega)]; exact jdg_quiet hqp.2)).1 (by assumption)
        case h6 =>
          have hqp := vw_quiet (day := (t : Int)) wf hI1 (by omega) (by omega) (by assumption) hg.1.1 hg.1.2
          exact (nx G1 f1 hC1 hI1 v5 (by rw [h5 (by omega)]; exact jdg_quiet hqp.2)).2 (by assumption)
        case h7 =>
          refine c73 wf ha (by omega) (by omega) hI1 hC1.2.2.1 hg.1.1 hg.1.2 (by omega) (by omega) (fun G2 f2 hV h0 => ?_)
          obtain ⟨hC2, hI2⟩ := CI_sb hC1 hI1 (by omega) f2
          have f12 := fr_trans f1 f2 (fun k j t => SB_SC (by omega) t)
          obtain ⟨⟨j0, j1, j2⟩, g0, g1, g2, g3⟩ := all_at wf hV
          have nx := nx G2 f12 hC2 hI2
          apply zs_122_62 <;> intros
          case h4 => exact (nx 0 (j0 (by assumption) (by assumption)).symm).1 (by assumption)
          case h5 => exact (nx 0 (j0 (by assumption) (by assumption)).symm).2 (by assumption)
          case h7 => exact (nx 1 (j1 (by assumption) (by assumption)).symm).1 (by assumption)
          case h8 => exact (nx 1 (j1 (by assumption) (by assumption)).symm).2 (by assumption)
          case h10 => exact (nx 2 (j2 (by assumption)).symm).1 (by assumption)
          case h11 => exact (nx 2 (j2 (by assumption)).symm).2 (by assumption)
          all_goals first | omega | (repeat' first | exact hrg _ | assumption | (unfold rg; omega) | omega | refine And.intro ?_ ?_)
        all_goals first | omega | (repeat' first | exact hrg _ | assumption | (unfold rg; omega) | omega | refine And.intro ?_ ?_)
    apply zs_122_0 <;> intros
    case h6 =>
      refine c153 wf hC (fun G1 f1 hC1 hI1 h71 => zs_122_23 ?_)
      exact key 366 0 (by omega) G1 (fr_wide f1 (by intro k j t; unfold SC; omega)) hC1 hI1 0 (fun z => by omega) ⟨by omega, by omega⟩
    all_goals first | omega | (repeat' first | exact hrg _ | assumption | (unfold rg; omega) | omega | refine And.intro ?_ ?_)
  · rw [bP_f hg] at hQ
    apply zs_122_0 <;> intros
    all_goals first | omega | exact hQ G (fr_refl _ _) hC | (repeat' first | exact hrg _ | assumption | (unfold rg; omega) | omega | refine And.intro ?_ ?_)
set_option maxHeartbeats 4000000 in
theorem k_firstDay (wf : WF w) (hC : CI G a w) {p k : Int} (hp : rg p) (hk : rg k) (hQ : ∀ G1, fr G G1 SC → CI G1 a w → Q (some (zi (q_firstDay w p k))) G1) : zW (d + 12) 123 [zr 8 0 0, zi p, zi k] G Q := by
  obtain ⟨h03, ha, hA, ⟨ha0, ha1, ha2⟩, hs7, hix⟩ := hC; have hC : CI G a w := ⟨h03, ha, hA, ⟨ha0, ha1, ha2⟩, hs7, hix⟩; obtain ⟨n0, n1, n2, n3, n4, n5⟩ := WF_n wf; have hrg := WF_rg wf; have e3 : G (G 0 3) 3 = w 2 := by { rw [h03]; exact hA.1 }; have e4 : G (G 0 3) 4 = w 3 := by { rw [h03]; exact hA.2.1 }; have e5 : G (G 0 3) 5 = w 4 := by { rw [h03]; exact hA.2.2.1 }; have e2 : G (G 0 3) 2 = w 5 := by { rw [h03]; exact ha2 }
  unfold q_firstDay at hQ
  refine zm_123 ?_
  by_cases hg : (0 ≤ p ∧ p < w 2) ∧ 0 ≤ k ∧ k ≤ 2
  · rw [bP_t hg] at hQ
    have key : ∀ (r : Nat) (t : Int), 0 ≤ t → t + r = 366 → ∀ G1, fr G G1 SC → CI G1 a w → IX G1 66 a w (-1) → (∀ s, 0 ≤ s → s < t → jdg w (-1) p s ≠ k) → zAt xT_123 (zW (d + 11)) Q 27 [zr 8 0 0, zi p, zi k, zr 1 0 66, zi t] [] G1 := by
      intro r
      induction r with
      | zero =>
        intro t t0 t1 G1 f1 hC1 hI1 hn
        apply zs_123_27 <;> intros
        case h2 =>
          have hQ1 := hQ G1 f1 hC1
          rw [mn_eq (fun _ _ _ _ h => h) (Or.inl ⟨rfl, fun s hs => hn s hs.1 (by have := hs.2.1; omega) hs.2.2⟩)] at hQ1
          exact hQ1
        all_goals first | omega | (repeat' first | exact hrg _ | assumption | (unfold rg; omega) | omega | refine And.intro ?_ ?_)
      | succ r ih =>
        intro t t0 t1 G1 f1 hC1 hI1 hn
        have hT : G1 (66 + 7) t = 1 ∨ G1 (66 + 7) t = 0 := (hI1.2.2.2.2.2 t t0 (by omega)).imp (fun h => h.1) (fun h => h.1)
        apply zs_123_27 <;> intros
        case h4 =>
          rename_i hz
          refine ih (t + 1) (by omega) (by omega) G1 f1 hC1 hI1 (fun s s0 s1 => ?_)
          by_cases c : s = t
          · have hqp := vw_quiet wf hI1 t0 (by omega) hz hg.1.1 hg.1.2
            rw [c, ← jdg_quiet hqp.2]; exact hn (t - 1) (by omega) (by omega)
          · exact hn s s0 (by omega)
        case h5 =>
          refine c73 wf ha (by omega) (by omega) hI1 hC1.2.2.1 hg.1.1 hg.1.2 t0 (by omega) (fun G2 f2 hV h0 => ?_)
          obtain ⟨hC2, hI2⟩ := CI_sb hC1 hI1 (by omega) f2
          have f12 := fr_trans f1 f2 (fun k j t => SB_SC (by omega) t)
          obtain ⟨⟨j0, j1, j2⟩, g0, g1, g2, g3⟩ := all_at wf hV
          have no : jdg w (-1) p t ≠ k → zAt xT_123 (zW (d + 11)) Q 27 [zr 8 0 0, zi p, zi k, zr 1 0 66, zi (t + 1)] [] G2 := fun h => by
            refine ih (t + 1) (by omega) (by omega) G2 f12 hC2 hI2 (fun s s0 s1 => ?_)
            by_cases c : s = t
            · rw [c]; exact h
            · exact hn s s0 (by omega)
          have yes : jdg w (-1) p t = k → Q (some (zi t)) G2 := fun h => by
            have hQ1 := hQ G2 f12 hC2
            rw [mn_eq (fun _ _ _ _ h => h) (Or.inr ⟨⟨t0, by omega, h⟩, fun s hs => by
              show t ≤ s
              by_cases c : s < t
              · exact absurd hs.2.2 (hn s hs.1 c)
              · omega⟩)] at hQ1
            exact hQ1
          apply zs_123_56 <;> intros
          case h4 => exact no (by rw [j0 (by assumption) (by assumption)]; assumption)
          case h5 => exact yes (by rw [j0 (by assumption) (by assumption)]; assumption)
          case h7 => exact no (by rw [j1 (by assumption) (by assumption)]; assumption)
          case h8 => exact yes (by rw [j1 (by assumption) (by assumption)]; assumption)
          case h10 => exact no (by rw [j2 (by assumption)]; assumption)
          case h11 => exact yes (by rw [j2 (by assumption)]; assumption)
          all_goals first | omega | (repeat' first | exact hrg _ | assumption | (unfold rg; omega) | omega | refine And.intro ?_ ?_)
        all_goals first | omega | (repeat' first | exact hrg _ | assumption | (unfold rg; omega) | omega | refine And.intro ?_ ?_)
    apply zs_123_0 <;> intros
    case h6 =>
      refine c153 wf hC (fun G1 f1 hC1 hI1 h71 => zs_123_23 ?_)
      exact key 366 0 (by omega) (by omega) G1 (fr_wide f1 (by intro k j t; unfold SC; omega)) hC1 hI1 (fun s s0 s1 => by omega)
    all_goals first | omega | (repeat' first | exact hrg _ | assumption | (unfold rg; omega) | omega | refine And.intro ?_ ?_)
  · rw [bP_f hg] at hQ
    apply zs_123_0 <;> intros
    all_goals first | omega | exact hQ G (fr_refl _ _) hC | (repeat' first | exact hrg _ | assumption | (unfold rg; omega) | omega | refine And.intro ?_ ?_)
set_option maxHeartbeats 4000000 in
theorem c81 {v u dr : Int} {L M : List EL} (hv : 94 ≤ v) (hu : 94 ≤ u) (hV : VC G v w dr M) (hU : VC G u w dr L) (hL : L.length ≤ 85) (hM : M.length ≤ 85) (rM : ∀ i : Nat, i < M.length → rg (M.getD i e0).1 ∧ rg (M.getD i e0).2.2.1 ∧ rg (M.getD i e0).2.2.2.1) (rL : ∀ i : Nat, i < L.length → rg (L.getD i e0).1 ∧ rg (L.getD i e0).2.2.1 ∧ rg (L.getD i e0).2.2.2.1) (hQ : Q (some (zi (bP (SK L M) 0 1))) G) : zW (d + 1) 81 [zr 6 0 v, zr 6 0 u] G Q := by
  refine zm_81 ?_
  have g1 := hV.1
  have g2 := hU.1
  have no : ¬ SK L M → Q (some (zi 1)) G := fun h => by rw [bP_f h] at hQ; exact hQ
  have key : L.length = M.length → ∀ (r i : Nat), i + r = M.length → (∀ k : Nat, k < i → (L.getD k e0).1 = (M.getD k e0).1 ∧ (L.getD k e0).2.2.1 = (M.getD k e0).2.2.1 ∧ (L.getD k e0).2.2.2.1 = (M.getD k e0).2.2.2.1) → zAt xT_81 (zW d) Q 15 [zr 6 0 v, zr 6 0 u, zi i] [] G := by
    intro hlm r
    induction r with
    | zero =>
      intro i hi hk
      apply zs_81_15 <;> intros
      case h2 => rw [bP_t ⟨hlm, fun k hk2 => hk k (by omega)⟩] at hQ; exact hQ
      all_goals first | omega | (repeat' first | exact hrg _ | assumption | (unfold rg; omega) | omega | refine And.intro ?_ ?_)
    | succ r ih =>
      intro i hi hk
      obtain ⟨a1, a2, a3, _⟩ := hV.2.2 i (by omega) (by omega)
      obtain ⟨b1, b2, b3, _⟩ := hU.2.2 i (by omega) (by omega)
      rw [Int.toNat_natCast] at a1 a2 a3 b1 b2 b3
      obtain ⟨r1, r2, r3⟩ := rM i (by omega)
      obtain ⟨s1, s2, s3⟩ := rL i (by omega)
      apply zs_81_15 <;> intros
      case h4 => exact no (fun z => by have := z.2 i (by omega); omega)
      case h6 => exact no (fun z => by have := z.2 i (by omega); omega)
      case h9 => exact no (fun z => by have := z.2 i (by omega); omega)
      case h8 =>
        have := ih (i + 1) (by omega) (fun k hk2 => by
          by_cases e : k = i
          · subst e; exact ⟨by omega, by omega, by omega⟩
          · exact hk k (by omega))
        exact this
      all_goals first | omega | (rw [a1, b1]; (repeat' first | exact hrg _ | assumption | (unfold rg; omega) | omega | refine And.intro ?_ ?_)) | (rw [a2, b2]; (repeat' first | exact hrg _ | assumption | (unfold rg; omega) | omega | refine And.intro ?_ ?_)) | (rw [a3, b3]; (repeat' first | exact hrg _ | assumption | (unfold rg; omega) | omega | refine And.intro ?_ ?_)) | (repeat' first | exact hrg _ | assumption | (unfold rg; omega) | omega | refine And.intro ?_ ?_)
  apply zs_81_0 <;> intros
  case h2 => exact key (by omega) M.length 0 (by omega) (fun k hk => by omega)
  case h3 => exact no (fun z => by have := z.1; omega)
  all_goals first | omega | (repeat' first | exact hrg _ | assumption | (unfold rg; omega) | omega | refine And.intro ?_ ?_)
theorem SAMEL_SK {dr : Int} {L M : List EL} (h : SAMEL w dr L M) : SK L M := by
  have hl := SAMEL_len L M h
  refine ⟨hl, fun i hi => ?_⟩
  have := SAMEL_get L M i h (by omega)
  exact ⟨this.1, by rw [this.2.1], by rw [this.2.1]⟩
set_option maxHeartbeats 4000000 in
theorem c156 (wf : WF w) (hC : CI G a w) {p : Int} (hg : 0 ≤ p ∧ p < w 2) (hQ : ∀ G1, fr G G1 SC → CI G1 a w → (∀ i : Nat, i < (chl w p 366).length → G1 296 i = (chl w p 366).getD i 0) → Q (some (zi (chl w p 366).length)) G1) : zW (d + 12) 156 [zr 8 0 0, zi p] G Q := by
  have ha := hC.2.1
  refine zm_156 (zs_156_0 (c153 wf hC (fun G1 f1 hC1 hI1 h71 => zs_156_4 ?_)))
  refine c73 wf ha (by omega) (by omega) hI1 hC1.2.2.1 hg.1 hg.2 (by omega) (by omega) (fun G2 f2 hV h0 => zs_156_23 ?_)
  obtain ⟨hC2, hI2⟩ := CI_sb hC1 hI1 (by omega) f2
  have f12 : fr G G2 SC := fr_trans (fr_wide f1 (by intro k j t; unfold SC; omega)) f2 (fun k j t => SB_SC (by omega) t)
  have key : ∀ (r t : Nat), t + r = 366 → 1 ≤ t → ∀ G3, fr G G3 SC → CI G3 a w → IX G3 66 a w (-1) → ∀ u v, ((u = 190 ∧ v = 94) ∨ (u = 94 ∧ v = 190)) → VC G3 u w (-1) (vw w (-1) p (t - 1)) → (∀ i : Nat, i < (chl w p t).length → G3 296 i = (chl w p t).getD i 0) → ∀ l7, zAt xT_156 (zW (d + 11)) Q 29 [zr 8 0 0, zi p, zr 1 0 66, zr 6 0 u, zr 6 0 v, zi (chl w p t).length, zi t, l7] [] G3 := by
    intro r
    induction r with
    | zero =>
      intro t ht t0 G3 f3 hC3 hI3 u v huv hU hc l7
      have e : t = 366 := by omega
      subst e
      apply zs_156_29 <;> intros
      case h2 => exact hQ G3 f3 hC3 hc
      all_goals first | omega | (repeat' first | exact hrg _ | assumption | (unfold rg; omega) | omega | refine And.intro ?_ ?_)
    | succ r ih =>
      intro t ht t0 G3 f3 hC3 hI3 u v huv hU hc l7
      have hT : G3 (66 + 7) t = 1 ∨ G3 (66 + 7) t = 0 := (hI3.2.2.2.2.2 t (by omega) (by omega)).imp (fun h => h.1) (fun h => h.1)
      have hok : okPD w p t := ⟨hg, by omega, by omega⟩
      have hok' : okPD w p (t - 1) := ⟨hg, by omega, by omega⟩
      have cl := chl_len (w := w) (p := p) t
      have tt : (((t + 1 : Nat) : Int) - 1) = t := by omega
      have ih := ih (t + 1) (by omega) (by omega)
      rw [tt] at ih
      apply zs_156_29 <;> intros
      case h5 =>
        have hqp := vw_quiet (day := (t : Int)) wf hI3 (by omega) (by omega) (by assumption) hg.1 hg.2
        have nc : ¬ chg w p t := fun z => z.2 (SAMEL_SK hqp.2)
        rw [chl_n nc] at ih
        exact ih G3 f3 hC3 hI3 u v huv (VC_same hqp.2 hU) hc _
      case h4 =>
        have hvr : 94 ≤ v ∧ v ≤ 190 := by omega
        refine c73 wf ha (by omega) hvr hI3 hC3.2.2.1 hg.1 hg.2 (by omega) (by omega) (fun G4 f4 hV4 h04 => zs_156_59 ?_)
        obtain ⟨hC4, hI4⟩ := CI_sb hC3 hI3 hvr f4
        have f14 := fr_trans f3 f4 (fun k j t => SB_SC hvr t)
        have hU4 : VC G4 u w (-1) (vw w (-1) p (t - 1)) := VC_fr (vw_len wf p _) hU (fun k j k0 k1 => f4 k j (by unfold SB; omega))
        refine c81 hvr.1 (by omega) hV4 hU4 (vw_len wf p _) (vw_len wf p _) (vw_gr wf hok) (vw_gr wf hok') ?_
        by_cases c : SK (vw w (-1) p (t - 1)) (vw w (-1) p t)
        · rw [bP_t c]
          have nc : ¬ chg w p t := fun z => z.2 c
          rw [chl_n nc] at ih
          apply zs_156_65 <;> intros
          case h2 => exact ih G4 f14 hC4 hI4 v u (by omega) hV4 (fun i hi => by rw [f4 _ _ (by unfold SB; omega)]; exact hc i hi) _
          all_goals first | omega | (repeat' first | exact hrg _ | assumption | (unfold rg; omega) | omega | refine And.intro ?_ ?_)
        · rw [bP_f c]
          have yc : chg w p t := ⟨by omega, c⟩
          rw [chl_y yc, List.length_append] at ih
          have e1 : [(t : Int)].length = 1 := rfl
          rw [e1] at ih
          have lt : (chl w p t).length < 365 := by
            have h0 : ¬ chg w p ((0 : Nat) : Int) := fun z => by have := z.1; omega
            have l1 : ∀ n : Nat, (chl w p (n + 1)).length ≤ n := by
              intro n
              induction n with
              | zero => rw [chl_n h0]; exact Nat.le_refl 0
              | succ n ihn =>
                by_cases c : chg w p ((n + 1 : Nat) : Int)
                · rw [chl_y c, List.length_append]
                  have : [((n + 1 : Nat) : Int)].length = 1 := rfl
                  omega
                · rw [chl_n c]; omega
            have := l1 (t - 1)
            rw [show t - 1 + 1 = t by omega] at this
            omega
          apply zs_156_65 <;> intros
          case h4 =>
            have e : ∀ k j, k ≤ 295 → (zu G4 296 (chl w p t).length t) k j = G4 k j := fun k j h => by rw [zu_k (by omega)]
            refine ih _ (fr_u f14 (by unfold SC; omega)) (CI_keep hC4 (fun k j h => e k j (by omega))) (IX_fr hI4 (fun k j k0 k1 => e k j (by omega))) v u (by omega) (VC_fr (vw_len wf p _) hV4 (fun k j k0 k1 => e k j (by omega))) (fun i hi => ?_) _
            by_cases ei : i = (chl w p t).length
            · rw [ei, zu_s, List.getD_eq_getElem?_getD, List.getElem?_append_right (Nat.le_refl _), Nat.sub_self]; rfl
            · rw [zu_j (by omega), f4 _ _ (by unfold SB; omega), hc i (by omega), List.getD_eq_getElem?_getD, List.getD_eq_getElem?_getD, List.getElem?_append_left (by omega)]
          all_goals first | omega | (repeat' first | exact hrg _ | assumption | (unfold rg; omega) | omega | refine And.intro ?_ ?_)
      all_goals first | omega | (repeat' first | exact hrg _ | assumption | (unfold rg; omega) | omega | refine And.intro ?_ ?_)
  have c1 : chl w p 1 = [] := chl_n (n := 0) (fun z => by have := z.1; omega)
  have := key 365 1 (by omega) (by omega) G2 f12 hC2 hI2 190 94 (Or.inl ⟨rfl, rfl⟩) hV (fun i hi => by rw [c1] at hi; exact absurd hi (Nat.not_lt_zero _)) z0
  rw [c1] at this
  exact this
set_option maxHeartbeats 4000000 in
theorem k_changes (wf : WF w) (hC : CI G a w) {p : Int} (hp : rg p) (hQ : ∀ G1, fr G G1 SC → CI G1 a w → Q (some (zi (q_changes w p))) G1) : zW (d + 14) 124 [zr 8 0 0, zi p] G Q := by
  obtain ⟨h03, ha, hA, ⟨ha0, ha1, ha2⟩, hs7, hix⟩ := hC; have hC : CI G a w := ⟨h03, ha, hA, ⟨ha0, ha1, ha2⟩, hs7, hix⟩; obtain ⟨n0, n1, n2, n3, n4, n5⟩ := WF_n wf; have hrg := WF_rg wf; have e3 : G (G 0 3) 3 = w 2 := by { rw [h03]; exact hA.1 }; have e4 : G (G 0 3) 4 = w 3 := by { rw [h03]; exact hA.2.1 }; have e5 : G (G 0 3) 5 = w 4 := by { rw [h03]; exact hA.2.2.1 }; have e2 : G (G 0 3) 2 = w 5 := by { rw [h03]; exact ha2 }
  unfold q_changes at hQ
  refine zm_124 ?_
  by_cases hg : 0 ≤ p ∧ p < w 2
  · rw [bP_t hg] at hQ
    apply zs_124_0 <;> intros
    case h4 => exact c156 wf hC hg (fun G1 f1 hC1 _ => zs_124_18 (hQ G1 f1 hC1))
    all_goals first | omega | (repeat' first | exact hrg _ | assumption | (unfold rg; omega) | omega | refine And.intro ?_ ?_)
  · rw [bP_f hg] at hQ
    apply zs_124_0 <;> intros
    all_goals first | omega | exact zs_124_18 (hQ G (fr_refl _ _) hC) | (repeat' first | exact hrg _ | assumption | (unfold rg; omega) | omega | refine And.intro ?_ ?_)
set_option maxHeartbeats 4000000 in
theorem k_change (wf : WF w) (hC : CI G a w) {p i : Int} (hp : rg p) (hi : rg i) (hQ : ∀ G1, fr G G1 SC → CI G1 a w → Q (some (zi (q_change w p i))) G1) : zW (d + 14) 125 [zr 8 0 0, zi p, zi i] G Q := by
  obtain ⟨h03, ha, hA, ⟨ha0, ha1, ha2⟩, hs7, hix⟩ := hC; have hC : CI G a w := ⟨h03, ha, hA, ⟨ha0, ha1, ha2⟩, hs7, hix⟩; obtain ⟨n0, n1, n2, n3, n4, n5⟩ := WF_n wf; have hrg := WF_rg wf; have e3 : G (G 0 3) 3 = w 2 := by { rw [h03]; exact hA.1 }; have e4 : G (G 0 3) 4 = w 3 := by { rw [h03]; exact hA.2.1 }; have e5 : G (G 0 3) 5 = w 4 := by { rw [h03]; exact hA.2.2.1 }; have e2 : G (G 0 3) 2 = w 5 := by { rw [h03]; exact ha2 }
  unfold q_change at hQ
  refine zm_125 ?_
  by_cases hg : (0 ≤ p ∧ p < w 2) ∧ 0 ≤ i
  · rw [bP_t hg] at hQ
    have h0 : ¬ chg w p ((0 : Nat) : Int) := fun z => by have := z.1; omega
    have l1 : ∀ n : Nat, (chl w p (n + 1)).length ≤ n := by
      intro n
      induction n with
      | zero => rw [chl_n h0]; exact Nat.le_refl 0
      | succ n ihn =>
        by_cases c : chg w p ((n + 1 : Nat) : Int)
        · rw [chl_y c, List.length_append]
          have : [((n + 1 : Nat) : Int)].length = 1 := rfl
          omega
        · rw [chl_n c]; omega
    have l1 : (chl w p 366).length ≤ 365 := l1 365
    apply zs_125_0 <;> intros
    case h5 =>
      refine c156 (d := d + 1) wf hC hg.1 (fun G1 f1 hC1 hc => ?_)
      have hQ1 := hQ G1 f1 hC1
      clear hQ
      generalize chl w p 366 = L at *
      apply zs_125_21 <;> intros
      case h2 => rw [if_neg (by omega)] at hQ1; exact hQ1
      case h4 =>
        rw [if_pos (by omega)] at hQ1
        have := hc i.toNat (by omega)
        rw [show ((i.toNat : Nat) : Int) = i by omega] at this
        rw [this]; exact hQ1
      all_goals first | omega | (repeat' first | exact hrg _ | assumption | (unfold rg; omega) | omega | refine And.intro ?_ ?_)
    all_goals first | omega | (repeat' first | exact hrg _ | assumption | (unfold rg; omega) | omega | refine And.intro ?_ ?_)
  · rw [bP_f hg] at hQ
    apply zs_125_0 <;> intros
    all_goals first | omega | exact hQ G (fr_refl _ _) hC | (repeat' first | exact hrg _ | assumption | (unfold rg; omega) | omega | refine And.intro ?_ ?_)
set_option maxHeartbeats 8000000 in
theorem k_bestDay (wf : WF w) (hC : CI G a w) {p : Int} (hp : rg p) (hQ : ∀ G1, fr G G1 SC → CI G1 a w → Q (some (zi (q_bestDay w p))) G1) : zW (d + 14) 127 [zr 8 0 0, zi p] G Q := by
  obtain ⟨h03, ha, hA, ⟨ha0, ha1, ha2⟩, hs7, hix⟩ := hC; have hC : CI G a w := ⟨h03, ha, hA, ⟨ha0, ha1, ha2⟩, hs7, hix⟩; obtain ⟨n0, n1, n2, n3, n4, n5⟩ := WF_n wf; have hrg := WF_rg wf; have e3 : G (G 0 3) 3 = w 2 := by { rw [h03]; exact hA.1 }; have e4 : G (G 0 3) 4 = w 3 := by { rw [h03]; exact hA.2.1 }; have e5 : G (G 0 3) 5 = w 4 := by { rw [h03]; exact hA.2.2.1 }; have e2 : G (G 0 3) 2 = w 5 := by { rw [h03]; exact ha2 }
  unfold q_bestDay at hQ
  refine zm_127 ?_
  by_cases hg : 0 ≤ p ∧ p < w 2
  · rw [bP_t hg] at hQ
    have key : ∀ (r t : Nat), t + r = 366 → ∀ G1, fr G G1 SC → CI G1 a w → IX G1 66 a w (-1) → ∀ v6, (1 ≤ t → VC G1 94 w (-1) (vw w (-1) p (t - 1)) ∧ G1 94 0 = 66 ∧ v6 = bP (whl (vw w (-1) p (t - 1))) 1 0) → ∀ l8, zAt xT_127 (zW (d + 13)) Q 30 [zr 8 0 0, zi p, zr 1 0 66, zi (bst w p t).1, zi (bst w p t).2.1, zi (bst w p t).2.2, zi v6, zi t, l8] [] G1 := by
      intro r
      induction r with
      | zero =>
        intro t t1 G1 f1 hC1 hI1 v6 h6 l8
        have e : t = 366 := by omega
        apply zs_127_30 <;> intros
        case h2 => rw [e]; exact hQ G1 f1 hC1
        all_goals first | omega | (repeat' first | exact hrg _ | assumption | (unfold rg; omega) | omega | refine And.intro ?_ ?_)
      | succ r ih =>
        intro t t1 G1 f1 hC1 hI1 v6 h6 l8
        have hT : G1 (66 + 7) t = 1 ∨ G1 (66 + 7) t = 0 := (hI1.2.2.2.2.2 t (by omega) (by omega)).imp (fun h => h.1) (fun h => h.1)
        have hok : okPD w p t := ⟨hg, by omega, by omega⟩
        have hj := jdg_rg (w := w) (-1) p t
        have hb := bst_rg wf hg t (by omega)
        have hdr := drf_rg (dr := -1) wf (day := t) ⟨by omega, by omega⟩ (vw w (-1) p t) 0 (vw_ok wf hok) (by omega)
        have hl := vw_len (dr := -1) wf p t
        have tt : (((t + 1 : Nat) : Int) - 1) = t := by omega
        have ih := ih (t + 1) (by omega)
        rw [tt] at ih
        have e : bst w p (t + 1) = @ite (Int × Int × Int) (whl (vw w (-1) p t) ∧ ((bst w p t).2.1 < jdg w (-1) p t ∨ (jdg w (-1) p t = (bst w p t).2.1 ∧ drf w t (vw w (-1) p t) 0 < (bst w p t).2.2))) (Classical.propDecidable _) ((t : Int), jdg w (-1) p t, drf w t (vw w (-1) p t) 0) (bst w p t) := rfl
        rw [e] at ih
        have s68 : ∀ G2, fr G G2 SC → CI G2 a w → IX G2 66 a w (-1) → VC G2 94 w (-1) (vw w (-1) p t) → G2 94 0 = 66 → ∀ v6, v6 = bP (whl (vw w (-1) p t)) 1 0 → ∀ l8, zAt xT_127 (zW (d + 13)) Q 68 [zr 8 0 0, zi p, zr 1 0 66, zi (bst w p t).1, zi (bst w p t).2.1, zi (bst w p t).2.2, zi v6, zi t, l8] [] G2 := by
          intro G2 f2 hC2 hI2 hV h0 v6 h6 l8
          obtain ⟨⟨j0, j1, j2⟩, g0, g1, g2, g3⟩ := all_at wf hV
          have ih := ih G2 f2 hC2 hI2 v6 (fun _ => ⟨hV, h0, h6⟩)
          by_cases c : whl (vw w (-1) p t)
          · rw [bP_t c] at h6
            have take : (bst w p t).2.1 < jdg w (-1) p t ∨ (jdg w (-1) p t = (bst w p t).2.1 ∧ drf w t (vw w (-1) p t) 0 < (bst w p t).2.2) → ∀ l8, zAt xT_127 (zW (d + 13)) Q 30 [zr 8 0 0, zi p, zr 1 0 66, zi t, zi (jdg w (-1) p t), zi (drf w t (vw w (-1) p t) 0), zi v6, zi ((t : Int) + 1), l8] [] G2 := fun h l8 => by
              have := ih l8; rw [if_pos ⟨c, h⟩] at this; exact this
            have skip : ¬ ((bst w p t).2.1 < jdg w (-1) p t ∨ (jdg w (-1) p t = (bst w p t).2.1 ∧ drf w t (vw w (-1) p t) 0 < (bst w p t).2.2)) → ∀ l8, zAt xT_127 (zW (d + 13)) Q 30 [zr 8 0 0, zi p, zr 1 0 66, zi (bst w p t).1, zi (bst w p t).2.1, zi (bst w p t).2.2, zi v6, zi ((t : Int) + 1), l8] [] G2 := fun h l8 => by
              have := ih l8; rw [if_neg (fun z => h z.2)] at this; exact this
            have dk : (bst w p t).2.1 ≤ jdg w (-1) p t → zW (d + 13) 86 [zr 6 0 94, zi t] G2 (fun r G1 => zqI r fun x => zAt xT_127 (zW (d + 13)) Q 100 [zr 8 0 0, zi p, zr 1 0 66, zi (bst w p t).1, zi (bst w p t).2.1, zi (bst w p t).2.2, zi v6, zi t, z0] [zi x] G1) := fun hle => by
              refine c86 (d := d + 11) wf hok.2 ⟨by omega, by omega⟩ (by omega) ha.1 h0 hI2 hC2.2.2.1 hV hl (vw_ok wf hok) ?_
              apply zs_127_100 <;> intros
              case h5 => have z := j0 (by assumption) (by assumption); have := take (by omega); rw [z] at this; exact this _
              case h7 => have z := j0 (by assumption) (by assumption); exact skip (by omega) _
              case h9 => have z := j0 (by assumption) (by assumption); have := take (by omega); rw [z] at this; exact this _
              case h12 => have z := j1 (by assumption) (by assumption); have := take (by omega); rw [z] at this; exact this _
              case h14 => have z := j1 (by assumption) (by assumption); exact skip (by omega) _
              case h16 => have z := j1 (by assumption) (by assumption); have := take (by omega); rw [z] at this; exact this _
              case h19 => have z := j2 (by assumption); have := take (by omega); rw [z] at this; exact this _
              case h21 => have z := j2 (by assumption); exact skip (by omega) _
              case h23 => have z := j2 (by assumption); have := take (by omega); rw [z] at this; exact this _
              all_goals first | omega | (repeat' first | exact hrg _ | assumption | (unfold rg; omega) | omega | refine And.intro ?_ ?_)
            apply zs_127_68 <;> intros
            case h6 => have z := j0 (by assumption) (by assumption); exact dk (by omega)
            case h7 => have z := j0 (by assumption) (by assumption); exact skip (by omega) _
            case h9 => have z := j1 (by assumption) (by assumption); exact dk (by omega)
            case h10 => have z := j1 (by assumption) (by assumption); exact skip (by omega) _
            case h12 => have z := j2 (by assumption); exact dk (by omega)
            case h13 => have z := j2 (by assumption); exact skip (by omega) _
            all_goals first | omega | (repeat' first | exact hrg _ | assumption | (unfold rg; omega) | omega | refine And.intro ?_ ?_)
          · rw [bP_f c] at h6
            rw [if_neg (fun z => c z.1)] at ih
            apply zs_127_68 <;> intros
            case h2 => exact ih _
            all_goals first | omega | (repeat' first | exact hrg _ | assumption | (unfold rg; omega) | omega | refine And.intro ?_ ?_)
        apply zs_127_30 <;> intros
        case h4 =>
          have hqp := vw_quiet (day := (t : Int)) wf hI1 (by omega) (by omega) (by assumption) hg.1 hg.2
          obtain ⟨i1, i2, i3⟩ := h6 (by omega)
          refine s68 G1 f1 hC1 hI1 (VC_same hqp.2 i1) i2 v6 ?_ _
          rw [i3]
          by_cases c : whl (vw w (-1) p t)
          · rw [bP_t c, bP_t ((SAMEL_whl _ _ hqp.2).mpr c)]
          · rw [bP_f c, bP_f (fun z => c ((SAMEL_whl _ _ hqp.2).mp z))]
        case h5 =>
          refine c73 wf ha (by omega) (by omega) hI1 hC1.2.2.1 hg.1 hg.2 (by omega) (by omega) (fun G2 f2 hV h0 => zs_127_59 ?_)
          obtain ⟨hC2, hI2⟩ := CI_sb hC1 hI1 (by omega) f2
          have f12 := fr_trans f1 f2 (fun k j t => SB_SC (by omega) t)
          exact c80 wf ⟨by omega, by omega⟩ hV hl (vw_ok wf hok) (zs_127_66 (s68 G2 f12 hC2 hI2 hV h0 _ rfl _))
        all_goals first | omega | (repeat' first | exact hrg _ | assumption | (unfold rg; omega) | omega | refine And.intro ?_ ?_)
    apply zs_127_0 <;> intros
    case h4 =>
      refine c153 wf hC (fun G1 f1 hC1 hI1 h71 => zs_127_15 ?_)
      exact key 366 0 (by omega) G1 (fr_wide f1 (by intro k j t; unfold SC; omega)) hC1 hI1 0 (fun z => by omega) _
    all_goals first | omega | (repeat' first | exact hrg _ | assumption | (unfold rg; omega) | omega | refine And.intro ?_ ?_)
  · rw [bP_f hg] at hQ
    apply zs_127_0 <;> intros
    all_goals first | omega | exact hQ G (fr_refl _ _) hC | (repeat' first | exact hrg _ | assumption | (unfold rg; omega) | omega | refine And.intro ?_ ?_)
end KV
