/-! THE CALLS: spare by the class -/
section SL
variable {w : Int → Int}
noncomputable def ocd (w : Int → Int) (dr p day : Int) : Int := if hld w dr p day = -1 then 10 + (wy w dr p day).2.2 else lq w (hld w dr p day)
theorem hld_st (wf : WF w) (dr p day : Int) : hld w dr p day = -1 ↔ (wy w dr p day).2.2 ≠ 0 := (held_eq (dr := dr) wf p day).1
theorem ocd_rg (wf : WF w) (dr p day : Int) : 0 ≤ ocd w dr p day ∧ ocd w dr p day ≤ 14 := by
  have r := wy_rg wf dr p day
  have b := hld_rg wf dr p day
  have n3 := (WF_n wf).2.2.2.1
  unfold ocd
  split
  · omega
  · have l := lq_is (w := w) (b := hld w dr p day) (by omega)
    have l1 := l.1
    have l2 := l.2.1
    omega
theorem SMO_ocd (wf : WF w) (s p day : Int) : SMO w s p day ↔ ocd w s p day = ocd w (-1) p day := by
  have r1 := wy_rg wf s p day
  have r2 := wy_rg wf (-1) p day
  have b1 := hld_rg wf s p day
  have b2 := hld_rg wf (-1) p day
  have t1 := hld_st wf s p day
  have t2 := hld_st wf (-1) p day
  have n3 := (WF_n wf).2.2.2.1
  unfold SMO ocd
  by_cases c1 : hld w s p day = -1
  · have u1 := t1.mp c1
    by_cases c2 : hld w (-1) p day = -1
    · rw [if_pos c1, if_pos c2, c1, c2]
      exact ⟨fun z => by rw [z.1], fun z => ⟨by omega, EQB_refl _ _⟩⟩
    · have u2 : (wy w (-1) p day).2.2 = 0 := Classical.byContradiction fun z => c2 (t2.mpr z)
      have l := lq_is (w := w) (b := hld w (-1) p day) (by omega)
      have l1 := l.1
      have l2 := l.2.1
      rw [if_pos c1, if_neg c2]
      exact ⟨fun z => by omega, fun z => by omega⟩
  · have u1 : (wy w s p day).2.2 = 0 := Classical.byContradiction fun z => c1 (t1.mpr z)
    have l := lq_is (w := w) (b := hld w s p day) (by omega)
    have l1 := l.1
    have l2 := l.2.1
    by_cases c2 : hld w (-1) p day = -1
    · have u2 := t2.mp c2
      rw [if_neg c1, if_pos c2]
      exact ⟨fun z => by omega, fun z => by omega⟩
    · have u2 : (wy w (-1) p day).2.2 = 0 := Classical.byContradiction fun z => c2 (t2.mpr z)
      rw [if_neg c1, if_neg c2]
      have e := lq_same (w := w) (a := hld w s p day) (b := hld w (-1) p day) (by omega) (by omega)
      exact ⟨fun z => e.mp z.2, fun z => ⟨by omega, e.mpr z⟩⟩
theorem wy_quiet (wf : WF w) {G : zG} {x a dr day : Int} (hI : IX G x a w dr) (d0 : 0 ≤ day) (d1 : day ≤ 365) (hT : G (x + 7) day = 0) : 1 ≤ day ∧ ∀ p, 0 ≤ p → p < w 2 → wy w dr p (day - 1) = wy w dr p day := by
  have n2 := (WF_n wf).2.2.1
  rcases hI.2.2.2.2.2 day d0 d1 with h | h
  · omega
  · refine ⟨by omega, fun p p0 p1 => wy_turn wf (fun q q0 q1 => nr_turn wf hI.2.2.2.1 q0 (by omega) (by omega) d1 (fun s hs => h.2.2 s hs ?_)) p0 p1⟩
    have := (WF_s wf hs.1 hs.2.1).1
    omega
end SL
section KV
variable {d : Nat} {G : zG} {Q : zQ} {a : Int} {w : Int → Int}
theorem WM_o (wf : WF w) {x dr p day : Int} (hW : WM G 92 x (wy w dr p day)) (hI : IX G x a w dr) (hA : ARC G a w) : G 92 0 = x ∧ G x 0 = a ∧ (G 92 3 = -1 ∨ (0 ≤ G 92 3 ∧ G 92 3 < w 4)) ∧ (G 92 3 = -1 → hld w dr p day = -1) ∧ (G 92 3 ≠ -1 → G (x + 3) (G 92 3) = hld w dr p day) ∧ (hld w dr p day ≠ -1 → G (a + 6) (hld w dr p day) = lq w (hld w dr p day)) ∧ G 92 4 = (wy w dr p day).2.2 := by
  have hs := wy_shd (dr := dr) wf p day
  have hb := hld_rg wf dr p day
  obtain ⟨g0, _, g3, g4, _⟩ := hW
  refine ⟨g0, hI.1, ?_, fun e => ?_, fun e => ?_, fun e => ?_, g4⟩
  · rw [g3]
    rcases hs with h | h
    · exact Or.inl h.1
    · exact Or.inr ⟨h.2.1.1, h.2.1.2.1⟩
  · rw [g3] at e; exact (hs.resolve_right (fun z => z.1 e)).2
  · rw [g3] at e ⊢
    have h := hs.resolve_left (fun z => e z.1)
    rw [h.2.2]; exact (hI.2.2.2.2.1 _ h.2.1).1.1
  · exact (hA.2.2.2.1 _ (by omega) hb.2).2.2.2.1
set_option maxHeartbeats 8000000 in
theorem c157 {s : Int} (wf : WF w) (hC : CI G a w) (hI : IX G 66 a w (-1)) (hJ : IX G 79 a w s) (hQ : ∀ G1, fr G G1 (fun k _ => k = 92 ∨ k = 93) → Q (some (zi (bP (SMA w s) 1 0))) G1) : zW (d + 5) 157 [zr 8 0 0, zr 1 0 66] G Q := by
  obtain ⟨h03, ha, hA, ⟨ha0, ha1, ha2⟩, hs7, hix⟩ := hC; have hC : CI G a w := ⟨h03, ha, hA, ⟨ha0, ha1, ha2⟩, hs7, hix⟩; obtain ⟨n0, n1, n2, n3, n4, n5⟩ := WF_n wf; have hrg := WF_rg wf; have e3 : G (G 0 3) 3 = w 2 := by { rw [h03]; exact hA.1 }; have e4 : G (G 0 3) 4 = w 3 := by { rw [h03]; exact hA.2.1 }; have e5 : G (G 0 3) 5 = w 4 := by { rw [h03]; exact hA.2.2.1 }; have e2 : G (G 0 3) 2 = w 5 := by { rw [h03]; exact ha2 }
  refine zm_157 (zs_157_0 ?_)
  have tick : ∀ G1 G2 : zG, fr G G1 (fun k _ => k = 92 ∨ k = 93) → fr G1 G2 (fun k _ => k = 92 ∨ k = 92 + 1) → fr G G2 (fun k _ => k = 92 ∨ k = 93) := fun G1 G2 f1 f2 => fr_trans f1 f2 (by intro k j t; omega)
  have at' : ∀ G1 : zG, fr G G1 (fun k _ => k = 92 ∨ k = 93) → IX G1 66 a w (-1) ∧ IX G1 79 a w s ∧ ARC G1 a w ∧ G1 0 3 = a ∧ G1 a 3 = w 2 := fun G1 f1 => by
    have e : ∀ k j, k < 92 → G1 k j = G k j := fun k j h => f1 k j (by omega)
    exact ⟨IX_fr hI (fun k j k0 k1 => e k j (by omega)), IX_fr hJ (fun k j k0 k1 => e k j (by omega)), ARC_fr hA (fun k j k0 k1 => e k j (by omega)), (e _ _ (by omega)).trans h03, (e _ _ (by omega)).trans hA.1⟩
  have key : ∀ (r : Nat) (t : Int), 0 ≤ t → t + r = 366 → ∀ G1, fr G G1 (fun k _ => k = 92 ∨ k = 93) → (∀ day, 0 ≤ day → day < t → ∀ p, 0 ≤ p → p < w 2 → SMO w s p day) → ∀ l3 l4, zAt xT_157 (zW (d + 4)) Q 2 [zr 8 0 0, zr 1 0 66, zi t, l3, l4] [] G1 := by
    intro r
    induction r with
    | zero =>
      intro t t0 t1 G1 f1 ht l3 l4
      apply zs_157_2 <;> intros
      case h2 =>
        have hS : SMA w s := fun p p0 p1 day d0 d1 => ht day d0 (by omega) p p0 p1
        have := hQ G1 f1
        rw [bP_t hS] at this; exact this
      all_goals first | omega | (repeat' first | exact hrg _ | assumption | (unfold rg; omega) | omega | refine And.intro ?_ ?_)
    | succ r ih =>
      intro t t0 t1 G1 f1 ht l3 l4
      obtain ⟨hI1, hJ1, hA1, g03, g3⟩ := at' G1 f1
      have hT : G1 (66 + 7) t = 1 ∨ G1 (66 + 7) t = 0 := (hI1.2.2.2.2.2 t t0 (by omega)).imp (fun h => h.1) (fun h => h.1)
      have hU : G1 86 t = 1 ∨ G1 86 t = 0 := (hJ1.2.2.2.2.2 t t0 (by omega)).imp (fun h => h.1) (fun h => h.1)
      have inn : ∀ (r2 p : Nat), p + r2 = (w 2).toNat → ∀ G2, fr G G2 (fun k _ => k = 92 ∨ k = 93) → (∀ q, 0 ≤ q → q < (p : Int) → SMO w s q t) → ∀ l4, zAt xT_157 (zW (d + 4)) Q 35 [zr 8 0 0, zr 1 0 66, zi t, zi p, l4] [] G2 := by
        intro r2
        induction r2 with
        | zero =>
          intro p hp G2 f2 hq l4
          obtain ⟨hI2, hJ2, hA2, k03, k3⟩ := at' G2 f2
          apply zs_157_35 <;> intros
          case h2 =>
            refine ih (t + 1) (by omega) (by omega) G2 f2 (fun day d0 d1 q q0 q1 => ?_) _ _
            by_cases e : day = t
            · rw [e]; exact hq q q0 (by omega)
            · exact ht day d0 (by omega) q q0 q1
          all_goals (rw [k03] at *; first | omega | (repeat' first | exact hrg _ | assumption | (unfold rg; omega) | omega | refine And.intro ?_ ?_))
        | succ r2 ih2 =>
          intro p hp G2 f2 hq l4
          obtain ⟨hI2, hJ2, hA2, k03, k3⟩ := at' G2 f2
          have o1 := ocd_rg wf (-1) p t
          have o2 := ocd_rg wf s p t
          have so := SMO_ocd wf s p t
          have w1' := wy_rg wf (-1) p t
          have w2' := wy_rg wf s p t
          have b1 := hld_rg wf (-1) p t
          have b2 := hld_rg wf s p t
          apply zs_157_35 <;> intros
          case h3 =>
            refine c89 (d := d + 2) wf ha (by omega) hI2 hA2 (kw := 92) (by omega) (by omega) (by omega) t0 (by omega) (fun G3 f3 hW => ?_)
            have f03 := tick G2 G3 f2 f3
            obtain ⟨hI3, hJ3, hA3, m03, m3⟩ := at' G3 f03
            obtain ⟨x0, x1, x2, x3, x4, x5, x6⟩ := WM_o wf hW hI3 hA3
            have sec : zW (d + 4) 89 [zr 7 0 92, zr 1 0 79, zi p, zi t] G3 (fun r G1 => zq0 r (zAt xT_157 (zW (d + 4)) Q 78 [zr 8 0 0, zr 1 0 66, zi t, zi p, zi (ocd w (-1) p t)] [] G1)) := by
              refine c89 (d := d + 2) wf ha (by omega) hJ3 hA3 (kw := 92) (by omega) (by omega) (by omega) t0 (by omega) (fun G4 f4 hW4 => ?_)
              have f04 := tick G3 G4 f03 f4
              obtain ⟨hI4, hJ4, hA4, q03, q3⟩ := at' G4 f04
              obtain ⟨y0, y1, y2, y3, y4, y5, y6⟩ := WM_o wf hW4 hJ4 hA4
              have yes : ocd w s p t = ocd w (-1) p t → ∀ l4, zAt xT_157 (zW (d + 4)) Q 35 [zr 8 0 0, zr 1 0 66, zi t, zi ((p : Int) + 1), l4] [] G4 := fun h l4 => by
                have := ih2 (p + 1) (by omega) G4 f04 (fun q q0 q1 => by
                  by_cases e : q = p
                  · rw [e]; exact so.mpr h
                  · exact hq q q0 (by omega)) l4
                exact this
              have no : ocd w s p t ≠ ocd w (-1) p t → Q (some (zi 0)) G4 := fun h => by
                have hS : ¬ SMA w s := fun z => h (so.mp (z p (by omega) (by omega) t t0 (by omega)))
                have := hQ G4 f04
                rw [bP_f hS] at this; exact this
              by_cases c3 : G4 92 3 = -1
              · have e : ocd w s p t = 10 + G4 92 4 := by unfold ocd; rw [if_pos (y3 c3), y6]
                apply zs_157_78 <;> intros
                case h12 => exact yes (by omega) _
                case h13 => exact no (by omega)
                all_goals first | omega | (repeat' first | exact hrg _ | assumption | (unfold rg; omega) | omega | refine And.intro ?_ ?_)
              · have z1 := y2.resolve_left c3
                have z2 := y4 c3
                by_cases c : hld w s p t = -1
                · have e : ocd w s p t = 10 + G4 92 4 := by unfold ocd; rw [if_pos c, y6]
                  apply zs_157_78 <;> intros
                  case h9 => exact yes (by omega) _
                  case h10 => exact no (by omega)
                  all_goals (rw [y0] at *; first | omega | (unfold rg; omega) | (rw [z2] at *; omega) | (rw [z2]; (repeat' first | exact hrg _ | assumption | (unfold rg; omega) | omega | refine And.intro ?_ ?_); done) | (repeat' first | exact hrg _ | assumption | (unfold rg; omega) | omega | refine And.intro ?_ ?_))
                · have e : ocd w s p t = lq w (hld w s p t) := by unfold ocd; rw [if_neg c]
                  have z3 := y5 c
                  apply zs_157_78 <;> intros
                  case h6 => rename_i h; rw [y0, y1, z2, z3] at h; exact yes (by omega) _
                  case h7 => rename_i h; rw [y0, y1, z2, z3] at h; exact no (by omega)
                  all_goals (rw [y0] at *; first | omega | (unfold rg; omega) | (rw [z2] at *; omega) | (rw [y1, z2, z3]; (repeat' first | exact hrg _ | assumption | (unfold rg; omega) | omega | refine And.intro ?_ ?_); done) | (rw [y1, z2]; (repeat' first | exact hrg _ | assumption | (unfold rg; omega) | omega | refine And.intro ?_ ?_); done) | (rw [z2]; (repeat' first | exact hrg _ | assumption | (unfold rg; omega) | omega | refine And.intro ?_ ?_); done) | (repeat' first | exact hrg _ | assumption | (unfold rg; omega) | omega | refine And.intro ?_ ?_))
            by_cases c3 : G3 92 3 = -1
            · have e : ocd w (-1) p t = 10 + G3 92 4 := by unfold ocd; rw [if_pos (x3 c3), x6]
              rw [e] at sec
              apply zs_157_56 <;> intros
              case h7 => exact sec
              all_goals first | omega | (repeat' first | exact hrg _ | assumption | (unfold rg; omega) | omega | refine And.intro ?_ ?_)
            · have z1 := x2.resolve_left c3
              have z2 := x4 c3
              by_cases c : hld w (-1) p t = -1
              · have e : ocd w (-1) p t = 10 + G3 92 4 := by unfold ocd; rw [if_pos c, x6]
                rw [e] at sec
                apply zs_157_56 <;> intros
                case h6 => exact sec
                all_goals (rw [x0] at *; first | omega | (unfold rg; omega) | (rw [z2] at *; omega) | (rw [z2]; (repeat' first | exact hrg _ | assumption | (unfold rg; omega) | omega | refine And.intro ?_ ?_); done) | (repeat' first | exact hrg _ | assumption | (unfold rg; omega) | omega | refine And.intro ?_ ?_))
              · have e : ocd w (-1) p t = lq w (hld w (-1) p t) := by unfold ocd; rw [if_neg c]
                have z3 := x5 c
                rw [e] at sec
                apply zs_157_56 <;> intros
                case h5 => rw [x0, x1, z2, z3]; exact sec
                all_goals (rw [x0] at *; first | omega | (unfold rg; omega) | (rw [z2] at *; omega) | (rw [x1, z2]; (repeat' first | exact hrg _ | assumption | (unfold rg; omega) | omega | refine And.intro ?_ ?_); done) | (rw [z2]; (repeat' first | exact hrg _ | assumption | (unfold rg; omega) | omega | refine And.intro ?_ ?_); done) | (repeat' first | exact hrg _ | assumption | (unfold rg; omega) | omega | refine And.intro ?_ ?_))
          all_goals (rw [k03] at *; first | omega | (repeat' first | exact hrg _ | assumption | (unfold rg; omega) | omega | refine And.intro ?_ ?_))
      apply zs_157_2 <;> intros
      case h4 => exact inn (w 2).toNat 0 (by omega) G1 f1 (fun q q0 q1 => by omega) _
      case h6 => exact inn (w 2).toNat 0 (by omega) G1 f1 (fun q q0 q1 => by omega) _
      case h7 =>
        rename_i h1 h2
        have u1 := wy_quiet wf hI1 t0 (by omega) h1
        have u2 := wy_quiet wf hJ1 t0 (by omega) h2
        refine ih (t + 1) (by omega) (by omega) G1 f1 (fun day d0 d1 q q0 q1 => ?_) _ _
        by_cases e : day = t
        · have := ht (t - 1) (by omega) (by omega) q q0 q1
          unfold SMO hld at this ⊢
          rw [u1.2 q q0 q1, u2.2 q q0 q1] at this
          rw [e]; exact this
        · exact ht day d0 (by omega) q q0 q1
      all_goals first | omega | (repeat' first | exact hrg _ | assumption | (unfold rg; omega) | omega | refine And.intro ?_ ?_)
  exact key 366 0 (by omega) (by omega) G (fr_refl _ _) (fun day d0 d1 => by omega) _ _
set_option maxHeartbeats 4000000 in
theorem k_spare (wf : WF w) (hC : CI G a w) (hQ : ∀ G1, fr G G1 SC → CI G1 a w → Q (some (zl (q_spare w))) G1) : zW (d + 8) 132 [zr 8 0 0] G Q := by
  obtain ⟨h03, ha, hA, ⟨ha0, ha1, ha2⟩, hs7, hix⟩ := hC; have hC : CI G a w := ⟨h03, ha, hA, ⟨ha0, ha1, ha2⟩, hs7, hix⟩; obtain ⟨n0, n1, n2, n3, n4, n5⟩ := WF_n wf; have hrg := WF_rg wf; have e3 : G (G 0 3) 3 = w 2 := by { rw [h03]; exact hA.1 }; have e4 : G (G 0 3) 4 = w 3 := by { rw [h03]; exact hA.2.1 }; have e5 : G (G 0 3) 5 = w 4 := by { rw [h03]; exact hA.2.2.1 }; have e2 : G (G 0 3) 2 = w 5 := by { rw [h03]; exact ha2 }
  unfold q_spare at hQ
  refine zm_132 ?_
  by_cases hg : 0 < w 5
  · rw [bP_t hg] at hQ
    have key : ∀ (r n : Nat), n + r = (w 4).toNat → ∀ G1, fr G G1 SC → CI G1 a w → IX G1 66 a w (-1) → ∀ l3, zAt xT_132 (zW (d + 7)) Q 21 [zr 8 0 0, zr 1 0 66, zl (spm w n), l3, zi n] [] G1 := by
      intro r
      induction r with
      | zero =>
        intro n hr G1 f1 hC1 hI1 l3
        have g03 : G1 0 3 = a := hC1.1
        have g5 : G1 a 5 = w 4 := hC1.2.2.1.2.2.1
        have e : n = (w 4).toNat := by omega
        apply zs_132_21 <;> intros
        case h2 => rw [e]; exact hQ G1 f1 hC1
        all_goals (rw [g03] at *; first | omega | (repeat' first | exact hrg _ | assumption | (unfold rg; omega) | omega | refine And.intro ?_ ?_))
      | succ r ih =>
        intro n hr G1 f1 hC1 hI1 l3
        have g03 : G1 0 3 = a := hC1.1
        have g5 : G1 a 5 = w 4 := hC1.2.2.1.2.2.1
        have g0 : G1 a 0 = w 0 := hC1.2.2.2.1.1
        have g1 : G1 a 1 = w 1 := hC1.2.2.2.1.2.1
        have e : spm w (n + 1) = @ite Int (SMA w n) (Classical.propDecidable _) (zlor (spm w n) (zlshl 1 n)) (spm w n) := rfl
        have ih := ih (n + 1) (by omega)
        rw [e] at ih
        apply zs_132_21 <;> intros
        case h3 =>
          rw [g03, g0, g1]
          refine c19 (d := d + 3) wf ha (x := 79) (by omega) hC1.2.2.1 ⟨by omega, by omega⟩ (fun G2 f2 hJ => zs_132_60 ?_)
          have e2 : ∀ k j, k ≤ 78 → G2 k j = G1 k j := fun k j h => f2 k j (by omega)
          have hC2 := CI_keep hC1 e2
          have hI2 : IX G2 66 a w (-1) := IX_fr hI1 (fun k j k0 k1 => e2 k j (by omega))
          refine c157 (d := d + 2) wf hC2 hI2 hJ (fun G3 f3 => ?_)
          have e3 : ∀ k j, k ≤ 78 → G3 k j = G2 k j := fun k j h => f3 k j (by omega)
          have hC3 := CI_keep hC2 e3
          have hI3 : IX G3 66 a w (-1) := IX_fr hI2 (fun k j k0 k1 => e3 k j (by omega))
          have f13 : fr G G3 SC := fr_trans (fr_trans f1 f2 (by intro k j t; unfold SC; omega)) f3 (by intro k j t; unfold SC; omega)
          by_cases c : SMA w n
          · rw [bP_t c]
            rw [if_pos c] at ih
            apply zs_132_65 <;> intros
            case h3 => exact ih G3 f13 hC3 hI3 _
            all_goals first | omega | (repeat' first | exact hrg _ | assumption | (unfold rg; omega) | omega | refine And.intro ?_ ?_)
          · rw [bP_f c]
            rw [if_neg c] at ih
            apply zs_132_65 <;> intros
            case h2 => exact ih G3 f13 hC3 hI3 _
            all_goals first | omega | (repeat' first | exact hrg _ | assumption | (unfold rg; omega) | omega | refine And.intro ?_ ?_)
        all_goals (rw [g03] at *; first | omega | (repeat' first | exact hrg _ | assumption | (unfold rg; omega) | omega | refine And.intro ?_ ?_))
    apply zs_132_0 <;> intros
    case h2 =>
      refine c153 wf hC (fun G1 f1 hC1 hI1 h71 => zs_132_15 ?_)
      exact key (w 4).toNat 0 (by omega) G1 (fr_wide f1 (by intro k j t; unfold SC; omega)) hC1 hI1 _
    all_goals first | omega | (repeat' first | exact hrg _ | assumption | (unfold rg; omega) | omega | refine And.intro ?_ ?_)
  · rw [bP_f hg] at hQ
    apply zs_132_0 <;> intros
    all_goals first | omega | exact hQ G (fr_refl _ _) hC | (repeat' first | exact hrg _ | assumption | (unfold rg; omega) | omega | refine And.intro ?_ ?_)
end KV
