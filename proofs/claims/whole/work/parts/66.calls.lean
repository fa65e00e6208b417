/-! THE CALLS: dead by the class; reach, clicks by the reference -/
section KV
variable {d : Nat} {G : zG} {Q : zQ} {a : Int} {w : Int → Int}
set_option maxHeartbeats 4000000 in
theorem c158 (wf : WF w) (hC : CI G a w) {q day : Int} (hg : okPD w q day) (hQ : ∀ G1 m, fr G G1 SC → CI G1 a w → rg m → (∀ b, 0 ≤ b → b < 32 → (zt m b ↔ (lnk w b day q ∧ hbd w b (ndy w q day) = -1))) → Q (some (zi m)) G1) : zW (d + 7) 158 [zr 8 0 0, zi q, zi day] G Q := by
  obtain ⟨h03, ha, hA, ⟨ha0, ha1, ha2⟩, hs7, hix⟩ := hC; have hC : CI G a w := ⟨h03, ha, hA, ⟨ha0, ha1, ha2⟩, hs7, hix⟩; obtain ⟨n0, n1, n2, n3, n4, n5⟩ := WF_n wf; have hrg := WF_rg wf; have e3 : G (G 0 3) 3 = w 2 := by { rw [h03]; exact hA.1 }; have e4 : G (G 0 3) 4 = w 3 := by { rw [h03]; exact hA.2.1 }; have e5 : G (G 0 3) 5 = w 4 := by { rw [h03]; exact hA.2.2.1 }; have e2 : G (G 0 3) 2 = w 5 := by { rw [h03]; exact ha2 }
  have hb := hbd_rg wf q day
  refine zm_158 (zs_158_0 (c153 (d := d + 1) wf hC (fun G1 f1 hC1 hI1 h71 => zs_158_4 ?_)))
  refine c89 wf ha (by omega) hI1 hC1.2.2.1 (kw := 92) (by omega) hg.1.1 hg.1.2 hg.2.1 hg.2.2 (fun G2 f2 hW => ?_)
  obtain ⟨hC2, hI2⟩ := CI_wk hC1 hI1 f2
  have f12 : fr G G2 SC := fr_trans (fr_wide f1 (by intro k j t; unfold SC; omega)) f2 (by intro k j t; unfold SC; omega)
  obtain ⟨x0, x1, x2, x3, x4, x5, x6, x7, x8⟩ := WM_h wf hW hI2 hC2.2.2.1
  have none' : hbd w q day = -1 → Q (some (zi 0)) G2 := fun c => hQ G2 0 f12 hC2 ⟨by omega, by omega⟩ (fun b b0 b1 => ⟨fun z => absurd z (zt_0 b), fun z => absurd c z.1.1⟩)
  by_cases c3 : G2 92 3 = -1
  · apply zs_158_15 <;> intros
    case h9 => exact none' (x2 c3)
    all_goals first | omega | (repeat' first | exact hrg _ | assumption | (unfold rg; omega) | omega | refine And.intro ?_ ?_)
  · obtain ⟨y1, y2⟩ := x3 c3
    have z1 := x1.resolve_left c3
    by_cases c : hbd w q day = -1
    · apply zs_158_15 <;> intros
      case h8 => exact none' c
      all_goals (rw [x0] at *; first | omega | (unfold rg; omega) | (rw [y1] at *; omega) | (rw [y1]; (repeat' first | exact hrg _ | assumption | (unfold rg; omega) | omega | refine And.intro ?_ ?_); done) | (repeat' first | exact hrg _ | assumption | (unfold rg; omega) | omega | refine And.intro ?_ ?_))
    · have wb := WF_b wf (b := hbd w q day) (by omega) (by omega)
      have nr' := ndy_rg wf hg.2.1 hg.2.2 c
      have key : ∀ (r j : Nat) (m : Int), j + r = ((w ((6 + (11 * (hbd w q day))) + 2))).toNat → rg m → (∀ b, 0 ≤ b → b < 32 → (zt m b ↔ ((∃ i, 0 ≤ i ∧ i < (j : Int) ∧ (w (((6 + (11 * (hbd w q day))) + 7) + i)) = b) ∧ hbd w b (ndy w q day) = -1))) → ∀ G3, fr G G3 SC → CI G3 a w → IX G3 66 a w (-1) → ∀ l1 l2 l8, zAt xT_158 (zW (d + 6)) Q 48 [zr 8 0 0, l1, l2, zr 1 0 66, zi (hbd w q day), zi (ndy w q day), zi m, zi j, l8] [] G3 := by
        intro r
        induction r with
        | zero =>
          intro j m hj hm hbm G3 f3 hC3 hI3 l1 l2 l8
          have g03 : G3 0 3 = a := hC3.1
          obtain ⟨a1, a2, a3, a4, a5, a6⟩ := hC3.2.2.1.2.2.2.1 (hbd w q day) (by omega) (by omega)
          apply zs_158_48 <;> intros
          case h2 =>
            refine hQ G3 m f3 hC3 hm (fun b b0 b1 => ?_)
            rw [hbm b b0 b1]
            refine and_congr ⟨fun ⟨i, i0, i1, h⟩ => ⟨c, i, i0, by omega, h⟩, fun ⟨_, i, i0, i1, h⟩ => ⟨i, i0, by omega, h⟩⟩ Iff.rfl
          all_goals (rw [g03] at *; first | omega | (rw [a3]; (repeat' first | exact hrg _ | assumption | (unfold rg; omega) | omega | refine And.intro ?_ ?_)))
        | succ r ih =>
          intro j m hj hm hbm G3 f3 hC3 hI3 l1 l2 l8
          have g03 : G3 0 3 = a := hC3.1
          obtain ⟨a1, a2, a3, a4, a5, a6⟩ := hC3.2.2.1.2.2.2.1 (hbd w q day) (by omega) (by omega)
          have hl := wb.2.2.2.2 j (by omega) (by omega)
          have ih := ih (j + 1)
          apply zs_158_48 <;> intros
          case h4 =>
            rw [g03, a6 j (by omega) (by omega)]
            refine c89 wf ha (by omega) hI3 hC3.2.2.1 (kw := 92) (by omega) hl.1 hl.2 nr'.1 nr'.2 (fun G4 f4 hW4 => ?_)
            obtain ⟨hC4, hI4⟩ := CI_wk hC3 hI3 f4
            have f14 := fr_trans f3 f4 (S := SC) (by intro k j t; unfold SC; omega)
            obtain ⟨_, _, _, _, _, _, v6, v7, _⟩ := WM_h wf hW4 hI4 hC4.2.2.1
            apply zs_158_88 <;> intros
            case h2 =>
              rename_i h
              refine ih m (by omega) hm (fun b b0 b1 => ?_) G4 f14 hC4 hI4 _ _ _
              rw [hbm b b0 b1]
              constructor
              · rintro ⟨⟨i, i0, i1, h⟩, h2⟩; exact ⟨⟨i, i0, by omega, h⟩, h2⟩
              · rintro ⟨⟨i, i0, i1, hh⟩, h2⟩
                by_cases e : i = j
                · rw [e] at hh; rw [← hh] at h2; exact absurd h (v6.mp h2)
                · exact ⟨⟨i, i0, by omega, hh⟩, h2⟩
            case h3 =>
              rename_i h
              refine ih _ (by omega) (rg_zor _ _) (fun b b0 b1 => ?_) G4 f14 hC4 hI4 _ _ _
              rw [zt_or1 (by omega) (by omega) b0 b1, hbm b b0 b1]
              constructor
              · rintro (⟨⟨i, i0, i1, h⟩, h2⟩ | e)
                · exact ⟨⟨i, i0, by omega, h⟩, h2⟩
                · exact ⟨⟨j, by omega, by omega, e⟩, by rw [← e]; exact v6.mpr h⟩
              · rintro ⟨⟨i, i0, i1, hh⟩, h2⟩
                by_cases e : i = j
                · rw [e] at hh; exact Or.inr hh
                · exact Or.inl ⟨⟨i, i0, by omega, hh⟩, h2⟩
            all_goals first | omega | (repeat' first | exact hrg _ | assumption | (unfold rg; omega) | omega | refine And.intro ?_ ?_)
          all_goals (rw [g03] at *; first | omega | (rw [a3]; (repeat' first | exact hrg _ | assumption | (unfold rg; omega) | omega | refine And.intro ?_ ?_)))
      have go := key ((w ((6 + (11 * (hbd w q day))) + 2))).toNat 0 0 (by omega) ⟨by omega, by omega⟩ (fun b b0 b1 => ⟨fun z => absurd z (zt_0 b), fun ⟨⟨i, i0, i1, _⟩, _⟩ => by omega⟩) G2 f12 hC2 hI2
      apply zs_158_15 <;> intros
      case h5 =>
        rename_i h
        rw [x0, x5] at h
        have e : ndy w q day = day := by unfold ndy; rw [if_neg (by omega)]
        rw [e] at go
        rw [x0, y1]; exact go _ _ _
      case h7 =>
        rename_i h
        rw [x0, x5] at h
        have e : ndy w q day = (w ((116 + (4 * ((wy w (-1) q day).2.1))) + 1)) := by unfold ndy; rw [if_pos (by omega)]
        rw [e] at go
        rw [x0, y1, x4, y2]; exact go _ _ _
      all_goals (rw [x0] at *; first | omega | (unfold rg; omega) | (rw [y1] at *; omega) | (rw [x5]; (repeat' first | exact hrg _ | assumption | (unfold rg; omega) | omega | refine And.intro ?_ ?_); done) | (rw [x4]; (repeat' first | exact hrg _ | assumption | (unfold rg; omega) | omega | refine And.intro ?_ ?_); done) | (rw [y1]; (repeat' first | exact hrg _ | assumption | (unfold rg; omega) | omega | refine And.intro ?_ ?_); done) | (repeat' first | exact hrg _ | assumption | (unfold rg; omega) | omega | refine And.intro ?_ ?_))
set_option maxHeartbeats 4000000 in
theorem k_dead (wf : WF w) (hC : CI G a w) {day : Int} (hdd : rg day) (hQ : ∀ G1, fr G G1 SC → CI G1 a w → Q (some (zi (q_dead w day))) G1) : zW (d + 8) 138 [zr 8 0 0, zi day] G Q := by
  obtain ⟨h03, ha, hA, ⟨ha0, ha1, ha2⟩, hs7, hix⟩ := hC; have hC : CI G a w := ⟨h03, ha, hA, ⟨ha0, ha1, ha2⟩, hs7, hix⟩; obtain ⟨n0, n1, n2, n3, n4, n5⟩ := WF_n wf; have hrg := WF_rg wf; have e3 : G (G 0 3) 3 = w 2 := by { rw [h03]; exact hA.1 }; have e4 : G (G 0 3) 4 = w 3 := by { rw [h03]; exact hA.2.1 }; have e5 : G (G 0 3) 5 = w 4 := by { rw [h03]; exact hA.2.2.1 }; have e2 : G (G 0 3) 2 = w 5 := by { rw [h03]; exact ha2 }
  unfold q_dead at hQ
  refine zm_138 ?_
  by_cases hg : 0 < w 5 ∧ 0 ≤ day ∧ day ≤ 365
  · rw [bP_t hg] at hQ
    have key : ∀ (r n : Nat) (m : Int), n + r = (w 2).toNat → rg m → (∀ b, 0 ≤ b → b < 32 → (zt m b ↔ ded w day n b)) → ∀ G1, fr G G1 SC → CI G1 a w → zAt xT_138 (zW (d + 7)) Q 22 [zr 8 0 0, zi day, zi m, zi n] [] G1 := by
      intro r
      induction r with
      | zero =>
        intro n m hr hm hb G1 f1 hC1
        have g03 : G1 0 3 = a := hC1.1
        have g3 : G1 a 3 = w 2 := hC1.2.2.1.1
        apply zs_138_22 <;> intros
        case h2 =>
          have e : (n : Int) = w 2 := by omega
          rw [bmk_eq (P := ded w day (w 2)) hm (fun b b0 b1 => (hb b b0 b1).trans (by
            rw [e]
            refine ⟨fun z => ⟨?_, z⟩, fun z => z.2⟩
            obtain ⟨q, q0, q1, ⟨c, i, i0, i1, h⟩, _⟩ := z
            have hbq := hbd_rg wf q day
            have := (WF_b wf (b := hbd w q day) (by omega) (by omega)).2.2.2.2 i i0 i1
            rw [h] at this
            omega))]
          exact hQ G1 f1 hC1
        all_goals (rw [g03] at *; first | omega | (repeat' first | exact hrg _ | assumption | (unfold rg; omega) | omega | refine And.intro ?_ ?_))
      | succ r ih =>
        intro n m hr hm hb G1 f1 hC1
        have g03 : G1 0 3 = a := hC1.1
        have g3 : G1 a 3 = w 2 := hC1.2.2.1.1
        apply zs_138_22 <;> intros
        case h3 =>
          refine c158 wf hC1 ⟨⟨by omega, by omega⟩, hg.2⟩ (fun G2 m2 f2 hC2 hm2 hb2 => zs_138_40 ?_)
          refine ih (n + 1) _ (by omega) (rg_zor _ _) (fun b b0 b1 => ?_) G2 (fr_trans f1 f2 (fun k j t => t)) hC2
          rw [zt_or, hb b b0 b1, hb2 b b0 b1]
          constructor
          · rintro (⟨q, q0, q1, h⟩ | h)
            · exact ⟨q, q0, by omega, h⟩
            · exact ⟨n, by omega, by omega, h⟩
          · rintro ⟨q, q0, q1, h⟩
            by_cases e : q = n
            · rw [e] at h; exact Or.inr h
            · exact Or.inl ⟨q, q0, by omega, h⟩
        all_goals (rw [g03] at *; first | omega | (repeat' first | exact hrg _ | assumption | (unfold rg; omega) | omega | refine And.intro ?_ ?_))
    apply zs_138_0 <;> intros
    case h4 => exact key (w 2).toNat 0 0 (by omega) ⟨by omega, by omega⟩ (fun b b0 b1 => ⟨fun z => absurd z (zt_0 b), fun ⟨q, q0, q1, _⟩ => by omega⟩) G (fr_refl _ _) hC
    all_goals first | omega | (repeat' first | exact hrg _ | assumption | (unfold rg; omega) | omega | refine And.intro ?_ ?_)
  · rw [bP_f hg] at hQ
    apply zs_138_0 <;> intros
    all_goals first | omega | exact hQ G (fr_refl _ _) hC | (repeat' first | exact hrg _ | assumption | (unfold rg; omega) | omega | refine And.intro ?_ ?_)
end KV
/-- b lies within k clicks of p -/
def RCH (w : Int → Int) : Nat → Int → Int → Int → Prop
  | 0, p, _, b => b = p
  | k + 1, p, day, b => b = p ∨ (hbd w p day ≠ -1 ∧ ∃ i, 0 ≤ i ∧ i < (w ((6 + (11 * (hbd w p day))) + 2)) ∧ RCH w k (w (((6 + (11 * (hbd w p day))) + 7) + i)) (ndy w p day) b)
noncomputable def q_reach (w : Int → Int) (p day k : Int) : Int := bP (okPD w p day ∧ 0 ≤ k ∧ k ≤ 6) (bmk (RCH w k.toNat p day) 8) (-2)
noncomputable def q_clicks (w : Int → Int) (p day t : Int) : Int := bP (okPD w p day ∧ 0 ≤ t ∧ t < w 2) (mn (fun k => k) (fun k => 0 ≤ k ∧ k ≤ 6 ∧ RCH w k.toNat p day t)) (-2)
theorem RCH_rg {w : Int → Int} (wf : WF w) : ∀ (k : Nat) (p day b : Int), 0 ≤ p → p < w 2 → RCH w k p day b → 0 ≤ b ∧ b < w 2
  | 0, p, day, b, p0, p1, h => by have h : b = p := h; rw [h]; exact ⟨p0, p1⟩
  | k + 1, p, day, b, p0, p1, h => by
    rcases h with h | ⟨c, i, i0, i1, h⟩
    · rw [h]; exact ⟨p0, p1⟩
    · have hb := hbd_rg wf p day
      have hl := (WF_b wf (b := hbd w p day) (by omega) (by omega)).2.2.2.2 i i0 i1
      exact RCH_rg wf k _ _ b hl.1 hl.2 h
section RE
variable {Q : zQ} {w : Int → Int}
def S257 (k j : Int) : Prop := S255 k j ∨ (k = 297 ∧ j = 45)
set_option maxHeartbeats 4000000 in
theorem c257 (wf : WF w) : ∀ (k : Nat) (d : Nat) (G : zG) (Q : zQ) (p day : Int), k ≤ 6 → G 298 = w → G 297 7 = -1 → okPD w p day → (∀ G1, fr G G1 S257 → rg (G1 297 45) → (∀ b, 0 ≤ b → b < 32 → (zt (G1 297 45) b ↔ (zt (G 297 45) b ∨ RCH w k p day b))) → Q none G1) → zW (d + k + 6) 257 [zr 9 0 297, zi p, zi day, zi k] G Q := by
  obtain ⟨n0, n1, n2, n3, n4, n5⟩ := WF_n wf
  have hrg := WF_rg wf
  intro k
  induction k with
  | zero =>
    intro d G Q p day k6 hw hd hg hQ
    have hg' := hg
    unfold okPD at hg'
    refine zm_257 ?_
    apply zs_257_0 <;> intros
    case h2 =>
      refine hQ _ (fr_u (fr_refl _ _) (Or.inr ⟨rfl, rfl⟩)) (by rw [zu_s]; exact rg_zor _ _) (fun b b0 b1 => ?_)
      rw [zu_s, zt_or1 (by omega) (by omega) b0 b1]
      exact or_congr Iff.rfl ⟨Eq.symm, Eq.symm⟩
    all_goals first | omega | (repeat' first | exact hrg _ | assumption | (unfold rg; omega) | omega | refine And.intro ?_ ?_)
  | succ k ih =>
    intro d G Q p day k6 hw hd hg hQ
    have hg' := hg
    unfold okPD at hg'
    refine zm_257 ?_
    apply zs_257_0 <;> intros
    case h3 =>
      have fz : fr G (zu G 297 45 (zor (G 297 45) (zshl 1 p))) S257 := fr_u (fr_refl _ _) (Or.inr ⟨rfl, rfl⟩)
      have bz : ∀ b, 0 ≤ b → b < 32 → (zt (zor (G 297 45) (zshl 1 p)) b ↔ (zt (G 297 45) b ∨ b = p)) := fun b b0 b1 => by
        rw [zt_or1 (by omega) (by omega) b0 b1]; exact or_congr Iff.rfl ⟨Eq.symm, Eq.symm⟩
      refine c255 (d := d + k + 1) wf (by rw [zu_k (by omega)]; exact hw) (by rw [zu_j (by omega)]; exact hd) hg (fun c G1 f1 => ?_) (fun c G1 f1 g43 g44 => ?_)
      · have e45 : G1 297 45 = zor (G 297 45) (zshl 1 p) := by rw [f1 _ _ (by unfold S255; omega), zu_s]
        apply zs_257_22 <;> intros
        case h3 =>
          refine hQ G1 (fr_trans fz f1 (fun k j t => Or.inl t)) (by rw [e45]; exact rg_zor _ _) (fun b b0 b1 => ?_)
          rw [e45, bz b b0 b1]
          exact or_congr Iff.rfl ⟨Or.inl, fun z => z.resolve_right (fun e => e.1 c)⟩
        all_goals first | omega | (repeat' first | exact hrg _ | assumption | (unfold rg; omega) | omega | refine And.intro ?_ ?_)
      · have e45 : G1 297 45 = zor (G 297 45) (zshl 1 p) := by rw [f1 _ _ (by unfold S255; omega), zu_s]
        have f01 : fr G G1 S257 := fr_trans fz f1 (fun k j t => Or.inl t)
        have hb := hbd_rg wf p day
        have wb := WF_b wf (b := hbd w p day) (by omega) (by omega)
        have nr' := ndy_rg wf hg.2.1 hg.2.2 c
        have key : ∀ (r j : Nat) (G2 : zG), j + r = ((w ((6 + (11 * (hbd w p day))) + 2))).toNat → fr G G2 S257 → rg (G2 297 45) → (∀ b, 0 ≤ b → b < 32 → (zt (G2 297 45) b ↔ (zt (G 297 45) b ∨ b = p ∨ ∃ i, 0 ≤ i ∧ i < (j : Int) ∧ RCH w k (w (((6 + (11 * (hbd w p day))) + 7) + i)) (ndy w p day) b))) → ∀ l1 l2, zAt xT_257 (zW (d + k + 6)) Q 41 [zr 9 0 297, l1, l2, zi ((k + 1 : Nat) : Int), zi (hbd w p day), zi (ndy w p day), zi j] [] G2 := by
          intro r
          induction r with
          | zero =>
            intro j G2 hj f2 hr2 hb2 l1 l2
            have w2 : G2 298 = w := (fr_k f2 (fun j e => by rcases e with e | e; unfold S255 at e; omega; omega)).trans hw
            apply zs_257_41 <;> intros
            case h2 =>
              refine hQ G2 f2 hr2 (fun b b0 b1 => ?_)
              rw [hb2 b b0 b1]
              refine or_congr Iff.rfl (or_congr Iff.rfl ⟨fun ⟨i, i0, i1, h⟩ => ⟨c, i, i0, by omega, h⟩, fun ⟨_, i, i0, i1, h⟩ => ⟨i, i0, by omega, h⟩⟩)
            all_goals (rw [w2] at *; first | omega | (repeat' first | exact hrg _ | assumption | (unfold rg; omega) | omega | refine And.intro ?_ ?_))
          | succ r ih2 =>
            intro j G2 hj f2 hr2 hb2 l1 l2
            have w2 : G2 298 = w := (fr_k f2 (fun j e => by rcases e with e | e; unfold S255 at e; omega; omega)).trans hw
            have d2 : G2 297 7 = -1 := (f2 _ _ (fun e => by rcases e with e | e; unfold S255 at e; omega; omega)).trans hd
            have hl := wb.2.2.2.2 j (by omega) (by omega)
            apply zs_257_41 <;> intros
            case h4 =>
              rw [w2, show ((k + 1 : Nat) : Int) - 1 = k by omega]
              refine ih d G2 _ _ _ (by omega) w2 d2 ⟨hl, nr'⟩ (fun G3 f3 hr3 hb3 => zs_257_69 ?_)
              refine ih2 (j + 1) G3 (by omega) (fr_trans f2 f3 (fun k j t => t)) hr3 (fun b b0 b1 => ?_) _ _
              rw [hb3 b b0 b1, hb2 b b0 b1]
              constructor
              · rintro ((h | h | ⟨i, i0, i1, h⟩) | h)
                · exact Or.inl h
                · exact Or.inr (Or.inl h)
                · exact Or.inr (Or.inr ⟨i, i0, by omega, h⟩)
                · exact Or.inr (Or.inr ⟨j, by omega, by omega, h⟩)
              · rintro (h | h | ⟨i, i0, i1, h⟩)
                · exact Or.inl (Or.inl h)
                · exact Or.inl (Or.inr (Or.inl h))
                · by_cases e : i = j
                  · rw [e] at h; exact Or.inr h
                  · exact Or.inl (Or.inr (Or.inr ⟨i, i0, by omega, h⟩))
            all_goals (rw [w2] at *; first | omega | (repeat' first | exact hrg _ | assumption | (unfold rg; omega) | omega | refine And.intro ?_ ?_))
        apply zs_257_22 <;> intros
        case h2 =>
          rw [g43, g44]
          refine key ((w ((6 + (11 * (hbd w p day))) + 2))).toNat 0 G1 (by omega) f01 (by rw [e45]; exact rg_zor _ _) (fun b b0 b1 => ?_) _ _
          rw [e45, bz b b0 b1]
          exact or_congr Iff.rfl ⟨Or.inl, fun z => z.resolve_right (fun ⟨i, i0, i1, _⟩ => by omega)⟩
        all_goals first | omega | (repeat' first | exact hrg _ | assumption | (unfold rg; omega) | omega | refine And.intro ?_ ?_)
    all_goals first | omega | (repeat' first | exact hrg _ | assumption | (unfold rg; omega) | omega | refine And.intro ?_ ?_)
theorem S257_SR {k j : Int} (h : S257 k j) : SR k j := by rcases h with h | h; exact S255_SR h; unfold SR; omega
set_option maxHeartbeats 4000000 in
theorem r_reach {d : Nat} {G : zG} (wf : WF w) (hw : G 298 = w) (hd : G 297 7 = -1) {p day k : Int} (hp : rg p) (hdd : rg day) (hk : rg k) (hQ : ∀ G1, fr G G1 SR → Q (some (zi (q_reach w p day k))) G1) : zW (d + 13) 258 [zr 9 0 297, zi p, zi day, zi k] G Q := by
  subst hw
  obtain ⟨n0, n1, n2, n3, n4, n5⟩ := WF_n wf; have hrg := WF_rg wf
  unfold q_reach at hQ
  refine zm_258 ?_
  by_cases hg : okPD (G 298) p day ∧ 0 ≤ k ∧ k ≤ 6
  · rw [bP_t hg] at hQ
    have hg' := hg
    unfold okPD at hg'
    obtain ⟨k', rfl⟩ : ∃ k' : Nat, k = (k' : Int) := ⟨k.toNat, by omega⟩
    rw [Int.toNat_natCast] at hQ
    apply zs_258_0 <;> intros
    case h4 =>
      have := c257 wf k' (d + (6 - k')) (zu G 297 45 0) (fun r G1 => zq0 r (zAt xT_258 (zW (d + 12)) Q 36 [zr 9 0 297, zi p, zi day, zi (k' : Int)] [] G1)) p day (by omega) (by rw [zu_k (by omega)]) (by rw [zu_j (by omega)]; exact hd) hg.1 (fun G1 f1 hr hb => zs_258_36 ?_)
      · rw [show d + (6 - k') + k' + 6 = d + 12 by omega] at this
        exact this
      · rw [zu_s] at hb
        rw [bmk_eq (P := RCH (G 298) k' p day) hr (fun b b0 b1 => (hb b b0 b1).trans ⟨fun z => (z.resolve_left (zt_0 b)) |> fun h => ⟨by have := RCH_rg wf k' p day b (by omega) (by omega) h; omega, h⟩, fun z => Or.inr z.2⟩)]
        exact hQ G1 (fr_trans (fr_u (fr_refl _ _) (by unfold SR; omega)) f1 (fun k j t => S257_SR t))
    all_goals first | omega | (repeat' first | exact hrg _ | assumption | (unfold rg; omega) | omega | refine And.intro ?_ ?_)
  · rw [bP_f hg] at hQ
    unfold okPD at hg
    apply zs_258_0 <;> intros
    all_goals first | omega | exact hQ G (fr_refl _ _) | (repeat' first | exact hrg _ | assumption | (unfold rg; omega) | omega | refine And.intro ?_ ?_)
set_option maxHeartbeats 4000000 in
theorem r_clicks {d : Nat} {G : zG} (wf : WF w) (hw : G 298 = w) (hd : G 297 7 = -1) {p day t : Int} (hp : rg p) (hdd : rg day) (ht : rg t) (hQ : ∀ G1, fr G G1 SR → Q (some (zi (q_clicks w p day t))) G1) : zW (d + 14) 259 [zr 9 0 297, zi p, zi day, zi t] G Q := by
  subst hw
  obtain ⟨n0, n1, n2, n3, n4, n5⟩ := WF_n wf; have hrg := WF_rg wf
  unfold q_clicks at hQ
  refine zm_259 ?_
  by_cases hg : okPD (G 298) p day ∧ 0 ≤ t ∧ t < G 298 2
  · rw [bP_t hg] at hQ
    have hg' := hg
    unfold okPD at hg'
    have key : ∀ (r : Nat) (k : Int), 0 ≤ k → k + r = 7 → ∀ G1, fr G G1 SR → (∀ j, 0 ≤ j → j < k → ¬ RCH (G 298) j.toNat p day t) → zAt xT_259 (zW (d + 13)) Q 23 [zr 9 0 297, zi p, zi day, zi t, zi k] [] G1 := by
      intro r
      induction r with
      | zero =>
        intro k k0 k1 G1 f1 hn
        apply zs_259_23 <;> intros
        case h2 =>
          have hQ1 := hQ G1 f1
          rw [mn_eq (fun _ _ _ _ h => h) (Or.inl ⟨rfl, fun s hs => hn s hs.1 (by have := hs.2.1; omega) hs.2.2⟩)] at hQ1
          exact hQ1
        all_goals first | omega | (repeat' first | exact hrg _ | assumption | (unfold rg; omega) | omega | refine And.intro ?_ ?_)
      | succ r ih =>
        intro k k0 k1 G1 f1 hn
        have w1 : G1 298 = G 298 := fr_k f1 (fun j e => by unfold SR at e; omega)
        have d1 : G1 297 7 = -1 := (f1 _ _ (fun e => by unfold SR at e; omega)).trans hd
        apply zs_259_23 <;> intros
        case h3 =>
          refine r_reach wf w1 d1 hp hdd ⟨by omega, by omega⟩ (fun G2 f2 => ?_)
          have f12 := fr_trans f1 f2 (fun k j t => t)
          unfold q_reach
          rw [bP_t ⟨hg.1, k0, by omega⟩]
          have hbit : zand (zshr (bmk (RCH (G 298) k.toNat p day) 8) t) 1 = 1 ↔ RCH (G 298) k.toNat p day t := (zt_bit1 (by omega) (by omega)).trans ((bmk_bit _ 8 (by omega) t (by omega) (by omega)).trans ⟨fun z => z.2, fun z => ⟨by omega, z⟩⟩)
          apply zs_259_38 <;> intros
          case h1 => exact rg_zand _ _
          case h2 =>
            rename_i h
            refine ih (k + 1) (by omega) (by omega) G2 f12 (fun j j0 j1 => ?_)
            by_cases c : j = k
            · rw [c]; exact fun z => h (hbit.mpr z)
            · exact hn j j0 (by omega)
          case h3 =>
            rename_i h
            have hQ1 := hQ G2 f12
            rw [mn_eq (fun _ _ _ _ h => h) (Or.inr ⟨⟨k0, by omega, hbit.mp h⟩, fun s hs => by
              show k ≤ s
              by_cases c : s < k
              · exact absurd hs.2.2 (hn s hs.1 c)
              · omega⟩)] at hQ1
            exact hQ1
        all_goals first | omega | (repeat' first | exact hrg _ | assumption | (unfold rg; omega) | omega | refine And.intro ?_ ?_)
    apply zs_259_0 <;> intros
    case h4 => exact key 7 0 (by omega) (by omega) G (fr_refl _ _) (fun j j0 j1 => by omega)
    all_goals first | omega | (repeat' first | exact hrg _ | assumption | (unfold rg; omega) | omega | refine And.intro ?_ ?_)
  · rw [bP_f hg] at hQ
    unfold okPD at hg
    apply zs_259_0 <;> intros
    all_goals first | omega | exact hQ G (fr_refl _ _) | (repeat' first | exact hrg _ | assumption | (unfold rg; omega) | omega | refine And.intro ?_ ?_)
end RE
