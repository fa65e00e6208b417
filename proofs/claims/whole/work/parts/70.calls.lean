/-! THE CALLS: spare by the reference -/
section SPEC
variable (w : Int → Int)
noncomputable def hld (dr p day : Int) : Int := held w dr (wy w dr p day)
def SMO (s p day : Int) : Prop := (wy w s p day).2.2 = (wy w (-1) p day).2.2 ∧ EQB w (hld w s p day) (hld w (-1) p day)
def SMA (s : Int) : Prop := ∀ p, 0 ≤ p → p < w 2 → ∀ day, 0 ≤ day → day ≤ 365 → SMO w s p day
noncomputable def spm : Nat → Int
  | 0 => 0
  | n + 1 => @ite Int (SMA w n) (Classical.propDecidable _) (zlor (spm n) (zlshl 1 n)) (spm n)
noncomputable def q_spare : Int := bP (0 < w 5) (spm w (w 4).toNat) (-2)
end SPEC
section SL
variable {w : Int → Int} {dr : Int}
theorem wy_shd (wf : WF w) (p day : Int) : ((wy w dr p day).2.1 = -1 ∧ hld w dr p day = -1) ∨ ((wy w dr p day).2.1 ≠ -1 ∧ sho w dr (w (116 + (4 * ((wy w dr p day).2.1)))) (wy w dr p day).2.1 ∧ hld w dr p day = bo w dr (wy w dr p day).2.1) := by
  unfold hld held
  rcases wy_end wf dr day 9 [] p day with e | e
  · have e1 : (wy w dr p day).2.1 = -1 := e.1
    exact Or.inl ⟨e1, if_pos e1⟩
  · have e1 : 0 ≤ (wy w dr p day).2.1 := e.1
    have e2 : (wy w dr p day).2.1 < w 4 := e.2.1
    exact Or.inr ⟨by omega, ⟨e1, e2, e.2.2.1, rfl⟩, if_neg (by omega)⟩
theorem hld_rg (wf : WF w) (dr p day : Int) : -1 ≤ hld w dr p day ∧ hld w dr p day < w 3 := by
  have n3 := (WF_n wf).2.2.2.1
  rcases wy_shd (dr := dr) wf p day with h | h
  · omega
  · have := bo_rg wf (dr := dr) h.2.1.1 h.2.1.2.1
    omega
end SL
section RE
variable {d : Nat} {G : zG} {Q : zQ} {w : Int → Int}
set_option maxHeartbeats 4000000 in
theorem c255d {dr : Int} (wf : WF w) (hdr : rg dr) (hw : G 298 = w) (hd : G 297 7 = dr) {p day : Int} (hg : okPD w p day) (hQ : ∀ G1 s, fr G G1 S255 → G1 297 43 = hld w dr p day → G1 297 11 = (wy w dr p day).2.2 → Q (some (zi s)) G1) : zW (d + 5) 255 [zr 9 0 297, zi p, zi day] G Q := by
  subst hw
  obtain ⟨n0, n1, n2, n3, n4, n5⟩ := WF_n wf; have hrg := WF_rg wf
  refine zm_255 (zs_255_0 (c182 wf (by rw [hd]; exact hdr) hg.1.1 hg.1.2 hg.2.1 hg.2.2 (fun G1 f1 hW => ?_)))
  rw [hd] at hW
  have w1 : G1 298 = G 298 := fr_k f1 (fun j e => by unfold S182 at e; omega)
  have d1 : G1 297 7 = dr := (f1 _ _ (fun e => by unfold S182 at e; omega)).trans hd
  have hr := wy_rg wf dr p day
  have hh := held_eq (dr := dr) wf p day
  have hs := wy_shd (dr := dr) wf p day
  have hb := hld_rg wf dr p day
  have e10 : G1 297 10 = (wy (G 298) dr p day).2.1 := hW.2.1
  have e11 : G1 297 11 = (wy (G 298) dr p day).2.2 := hW.2.2.1
  have hh1 : hld (G 298) dr p day = -1 ↔ (wy (G 298) dr p day).2.2 ≠ 0 := hh.1
  have fin : ∀ x y s, x = hld (G 298) dr p day → Q (some (zi s)) (zu (zu G1 297 43 x) 297 44 y) := fun x y s hx => by
    refine hQ _ s (fr_u (fr_u (fr_wide f1 (by intro k j t; unfold S182 at t; unfold S255; omega)) (by unfold S255; omega)) (by unfold S255; omega)) ?_ ?_
    · rw [zu_j (by omega), zu_s]; exact hx
    · rw [zu_j (by omega), zu_j (by omega)]; exact e11
  have rw1 : rg (G1 298 1) := by rw [w1]; exact hrg _
  apply zs_255_6 <;> intros
  case h3 => exact fin _ _ _ (by rw [hh1.mpr (by omega)])
  case h5 => exact fin _ _ _ (by rw [hh1.mpr (by omega)])
  case h7 => exact fin _ _ _ (by rw [hh1.mpr (by omega)])
  case h8 =>
    have c : hld (G 298) dr p day ≠ -1 := fun z => hh1.mp z (by omega)
    have s := hs.resolve_left (fun z => c z.2)
    have s0 := s.2.1.1
    have s1 := s.2.1.2.1
    refine c178 (by rw [w1]; exact wf) (by rw [d1]; exact hdr) (by omega) (by rw [w1]; omega) ?_
    rw [w1, d1, e10, ← s.2.2]
    apply zs_255_22 <;> intros
    case h8 => exact fin _ _ _ rfl
    case h11 => exact fin _ _ _ rfl
    all_goals first | omega | (rw [e10]; (repeat' first | exact hrg _ | assumption | (unfold rg; omega) | omega | refine And.intro ?_ ?_); done) | (repeat' first | exact hrg _ | assumption | (unfold rg; omega) | omega | refine And.intro ?_ ?_)
  all_goals first | omega | (rw [e10]; (repeat' first | exact hrg _ | assumption | (unfold rg; omega) | omega | refine And.intro ?_ ?_); done) | (rw [e11]; (repeat' first | exact hrg _ | assumption | (unfold rg; omega) | omega | refine And.intro ?_ ?_); done) | (repeat' first | exact hrg _ | assumption | (unfold rg; omega) | omega | refine And.intro ?_ ?_)
def LT (w : Int → Int) (G : zG) : Prop := ∀ p, 0 ≤ p → p < w 2 → ∀ day, 0 ≤ day → day ≤ 365 → G 317 ((p * 366) + day) = (wy w (-1) p day).2.2 ∧ G 318 ((p * 366) + day) = hld w (-1) p day
set_option maxHeartbeats 4000000 in
theorem c262 {s : Int} (wf : WF w) (hs : rg s) (hw : G 298 = w) (hd : G 297 7 = s) (hT : LT w G) (hQ : ∀ G1, fr G G1 S255 → Q (some (zi (bP (SMA w s) 1 0))) G1) : zW (d + 6) 262 [zr 9 0 297] G Q := by
  subst hw
  obtain ⟨n0, n1, n2, n3, n4, n5⟩ := WF_n wf; have hrg := WF_rg wf
  refine zm_262 (zs_262_0 ?_)
  have key : ∀ (r p : Nat), p + r = (G 298 2).toNat → ∀ G1, fr G G1 S255 → (∀ q, 0 ≤ q → q < (p : Int) → ∀ day, 0 ≤ day → day ≤ 365 → SMO (G 298) s q day) → ∀ l2 l3, zAt xT_262 (zW (d + 5)) Q 2 [zr 9 0 297, zi p, l2, l3] [] G1 := by
    intro r
    induction r with
    | zero =>
      intro p hr G1 f1 hn l2 l3
      have w1 : G1 298 = G 298 := fr_k f1 (fun j e => by unfold S255 at e; omega)
      apply zs_262_2 <;> intros
      case h2 => have hA : SMA (G 298) s := fun q q0 q1 => hn q q0 (by omega)
                 have := hQ G1 f1; rw [bP_t hA] at this; exact this
      all_goals (rw [w1] at *; first | omega | (repeat' first | exact hrg _ | assumption | (unfold rg; omega) | omega | refine And.intro ?_ ?_))
    | succ r ih =>
      intro p hr G1 f1 hn l2 l3
      have w1 : G1 298 = G 298 := fr_k f1 (fun j e => by unfold S255 at e; omega)
      have inn : ∀ (r2 : Nat) (t : Int), 0 ≤ t → t + r2 = 366 → ∀ G2, fr G G2 S255 → (∀ day, 0 ≤ day → day < t → SMO (G 298) s p day) → ∀ l3, zAt xT_262 (zW (d + 5)) Q 14 [zr 9 0 297, zi p, zi t, l3] [] G2 := by
        intro r2
        induction r2 with
        | zero =>
          intro t t0 t1 G2 f2 ht l3
          apply zs_262_14 <;> intros
          case h2 =>
            have := ih (p + 1) (by omega) G2 f2 (fun q q0 q1 day d0 d1 => by
              by_cases e : q = p
              · rw [e]; exact ht day d0 (by omega)
              · exact hn q q0 (by omega) day d0 d1) (zi t) z0
            exact this
          all_goals first | omega | (repeat' first | exact hrg _ | assumption | (unfold rg; omega) | omega | refine And.intro ?_ ?_)
        | succ r2 ih2 =>
          intro t t0 t1 G2 f2 ht l3
          have w2 : G2 298 = G 298 := fr_k f2 (fun j e => by unfold S255 at e; omega)
          have d2 : G2 297 7 = s := (f2 _ _ (fun e => by unfold S255 at e; omega)).trans hd
          apply zs_262_14 <;> intros
          case h3 =>
            refine c255d (dr := s) wf hs w2 d2 ⟨⟨by omega, by omega⟩, t0, by omega⟩ (fun G3 x f3 g43 g11 => ?_)
            have f13 := fr_trans f2 f3 (fun k j t => t)
            have w3 : G3 298 = G 298 := fr_k f13 (fun j e => by unfold S255 at e; omega)
            have lt := hT p (by omega) (by omega) t t0 (by omega)
            rw [← f13 317 _ (by unfold S255; omega), ← f13 318 _ (by unfold S255; omega)] at lt
            have r1 := wy_rg wf s p t
            have r2' := wy_rg wf (-1) p t
            have b1 := hld_rg wf s p t
            have b2 := hld_rg wf (-1) p t
            have no : ¬ SMO (G 298) s p t → Q (some (zi 0)) G3 := fun h => by
              have := hQ G3 f13
              rw [bP_f (fun z => h (z p (by omega) (by omega) t t0 (by omega)))] at this
              exact this
            apply zs_262_27 <;> intros
            case h2 => exact no (fun z => by have := z.1; omega)
            case h3 =>
              rw [g43, lt.2]
              refine c179 (by rw [w3]; exact wf) b1.1 (by omega) b2.1 (by omega) (fun h0 => ?_) (fun he => ?_) (fun he => ?_)
              · rw [w3]; have := WF_b wf h0 b1.2; exact ⟨this.2.1.2, this.2.2.1.2⟩
              · rw [w3] at he
                apply zs_262_63 <;> intros
                case h2 =>
                  refine ih2 (t + 1) (by omega) (by omega) G3 f13 (fun day d0 d1 => ?_) _
                  by_cases e : day = t
                  · rw [e]; exact ⟨by omega, he⟩
                  · exact ht day d0 (by omega)
                all_goals first | omega | (repeat' first | exact hrg _ | assumption | (unfold rg; omega) | omega | refine And.intro ?_ ?_)
              · rw [w3] at he
                apply zs_262_63 <;> intros
                case h3 => exact no (fun z => he z.2)
                all_goals first | omega | (repeat' first | exact hrg _ | assumption | (unfold rg; omega) | omega | refine And.intro ?_ ?_)
            all_goals first | omega | (rw [g11, lt.1]; (repeat' first | exact hrg _ | assumption | (unfold rg; omega) | omega | refine And.intro ?_ ?_); done) | (repeat' first | exact hrg _ | assumption | (unfold rg; omega) | omega | refine And.intro ?_ ?_)
          all_goals first | omega | (repeat' first | exact hrg _ | assumption | (unfold rg; omega) | omega | refine And.intro ?_ ?_)
      apply zs_262_2 <;> intros
      case h3 => exact inn 366 0 (by omega) (by omega) G1 f1 (fun day d0 d1 => by omega) _
      all_goals (rw [w1] at *; first | omega | (repeat' first | exact hrg _ | assumption | (unfold rg; omega) | omega | refine And.intro ?_ ?_))
  exact key (G 298 2).toNat 0 (by omega) G (fr_refl _ _) (fun q q0 q1 => by omega) _ _
set_option maxHeartbeats 4000000 in
theorem r_spare (wf : WF w) (hw : G 298 = w) (hd : G 297 7 = -1) (hQ : ∀ G1, fr G G1 SR → Q (some (zl (q_spare w))) G1) : zW (d + 8) 263 [zr 9 0 297] G Q := by
  subst hw
  obtain ⟨n0, n1, n2, n3, n4, n5⟩ := WF_n wf; have hrg := WF_rg wf
  unfold q_spare at hQ
  refine zm_263 ?_
  by_cases hg : 0 < G 298 5
  · rw [bP_t hg] at hQ
    have k87 : ∀ (r n : Nat), n + r = (G 298 4).toNat → ∀ G1, fr G G1 (fun k j => SR k j ∨ (k = 297 ∧ j = 7)) → LT (G 298) G1 → ∀ l2, zAt xT_263 (zW (d + 7)) Q 87 [zr 9 0 297, zl (spm (G 298) n), l2, zi n] [] G1 := by
      intro r
      induction r with
      | zero =>
        intro n hr G1 f1 hT l2
        have w1 : G1 298 = G 298 := fr_k f1 (fun j e => by unfold SR at e; omega)
        have e : n = (G 298 4).toNat := by omega
        apply zs_263_87 <;> intros
        case h2 =>
          rw [e]
          refine hQ _ (fun k j hn => ?_)
          by_cases c : k = 297 ∧ j = 7
          · rw [c.1, c.2, zu_s, hd]
          · rw [show zu G1 297 7 (-1) k j = G1 k j from by
              by_cases ck : k = 297
              · exact zu_j (fun z => c ⟨ck, z⟩)
              · rw [zu_k ck]]
            exact f1 k j (fun z => z.elim hn c)
        all_goals (rw [w1] at *; first | omega | (repeat' first | exact hrg _ | assumption | (unfold rg; omega) | omega | refine And.intro ?_ ?_))
      | succ r ih =>
        intro n hr G1 f1 hT l2
        have w1 : G1 298 = G 298 := fr_k f1 (fun j e => by unfold SR at e; omega)
        have e : spm (G 298) (n + 1) = @ite Int (SMA (G 298) n) (Classical.propDecidable _) (zlor (spm (G 298) n) (zlshl 1 n)) (spm (G 298) n) := rfl
        have ih := ih (n + 1) (by omega)
        rw [e] at ih
        apply zs_263_87 <;> intros
        case h3 =>
          refine c262 (s := n) (G := zu G1 297 7 n) wf ⟨by omega, by omega⟩ (by rw [zu_k (by omega)]; exact w1) zu_s (fun p p0 p1 day d0 d1 => by rw [zu_k (by omega), zu_k (by omega)]; exact hT p p0 p1 day d0 d1) (fun G2 f2 => ?_)
          have f12 : fr G G2 (fun k j => SR k j ∨ (k = 297 ∧ j = 7)) := fr_trans (fr_u f1 (Or.inr ⟨rfl, rfl⟩)) f2 (fun k j t => Or.inl (S255_SR t))
          have hT2 : LT (G 298) G2 := fun p p0 p1 day d0 d1 => by
            rw [f2 _ _ (by unfold S255; omega), f2 _ _ (by unfold S255; omega), zu_k (by omega), zu_k (by omega)]; exact hT p p0 p1 day d0 d1
          by_cases c : SMA (G 298) n
          · rw [bP_t c]
            rw [if_pos c] at ih
            apply zs_263_106 <;> intros
            case h3 => exact ih G2 f12 hT2 _
            all_goals first | omega | (repeat' first | exact hrg _ | assumption | (unfold rg; omega) | omega | refine And.intro ?_ ?_)
          · rw [bP_f c]
            rw [if_neg c] at ih
            apply zs_263_106 <;> intros
            case h2 => exact ih G2 f12 hT2 _
            all_goals first | omega | (repeat' first | exact hrg _ | assumption | (unfold rg; omega) | omega | refine And.intro ?_ ?_)
        all_goals (rw [w1] at *; first | omega | (repeat' first | exact hrg _ | assumption | (unfold rg; omega) | omega | refine And.intro ?_ ?_))
    have k13 : ∀ (r p : Nat), p + r = (G 298 2).toNat → ∀ G1, fr G G1 SR → (∀ q, 0 ≤ q → q < (p : Int) → ∀ day, 0 ≤ day → day ≤ 365 → G1 317 ((q * 366) + day) = (wy (G 298) (-1) q day).2.2 ∧ G1 318 ((q * 366) + day) = hld (G 298) (-1) q day) → ∀ l2 l3, zAt xT_263 (zW (d + 7)) Q 13 [zr 9 0 297, zi p, l2, l3] [] G1 := by
      intro r
      induction r with
      | zero =>
        intro p hr G1 f1 hn l2 l3
        have w1 : G1 298 = G 298 := fr_k f1 (fun j e => by unfold SR at e; omega)
        apply zs_263_13 <;> intros
        case h2 => exact k87 (G 298 4).toNat 0 (by omega) G1 (fr_wide f1 (fun k j t => Or.inl t)) (fun q q0 q1 => hn q q0 (by omega)) _
        all_goals (rw [w1] at *; first | omega | (repeat' first | exact hrg _ | assumption | (unfold rg; omega) | omega | refine And.intro ?_ ?_))
      | succ r ih =>
        intro p hr G1 f1 hn l2 l3
        have w1 : G1 298 = G 298 := fr_k f1 (fun j e => by unfold SR at e; omega)
        have inn : ∀ (r2 : Nat) (t : Int), 0 ≤ t → t + r2 = 366 → ∀ G2, fr G G2 SR → (∀ q, 0 ≤ q → q ≤ (p : Int) → ∀ day, 0 ≤ day → day ≤ 365 → (q < p ∨ day < t) → G2 317 ((q * 366) + day) = (wy (G 298) (-1) q day).2.2 ∧ G2 318 ((q * 366) + day) = hld (G 298) (-1) q day) → ∀ l3, zAt xT_263 (zW (d + 7)) Q 25 [zr 9 0 297, zi p, zi t, l3] [] G2 := by
          intro r2
          induction r2 with
          | zero =>
            intro t t0 t1 G2 f2 ht l3
            apply zs_263_25 <;> intros
            case h2 =>
              have := ih (p + 1) (by omega) G2 f2 (fun q q0 q1 day d0 d1 => ht q q0 (by omega) day d0 d1 (by omega)) (zi t) z0
              exact this
            all_goals first | omega | (repeat' first | exact hrg _ | assumption | (unfold rg; omega) | omega | refine And.intro ?_ ?_)
          | succ r2 ih2 =>
            intro t t0 t1 G2 f2 ht l3
            have w2 : G2 298 = G 298 := fr_k f2 (fun j e => by unfold SR at e; omega)
            have d2 : G2 297 7 = -1 := (f2 _ _ (fun e => by unfold SR at e; omega)).trans hd
            apply zs_263_25 <;> intros
            case h3 =>
              refine c255d (dr := -1) wf ⟨by omega, by omega⟩ w2 d2 ⟨⟨by omega, by omega⟩, t0, by omega⟩ (fun G3 x f3 g43 g11 => ?_)
              apply zs_263_38 <;> intros
              case h2 =>
                refine ih2 (t + 1) (by omega) (by omega) _ (fr_u (fr_u (fr_trans f2 f3 (fun k j t => S255_SR t)) (by unfold SR; omega)) (by unfold SR; omega)) (fun q q0 q1 day d0 d1 hlt => ?_) _
                by_cases c : q = p ∧ day = t
                · rw [c.1, c.2, zu_k (by omega), zu_s, zu_s, g43, g11]; exact ⟨rfl, rfl⟩
                · rw [zu_k (by omega), zu_j (by omega), zu_j (by omega), zu_k (by omega), f3 _ _ (by unfold S255; omega), f3 _ _ (by unfold S255; omega)]
                  exact ht q q0 q1 day d0 d1 (by omega)
              all_goals first | omega | (repeat' first | exact hrg _ | assumption | (unfold rg; omega) | omega | refine And.intro ?_ ?_)
            all_goals first | omega | (repeat' first | exact hrg _ | assumption | (unfold rg; omega) | omega | refine And.intro ?_ ?_)
        apply zs_263_13 <;> intros
        case h3 => exact inn 366 0 (by omega) (by omega) G1 f1 (fun q q0 q1 day d0 d1 h => hn q q0 (by omega) day d0 d1) _
        all_goals (rw [w1] at *; first | omega | (repeat' first | exact hrg _ | assumption | (unfold rg; omega) | omega | refine And.intro ?_ ?_))
    apply zs_263_0 <;> intros
    case h3 => exact k13 (G 298 2).toNat 0 (by omega) G (fr_refl _ _) (fun q q0 q1 => by omega) _ _
    all_goals first | omega | (repeat' first | exact hrg _ | assumption | (unfold rg; omega) | omega | refine And.intro ?_ ?_)
  · rw [bP_f hg] at hQ
    apply zs_263_0 <;> intros
    all_goals first | omega | exact hQ G (fr_refl _ _) | (repeat' first | exact hrg _ | assumption | (unfold rg; omega) | omega | refine And.intro ?_ ?_)
end RE
