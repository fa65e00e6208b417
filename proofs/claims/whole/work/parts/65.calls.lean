/-! THE CALLS: click, linking, dead -/
noncomputable def bmk (P : Int → Prop) : Nat → Int
  | 0 => 0
  | n + 1 => @ite Int (P n) (Classical.propDecidable _) (zor (bmk P n) (zshl 1 n)) (bmk P n)
theorem bmk_rg (P : Int → Prop) (n : Nat) : rg (bmk P n) := by
  induction n with
  | zero => exact ⟨by show (-2147483648 : Int) ≤ 0; decide, by show (0 : Int) < 2147483648; decide⟩
  | succ n ih =>
    unfold bmk
    by_cases c : P n
    · rw [if_pos c]; exact rg_zor _ _
    · rw [if_neg c]; exact ih
theorem bmk_bit (P : Int → Prop) : ∀ n : Nat, n ≤ 32 → ∀ b, 0 ≤ b → b < 32 → (zt (bmk P n) b ↔ (b < n ∧ P b)) := by
  intro n
  induction n with
  | zero => intro _ b b0 b1; exact ⟨fun z => absurd z (zt_0 b), fun z => by have := z.1; omega⟩
  | succ n ih =>
    intro hn b b0 b1
    have ih := ih (by omega) b b0 b1
    unfold bmk
    by_cases c : P n
    · rw [if_pos c, zt_or1 (by omega) (by omega) b0 b1, ih]
      constructor
      · rintro (h | h)
        · exact ⟨by omega, h.2⟩
        · exact ⟨by omega, h ▸ c⟩
      · rintro ⟨h1, h2⟩
        by_cases e : b = n
        · exact Or.inr e.symm
        · exact Or.inl ⟨by omega, h2⟩
    · rw [if_neg c, ih]
      constructor
      · rintro h; exact ⟨by omega, h.2⟩
      · rintro ⟨h1, h2⟩
        by_cases e : b = n
        · rw [e] at h2; exact absurd h2 c
        · exact ⟨by omega, h2⟩
theorem bmk_eq {P : Int → Prop} {m : Int} (hm : rg m) (h : ∀ b, 0 ≤ b → b < 32 → (zt m b ↔ (b < 8 ∧ P b))) : m = bmk P 8 := zt_ext hm (bmk_rg P 8) (fun b b0 b1 => (h b b0 b1).trans (bmk_bit P 8 (by omega) b b0 b1).symm)
section SPEC
variable (w : Int → Int)
noncomputable def hbd (p day : Int) : Int := held w (-1) (wy w (-1) p day)
noncomputable def ndy (p day : Int) : Int := if w 1 = 1 then (w ((116 + (4 * ((wy w (-1) p day).2.1))) + 1)) else day
noncomputable def q_click (p day i k : Int) : Int := bP (okPD w p day ∧ 0 ≤ i ∧ 0 ≤ k ∧ k ≤ 1) (if hbd w p day = -1 then -1 else if (w ((6 + (11 * (hbd w p day))) + 2)) ≤ i then -1 else if k = 0 then (w (((6 + (11 * (hbd w p day))) + 7) + i)) else ndy w p day) (-2)
/-- page q's body links to p -/
def lnk (p day q : Int) : Prop := hbd w q day ≠ -1 ∧ ∃ i, 0 ≤ i ∧ i < (w ((6 + (11 * (hbd w q day))) + 2)) ∧ (w (((6 + (11 * (hbd w q day))) + 7) + i)) = p
noncomputable def q_linking (p day : Int) : Int := bP (okPD w p day) (bmk (fun q => q < w 2 ∧ lnk w p day q) 8) (-2)
def ded (day n b : Int) : Prop := ∃ q, 0 ≤ q ∧ q < n ∧ lnk w b day q ∧ hbd w b (ndy w q day) = -1
noncomputable def q_dead (day : Int) : Int := bP (0 < w 5 ∧ 0 ≤ day ∧ day ≤ 365) (bmk (ded w day (w 2)) 8) (-2)
end SPEC
section SL
variable {w : Int → Int}
theorem wy_sho (wf : WF w) (p day : Int) : ((wy w (-1) p day).2.1 = -1 ∧ hbd w p day = -1) ∨ ((wy w (-1) p day).2.1 ≠ -1 ∧ sho w (-1) (w (116 + (4 * ((wy w (-1) p day).2.1)))) (wy w (-1) p day).2.1 ∧ hbd w p day = bo w (-1) (wy w (-1) p day).2.1) := by
  unfold hbd held
  rcases wy_end wf (-1) day 9 [] p day with e | e
  · have e1 : (wy w (-1) p day).2.1 = -1 := e.1
    exact Or.inl ⟨e1, if_pos e1⟩
  · have e1 : 0 ≤ (wy w (-1) p day).2.1 := e.1
    have e2 : (wy w (-1) p day).2.1 < w 4 := e.2.1
    exact Or.inr ⟨by omega, ⟨e1, e2, by omega, rfl⟩, if_neg (by omega)⟩
theorem hbd_rg (wf : WF w) (p day : Int) : -1 ≤ hbd w p day ∧ hbd w p day < w 3 := by
  have n3 := (WF_n wf).2.2.2.1
  rcases wy_sho wf p day with h | h
  · omega
  · have := bo_rg wf (dr := -1) h.2.1.1 h.2.1.2.1
    omega
theorem ndy_rg (wf : WF w) {p day : Int} (d0 : 0 ≤ day) (d1 : day ≤ 365) (h : hbd w p day ≠ -1) : 0 ≤ ndy w p day ∧ ndy w p day ≤ 365 := by
  have hs := (wy_sho wf p day).resolve_left (fun z => h z.2)
  have := (WF_s wf hs.2.1.1 hs.2.1.2.1).2.1
  unfold ndy
  split <;> omega
end SL
def S255 (k j : Int) : Prop := k = 303 ∨ (k = 297 ∧ ((9 ≤ j ∧ j ≤ 11) ∨ (43 ≤ j ∧ j ≤ 44)))
section RE
variable {d : Nat} {G : zG} {Q : zQ} {w : Int → Int}
set_option maxHeartbeats 4000000 in
theorem c255 (wf : WF w) (hw : G 298 = w) (hd : G 297 7 = -1) {p day : Int} (hg : okPD w p day) (hN : hbd w p day = -1 → ∀ G1, fr G G1 S255 → Q (some (zi 0)) G1) (hY : hbd w p day ≠ -1 → ∀ G1, fr G G1 S255 → G1 297 43 = hbd w p day → G1 297 44 = ndy w p day → Q (some (zi 1)) G1) : zW (d + 5) 255 [zr 9 0 297, zi p, zi day] G Q := by
  subst hw
  obtain ⟨n0, n1, n2, n3, n4, n5⟩ := WF_n wf; have hrg := WF_rg wf
  refine zm_255 (zs_255_0 (c182 wf (by rw [hd]; exact ⟨by omega, by omega⟩) hg.1.1 hg.1.2 hg.2.1 hg.2.2 (fun G1 f1 hW => ?_)))
  rw [hd] at hW
  have w1 : G1 298 = G 298 := fr_k f1 (fun j e => by unfold S182 at e; omega)
  have d1 : G1 297 7 = -1 := (f1 _ _ (fun e => by unfold S182 at e; omega)).trans hd
  have hr := wy_rg wf (-1) p day
  have hh := held_eq (dr := -1) wf p day
  have hs := wy_sho wf p day
  have hb := hbd_rg wf p day
  have e10 : G1 297 10 = (wy (G 298) (-1) p day).2.1 := hW.2.1
  have e11 : G1 297 11 = (wy (G 298) (-1) p day).2.2 := hW.2.2.1
  have hh1 : hbd (G 298) p day = -1 ↔ (wy (G 298) (-1) p day).2.2 ≠ 0 := hh.1
  have f2 : ∀ x y, fr G (zu (zu G1 297 43 x) 297 44 y) S255 := fun x y => fr_u (fr_u (fr_wide f1 (by intro k j t; unfold S182 at t; unfold S255; omega)) (by unfold S255; omega)) (by unfold S255; omega)
  have rw1 : rg (G1 298 1) := by rw [w1]; exact hrg _
  apply zs_255_6 <;> intros
  case h3 => exact hN (by rw [hh1]; omega) _ (f2 _ _)
  case h5 => exact hN (by rw [hh1]; omega) _ (f2 _ _)
  case h7 => exact hN (by rw [hh1]; omega) _ (f2 _ _)
  case h8 =>
    have c : hbd (G 298) p day ≠ -1 := fun z => hh1.mp z (by omega)
    have s := hs.resolve_left (fun z => c z.2)
    have s0 := s.2.1.1
    have s1 := s.2.1.2.1
    refine c178 (by rw [w1]; exact wf) (by rw [d1]; exact ⟨by omega, by omega⟩) (by omega) (by rw [w1]; omega) ?_
    rw [w1, d1, e10, ← s.2.2]
    apply zs_255_22 <;> intros
    case h8 =>
      rename_i h
      refine hY c _ (f2 _ _) ?_ ?_
      · rw [zu_j (by omega), zu_s]
      · rw [zu_s]; unfold ndy; rw [w1] at *; rw [if_neg (by assumption)]
    case h11 =>
      refine hY c _ (f2 _ _) ?_ ?_
      · rw [zu_j (by omega), zu_s]
      · rw [zu_s, w1, e10]; unfold ndy; rw [w1] at *; rw [if_pos (by assumption)]
    all_goals first | omega | (rw [e10]; (repeat' first | exact hrg _ | assumption | (unfold rg; omega) | omega | refine And.intro ?_ ?_); done) | (repeat' first | exact hrg _ | assumption | (unfold rg; omega) | omega | refine And.intro ?_ ?_)
  all_goals first | omega | (rw [e10]; (repeat' first | exact hrg _ | assumption | (unfold rg; omega) | omega | refine And.intro ?_ ?_); done) | (rw [e11]; (repeat' first | exact hrg _ | assumption | (unfold rg; omega) | omega | refine And.intro ?_ ?_); done) | (repeat' first | exact hrg _ | assumption | (unfold rg; omega) | omega | refine And.intro ?_ ?_)
theorem S255_SR {k j : Int} (h : S255 k j) : SR k j := by unfold S255 at h; unfold SR; omega
set_option maxHeartbeats 4000000 in
theorem r_click (wf : WF w) (hw : G 298 = w) (hd : G 297 7 = -1) {p day i k : Int} (hp : rg p) (hdd : rg day) (hi : rg i) (hk : rg k) (hQ : ∀ G1, fr G G1 SR → Q (some (zi (q_click w p day i k))) G1) : zW (d + 8) 256 [zr 9 0 297, zi p, zi day, zi i, zi k] G Q := by
  subst hw
  obtain ⟨n0, n1, n2, n3, n4, n5⟩ := WF_n wf; have hrg := WF_rg wf
  unfold q_click at hQ
  refine zm_256 ?_
  by_cases hg : okPD (G 298) p day ∧ 0 ≤ i ∧ 0 ≤ k ∧ k ≤ 1
  · rw [bP_t hg] at hQ
    have hg' := hg
    unfold okPD at hg'
    have hb := hbd_rg wf p day
    apply zs_256_0 <;> intros
    case h6 =>
      refine c255 wf rfl hd hg.1 (fun c G1 f1 => ?_) (fun c G1 f1 g43 g44 => ?_)
      · rw [if_pos c] at hQ
        apply zs_256_33 <;> intros
        case h2 => exact hQ G1 (fr_wide f1 (fun k j t => S255_SR t))
        all_goals first | omega | (repeat' first | exact hrg _ | assumption | (unfold rg; omega) | omega | refine And.intro ?_ ?_)
      · rw [if_neg c] at hQ
        have w1 : G1 298 = G 298 := fr_k f1 (fun j e => by unfold S255 at e; omega)
        have hQ1 := hQ G1 (fr_wide f1 (fun k j t => S255_SR t))
        have wb := WF_b wf (b := hbd (G 298) p day) (by omega) (by omega)
        rw [← w1] at hrg
        apply zs_256_33 <;> intros
        case h5 => rename_i h1 h2; rw [g43, w1] at h1; rw [if_neg (by omega), if_neg h2] at hQ1; rw [g44]; exact hQ1
        case h7 => rename_i h1 h2; rw [g43, w1] at h1; rw [if_neg (by omega), if_pos h2] at hQ1; rw [g43, w1]; exact hQ1
        case h8 => rename_i h1; rw [g43, w1] at h1; rw [if_pos (by omega)] at hQ1; exact hQ1
        all_goals (rw [g43] at *; first | omega | (rw [w1] at *; omega) | (repeat' first | exact hrg _ | assumption | (unfold rg; omega) | omega | refine And.intro ?_ ?_))
    all_goals first | omega | (repeat' first | exact hrg _ | assumption | (unfold rg; omega) | omega | refine And.intro ?_ ?_)
  · rw [bP_f hg] at hQ
    unfold okPD at hg
    apply zs_256_0 <;> intros
    all_goals first | omega | exact hQ G (fr_refl _ _) | (repeat' first | exact hrg _ | assumption | (unfold rg; omega) | omega | refine And.intro ?_ ?_)
theorem zor_0 {v : Int} (h : rg v) : zor v 0 = v := zt_ext (rg_zor _ _) h (fun q q0 q1 => by rw [zt_or]; exact ⟨fun z => z.resolve_right (zt_0 q), Or.inl⟩)
set_option maxHeartbeats 4000000 in
theorem r_linking (wf : WF w) (hw : G 298 = w) (hd : G 297 7 = -1) {p day : Int} (hp : rg p) (hdd : rg day) (hQ : ∀ G1, fr G G1 SR → Q (some (zi (q_linking w p day))) G1) : zW (d + 8) 260 [zr 9 0 297, zi p, zi day] G Q := by
  subst hw
  obtain ⟨n0, n1, n2, n3, n4, n5⟩ := WF_n wf; have hrg := WF_rg wf
  unfold q_linking at hQ
  refine zm_260 ?_
  by_cases hg : okPD (G 298) p day
  · rw [bP_t hg] at hQ
    have hg' := hg
    unfold okPD at hg'
    have key : ∀ (r n : Nat) (m : Int), n + r = (G 298 2).toNat → rg m → (∀ b, 0 ≤ b → b < 32 → (zt m b ↔ (b < n ∧ lnk (G 298) p day b))) → ∀ G1, fr G G1 SR → ∀ l5, zAt xT_260 (zW (d + 7)) Q 17 [zr 9 0 297, zi p, zi day, zi m, zi n, l5] [] G1 := by
      intro r
      induction r with
      | zero =>
        intro n m hr hm hb G1 f1 l5
        have w1 : G1 298 = G 298 := fr_k f1 (fun j e => by unfold SR at e; omega)
        apply zs_260_17 <;> intros
        case h2 =>
          rw [bmk_eq (P := fun q => q < G 298 2 ∧ lnk (G 298) p day q) hm (fun b b0 b1 => (hb b b0 b1).trans ⟨fun z => ⟨by omega, by omega, z.2⟩, fun z => ⟨by omega, z.2.2⟩⟩)]
          exact hQ G1 f1
        all_goals (rw [w1] at *; first | omega | (repeat' first | exact hrg _ | assumption | (unfold rg; omega) | omega | refine And.intro ?_ ?_))
      | succ r ih =>
        intro n m hr hm hb G1 f1 l5
        have w1 : G1 298 = G 298 := fr_k f1 (fun j e => by unfold SR at e; omega)
        have d1 : G1 297 7 = -1 := (f1 _ _ (fun e => by unfold SR at e; omega)).trans hd
        have hbr := hbd_rg wf n day
        have done : ∀ m', rg m' → (∀ b, 0 ≤ b → b < 32 → (zt m' b ↔ (b < (n : Int) + 1 ∧ lnk (G 298) p day b))) → ∀ G2, fr G G2 SR → ∀ l5, zAt xT_260 (zW (d + 7)) Q 17 [zr 9 0 297, zi p, zi day, zi m', zi ((n : Int) + 1), l5] [] G2 := fun m' hm' hb' G2 f2 l5 => ih (n + 1) m' (by omega) hm' (fun b b0 b1 => by rw [hb' b b0 b1]; exact ⟨fun z => ⟨by omega, z.2⟩, fun z => ⟨by omega, z.2⟩⟩) G2 f2 l5
        have none' : ¬ lnk (G 298) p day n → ∀ b, 0 ≤ b → b < 32 → (zt m b ↔ (b < (n : Int) + 1 ∧ lnk (G 298) p day b)) := fun hn b b0 b1 => by
          rw [hb b b0 b1]
          exact ⟨fun z => ⟨by omega, z.2⟩, fun z => ⟨by
            by_cases e : b = n
            · exact absurd (e ▸ z.2) hn
            · omega, z.2⟩⟩
        apply zs_260_17 <;> intros
        case h3 =>
          refine c255 wf w1 d1 ⟨by omega, by omega⟩ (fun c G2 f2 => ?_) (fun c G2 f2 g43 g44 => ?_)
          · have f12 := fr_trans f1 f2 (fun k j t => S255_SR t)
            apply zs_260_35 <;> intros
            case h3 => exact done m hm (none' (fun z => z.1 c)) G2 f12 _
            all_goals first | omega | (repeat' first | exact hrg _ | assumption | (unfold rg; omega) | omega | refine And.intro ?_ ?_)
          · have f12 := fr_trans f1 f2 (fun k j t => S255_SR t)
            have w2 : G2 298 = G 298 := fr_k f12 (fun j e => by unfold SR at e; omega)
            have wb := WF_b wf (b := hbd (G 298) n day) (by omega) (by omega)
            have hrg2 : ∀ j, rg (G2 298 j) := by rw [w2]; exact hrg
            have inn : ∀ (r j : Nat) (m' : Int), j + r = (((G 298) ((6 + (11 * (hbd (G 298) n day))) + 2))).toNat → rg m' → (∀ b, 0 ≤ b → b < 32 → (zt m' b ↔ ((b < n ∧ lnk (G 298) p day b) ∨ (b = n ∧ ∃ i, 0 ≤ i ∧ i < (j : Int) ∧ ((G 298) (((6 + (11 * (hbd (G 298) n day))) + 7) + i)) = p)))) → zAt xT_260 (zW (d + 7)) Q 44 [zr 9 0 297, zi p, zi day, zi m', zi n, zi j] [] G2 := by
              intro r
              induction r with
              | zero =>
                intro j m' hj hm' hb'
                apply zs_260_44 <;> intros
                case h2 =>
                  refine done m' hm' (fun b b0 b1 => ?_) G2 f12 _
                  rw [hb' b b0 b1]
                  constructor
                  · rintro (h | ⟨e, i, i0, i1, h⟩)
                    · exact ⟨by omega, h.2⟩
                    · rw [e]; exact ⟨by omega, c, i, i0, by omega, h⟩
                  · rintro ⟨h1, h2⟩
                    by_cases e : b = n
                    · rw [e] at h2
                      obtain ⟨_, i, i0, i1, h⟩ := h2
                      exact Or.inr ⟨e, i, i0, by omega, h⟩
                    · exact Or.inl ⟨by omega, h2⟩
                all_goals (rw [g43] at *; first | omega | (rw [w2] at *; omega) | (rw [w2]; (repeat' first | exact hrg _ | assumption | (unfold rg; omega) | omega | refine And.intro ?_ ?_)))
              | succ r ih2 =>
                intro j m' hj hm' hb'
                have ih2 := ih2 (j + 1)
                apply zs_260_44 <;> intros
                case h4 =>
                  rename_i h
                  rw [g43, w2] at h
                  rw [zor_0 hm']
                  refine ih2 m' (by omega) hm' (fun b b0 b1 => ?_)
                  rw [hb' b b0 b1]
                  refine or_congr Iff.rfl (and_congr Iff.rfl ⟨fun ⟨i, i0, i1, hh⟩ => ⟨i, i0, by omega, hh⟩, fun ⟨i, i0, i1, hh⟩ => ⟨i, i0, ?_, hh⟩⟩)
                  by_cases e : i = j
                  · rw [e] at hh; exact absurd hh h
                  · omega
                case h5 =>
                  rename_i h
                  rw [g43, w2] at h
                  refine ih2 _ (by omega) (rg_zor _ _) (fun b b0 b1 => ?_)
                  rw [zt_or1 (by omega) (by omega) b0 b1, hb' b b0 b1]
                  constructor
                  · rintro ((hh | ⟨e, i, i0, i1, hh⟩) | e)
                    · exact Or.inl hh
                    · exact Or.inr ⟨e, i, i0, by omega, hh⟩
                    · exact Or.inr ⟨e.symm, j, by omega, by omega, h⟩
                  · rintro (hh | ⟨e, _⟩)
                    · exact Or.inl (Or.inl hh)
                    · exact Or.inr e.symm
                all_goals (rw [g43] at *; first | omega | (rw [w2] at *; omega) | (rw [w2]; (repeat' first | exact hrg _ | assumption | (unfold rg; omega) | omega | refine And.intro ?_ ?_)))
            apply zs_260_35 <;> intros
            case h2 =>
              refine inn (((G 298) ((6 + (11 * (hbd (G 298) n day))) + 2))).toNat 0 m (by omega) hm (fun b b0 b1 => ?_)
              rw [hb b b0 b1]
              exact ⟨Or.inl, fun z => z.elim id (fun ⟨_, i, i0, i1, _⟩ => by omega)⟩
            all_goals first | omega | (repeat' first | exact hrg _ | assumption | (unfold rg; omega) | omega | refine And.intro ?_ ?_)
        all_goals (rw [w1] at *; first | omega | (repeat' first | exact hrg _ | assumption | (unfold rg; omega) | omega | refine And.intro ?_ ?_))
    apply zs_260_0 <;> intros
    case h3 => exact key (G 298 2).toNat 0 0 (by omega) ⟨by omega, by omega⟩ (fun b b0 b1 => ⟨fun z => absurd z (zt_0 b), fun z => by have := z.1; omega⟩) G (fr_refl _ _) _
    all_goals first | omega | (repeat' first | exact hrg _ | assumption | (unfold rg; omega) | omega | refine And.intro ?_ ?_)
  · rw [bP_f hg] at hQ
    unfold okPD at hg
    apply zs_260_0 <;> intros
    all_goals first | omega | exact hQ G (fr_refl _ _) | (repeat' first | exact hrg _ | assumption | (unfold rg; omega) | omega | refine And.intro ?_ ?_)
set_option maxHeartbeats 4000000 in
theorem r_dead (wf : WF w) (hw : G 298 = w) (hd : G 297 7 = -1) {day : Int} (hdd : rg day) (hQ : ∀ G1, fr G G1 SR → Q (some (zi (q_dead w day))) G1) : zW (d + 8) 261 [zr 9 0 297, zi day] G Q := by
  subst hw
  obtain ⟨n0, n1, n2, n3, n4, n5⟩ := WF_n wf; have hrg := WF_rg wf
  unfold q_dead at hQ
  refine zm_261 ?_
  by_cases hg : 0 < G 298 5 ∧ 0 ≤ day ∧ day ≤ 365
  · rw [bP_t hg] at hQ
    have key : ∀ (r n : Nat) (m : Int), n + r = (G 298 2).toNat → rg m → (∀ b, 0 ≤ b → b < 32 → (zt m b ↔ ded (G 298) day n b)) → ∀ G1, fr G G1 SR → ∀ l4 l5 l6, zAt xT_261 (zW (d + 7)) Q 21 [zr 9 0 297, zi day, zi m, zi n, l4, l5, l6] [] G1 := by
      intro r
      induction r with
      | zero =>
        intro n m hr hm hb G1 f1 l4 l5 l6
        have w1 : G1 298 = G 298 := fr_k f1 (fun j e => by unfold SR at e; omega)
        apply zs_261_21 <;> intros
        case h2 =>
          have e : (n : Int) = G 298 2 := by omega
          rw [bmk_eq (P := ded (G 298) day (G 298 2)) hm (fun b b0 b1 => (hb b b0 b1).trans (by
            rw [e]
            refine ⟨fun z => ⟨?_, z⟩, fun z => z.2⟩
            obtain ⟨q, q0, q1, ⟨c, i, i0, i1, h⟩, _⟩ := z
            have hbq := hbd_rg wf q day
            have := (WF_b wf (b := hbd (G 298) q day) (by omega) (by omega)).2.2.2.2 i i0 i1
            rw [h] at this
            omega))]
          exact hQ G1 f1
        all_goals (rw [w1] at *; first | omega | (repeat' first | exact hrg _ | assumption | (unfold rg; omega) | omega | refine And.intro ?_ ?_))
      | succ r ih =>
        intro n m hr hm hb G1 f1 l4 l5 l6
        have w1 : G1 298 = G 298 := fr_k f1 (fun j e => by unfold SR at e; omega)
        have d1 : G1 297 7 = -1 := (f1 _ _ (fun e => by unfold SR at e; omega)).trans hd
        have hbr := hbd_rg wf n day
        have st : ∀ b, ded (G 298) day ((n : Int) + 1) b ↔ (ded (G 298) day n b ∨ (lnk (G 298) b day n ∧ hbd (G 298) b (ndy (G 298) n day) = -1)) := fun b => by
          constructor
          · rintro ⟨q, q0, q1, h⟩
            by_cases e : q = n
            · rw [e] at h; exact Or.inr h
            · exact Or.inl ⟨q, q0, by omega, h⟩
          · rintro (⟨q, q0, q1, h⟩ | h)
            · exact ⟨q, q0, by omega, h⟩
            · exact ⟨n, by omega, by omega, h⟩
        have done : ∀ m', rg m' → (∀ b, 0 ≤ b → b < 32 → (zt m' b ↔ ded (G 298) day ((n : Int) + 1) b)) → ∀ G2, fr G G2 SR → ∀ l4 l5 l6, zAt xT_261 (zW (d + 7)) Q 21 [zr 9 0 297, zi day, zi m', zi ((n : Int) + 1), l4, l5, l6] [] G2 := fun m' hm' hb' G2 f2 l4 l5 l6 => ih (n + 1) m' (by omega) hm' (fun b b0 b1 => by rw [hb' b b0 b1]; rfl) G2 f2 l4 l5 l6
        apply zs_261_21 <;> intros
        case h3 =>
          refine c255 wf w1 d1 ⟨by omega, by omega⟩ (fun c G2 f2 => ?_) (fun c G2 f2 g43 g44 => ?_)
          · have f12 := fr_trans f1 f2 (fun k j t => S255_SR t)
            apply zs_261_37 <;> intros
            case h3 => exact done m hm (fun b b0 b1 => by rw [hb b b0 b1, st b]; exact ⟨Or.inl, fun z => z.resolve_right (fun e => e.1.1 c)⟩) G2 f12 _ _ _
            all_goals first | omega | (repeat' first | exact hrg _ | assumption | (unfold rg; omega) | omega | refine And.intro ?_ ?_)
          · have f12 := fr_trans f1 f2 (fun k j t => S255_SR t)
            have wb := WF_b wf (b := hbd (G 298) n day) (by omega) (by omega)
            have nr' := ndy_rg wf hg.2.1 hg.2.2 c
            have inn : ∀ (r j : Nat) (m' : Int), j + r = (((G 298) ((6 + (11 * (hbd (G 298) n day))) + 2))).toNat → rg m' → (∀ b, 0 ≤ b → b < 32 → (zt m' b ↔ (ded (G 298) day n b ∨ (hbd (G 298) b (ndy (G 298) n day) = -1 ∧ ∃ i, 0 ≤ i ∧ i < (j : Int) ∧ ((G 298) (((6 + (11 * (hbd (G 298) n day))) + 7) + i)) = b)))) → ∀ G3, fr G G3 SR → zAt xT_261 (zW (d + 7)) Q 58 [zr 9 0 297, zi day, zi m', zi n, zi (hbd (G 298) n day), zi (ndy (G 298) n day), zi j] [] G3 := by
              intro r
              induction r with
              | zero =>
                intro j m' hj hm' hb' G3 f3
                have w3 : G3 298 = G 298 := fr_k f3 (fun j e => by unfold SR at e; omega)
                have hrg3 : ∀ j, rg (G3 298 j) := by rw [w3]; exact hrg
                apply zs_261_58 <;> intros
                case h2 =>
                  refine done m' hm' (fun b b0 b1 => ?_) G3 f3 _ _ _
                  rw [hb' b b0 b1, st b]
                  refine or_congr Iff.rfl ⟨fun ⟨h1, i, i0, i1, h⟩ => ⟨⟨c, i, i0, by omega, h⟩, h1⟩, fun ⟨⟨_, i, i0, i1, h⟩, h1⟩ => ⟨h1, i, i0, by omega, h⟩⟩
                all_goals first | omega | (rw [w3] at *; omega) | (rw [w3]; (repeat' first | exact hrg _ | assumption | (unfold rg; omega) | omega | refine And.intro ?_ ?_))
              | succ r ih2 =>
                intro j m' hj hm' hb' G3 f3
                have w3 : G3 298 = G 298 := fr_k f3 (fun j e => by unfold SR at e; omega)
                have d3 : G3 297 7 = -1 := (f3 _ _ (fun e => by unfold SR at e; omega)).trans hd
                have hl := wb.2.2.2.2 j (by omega) (by omega)
                have ih2 := ih2 (j + 1)
                apply zs_261_58 <;> intros
                case h4 =>
                  rw [w3]
                  refine c255 (d := d + 2) wf w3 d3 ⟨hl, nr'⟩ (fun c2 G4 f4 => ?_) (fun c2 G4 f4 _ _ => ?_)
                  · have f14 := fr_trans f3 f4 (fun k j t => S255_SR t)
                    have w4 : G4 298 = G 298 := fr_k f14 (fun j e => by unfold SR at e; omega)
                    apply zs_261_84 <;> intros
                    case h3 =>
                      rw [w4]
                      refine ih2 _ (by omega) (rg_zor _ _) (fun b b0 b1 => ?_) G4 f14
                      rw [zt_or1 (by omega) (by omega) b0 b1, hb' b b0 b1]
                      constructor
                      · rintro ((h | ⟨h1, i, i0, i1, h⟩) | h)
                        · exact Or.inl h
                        · exact Or.inr ⟨h1, i, i0, by omega, h⟩
                        · exact Or.inr ⟨h ▸ c2, j, by omega, by omega, h⟩
                      · rintro (h | ⟨h1, i, i0, i1, h⟩)
                        · exact Or.inl (Or.inl h)
                        · by_cases e : i = j
                          · rw [e] at h; exact Or.inr h
                          · exact Or.inl (Or.inr ⟨h1, i, i0, by omega, h⟩)
                    all_goals first | omega | (repeat' first | exact hrg _ | assumption | (unfold rg; omega) | omega | refine And.intro ?_ ?_)
                  · have f14 := fr_trans f3 f4 (fun k j t => S255_SR t)
                    apply zs_261_84 <;> intros
                    case h4 =>
                      rw [zor_0 hm']
                      refine ih2 m' (by omega) hm' (fun b b0 b1 => ?_) G4 f14
                      rw [hb' b b0 b1]
                      refine or_congr Iff.rfl ⟨fun ⟨h1, i, i0, i1, h⟩ => ⟨h1, i, i0, by omega, h⟩, fun ⟨h1, i, i0, i1, h⟩ => ⟨h1, i, i0, ?_, h⟩⟩
                      by_cases e : i = j
                      · rw [e] at h; rw [h] at c2; exact absurd h1 c2
                      · omega
                    all_goals first | omega | (repeat' first | exact hrg _ | assumption | (unfold rg; omega) | omega | refine And.intro ?_ ?_)
                all_goals first | omega | (rw [w3] at *; omega) | (rw [w3]; (repeat' first | exact hrg _ | assumption | (unfold rg; omega) | omega | refine And.intro ?_ ?_))
            apply zs_261_37 <;> intros
            case h2 =>
              rw [g43, g44]
              refine inn (((G 298) ((6 + (11 * (hbd (G 298) n day))) + 2))).toNat 0 m (by omega) hm (fun b b0 b1 => ?_) G2 f12
              rw [hb b b0 b1]
              exact ⟨Or.inl, fun z => z.elim id (fun ⟨_, i, i0, i1, _⟩ => by omega)⟩
            all_goals first | omega | (repeat' first | exact hrg _ | assumption | (unfold rg; omega) | omega | refine And.intro ?_ ?_)
        all_goals (rw [w1] at *; first | omega | (repeat' first | exact hrg _ | assumption | (unfold rg; omega) | omega | refine And.intro ?_ ?_))
    apply zs_261_0 <;> intros
    case h4 => exact key (G 298 2).toNat 0 0 (by omega) ⟨by omega, by omega⟩ (fun b b0 b1 => ⟨fun z => absurd z (zt_0 b), fun ⟨q, q0, q1, _⟩ => by omega⟩) G (fr_refl _ _) _ _ _
    all_goals first | omega | (repeat' first | exact hrg _ | assumption | (unfold rg; omega) | omega | refine And.intro ?_ ?_)
  · rw [bP_f hg] at hQ
    apply zs_261_0 <;> intros
    all_goals first | omega | exact hQ G (fr_refl _ _) | (repeat' first | exact hrg _ | assumption | (unfold rg; omega) | omega | refine And.intro ?_ ?_)
end RE
section KV
variable {d : Nat} {G : zG} {Q : zQ} {a : Int} {w : Int → Int}
/-- the walk of a click, as the class has it -/
theorem WM_h (wf : WF w) {kw p day : Int} (hW : WM G kw 66 (wy w (-1) p day)) (hI : IX G 66 a w (-1)) (hA : ARC G a w) : G kw 0 = 66 ∧ (G kw 3 = -1 ∨ (0 ≤ G kw 3 ∧ G kw 3 < w 4)) ∧ (G kw 3 = -1 → hbd w p day = -1) ∧ (G kw 3 ≠ -1 → G (66 + 3) (G kw 3) = hbd w p day ∧ G (a + 8) (G kw 3) = (w ((116 + (4 * ((wy w (-1) p day).2.1))) + 1))) ∧ G 66 0 = a ∧ G 66 1 = w 1 ∧ (hbd w p day = -1 ↔ G kw 4 ≠ 0) ∧ (0 ≤ G kw 4 ∧ G kw 4 ≤ 4) ∧ G kw 3 = (wy w (-1) p day).2.1 := by
  have hs := wy_sho wf p day
  have hr := wy_rg wf (-1) p day
  have hh := (held_eq (dr := -1) wf p day).1
  have hh : hbd w p day = -1 ↔ (wy w (-1) p day).2.2 ≠ 0 := hh
  obtain ⟨g0, _, g3, g4, _⟩ := hW
  refine ⟨g0, ?_, fun e => ?_, fun e => ?_, hI.1, hI.2.1, by rw [g4]; exact hh, by rw [g4]; omega, g3⟩
  · rw [g3]
    rcases hs with h | h
    · exact Or.inl h.1
    · exact Or.inr ⟨h.2.1.1, h.2.1.2.1⟩
  · rw [g3] at e; exact (hs.resolve_right (fun z => z.1 e)).2
  · rw [g3] at e ⊢
    have h := hs.resolve_left (fun z => e z.1)
    exact ⟨by rw [h.2.2]; exact (hI.2.2.2.2.1 _ h.2.1).1.1, (hA.2.2.2.2 _ h.2.1.1 h.2.1.2.1).2.1⟩
theorem CI_wk {G1 : zG} (hC : CI G a w) (hI : IX G 66 a w (-1)) (f : fr G G1 (fun k _ => k = 92 ∨ k = 92 + 1)) : CI G1 a w ∧ IX G1 66 a w (-1) := by
  have e : ∀ k j, k ≤ 78 → G1 k j = G k j := fun k j h => f k j (by omega)
  exact ⟨CI_keep hC e, IX_fr hI (fun k j k0 k1 => e k j (by omega))⟩
set_option maxHeartbeats 4000000 in
theorem k_click (wf : WF w) (hC : CI G a w) {p day i k : Int} (hp : rg p) (hdd : rg day) (hi : rg i) (hk : rg k) (hQ : ∀ G1, fr G G1 SC → CI G1 a w → Q (some (zi (q_click w p day i k))) G1) : zW (d + 8) 134 [zr 8 0 0, zi p, zi day, zi i, zi k] G Q := by
  obtain ⟨h03, ha, hA, ⟨ha0, ha1, ha2⟩, hs7, hix⟩ := hC; have hC : CI G a w := ⟨h03, ha, hA, ⟨ha0, ha1, ha2⟩, hs7, hix⟩; obtain ⟨n0, n1, n2, n3, n4, n5⟩ := WF_n wf; have hrg := WF_rg wf; have e3 : G (G 0 3) 3 = w 2 := by { rw [h03]; exact hA.1 }; have e4 : G (G 0 3) 4 = w 3 := by { rw [h03]; exact hA.2.1 }; have e5 : G (G 0 3) 5 = w 4 := by { rw [h03]; exact hA.2.2.1 }; have e2 : G (G 0 3) 2 = w 5 := by { rw [h03]; exact ha2 }
  unfold q_click at hQ
  refine zm_134 ?_
  by_cases hg : okPD w p day ∧ 0 ≤ i ∧ 0 ≤ k ∧ k ≤ 1
  · rw [bP_t hg] at hQ
    have hg' := hg
    unfold okPD at hg'
    have hb := hbd_rg wf p day
    apply zs_134_0 <;> intros
    case h10 =>
      refine c153 wf hC (fun G1 f1 hC1 hI1 h71 => zs_134_38 ?_)
      refine c89 wf ha (by omega) hI1 hC1.2.2.1 (kw := 92) (by omega) (by omega) (by omega) (by omega) (by omega) (fun G2 f2 hW => ?_)
      obtain ⟨hC2, hI2⟩ := CI_wk hC1 hI1 f2
      have hQ2 := hQ G2 (fr_trans (fr_wide f1 (by intro k j t; unfold SC; omega)) f2 (by intro k j t; unfold SC; omega)) hC2
      obtain ⟨x0, x1, x2, x3, x4, x5, x6, x7, x8⟩ := WM_h wf hW hI2 hC2.2.2.1
      have g03 : G2 0 3 = a := hC2.1
      by_cases c3 : G2 92 3 = -1
      · rw [if_pos (x2 c3)] at hQ2
        apply zs_134_51 <;> intros
        case h14 => exact hQ2
        all_goals first | omega | (repeat' first | exact hrg _ | assumption | (unfold rg; omega) | omega | refine And.intro ?_ ?_)
      · obtain ⟨y1, y2⟩ := x3 c3
        have z1 := x1.resolve_left c3
        have hnd : ndy w p day = if w 1 = 1 then G2 (a + 8) (G2 92 3) else day := by unfold ndy; rw [y2]
        by_cases c : hbd w p day = -1
        · rw [if_pos c] at hQ2
          apply zs_134_51 <;> intros
          case h4 => exact hQ2
          all_goals (rw [x0] at *; first | omega | (unfold rg; omega) | (rw [y1] at *; omega) | (rw [y1]; (repeat' first | exact hrg _ | assumption | (unfold rg; omega) | omega | refine And.intro ?_ ?_); done) | (repeat' first | exact hrg _ | assumption | (unfold rg; omega) | omega | refine And.intro ?_ ?_))
        · rw [if_neg c] at hQ2
          have wb := WF_b wf (b := hbd w p day) (by omega) (by omega)
          obtain ⟨a1, a2, a3, a4, a5, a6⟩ := hC2.2.2.1.2.2.2.1 (hbd w p day) (by omega) (by omega)
          apply zs_134_51 <;> intros
          case h8 => rename_i h1 h2 h3; rw [x0, y1, g03, a3] at h1; rw [x0, x5] at h3; rw [if_neg (by omega), if_neg h2, hnd, if_neg (by omega)] at hQ2; exact hQ2
          case h10 => rename_i h1 h2 h3; rw [x0, y1, g03, a3] at h1; rw [x0, x5] at h3; rw [if_neg (by omega), if_neg h2, hnd, if_pos (by omega)] at hQ2; rw [x0, x4]; exact hQ2
          case h12 => rename_i h1 h2; rw [x0, y1, g03, a3] at h1; rw [if_neg (by omega), if_pos h2] at hQ2; rw [x0, y1, g03, a6 i (by omega) (by omega)]; exact hQ2
          case h13 => rename_i h1; rw [x0, y1, g03, a3] at h1; rw [if_pos (by omega)] at hQ2; exact hQ2
          all_goals (rw [x0] at *; first | omega | (unfold rg; omega) | (rw [y1, g03, a3] at *; omega) | (rw [y1] at *; omega) | (rw [y1, g03, a3]; (repeat' first | exact hrg _ | assumption | (unfold rg; omega) | omega | refine And.intro ?_ ?_); done) | (rw [x5]; (repeat' first | exact hrg _ | assumption | (unfold rg; omega) | omega | refine And.intro ?_ ?_); done) | (rw [x4]; (repeat' first | exact hrg _ | assumption | (unfold rg; omega) | omega | refine And.intro ?_ ?_); done) | (rw [y1]; (repeat' first | exact hrg _ | assumption | (unfold rg; omega) | omega | refine And.intro ?_ ?_); done) | (repeat' first | exact hrg _ | assumption | (unfold rg; omega) | omega | refine And.intro ?_ ?_))
    all_goals first | omega | (repeat' first | exact hrg _ | assumption | (unfold rg; omega) | omega | refine And.intro ?_ ?_)
  · rw [bP_f hg] at hQ
    unfold okPD at hg
    apply zs_134_0 <;> intros
    all_goals first | omega | exact hQ G (fr_refl _ _) hC | (repeat' first | exact hrg _ | assumption | (unfold rg; omega) | omega | refine And.intro ?_ ?_)
set_option maxHeartbeats 4000000 in
theorem c6 (wf : WF w) (hA : ARC G a w) (ha : 5 ≤ a) {b p : Int} (b0 : 0 ≤ b) (b1 : b < w 3) (hp : rg p) (hY : (∃ i, 0 ≤ i ∧ i < (w ((6 + (11 * b)) + 2)) ∧ (w (((6 + (11 * b)) + 7) + i)) = p) → Q (some (zi 1)) G) (hN : ¬ (∃ i, 0 ≤ i ∧ i < (w ((6 + (11 * b)) + 2)) ∧ (w (((6 + (11 * b)) + 7) + i)) = p) → Q (some (zi 0)) G) : zW (d + 2) 6 [zr 0 0 a, zi b, zi p] G Q := by
  obtain ⟨n0, n1, n2, n3, n4, n5⟩ := WF_n wf
  have wb := WF_b wf b0 b1
  obtain ⟨a1, a2, a3, a4, a5, a6⟩ := hA.2.2.2.1 b b0 b1
  refine zm_6 (zs_6_0 ?_)
  have key : ∀ (r : Nat) (j : Int), 0 ≤ j → j + r = (w ((6 + (11 * b)) + 2)) → (∀ i, 0 ≤ i → i < j → (w (((6 + (11 * b)) + 7) + i)) ≠ p) → zAt xT_6 (zW (d + 1)) Q 2 [zr 0 0 a, zi b, zi p, zi j] [] G := by
    intro r
    induction r with
    | zero =>
      intro j j0 j1 hn
      apply zs_6_2 <;> intros
      case h2 => exact hN (fun ⟨i, i0, i1, h⟩ => hn i i0 (by omega) h)
      all_goals first | omega | (rw [a3]; (repeat' first | exact hrg _ | assumption | (unfold rg; omega) | omega | refine And.intro ?_ ?_))
    | succ r ih =>
      intro j j0 j1 hn
      have e := a6 j j0 (by omega)
      have lr := wb.2.2.2.2 j j0 (by omega)
      apply zs_6_2 <;> intros
      case h4 =>
        rename_i h
        rw [e] at h
        refine ih (j + 1) (by omega) (by omega) (fun i i0 i1 => ?_)
        by_cases c : i = j
        · rw [c]; exact h
        · exact hn i i0 (by omega)
      case h5 => rename_i h; rw [e] at h; exact hY ⟨j, j0, by omega, h⟩
      all_goals first | omega | (rw [e]; (repeat' first | exact hrg _ | assumption | (unfold rg; omega) | omega | refine And.intro ?_ ?_); done) | (rw [a3]; (repeat' first | exact hrg _ | assumption | (unfold rg; omega) | omega | refine And.intro ?_ ?_))
  exact key ((w ((6 + (11 * b)) + 2))).toNat 0 (by omega) (by omega) (fun i i0 i1 => by omega)
set_option maxHeartbeats 4000000 in
theorem k_linking (wf : WF w) (hC : CI G a w) {p day : Int} (hp : rg p) (hdd : rg day) (hQ : ∀ G1, fr G G1 SC → CI G1 a w → Q (some (zi (q_linking w p day))) G1) : zW (d + 8) 137 [zr 8 0 0, zi p, zi day] G Q := by
  obtain ⟨h03, ha, hA, ⟨ha0, ha1, ha2⟩, hs7, hix⟩ := hC; have hC : CI G a w := ⟨h03, ha, hA, ⟨ha0, ha1, ha2⟩, hs7, hix⟩; obtain ⟨n0, n1, n2, n3, n4, n5⟩ := WF_n wf; have hrg := WF_rg wf; have e3 : G (G 0 3) 3 = w 2 := by { rw [h03]; exact hA.1 }; have e4 : G (G 0 3) 4 = w 3 := by { rw [h03]; exact hA.2.1 }; have e5 : G (G 0 3) 5 = w 4 := by { rw [h03]; exact hA.2.2.1 }; have e2 : G (G 0 3) 2 = w 5 := by { rw [h03]; exact ha2 }
  unfold q_linking at hQ
  refine zm_137 ?_
  by_cases hg : okPD w p day
  · rw [bP_t hg] at hQ
    have hg' := hg
    unfold okPD at hg'
    have key : ∀ (r n : Nat) (m : Int), n + r = (w 2).toNat → rg m → (∀ b, 0 ≤ b → b < 32 → (zt m b ↔ (b < n ∧ lnk w p day b))) → ∀ G1, fr G G1 SC → CI G1 a w → IX G1 66 a w (-1) → ∀ l6, zAt xT_137 (zW (d + 7)) Q 30 [zr 8 0 0, zi p, zi day, zr 1 0 66, zi m, zi n, l6] [] G1 := by
      intro r
      induction r with
      | zero =>
        intro n m hr hm hb G1 f1 hC1 hI1 l6
        have g03 : G1 0 3 = a := hC1.1
        have g3 : G1 a 3 = w 2 := hC1.2.2.1.1
        apply zs_137_30 <;> intros
        case h2 =>
          rw [bmk_eq (P := fun q => q < w 2 ∧ lnk w p day q) hm (fun b b0 b1 => (hb b b0 b1).trans ⟨fun z => ⟨by omega, by omega, z.2⟩, fun z => ⟨by omega, z.2.2⟩⟩)]
          exact hQ G1 f1 hC1
        all_goals (rw [g03] at *; first | omega | (repeat' first | exact hrg _ | assumption | (unfold rg; omega) | omega | refine And.intro ?_ ?_))
      | succ r ih =>
        intro n m hr hm hb G1 f1 hC1 hI1 l6
        have g03 : G1 0 3 = a := hC1.1
        have g3 : G1 a 3 = w 2 := hC1.2.2.1.1
        have hbr := hbd_rg wf n day
        apply zs_137_30 <;> intros
        case h3 =>
          refine c89 wf ha (by omega) hI1 hC1.2.2.1 (kw := 92) (by omega) (by omega) (by omega) (by omega) (by omega) (fun G2 f2 hW => ?_)
          obtain ⟨hC2, hI2⟩ := CI_wk hC1 hI1 f2
          have f12 := fr_trans f1 f2 (S := SC) (by intro k j t; unfold SC; omega)
          obtain ⟨x0, x1, x2, x3, x4, x5, x6, x7, x8⟩ := WM_h wf hW hI2 hC2.2.2.1
          have h03 : G2 0 3 = a := hC2.1
          have no : ¬ lnk w p day n → ∀ l6, zAt xT_137 (zW (d + 7)) Q 30 [zr 8 0 0, zi p, zi day, zr 1 0 66, zi m, zi ((n : Int) + 1), l6] [] G2 := fun hn l6 => ih (n + 1) m (by omega) hm (fun b b0 b1 => by
            rw [hb b b0 b1]
            exact ⟨fun z => ⟨by omega, z.2⟩, fun z => ⟨by
              by_cases e : b = n
              · exact absurd (e ▸ z.2) hn
              · omega, z.2⟩⟩) G2 f12 hC2 hI2 l6
          have yes : lnk w p day n → ∀ l6, zAt xT_137 (zW (d + 7)) Q 30 [zr 8 0 0, zi p, zi day, zr 1 0 66, zi (zor m (zshl 1 n)), zi ((n : Int) + 1), l6] [] G2 := fun hn l6 => ih (n + 1) _ (by omega) (rg_zor _ _) (fun b b0 b1 => by
            rw [zt_or1 (by omega) (by omega) b0 b1, hb b b0 b1]
            constructor
            · rintro (h | h)
              · exact ⟨by omega, h.2⟩
              · exact ⟨by omega, h ▸ hn⟩
            · rintro ⟨h1, h2⟩
              by_cases e : b = n
              · exact Or.inr e.symm
              · exact Or.inl ⟨by omega, h2⟩) G2 f12 hC2 hI2 l6
          by_cases c3 : G2 92 3 = -1
          · apply zs_137_53 <;> intros
            case h7 => exact no (fun z => z.1 (x2 c3)) _
            all_goals first | omega | (repeat' first | exact hrg _ | assumption | (unfold rg; omega) | omega | refine And.intro ?_ ?_)
          · obtain ⟨y1, y2⟩ := x3 c3
            have z1 := x1.resolve_left c3
            by_cases c : hbd w n day = -1
            · apply zs_137_53 <;> intros
              case h4 => exact no (fun z => z.1 c) _
              all_goals (rw [x0] at *; first | omega | (unfold rg; omega) | (rw [y1] at *; omega) | (rw [y1]; (repeat' first | exact hrg _ | assumption | (unfold rg; omega) | omega | refine And.intro ?_ ?_); done) | (repeat' first | exact hrg _ | assumption | (unfold rg; omega) | omega | refine And.intro ?_ ?_))
            · apply zs_137_53 <;> intros
              case h6 =>
                rw [x0, y1, h03]
                refine c6 wf hC2.2.2.1 ha.1 (by omega) (by omega) hp (fun hl => ?_) (fun hl => ?_)
                · apply zs_137_78 <;> intros
                  case h3 => exact yes ⟨c, hl⟩ _
                  all_goals first | omega | (repeat' first | exact hrg _ | assumption | (unfold rg; omega) | omega | refine And.intro ?_ ?_)
                · apply zs_137_78 <;> intros
                  case h2 => exact no (fun z => hl z.2) _
                  all_goals first | omega | (repeat' first | exact hrg _ | assumption | (unfold rg; omega) | omega | refine And.intro ?_ ?_)
              all_goals (rw [x0] at *; first | omega | (unfold rg; omega) | (rw [y1] at *; omega) | (rw [y1]; (repeat' first | exact hrg _ | assumption | (unfold rg; omega) | omega | refine And.intro ?_ ?_); done) | (repeat' first | exact hrg _ | assumption | (unfold rg; omega) | omega | refine And.intro ?_ ?_))
        all_goals (rw [g03] at *; first | omega | (repeat' first | exact hrg _ | assumption | (unfold rg; omega) | omega | refine And.intro ?_ ?_))
    apply zs_137_0 <;> intros
    case h6 =>
      refine c153 wf hC (fun G1 f1 hC1 hI1 h71 => zs_137_23 ?_)
      exact key (w 2).toNat 0 0 (by omega) ⟨by omega, by omega⟩ (fun b b0 b1 => ⟨fun z => absurd z (zt_0 b), fun z => by have := z.1; omega⟩) G1 (fr_wide f1 (by intro k j t; unfold SC; omega)) hC1 hI1 _
    all_goals first | omega | (repeat' first | exact hrg _ | assumption | (unfold rg; omega) | omega | refine And.intro ?_ ?_)
  · rw [bP_f hg] at hQ
    unfold okPD at hg
    apply zs_137_0 <;> intros
    all_goals first | omega | exact hQ G (fr_refl _ _) hC | (repeat' first | exact hrg _ | assumption | (unfold rg; omega) | omega | refine And.intro ?_ ?_)
end KV
