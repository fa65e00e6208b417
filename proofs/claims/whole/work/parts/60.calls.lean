/-! THE CALLS: both, bothOn, by, run by the class -/
section KV
variable {d : Nat} {G : zG} {Q : zQ} {a : Int} {w : Int → Int}
theorem CI_keep {G1 : zG} (hC : CI G a w) (e : ∀ k j, k ≤ 78 → G1 k j = G k j) : CI G1 a w := by
  obtain ⟨h03, ha, hA, ⟨h0, h1, h2⟩, hs, hx⟩ := hC
  refine ⟨(e _ _ (by omega)).trans h03, ha, ARC_fr hA (fun k j k0 k1 => e k j (by omega)), ⟨(e _ _ (by omega)).trans h0, (e _ _ (by omega)).trans h1, (e _ _ (by omega)).trans h2⟩, ?_, fun z => ?_⟩
  · rw [e _ _ (by omega)]; exact hs
  · rw [e _ _ (by omega)] at z; exact IX_fr (hx z) (fun k j k0 k1 => e k j (by omega))
theorem all_d (wf : WF w) (dr p day : Int) : Q4d (allS w dr (vw w dr p day)) := by
  have h := foldB_d (dr := dr) (but := -1) wf (vw w dr p day) 0 o4 o4_d
  rw [foldB_all _ 0 o4 (by omega)] at h
  exact h
set_option maxHeartbeats 4000000 in
theorem c155 (wf : WF w) (hC : CI G a w) {p q day : Int} (hg : okPD w p day) (hq : 0 ≤ q ∧ q < w 2) (hQ : ∀ G1, fr G G1 SC → CI G1 a w → IX G1 66 a w (-1) → G1 0 7 = 0 → Q (some (zi (bth w p q day))) G1) : zW (d + 10) 155 [zr 8 0 0, zi p, zi q, zi day] G Q := by
  have ha := hC.2.1
  refine zm_155 (zs_155_0 (c153 wf hC (fun G1 f1 hC1 hI1 h71 => zs_155_4 ?_)))
  refine c73 wf ha (by omega) (by omega) hI1 hC1.2.2.1 hg.1.1 hg.1.2 hg.2.1 hg.2.2 (fun G2 f2 hV h0 => zs_155_17 ?_)
  have hI2 : IX G2 66 a w (-1) := IX_fr hI1 (fun k j k0 k1 => f2 k j (by unfold SB; omega))
  have hA2 : ARC G2 a w := ARC_fr hC1.2.2.1 (fun k j k0 k1 => f2 k j (by unfold SB; omega))
  refine c73 wf ha (by omega) (by omega) hI2 hA2 hq.1 hq.2 hg.2.1 hg.2.2 (fun G3 f3 hW h1 => ?_)
  have dA := all_d wf (-1) p day
  have dB := all_d wf (-1) q day
  obtain ⟨q1, q2, q3, q4⟩ := hV.2.1
  obtain ⟨r1, r2, r3, r4⟩ := hW.2.1
  have q1 : G3 188 0 = _ := (f3 188 0 (by unfold SB; omega)).trans q1
  have q2 : G3 188 1 = _ := (f3 188 1 (by unfold SB; omega)).trans q2
  have q3 : G3 188 2 = _ := (f3 188 2 (by unfold SB; omega)).trans q3
  have q4 : G3 188 3 = _ := (f3 188 3 (by unfold SB; omega)).trans q4
  have r1 : G3 284 0 = _ := r1
  have r2 : G3 284 1 = _ := r2
  have r3 : G3 284 2 = _ := r3
  have r4 : G3 284 3 = _ := r4
  have fin : ∀ x1 x2 x3 x4, Q (some (zi (bth w p q day))) (zu (zu (zu (zu G3 188 0 x1) 188 1 x2) 188 2 x3) 188 3 x4) := fun x1 x2 x3 x4 => by
    have e : ∀ k j, k ≤ 78 → (zu (zu (zu (zu G3 188 0 x1) 188 1 x2) 188 2 x3) 188 3 x4) k j = G1 k j := fun k j h => by
      rw [zu_k (by omega), zu_k (by omega), zu_k (by omega), zu_k (by omega), f3 k j (by unfold SB; omega), f2 k j (by unfold SB; omega)]
    refine hQ _ ?_ (CI_keep hC1 e) (IX_fr hI1 (fun k j k0 k1 => e k j (by omega))) ((e 0 7 (by omega)).trans h71)
    refine fr_u (fr_u (fr_u (fr_u ?_ (by unfold SC; omega)) (by unfold SC; omega)) (by unfold SC; omega)) (by unfold SC; omega)
    refine fr_trans (fr_trans (fr_wide f1 (by intro k j t; unfold SC; omega)) f2 (by intro k j t; unfold SB at t; unfold SC; omega)) f3 (by intro k j t; unfold SB at t; unfold SC; omega)
  unfold bth vd nar at fin
  simp only at fin
  generalize allS w (-1) (vw w (-1) p day) = A at *
  generalize allS w (-1) (vw w (-1) q day) = B at *
  unfold Q4d at dA dB
  apply zs_155_28 <;> intros
  case h3 => rw [if_neg (by omega), if_neg (by omega)] at fin; exact fin _ _ _ _
  case h4 => rw [if_neg (by omega), if_pos (by omega)] at fin; exact fin _ _ _ _
  case h5 => rw [if_pos (by omega)] at fin; exact fin _ _ _ _
  all_goals first | omega | (repeat' first | exact hrg _ | assumption | (unfold rg; omega) | omega | refine And.intro ?_ ?_)
set_option maxHeartbeats 4000000 in
theorem k_both (wf : WF w) (hC : CI G a w) {p q day : Int} (hp : rg p) (hq : rg q) (hdd : rg day) (hQ : ∀ G1, fr G G1 SC → CI G1 a w → Q (some (zi (q_both w p q day))) G1) : zW (d + 12) 118 [zr 8 0 0, zi p, zi q, zi day] G Q := by
  obtain ⟨h03, ha, hA, ⟨ha0, ha1, ha2⟩, hs7, hix⟩ := hC; have hC : CI G a w := ⟨h03, ha, hA, ⟨ha0, ha1, ha2⟩, hs7, hix⟩; obtain ⟨n0, n1, n2, n3, n4, n5⟩ := WF_n wf; have hrg := WF_rg wf; have e3 : G (G 0 3) 3 = w 2 := by { rw [h03]; exact hA.1 }; have e4 : G (G 0 3) 4 = w 3 := by { rw [h03]; exact hA.2.1 }; have e5 : G (G 0 3) 5 = w 4 := by { rw [h03]; exact hA.2.2.1 }; have e2 : G (G 0 3) 2 = w 5 := by { rw [h03]; exact ha2 }
  unfold q_both at hQ
  refine zm_118 ?_
  by_cases hg : okPD w p day ∧ 0 ≤ q ∧ q < w 2
  · rw [bP_t hg] at hQ
    have hg' := hg
    unfold okPD at hg'
    apply zs_118_0 <;> intros
    case h9 => exact c155 wf hC hg.1 hg.2 (fun G1 f1 hC1 _ _ => zs_118_34 (hQ G1 f1 hC1))
    all_goals first | omega | (repeat' first | exact hrg _ | assumption | (unfold rg; omega) | omega | refine And.intro ?_ ?_)
  · rw [bP_f hg] at hQ
    unfold okPD at hg
    apply zs_118_0 <;> intros
    all_goals first | omega | exact hQ G (fr_refl _ _) hC | (repeat' first | exact hrg _ | assumption | (unfold rg; omega) | omega | refine And.intro ?_ ?_)
set_option maxHeartbeats 4000000 in
theorem k_bothOn (wf : WF w) (hC : CI G a w) {p q k : Int} (hp : rg p) (hq : rg q) (hk : rg k) (hQ : ∀ G1, fr G G1 SC → CI G1 a w → Q (some (zi (q_bothOn w p q k))) G1) : zW (d + 12) 126 [zr 8 0 0, zi p, zi q, zi k] G Q := by
  obtain ⟨h03, ha, hA, ⟨ha0, ha1, ha2⟩, hs7, hix⟩ := hC; have hC : CI G a w := ⟨h03, ha, hA, ⟨ha0, ha1, ha2⟩, hs7, hix⟩; obtain ⟨n0, n1, n2, n3, n4, n5⟩ := WF_n wf; have hrg := WF_rg wf; have e3 : G (G 0 3) 3 = w 2 := by { rw [h03]; exact hA.1 }; have e4 : G (G 0 3) 4 = w 3 := by { rw [h03]; exact hA.2.1 }; have e5 : G (G 0 3) 5 = w 4 := by { rw [h03]; exact hA.2.2.1 }; have e2 : G (G 0 3) 2 = w 5 := by { rw [h03]; exact ha2 }
  unfold q_bothOn at hQ
  refine zm_126 ?_
  by_cases hg : (0 ≤ p ∧ p < w 2) ∧ (0 ≤ q ∧ q < w 2) ∧ 0 ≤ k ∧ k ≤ 2
  · rw [bP_t hg] at hQ
    have hr : ∀ t, rg (bth w p q t) := fun t => by unfold bth vd; split; exact ⟨by omega, by omega⟩; split <;> exact ⟨by omega, by omega⟩
    have key : ∀ (r : Nat) (t : Int), 0 ≤ t → t + r = 366 → ∀ G1, fr G G1 SC → CI G1 a w → IX G1 66 a w (-1) → (∀ s, 0 ≤ s → s < t → bth w p q s ≠ k) → zAt xT_126 (zW (d + 11)) Q 36 [zr 8 0 0, zi p, zi q, zi k, zr 1 0 66, zi t] [] G1 := by
      intro r
      induction r with
      | zero =>
        intro t t0 t1 G1 f1 hC1 hI1 hn
        apply zs_126_36 <;> intros
        case h2 =>
          have hQ1 := hQ G1 f1 hC1
          rw [mn_eq (fun _ _ _ _ h => h) (Or.inl ⟨rfl, fun s hs => hn s hs.1 (by have := hs.2.1; omega) hs.2.2⟩)] at hQ1
          exact hQ1
        all_goals first | omega | (repeat' first | exact hrg _ | assumption | (unfold rg; omega) | omega | refine And.intro ?_ ?_)
      | succ r ih =>
        intro t t0 t1 G1 f1 hC1 hI1 hn
        have hT : G1 (66 + 7) t = 1 ∨ G1 (66 + 7) t = 0 := (hI1.2.2.2.2.2 t t0 (by omega)).imp (fun h => h.1) (fun h => h.1)
        apply zs_126_36 <;> intros
        case h4 =>
          rename_i hz
          refine ih (t + 1) (by omega) (by omega) G1 f1 hC1 hI1 (fun s s0 s1 => ?_)
          by_cases c : s = t
          · have hqp := vw_quiet wf hI1 t0 (by omega) hz hg.1.1 hg.1.2
            have hqq := vw_quiet wf hI1 t0 (by omega) hz hg.2.1.1 hg.2.1.2
            have e : bth w p q (t - 1) = bth w p q t := by
              unfold bth allS
              rw [SAMEL_all _ _ o4 hqp.2, SAMEL_all _ _ o4 hqq.2]
            rw [c, ← e]; exact hn (t - 1) (by omega) (by omega)
          · exact hn s s0 (by omega)
        case h5 =>
          refine c155 wf hC1 ⟨hg.1, t0, by omega⟩ hg.2.1 (fun G2 f2 hC2 hI2 h72 => ?_)
          have f12 := fr_trans f1 f2 (fun k j t => t)
          have hrt := hr t
          apply zs_126_63 <;> intros
          case h2 =>
            refine ih (t + 1) (by omega) (by omega) G2 f12 hC2 hI2 (fun s s0 s1 => ?_)
            by_cases c : s = t
            · rw [c]; assumption
            · exact hn s s0 (by omega)
          case h3 =>
            have hQ1 := hQ G2 f12 hC2
            rw [mn_eq (fun _ _ _ _ h => h) (Or.inr ⟨⟨t0, by omega, by assumption⟩, fun s hs => by
              show t ≤ s
              by_cases c : s < t
              · exact absurd hs.2.2 (hn s hs.1 c)
              · omega⟩)] at hQ1
            exact hQ1
          all_goals first | omega | (repeat' first | exact hrg _ | assumption | (unfold rg; omega) | omega | refine And.intro ?_ ?_)
        all_goals first | omega | (repeat' first | exact hrg _ | assumption | (unfold rg; omega) | omega | refine And.intro ?_ ?_)
    apply zs_126_0 <;> intros
    case h9 =>
      refine c153 wf hC (fun G1 f1 hC1 hI1 h71 => zs_126_31 ?_)
      exact key 366 0 (by omega) (by omega) G1 (fr_wide f1 (by intro k j t; unfold SC; omega)) hC1 hI1 (fun s s0 s1 => by omega)
    all_goals first | omega | (repeat' first | exact hrg _ | assumption | (unfold rg; omega) | omega | refine And.intro ?_ ?_)
  · rw [bP_f hg] at hQ
    apply zs_126_0 <;> intros
    all_goals first | omega | exact hQ G (fr_refl _ _) hC | (repeat' first | exact hrg _ | assumption | (unfold rg; omega) | omega | refine And.intro ?_ ?_)
set_option maxHeartbeats 4000000 in
theorem k_by (wf : WF w) (hC : CI G a w) {p day l m : Int} (hp : rg p) (hdd : rg day) (hl : rg l) (hm : rg m) (hQ : ∀ G1, fr G G1 SC → CI G1 a w → Q (some (zi (q_by w p day l m))) G1) : zW (d + 12) 119 [zr 8 0 0, zi p, zi day, zi l, zi m] G Q := by
  obtain ⟨h03, ha, hA, ⟨ha0, ha1, ha2⟩, hs7, hix⟩ := hC; have hC : CI G a w := ⟨h03, ha, hA, ⟨ha0, ha1, ha2⟩, hs7, hix⟩; obtain ⟨n0, n1, n2, n3, n4, n5⟩ := WF_n wf; have hrg := WF_rg wf; have e3 : G (G 0 3) 3 = w 2 := by { rw [h03]; exact hA.1 }; have e4 : G (G 0 3) 4 = w 3 := by { rw [h03]; exact hA.2.1 }; have e5 : G (G 0 3) 5 = w 4 := by { rw [h03]; exact hA.2.2.1 }; have e2 : G (G 0 3) 2 = w 5 := by { rw [h03]; exact ha2 }
  unfold q_by at hQ
  refine zm_119 ?_
  by_cases hg : okPD w p day ∧ (0 ≤ l ∧ l ≤ 2) ∧ 0 ≤ m ∧ m ≤ 1
  · rw [bP_t hg] at hQ
    have hg' := hg
    unfold okPD at hg'
    have wf2 := wby_WF wf hg.2.1 hg.2.2
    apply zs_119_0 <;> intros
    case h12 =>
      rw [h03]
      refine c19 (w := wby w l m) wf2 ha (x := 79) (by omega) (wby_ARC hA) ⟨by omega, by omega⟩ (fun G1 f1 hI => zs_119_44 ?_)
      refine c73 (w := wby w l m) wf2 ha (x := 79) (by omega) (by omega) hI (ARC_fr (wby_ARC hA) (fun k j k0 k1 => f1 k j (by omega))) (by omega) (by rw [wby_k (by omega)]; omega) (by omega) (by omega) (fun G2 f2 hV h0 => ?_)
      have e : ∀ k j, k ≤ 78 → G2 k j = G k j := fun k j h => by rw [f2 k j (by unfold SB; omega), f1 k j (by omega)]
      have hQ2 := hQ G2 (fr_trans (fr_wide f1 (by intro k j t; unfold SC; omega)) f2 (by intro k j t; unfold SB at t; unfold SC; omega)) (CI_keep hC e)
      have dA := all_d wf2 (-1) p day
      unfold jdg at hQ2
      obtain ⟨q1, q2, q3, q4⟩ := hV.2.1
      have q1 : G2 188 0 = _ := q1
      have q2 : G2 188 1 = _ := q2
      have q3 : G2 188 2 = _ := q3
      have q4 : G2 188 3 = _ := q4
      generalize allS (wby w l m) (-1) (vw (wby w l m) (-1) p day) = A at *
      unfold Q4d at dA
      unfold vd at hQ2
      apply zs_119_57 <;> intros
      case h3 => rw [if_neg (by omega), if_neg (by omega)] at hQ2; exact hQ2
      case h4 => rw [if_neg (by omega), if_pos (by omega)] at hQ2; exact hQ2
      case h5 => rw [if_pos (by omega)] at hQ2; exact hQ2
      all_goals first | omega | (repeat' first | exact hrg _ | assumption | (unfold rg; omega) | omega | refine And.intro ?_ ?_)
    all_goals first | omega | (repeat' first | exact hrg _ | assumption | (unfold rg; omega) | omega | refine And.intro ?_ ?_)
  · rw [bP_f hg] at hQ
    unfold okPD at hg
    apply zs_119_0 <;> intros
    all_goals first | omega | exact hQ G (fr_refl _ _) hC | (repeat' first | exact hrg _ | assumption | (unfold rg; omega) | omega | refine And.intro ?_ ?_)
set_option maxHeartbeats 4000000 in
theorem k_run (wf : WF w) (hC : CI G a w) {s k : Int} (hs : rg s) (hk : rg k) (hQ : ∀ G1, fr G G1 SC → CI G1 a w → Q (some (zi (q_run w s k))) G1) : zW (d + 12) 128 [zr 8 0 0, zi s, zi k] G Q := by
  obtain ⟨h03, ha, hA, ⟨ha0, ha1, ha2⟩, hs7, hix⟩ := hC; have hC : CI G a w := ⟨h03, ha, hA, ⟨ha0, ha1, ha2⟩, hs7, hix⟩; obtain ⟨n0, n1, n2, n3, n4, n5⟩ := WF_n wf; have hrg := WF_rg wf; have e3 : G (G 0 3) 3 = w 2 := by { rw [h03]; exact hA.1 }; have e4 : G (G 0 3) 4 = w 3 := by { rw [h03]; exact hA.2.1 }; have e5 : G (G 0 3) 5 = w 4 := by { rw [h03]; exact hA.2.2.1 }; have e2 : G (G 0 3) 2 = w 5 := by { rw [h03]; exact ha2 }
  unfold q_run at hQ
  refine zm_128 ?_
  by_cases hg : (0 ≤ s ∧ s < w 4) ∧ 0 ≤ k ∧ k ≤ 4
  · rw [bP_t hg] at hQ
    have hsh : sho w (-1) (w (116 + (4 * s))) s := ⟨hg.1.1, hg.1.2, by omega, rfl⟩
    apply zs_128_0 <;> intros
    case h6 =>
      refine c153 wf hC (fun G1 f1 hC1 hI1 h71 => ?_)
      have hQ1 := hQ G1 (fr_wide f1 (by intro k j t; unfold SC; omega)) hC1
      obtain ⟨r1, r2, r3, r4, r5, r6⟩ := rq_d wf hI1 hsh
      have hst : G1 (66 + 4) s = sta w (-1) s := (hI1.2.2.2.2.1 s hsh).1.2.1
      have hsr : rg (sta w (-1) s) := by unfold sta; split; exact ⟨by omega, by omega⟩; split <;> exact ⟨by omega, by omega⟩
      have hsi : sta w (-1) s = 2 ↔ ((w ((116 + (4 * s)) + 2)) = 1 ∧ bo w (-1) s = -1) := by
        unfold sta
        by_cases c : bo w (-1) s = -1
        · rw [if_neg (by omega)]
          by_cases c2 : (w ((116 + (4 * s)) + 2)) = 1
          · rw [if_pos c2]; exact ⟨fun _ => ⟨c2, c⟩, fun _ => rfl⟩
          · rw [if_neg c2]; exact ⟨fun z => by omega, fun z => absurd z.1 c2⟩
        · rw [if_pos c]; exact ⟨fun z => by omega, fun z => absurd z.2 c⟩
      have r1 : G1 (66 + 8) s = (rn w (-1) s).1 := r1
      have r2 : G1 (66 + 9) s = (rn w (-1) s).2.1 := r2
      have r3 : G1 (66 + 10) s = (rn w (-1) s).2.2.1 := r3
      have r4 : G1 (66 + 11) s = (rn w (-1) s).2.2.2.1 := r4
      by_cases c : (w ((116 + (4 * s)) + 2)) = 1 ∧ bo w (-1) s = -1
      · rw [if_pos c] at hQ1
        have := hsi.mpr c
        apply zs_128_24 <;> intros
        case h8 => exact hQ1
        all_goals first | omega | (repeat' first | exact hrg _ | assumption | (unfold rg; omega) | omega | refine And.intro ?_ ?_)
      · rw [if_neg c] at hQ1
        have c := fun z => c (hsi.mp z)
        apply zs_128_24 <;> intros
        case h3 => rw [if_pos (by omega)] at hQ1; rw [r1]; exact hQ1
        case h4 => rw [if_neg (by omega), if_pos (by omega)] at hQ1; rw [r2]; exact hQ1
        case h5 => rw [if_neg (by omega), if_neg (by omega), if_pos (by omega)] at hQ1; rw [r3]; exact hQ1
        case h6 => rw [if_neg (by omega), if_neg (by omega), if_neg (by omega), if_pos (by omega)] at hQ1; rw [r4]; exact hQ1
        case h7 => rw [if_neg (by omega), if_neg (by omega), if_neg (by omega), if_neg (by omega)] at hQ1; rw [r5]; exact hQ1
        all_goals first | (exact absurd (by omega) c) | omega | (rw [hst]; (repeat' first | exact hrg _ | assumption | (unfold rg; omega) | omega | refine And.intro ?_ ?_)) | (repeat' first | exact hrg _ | assumption | (unfold rg; omega) | omega | refine And.intro ?_ ?_)
    all_goals first | omega | (repeat' first | exact hrg _ | assumption | (unfold rg; omega) | omega | refine And.intro ?_ ?_)
  · rw [bP_f hg] at hQ
    apply zs_128_0 <;> intros
    all_goals first | omega | exact hQ G (fr_refl _ _) hC | (repeat' first | exact hrg _ | assumption | (unfold rg; omega) | omega | refine And.intro ?_ ?_)
end KV
