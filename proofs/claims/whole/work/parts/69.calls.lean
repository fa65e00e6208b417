/-! THE CALLS: reach, clicks by the class, the whole of it -/
section KV
variable {d : Nat} {G : zG} {Q : zQ} {a : Int} {w : Int → Int}
set_option maxHeartbeats 8000000 in
theorem c63 (wf : WF w) (ha : 5 ≤ a ∧ a ≤ 54) (hI : IX G 66 a w (-1)) (hA : ARC G a w) {p day : Int} (hg : okPD w p day) (hQ : ∀ G1, fr G G1 SU → (∀ q, 0 ≤ q → q < 8 → (0 ≤ G1 289 q ∧ G1 289 q ≤ 7) ∧ ∀ k, 0 ≤ k → k ≤ 6 → (RCH w k.toNat p day q ↔ G1 289 q ≤ k)) → Q none G1) : zW (d + 5) 63 [zr 4 0 286, zr 1 0 66, zi p, zi day] G Q := by
  obtain ⟨n0, n1, n2, n3, n4, n5⟩ := WF_n wf
  have hg' := hg
  unfold okPD at hg'
  have main : ∀ (r v : Nat) (G1 : zG), v + r = 481 → fr G G1 SU → BQ w p day (G1 290) (G1 291) (G1 292) (G1 286 5) (G1 293) (G1 289) → (v : Int) ≤ G1 286 5 → ((v : Int) < G1 286 5 → ∀ e, 0 ≤ e → e < G1 286 5 → G1 292 e ≤ G1 292 v + 1) → (∀ e, 0 ≤ e → e < (v : Int) → G1 292 e < 6 → hbd w (G1 290 e) (G1 291 e) ≠ -1 → ∀ i, 0 ≤ i → i < (w ((6 + (11 * (hbd w (G1 290 e) (G1 291 e)))) + 2)) → ∃ f, 0 ≤ f ∧ f < G1 286 5 ∧ G1 290 f = (w (((6 + (11 * (hbd w (G1 290 e) (G1 291 e)))) + 7) + i)) ∧ G1 291 f = ndy w (G1 290 e) (G1 291 e) ∧ G1 292 f ≤ G1 292 e + 1) → ∀ l2 l3, zAt xT_63 (zW (d + 4)) Q 67 [zr 4 0 286, zr 1 0 66, l2, l3, zi v] [] G1 := by
    intro r
    induction r with
    | zero =>
      intro v G1 hv f1 hB hvn hcc hpr l2 l3
      have hn := hB.1
      have e : (v : Int) = G1 286 5 := by omega
      apply zs_63_67 <;> intros
      case h2 => exact hQ G1 f1 (fun q q0 q1 => ⟨BQ_b hB q0 q1, BQ_end hB (fun e e0 e1 => hpr e e0 (by omega)) q q0 q1⟩)
      all_goals first | omega | (repeat' first | exact hrg _ | assumption | (unfold rg; omega) | omega | refine And.intro ?_ ?_)
    | succ r ih =>
      intro v G1 hv f1 hB hvn hcc hpr l2 l3
      have hn := hB.1
      by_cases ce : G1 286 5 ≤ (v : Int)
      · apply zs_63_67 <;> intros
        case h4 => exact hQ G1 f1 (fun q q0 q1 => ⟨BQ_b hB q0 q1, BQ_end hB (fun e e0 e1 => hpr e e0 (by omega)) q q0 q1⟩)
        all_goals first | omega | (repeat' first | exact hrg _ | assumption | (unfold rg; omega) | omega | refine And.intro ?_ ?_)
      · have hvv := hB.2.2.1 v (by omega) (by omega)
        have hvc := hvv.2.1
        have nx : ∀ G2, fr G1 G2 SU → BQ w p day (G2 290) (G2 291) (G2 292) (G2 286 5) (G2 293) (G2 289) → (∀ e, 0 ≤ e → e < G1 286 5 → G2 290 e = G1 290 e ∧ G2 291 e = G1 291 e ∧ G2 292 e = G1 292 e) → G1 286 5 ≤ G2 286 5 → (∀ e, 0 ≤ e → e < G2 286 5 → G2 292 e ≤ G1 292 v + 1) → (G1 292 v < 6 → hbd w (G1 290 v) (G1 291 v) ≠ -1 → ∀ i, 0 ≤ i → i < (w ((6 + (11 * (hbd w (G1 290 v) (G1 291 v)))) + 2)) → ∃ f, 0 ≤ f ∧ f < G2 286 5 ∧ G2 290 f = (w (((6 + (11 * (hbd w (G1 290 v) (G1 291 v)))) + 7) + i)) ∧ G2 291 f = ndy w (G1 290 v) (G1 291 v) ∧ G2 292 f ≤ G1 292 v + 1) → zAt xT_63 (zW (d + 4)) Q 103 [zr 4 0 286, zr 1 0 66, z0, z0, zi v] [] G2 := by
          intro G2 f2 hB2 ho hn2 hc2 hp2
          have hov := ho v (by omega) (by omega)
          refine zs_63_103 ?_
          have := ih (v + 1) G2 (by omega) (fr_trans f1 f2 (fun k j t => t)) hB2 (by omega) (fun hlt e e0 e1 => ?_) (fun e e0 e1 h6 hh i i0 i1 => ?_) z0 z0
          · exact this
          · have h1 := hc2 e e0 e1
            have h2 := hB2.2.2.2.1 v ((v + 1 : Nat) : Int) (by omega) (by omega) hlt
            rw [hov.2.2] at h2
            omega
          · have hoe := ho e e0 (by omega)
            rw [hoe.1, hoe.2.1] at hh i1 ⊢
            rw [hoe.2.2] at h6 ⊢
            by_cases c : e = v
            · rw [c] at h6 hh i1 ⊢
              exact hp2 h6 hh i i0 i1
            · obtain ⟨f, f0, f1', f2', f3, f4⟩ := hpr e e0 (by omega) h6 hh i i0 i1
              have hof := ho f f0 f1'
              exact ⟨f, f0, by omega, by rw [hof.1]; exact f2', by rw [hof.2.1]; exact f3, by rw [hof.2.2]; exact f4⟩
        apply zs_63_67 <;> intros
        case h6 => exact nx G1 (fr_refl _ _) hB (fun e _ _ => ⟨rfl, rfl, rfl⟩) (Int.le_refl _) (hcc (by omega)) (fun z => by omega)
        case h7 =>
          have e : ∀ k j, k ≤ 285 → G1 k j = G k j := fun k j h => f1 k j (by unfold SU; omega)
          refine c65 wf ha (IX_fr hI (fun k j k0 k1 => e k j (by omega))) (ARC_fr hA (fun k j k0 k1 => e k j (by omega))) hB (by omega) (by omega) (by assumption) (hcc (by omega)) (fun G2 f2 hB2 ho hn2 hc2 hp2 => nx G2 f2 hB2 ho hn2 hc2 (fun _ => hp2))
        all_goals first | omega | (repeat' first | exact hrg _ | assumption | (unfold rg; omega) | omega | refine And.intro ?_ ?_)
  have init : ∀ G1, fr G G1 SU → (∀ q, 0 ≤ q → q < 8 → G1 289 q = 7) → (∀ m, 0 ≤ m → m < 480 → G1 293 m = 0) → zAt xT_63 (zW (d + 4)) Q 28 [zr 4 0 286, zr 1 0 66, zi p, zi day, zi 480] [] G1 := by
    intro G1 f1 h7 h0
    apply zs_63_28 <;> intros
    case h2 => rw [h7 p (by omega) (by omega)]; (repeat' first | exact hrg _ | assumption | (unfold rg; omega) | omega | refine And.intro ?_ ?_)
    case h3 =>
      rw [h7 p (by omega) (by omega)]
      generalize hH : zu (zu (zu (zu (zu (zu G1 286 5 0) 290 0 p) 291 0 day) 292 0 0) 286 5 1) 289 p (min 7 0) = H
      have e90 : H 290 0 = p := by rw [← hH, zu_k (by omega), zu_k (by omega), zu_k (by omega), zu_k (by omega), zu_s]
      have e91 : H 291 0 = day := by rw [← hH, zu_k (by omega), zu_k (by omega), zu_k (by omega), zu_s]
      have e92 : H 292 0 = 0 := by rw [← hH, zu_k (by omega), zu_k (by omega), zu_s]
      have e86 : H 286 5 = 1 := by rw [← hH, zu_k (by omega), zu_s]
      have e93 : ∀ m, 0 ≤ m → m < 480 → H 293 m = 0 := fun m m0 m1 => by rw [← hH, zu_k (by omega), zu_k (by omega), zu_k (by omega), zu_k (by omega), zu_k (by omega), zu_k (by omega)]; exact h0 m m0 m1
      have e89 : ∀ q, 0 ≤ q → q < 8 → H 289 q = if q = p then 0 else 7 := fun q q0 q1 => by
        rw [← hH]
        by_cases c : q = p
        · rw [if_pos c, c, zu_s]; rfl
        · rw [if_neg c, zu_j c, zu_k (by omega), zu_k (by omega), zu_k (by omega), zu_k (by omega), zu_k (by omega)]; exact h7 q q0 q1
      have fH : fr G1 H SU := by
        rw [← hH]
        refine fr_u (fr_u (fr_u (fr_u (fr_u (fr_u (fr_refl _ _) ?_) ?_) ?_) ?_) ?_) ?_ <;> (unfold SU; omega)
      refine main 481 0 H (by omega) (fr_trans f1 fH (fun k j t => t)) ?_ (by rw [e86]; omega) (fun _ e e0 e1 => ?_) (fun e e0 e1 => by omega) _ _
      · refine ⟨⟨by omega, by omega⟩, ⟨e90, e91, e92⟩, fun e e0 e1 => ?_, fun e f e0 ef f1 => ?_, fun q s q0 q1 s0 s1 => Or.inl (e93 _ (by omega) (by omega)), ?_, fun e e0 e1 => ?_, fun q q0 q1 => ?_⟩
        · have : e = 0 := by omega
          rw [this, e90, e91, e92]
          exact ⟨⟨rfl, rfl⟩, ⟨by omega, by omega⟩, hg, fun _ => rfl⟩
        · have h1 : e = 0 := by omega
          have h2 : f = 0 := by omega
          rw [h1, h2]; omega
        · rw [e86, cn_0 480 (fun t t0 t1 z => z (e93 t t0 (by omega)))]; rfl
        · have : e = 0 := by omega
          rw [this, e90, e92, e89 p (by omega) (by omega), if_pos rfl]; omega
        · rw [e89 q q0 q1]
          by_cases c : q = p
          · rw [if_pos c]; exact Or.inr ⟨0, by omega, by omega, by rw [e90, c], e92⟩
          · rw [if_neg c]; exact Or.inl rfl
      · have h1 : e = 0 := by omega
        rw [h1]
        show H 292 0 ≤ H 292 0 + 1
        omega
    all_goals first | omega | (repeat' first | exact hrg _ | assumption | (unfold rg; omega) | omega | refine And.intro ?_ ?_)
  have l28 : ∀ (r : Nat) (v : Int) (G1 : zG), 0 ≤ v → v + r = 480 → fr G G1 SU → (∀ q, 0 ≤ q → q < 8 → G1 289 q = 7) → (∀ m, 0 ≤ m → m < v → G1 293 m = 0) → zAt xT_63 (zW (d + 4)) Q 28 [zr 4 0 286, zr 1 0 66, zi p, zi day, zi v] [] G1 := by
    intro r
    induction r with
    | zero =>
      intro v G1 v0 hv f1 h7 h0
      have e : v = 480 := by omega
      rw [e]; exact init G1 f1 h7 (fun m m0 m1 => h0 m m0 (by omega))
    | succ r ih =>
      intro v G1 v0 hv f1 h7 h0
      apply zs_63_28 <;> intros
      case h5 =>
        refine ih (v + 1) _ (by omega) (by omega) (fr_u f1 (by unfold SU; omega)) (fun q q0 q1 => by rw [zu_k (by omega)]; exact h7 q q0 q1) (fun m m0 m1 => ?_)
        by_cases c : m = v
        · rw [c, zu_s]
        · rw [zu_j c]; exact h0 m m0 (by omega)
      all_goals first | omega | (repeat' first | exact hrg _ | assumption | (unfold rg; omega) | omega | refine And.intro ?_ ?_)
  have l3 : ∀ (r : Nat) (v : Int) (G1 : zG), 0 ≤ v → v + r = 8 → fr G G1 SU → (∀ q, 0 ≤ q → q < v → G1 289 q = 7) → zAt xT_63 (zW (d + 4)) Q 3 [zr 4 0 286, zr 1 0 66, zi p, zi day, zi v] [] G1 := by
    intro r
    induction r with
    | zero =>
      intro v G1 v0 hv f1 h7
      apply zs_63_3 <;> intros
      case h2 => exact l28 480 0 G1 (by omega) (by omega) f1 (fun q q0 q1 => h7 q q0 (by omega)) (fun m m0 m1 => by omega)
      all_goals first | omega | (repeat' first | exact hrg _ | assumption | (unfold rg; omega) | omega | refine And.intro ?_ ?_)
    | succ r ih =>
      intro v G1 v0 hv f1 h7
      apply zs_63_3 <;> intros
      case h4 =>
        refine ih (v + 1) _ (by omega) (by omega) (fr_u f1 (by unfold SU; omega)) (fun q q0 q1 => ?_)
        by_cases c : q = v
        · rw [c, zu_s]
        · rw [zu_j c]; exact h7 q q0 (by omega)
      all_goals first | omega | (repeat' first | exact hrg _ | assumption | (unfold rg; omega) | omega | refine And.intro ?_ ?_)
  exact zm_63 (zs_63_0 (l3 8 0 G (by omega) (by omega) (fr_refl _ _) (fun q q0 q1 => by omega)))
theorem CI_su {G1 : zG} (hC : CI G a w) (f : fr G G1 SU) : CI G1 a w := CI_keep hC (fun k j h => f k j (by unfold SU; omega))
set_option maxHeartbeats 4000000 in
theorem k_reach (wf : WF w) (hC : CI G a w) {p day k : Int} (hp : rg p) (hdd : rg day) (hk : rg k) (hQ : ∀ G1, fr G G1 SC → CI G1 a w → Q (some (zi (q_reach w p day k))) G1) : zW (d + 8) 135 [zr 8 0 0, zi p, zi day, zi k] G Q := by
  obtain ⟨h03, ha, hA, ⟨ha0, ha1, ha2⟩, hs7, hix⟩ := hC; have hC : CI G a w := ⟨h03, ha, hA, ⟨ha0, ha1, ha2⟩, hs7, hix⟩; obtain ⟨n0, n1, n2, n3, n4, n5⟩ := WF_n wf; have hrg := WF_rg wf; have e3 : G (G 0 3) 3 = w 2 := by { rw [h03]; exact hA.1 }; have e4 : G (G 0 3) 4 = w 3 := by { rw [h03]; exact hA.2.1 }; have e5 : G (G 0 3) 5 = w 4 := by { rw [h03]; exact hA.2.2.1 }; have e2 : G (G 0 3) 2 = w 5 := by { rw [h03]; exact ha2 }
  unfold q_reach at hQ
  refine zm_135 ?_
  by_cases hg : okPD w p day ∧ 0 ≤ k ∧ k ≤ 6
  · rw [bP_t hg] at hQ
    have hg' := hg
    unfold okPD at hg'
    apply zs_135_0 <;> intros
    case h8 =>
      refine c153 wf hC (fun G1 f1 hC1 hI1 h71 => zs_135_37 ?_)
      refine c63 (d := d + 2) wf ha hI1 hC1.2.2.1 hg.1 (fun G2 f2 hD => zs_135_42 ?_)
      have hC2 := CI_su hC1 f2
      have hQ2 := hQ G2 (fr_trans (fr_wide f1 (by intro k j t; unfold SC; omega)) f2 (by intro k j t; unfold SU at t; unfold SC; omega)) hC2
      have g03 : G2 0 3 = a := hC2.1
      have g3 : G2 a 3 = w 2 := hC2.2.2.1.1
      have key : ∀ (r n : Nat) (m : Int), n + r = (w 2).toNat → rg m → (∀ b, 0 ≤ b → b < 32 → (zt m b ↔ (b < n ∧ RCH w k.toNat p day b))) → ∀ l1 l2, zAt xT_135 (zW (d + 7)) Q 48 [zr 8 0 0, l1, l2, zi k, zi m, zi n] [] G2 := by
        intro r
        induction r with
        | zero =>
          intro n m hr hm hb l1 l2
          apply zs_135_48 <;> intros
          case h2 =>
            rw [bmk_eq (P := RCH w k.toNat p day) hm (fun b b0 b1 => (hb b b0 b1).trans ⟨fun z => ⟨by omega, z.2⟩, fun z => ⟨by have := RCH_rg wf k.toNat p day b (by omega) (by omega) z.2; omega, z.2⟩⟩)]
            exact hQ2
          all_goals (rw [g03] at *; first | omega | (repeat' first | exact hrg _ | assumption | (unfold rg; omega) | omega | refine And.intro ?_ ?_))
        | succ r ih =>
          intro n m hr hm hb l1 l2
          have hDn := hD n (by omega) (by omega)
          have hr1 := hDn.1
          have hd1 := hDn.2 k (by omega) (by omega)
          apply zs_135_48 <;> intros
          case h4 =>
            rename_i h
            refine ih (n + 1) m (by omega) hm (fun b b0 b1 => ?_) _ _
            rw [hb b b0 b1]
            exact ⟨fun z => ⟨by omega, z.2⟩, fun z => ⟨by
              by_cases e : b = n
              · have := hd1.mp (e ▸ z.2); omega
              · omega, z.2⟩⟩
          case h5 =>
            rename_i h
            refine ih (n + 1) _ (by omega) (rg_zor _ _) (fun b b0 b1 => ?_) _ _
            rw [zt_or1 (by omega) (by omega) b0 b1, hb b b0 b1]
            constructor
            · rintro (z | z)
              · exact ⟨by omega, z.2⟩
              · exact ⟨by omega, z ▸ hd1.mpr h⟩
            · rintro ⟨z1, z2⟩
              by_cases e : b = n
              · exact Or.inr e.symm
              · exact Or.inl ⟨by omega, z2⟩
          all_goals (rw [g03] at *; first | omega | (repeat' first | exact hrg _ | assumption | (unfold rg; omega) | omega | refine And.intro ?_ ?_))
      exact key (w 2).toNat 0 0 (by omega) ⟨by omega, by omega⟩ (fun b b0 b1 => ⟨fun z => absurd z (zt_0 b), fun z => by have := z.1; omega⟩) _ _
    all_goals first | omega | (repeat' first | exact hrg _ | assumption | (unfold rg; omega) | omega | refine And.intro ?_ ?_)
  · rw [bP_f hg] at hQ
    unfold okPD at hg
    apply zs_135_0 <;> intros
    all_goals first | omega | exact hQ G (fr_refl _ _) hC | (repeat' first | exact hrg _ | assumption | (unfold rg; omega) | omega | refine And.intro ?_ ?_)
set_option maxHeartbeats 4000000 in
theorem k_clicks (wf : WF w) (hC : CI G a w) {p day t : Int} (hp : rg p) (hdd : rg day) (ht : rg t) (hQ : ∀ G1, fr G G1 SC → CI G1 a w → Q (some (zi (q_clicks w p day t))) G1) : zW (d + 8) 136 [zr 8 0 0, zi p, zi day, zi t] G Q := by
  obtain ⟨h03, ha, hA, ⟨ha0, ha1, ha2⟩, hs7, hix⟩ := hC; have hC : CI G a w := ⟨h03, ha, hA, ⟨ha0, ha1, ha2⟩, hs7, hix⟩; obtain ⟨n0, n1, n2, n3, n4, n5⟩ := WF_n wf; have hrg := WF_rg wf; have e3 : G (G 0 3) 3 = w 2 := by { rw [h03]; exact hA.1 }; have e4 : G (G 0 3) 4 = w 3 := by { rw [h03]; exact hA.2.1 }; have e5 : G (G 0 3) 5 = w 4 := by { rw [h03]; exact hA.2.2.1 }; have e2 : G (G 0 3) 2 = w 5 := by { rw [h03]; exact ha2 }
  unfold q_clicks at hQ
  refine zm_136 ?_
  by_cases hg : okPD w p day ∧ 0 ≤ t ∧ t < w 2
  · rw [bP_t hg] at hQ
    have hg' := hg
    unfold okPD at hg'
    apply zs_136_0 <;> intros
    case h9 =>
      refine c153 wf hC (fun G1 f1 hC1 hI1 h71 => zs_136_35 ?_)
      refine c63 (d := d + 2) wf ha hI1 hC1.2.2.1 hg.1 (fun G2 f2 hD => ?_)
      have hC2 := CI_su hC1 f2
      have hQ2 := hQ G2 (fr_trans (fr_wide f1 (by intro k j t; unfold SC; omega)) f2 (by intro k j t; unfold SU at t; unfold SC; omega)) hC2
      obtain ⟨hr1, hd1⟩ := hD t (by omega) (by omega)
      apply zs_136_40 <;> intros
      case h2 =>
        rw [mn_eq (fun _ _ _ _ h => h) (Or.inl ⟨rfl, fun k hk => by have := (hd1 k hk.1 hk.2.1).mp hk.2.2; have := hk.2.1; omega⟩)] at hQ2
        exact hQ2
      case h3 =>
        rename_i h
        rw [mn_eq (fun _ _ _ _ h => h) (Or.inr ⟨⟨hr1.1, h, (hd1 _ hr1.1 h).mpr (Int.le_refl _)⟩, fun k hk => (hd1 k hk.1 hk.2.1).mp hk.2.2⟩)] at hQ2
        exact hQ2
      all_goals first | omega | (repeat' first | exact hrg _ | assumption | (unfold rg; omega) | omega | refine And.intro ?_ ?_)
    all_goals first | omega | (repeat' first | exact hrg _ | assumption | (unfold rg; omega) | omega | refine And.intro ?_ ?_)
  · rw [bP_f hg] at hQ
    unfold okPD at hg
    apply zs_136_0 <;> intros
    all_goals first | omega | exact hQ G (fr_refl _ _) hC | (repeat' first | exact hrg _ | assumption | (unfold rg; omega) | omega | refine And.intro ?_ ?_)
end KV
