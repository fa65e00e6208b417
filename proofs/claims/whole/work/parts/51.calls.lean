/-! THE CALLS: nearest, follow, followed, view, shot, shots, byDay -/
section SPEC
variable (w : Int → Int)
noncomputable def q_nearest (p day : Int) : Int := @ite Int (okPD w p day) (Classical.propDecidable _) (nr w (-1) p day) (-2)
noncomputable def q_follow (p day k : Int) : Int := @ite Int (okPD w p day ∧ 0 ≤ k ∧ k ≤ 2) (Classical.propDecidable _) (if k = 0 then (wy w (-1) p day).2.1 else if k = 1 then (wy w (-1) p day).1.length else (wy w (-1) p day).2.2) (-2)
noncomputable def q_followed (p day i : Int) : Int := @ite Int (okPD w p day ∧ 0 ≤ i) (Classical.propDecidable _) (if i < (wy w (-1) p day).1.length then (wy w (-1) p day).1.getD i.toNat 0 else -1) (-2)
noncomputable def q_view (p day : Int) : Int := @ite Int (okPD w p day) (Classical.propDecidable _) (vw w (-1) p day).length (-2)
noncomputable def q_shot (s k : Int) : Int := @ite Int ((0 ≤ s ∧ s < w 4) ∧ 0 ≤ k ∧ k ≤ 4) (Classical.propDecidable _) (if k = 0 then (w (116 + (4 * s))) else if k = 1 then (w ((116 + (4 * s)) + 1)) else if k = 2 then (w ((116 + (4 * s)) + 2)) else if k = 3 then bo w (-1) s else if (w ((116 + (4 * s)) + 2)) = 2 then (w ((116 + (4 * s)) + 3)) else -1) (-2)
noncomputable def q_shots (p : Int) : Int := @ite Int (0 ≤ p ∧ p < w 2) (Classical.propDecidable _) (ci (sho w (-1) p) (w 4)) (-2)
noncomputable def bd (p : Int) : Nat → Int
  | 0 => be w (-1) p (-1)
  | n + 1 => if bd p n = -1 then -1 else be w (-1) p (w ((116 + (4 * (bd p n))) + 1))
noncomputable def q_byDay (p k : Int) : Int := @ite Int ((0 ≤ p ∧ p < w 2) ∧ 0 ≤ k) (Classical.propDecidable _) (bd w p k.toNat) (-2)
end SPEC
section RE
variable {d : Nat} {G : zG} {Q : zQ} {w : Int → Int}
set_option maxHeartbeats 4000000 in
theorem r_nearest (wf : WF w) (hw : G 298 = w) (hd : G 297 7 = -1) {p day : Int} (hp : rg p) (hdd : rg day) (hQ : ∀ G1, fr G G1 SR → Q (some (zi (q_nearest w p day))) G1) : zW (d + 4) 223 [zr 9 0 297, zi p, zi day] G Q := by
  subst hw
  obtain ⟨n0, n1, n2, n3, n4, n5⟩ := WF_n wf; have hrg := WF_rg wf
  unfold q_nearest okPD at hQ
  refine zm_223 ?_
  by_cases hg : (0 ≤ p ∧ p < G 298 2) ∧ (0 ≤ day ∧ day ≤ 365)
  · rw [if_pos hg] at hQ
    apply zs_223_0 <;> intros
    case h3 => exact c181 wf (by rw [hd]; unfold rg; omega) hp (by omega) (by omega) (fun r hr r1 r2 => zs_223_15 (by rw [hr, hd]; exact hQ G (fr_refl _ _)))
    all_goals first | omega | (repeat' first | exact hrg _ | assumption | (unfold rg; omega) | omega | refine And.intro ?_ ?_)
  · rw [if_neg hg] at hQ
    apply zs_223_0 <;> intros
    all_goals first | omega | exact hQ G (fr_refl _ _) | (repeat' first | exact hrg _ | assumption | (unfold rg; omega) | omega | refine And.intro ?_ ?_)
set_option maxHeartbeats 4000000 in
theorem r_follow (wf : WF w) (hw : G 298 = w) (hd : G 297 7 = -1) {p day k : Int} (hp : rg p) (hdd : rg day) (hk : rg k) (hQ : ∀ G1, fr G G1 SR → Q (some (zi (q_follow w p day k))) G1) : zW (d + 5) 224 [zr 9 0 297, zi p, zi day, zi k] G Q := by
  subst hw
  obtain ⟨n0, n1, n2, n3, n4, n5⟩ := WF_n wf; have hrg := WF_rg wf
  unfold q_follow okPD at hQ
  refine zm_224 ?_
  by_cases hg : ((0 ≤ p ∧ p < G 298 2) ∧ (0 ≤ day ∧ day ≤ 365)) ∧ 0 ≤ k ∧ k ≤ 2
  · rw [if_pos hg] at hQ
    apply zs_224_0 <;> intros
    case h4 =>
      refine c182 wf (by rw [hd]; unfold rg; omega) (by omega) (by omega) (by omega) (by omega) (fun G1 f1 hW => ?_)
      have hQ1 := hQ G1 (fr_wide f1 (by intro k j t; unfold S182 at t; unfold SR; omega))
      rw [hd] at hW
      apply zs_224_30 <;> intros
      case h1 => exact hk
      case h2 => rw [if_neg (by assumption), if_neg (by assumption)] at hQ1; rw [hW.2.2.1]; exact hQ1
      case h3 => rw [if_neg (by assumption), if_pos (by assumption)] at hQ1; rw [hW.1]; exact hQ1
      case h4 => rw [if_pos (by assumption)] at hQ1; rw [hW.2.1]; exact hQ1
    all_goals first | omega | (repeat' first | exact hrg _ | assumption | (unfold rg; omega) | omega | refine And.intro ?_ ?_)
  · rw [if_neg hg] at hQ
    apply zs_224_0 <;> intros
    all_goals first | omega | exact hQ G (fr_refl _ _) | (repeat' first | exact hrg _ | assumption | (unfold rg; omega) | omega | refine And.intro ?_ ?_)
set_option maxHeartbeats 4000000 in
theorem r_followed (wf : WF w) (hw : G 298 = w) (hd : G 297 7 = -1) {p day i : Int} (hp : rg p) (hdd : rg day) (hi : rg i) (hQ : ∀ G1, fr G G1 SR → Q (some (zi (q_followed w p day i))) G1) : zW (d + 5) 225 [zr 9 0 297, zi p, zi day, zi i] G Q := by
  subst hw
  obtain ⟨n0, n1, n2, n3, n4, n5⟩ := WF_n wf; have hrg := WF_rg wf
  unfold q_followed okPD at hQ
  refine zm_225 ?_
  by_cases hg : ((0 ≤ p ∧ p < G 298 2) ∧ (0 ≤ day ∧ day ≤ 365)) ∧ 0 ≤ i
  · rw [if_pos hg] at hQ
    apply zs_225_0 <;> intros
    case h4 =>
      refine c182 wf (by rw [hd]; unfold rg; omega) (by omega) (by omega) (by omega) (by omega) (fun G1 f1 hW => ?_)
      have hQ1 := hQ G1 (fr_wide f1 (by intro k j t; unfold S182 at t; unfold SR; omega))
      rw [hd] at hW
      have hl := wyF_len (w := G 298) (-1) day 9 [] p day
      have hl : (wy (G 298) (-1) p day).1.length ≤ 9 := hl
      have h9 := hW.1
      apply zs_225_22 <;> intros
      case h1 => exact ⟨hi, by unfold rg; omega⟩
      case h2 => rw [if_neg (by omega)] at hQ1; exact hQ1
      case h3 => omega
      case h4 => rw [if_pos (by omega)] at hQ1; rw [hW.2.2.2 i (by omega) (by omega)]; exact hQ1
    all_goals first | omega | (repeat' first | exact hrg _ | assumption | (unfold rg; omega) | omega | refine And.intro ?_ ?_)
  · rw [if_neg hg] at hQ
    apply zs_225_0 <;> intros
    all_goals first | omega | exact hQ G (fr_refl _ _) | (repeat' first | exact hrg _ | assumption | (unfold rg; omega) | omega | refine And.intro ?_ ?_)
set_option maxHeartbeats 4000000 in
theorem r_view (wf : WF w) (hw : G 298 = w) (hd : G 297 7 = -1) {p day : Int} (hp : rg p) (hdd : rg day) (hQ : ∀ G1, fr G G1 SR → Q (some (zi (q_view w p day))) G1) : zW (d + 10) 226 [zr 9 0 297, zi p, zi day] G Q := by
  have hw' := hw
  subst hw
  obtain ⟨n0, n1, n2, n3, n4, n5⟩ := WF_n wf; have hrg := WF_rg wf
  unfold q_view okPD at hQ
  refine zm_226 ?_
  by_cases hg : (0 ≤ p ∧ p < G 298 2) ∧ (0 ≤ day ∧ day ≤ 365)
  · rw [if_pos hg] at hQ
    apply zs_226_0 <;> intros
    case h3 =>
      refine c185 (dr := -1) wf ⟨by omega, by omega⟩ rfl hd (by omega) (by omega) (by omega) (by omega) (fun G1 f1 hV => zs_226_18 ?_)
      rw [hV.1]
      exact hQ G1 (fr_wide f1 (by intro k j t; unfold S184 at t; unfold SR; omega))
    all_goals first | omega | (repeat' first | exact hrg _ | assumption | (unfold rg; omega) | omega | refine And.intro ?_ ?_)
  · rw [if_neg hg] at hQ
    apply zs_226_0 <;> intros
    all_goals first | omega | exact hQ G (fr_refl _ _) | (repeat' first | exact hrg _ | assumption | (unfold rg; omega) | omega | refine And.intro ?_ ?_)
set_option maxHeartbeats 4000000 in
theorem r_shot (wf : WF w) (hw : G 298 = w) (hd : G 297 7 = -1) {s k : Int} (hp : rg s) (hk : rg k) (hQ : ∀ G1, fr G G1 SR → Q (some (zi (q_shot w s k))) G1) : zW (d + 4) 218 [zr 9 0 297, zi s, zi k] G Q := by
  subst hw
  obtain ⟨n0, n1, n2, n3, n4, n5⟩ := WF_n wf; have hrg := WF_rg wf
  unfold q_shot at hQ
  refine zm_218 ?_
  by_cases hg : (0 ≤ s ∧ s < G 298 4) ∧ 0 ≤ k ∧ k ≤ 4
  · rw [if_pos hg] at hQ
    have hQ1 := hQ G (fr_refl _ _)
    apply zs_218_0 <;> intros
    case h4 => rw [if_pos (by omega)] at hQ1; exact hQ1
    case h6 => rw [if_neg (by omega), if_pos (by omega)] at hQ1; exact hQ1
    case h8 => rw [if_neg (by omega), if_neg (by omega), if_pos (by omega)] at hQ1; exact hQ1
    case h9 =>
      rw [if_neg (by omega), if_neg (by omega), if_neg (by omega), if_pos (by omega)] at hQ1
      exact c178 wf (by rw [hd]; unfold rg; omega) (by omega) (by omega) (zs_218_79 (by rw [hd]; exact hQ1))
    case h11 => rw [if_neg (by omega), if_neg (by omega), if_neg (by omega), if_neg (by omega), if_neg (by assumption)] at hQ1; exact hQ1
    case h13 => rw [if_neg (by omega), if_neg (by omega), if_neg (by omega), if_neg (by omega), if_pos (by assumption)] at hQ1; exact hQ1
    all_goals first | omega | (repeat' first | exact hrg _ | assumption | (unfold rg; omega) | omega | refine And.intro ?_ ?_)
  · rw [if_neg hg] at hQ
    apply zs_218_0 <;> intros
    all_goals first | omega | exact hQ G (fr_refl _ _) | (repeat' first | exact hrg _ | assumption | (unfold rg; omega) | omega | refine And.intro ?_ ?_)
set_option maxHeartbeats 4000000 in
theorem r_shots (wf : WF w) (hw : G 298 = w) {p : Int} (hp : rg p) (hQ : ∀ G1, fr G G1 SR → Q (some (zi (q_shots w p))) G1) : zW (d + 4) 220 [zr 9 0 297, zi p] G Q := by
  subst hw
  obtain ⟨n0, n1, n2, n3, n4, n5⟩ := WF_n wf; have hrg := WF_rg wf
  unfold q_shots at hQ
  refine zm_220 ?_
  by_cases hg : 0 ≤ p ∧ p < G 298 2
  · rw [if_pos hg] at hQ
    have hci : ci (sho (G 298) (-1) p) (G 298 4) = cn (fun t => ((G 298) (116 + (4 * t))) = p) (G 298 4).toNat := cn_congr _ (fun t t0 t1 => ⟨fun h => h.2.2.2, fun h => ⟨t0, by omega, by omega, h⟩⟩)
    rw [hci] at hQ
    have key : ∀ (r : Nat) (s : Nat), s + r = (G 298 4).toNat → zAt xT_220 (zW (d + 3)) Q 15 [zr 9 0 297, zi p, zi (cn (fun t => ((G 298) (116 + (4 * t))) = p) s), zi s] [] G := by
      intro r
      induction r with
      | zero =>
        intro s hr
        have e : s = (G 298 4).toNat := by omega
        have := cn_rg (fun t => ((G 298) (116 + (4 * t))) = p) s
        apply zs_220_15 <;> intros
        case h2 => rw [e]; exact hQ G (fr_refl _ _)
        all_goals first | omega | (repeat' first | exact hrg _ | assumption | (unfold rg; omega) | omega | refine And.intro ?_ ?_)
      | succ r ih =>
        intro s hr
        have := cn_rg (fun t => ((G 298) (116 + (4 * t))) = p) s
        have ih := ih (s + 1) (by omega)
        rw [show ((s + 1 : Nat) : Int) = (s : Int) + 1 by omega] at ih
        have e : cn (fun t => ((G 298) (116 + (4 * t))) = p) (s + 1) = cn (fun t => ((G 298) (116 + (4 * t))) = p) s + @ite Int (((G 298) (116 + (4 * s))) = p) (Classical.propDecidable _) 1 0 := rfl
        apply zs_220_15 <;> intros
        case h4 => rw [e, if_neg (by assumption)] at ih; exact ih
        case h5 => rw [e, if_pos (by assumption)] at ih; exact ih
        all_goals first | omega | (repeat' first | exact hrg _ | assumption | (unfold rg; omega) | omega | refine And.intro ?_ ?_)
    apply zs_220_0 <;> intros
    case h2 => exact key (G 298 4).toNat 0 (by omega)
    all_goals first | omega | (repeat' first | exact hrg _ | assumption | (unfold rg; omega) | omega | refine And.intro ?_ ?_)
  · rw [if_neg hg] at hQ
    apply zs_220_0 <;> intros
    all_goals first | omega | exact hQ G (fr_refl _ _) | (repeat' first | exact hrg _ | assumption | (unfold rg; omega) | omega | refine And.intro ?_ ?_)
theorem bd_rg (wf : WF w) (p : Int) : ∀ n : Nat, bd w p n = -1 ∨ sho w (-1) p (bd w p n) := by
  intro n
  cases n with
  | zero => rcases be_rg (w := w) (-1) p (-1) with h | h; exact Or.inl h; exact Or.inr h.1
  | succ n =>
    unfold bd
    split
    · exact Or.inl rfl
    · rcases be_rg (w := w) (-1) p (w ((116 + (4 * (bd w p n))) + 1)) with h | h; exact Or.inl h; exact Or.inr h.1
theorem bd_stay (p : Int) (n : Nat) (h : bd w p n = -1) : ∀ r : Nat, bd w p (n + r) = -1 := by
  intro r
  induction r with
  | zero => exact h
  | succ r ih => show (if bd w p (n + r) = -1 then -1 else _) = _; rw [if_pos ih]
set_option maxHeartbeats 4000000 in
theorem r_byDay (wf : WF w) (hw : G 298 = w) (hd : G 297 7 = -1) {p k : Int} (hp : rg p) (hk : rg k) (hQ : ∀ G1, fr G G1 SR → Q (some (zi (q_byDay w p k))) G1) : zW (d + 4) 221 [zr 9 0 297, zi p, zi k] G Q := by
  subst hw
  obtain ⟨n0, n1, n2, n3, n4, n5⟩ := WF_n wf; have hrg := WF_rg wf
  have hdr : rg (G 297 7) := by rw [hd]; unfold rg; omega
  unfold q_byDay at hQ
  refine zm_221 ?_
  by_cases hg : (0 ≤ p ∧ p < G 298 2) ∧ 0 ≤ k
  · rw [if_pos hg] at hQ
    have key : ∀ (r : Nat) (n : Nat), n + r = k.toNat → zAt xT_221 (zW (d + 3)) Q 25 [zr 9 0 297, zi p, zi k, zi (bd (G 298) p n), zi n] [] G := by
      intro r
      induction r with
      | zero =>
        intro n hr
        have hb := bd_rg wf p n
        unfold sho at hb
        have e : n = k.toNat := by omega
        have hk := hk
        unfold rg at hk
        apply zs_221_25 <;> intros
        case h2 => rw [e]; exact hQ G (fr_refl _ _)
        all_goals first | omega | (repeat' first | exact hrg _ | assumption | (unfold rg; omega) | omega | refine And.intro ?_ ?_)
      | succ r ih =>
        intro n hr
        have hb := bd_rg wf p n
        have hb2 := hb
        unfold sho at hb2
        have hk := hk
        unfold rg at hk
        have ih := ih (n + 1) (by omega)
        rw [show ((n + 1 : Nat) : Int) = (n : Int) + 1 by omega] at ih
        have e : bd (G 298) p (n + 1) = if bd (G 298) p n = -1 then -1 else be (G 298) (-1) p ((G 298) ((116 + (4 * (bd (G 298) p n))) + 1)) := rfl
        apply zs_221_25 <;> intros
        case h4 =>
          rename_i h
          have := bd_stay p n h (r + 1)
          rw [show n + (r + 1) = k.toNat by omega] at this
          rw [h, ← this]; exact hQ G (fr_refl _ _)
        case h6 =>
          rename_i h
          rw [e, if_neg h] at ih
          refine c177 wf hdr hp (hrg _) (fun q hq q1 q2 => zs_221_46 ?_)
          rw [hd] at hq
          rw [be_eq wf hq] at ih
          exact ih
        all_goals first | omega | (repeat' first | exact hrg _ | assumption | (unfold rg; omega) | omega | refine And.intro ?_ ?_)
    apply zs_221_0 <;> intros
    case h3 =>
      refine c177 wf hdr hp ⟨by omega, by omega⟩ (fun q hq q1 q2 => zs_221_21 ?_)
      rw [hd] at hq
      have := key k.toNat 0 (by omega)
      have e : bd (G 298) p 0 = be (G 298) (-1) p (-1) := rfl
      rw [e, be_eq wf hq] at this
      exact this
    all_goals first | omega | (repeat' first | exact hrg _ | assumption | (unfold rg; omega) | omega | refine And.intro ?_ ?_)
  · rw [if_neg hg] at hQ
    apply zs_221_0 <;> intros
    all_goals first | omega | exact hQ G (fr_refl _ _) | (repeat' first | exact hrg _ | assumption | (unfold rg; omega) | omega | refine And.intro ?_ ?_)
end RE
section CL
variable {d : Nat} {G : zG} {Q : zQ} {a : Int} {w : Int → Int}
set_option maxHeartbeats 4000000 in
theorem k_nearest (wf : WF w) (hC : CI G a w) {p day : Int} (hp : rg p) (hdd : rg day) (hQ : ∀ G1, fr G G1 SC → CI G1 a w → Q (some (zi (q_nearest w p day))) G1) : zW (d + 7) 104 [zr 8 0 0, zi p, zi day] G Q := by
  obtain ⟨h03, ha, hA, ⟨ha0, ha1, ha2⟩, hs7, hix⟩ := hC; have hC : CI G a w := ⟨h03, ha, hA, ⟨ha0, ha1, ha2⟩, hs7, hix⟩; obtain ⟨n0, n1, n2, n3, n4, n5⟩ := WF_n wf; have hrg := WF_rg wf; have e3 : G (G 0 3) 3 = w 2 := by { rw [h03]; exact hA.1 }; have e4 : G (G 0 3) 4 = w 3 := by { rw [h03]; exact hA.2.1 }; have e5 : G (G 0 3) 5 = w 4 := by { rw [h03]; exact hA.2.2.1 }; have e2 : G (G 0 3) 2 = w 5 := by { rw [h03]; exact ha2 }
  unfold q_nearest okPD at hQ
  refine zm_104 ?_
  by_cases hg : (0 ≤ p ∧ p < w 2) ∧ (0 ≤ day ∧ day ≤ 365)
  · rw [if_pos hg] at hQ
    apply zs_104_0 <;> intros
    case h6 => exact c153 wf hC (fun G1 f1 hC1 hI1 h71 => zs_104_23 (c29 wf hI1 (by omega) (by omega) (by omega) (by omega) (zs_104_28 (hQ G1 (fr_wide f1 (by intro k j t; unfold SC; omega)) hC1))))
    all_goals first | omega | (repeat' first | exact hrg _ | assumption | (unfold rg; omega) | omega | refine And.intro ?_ ?_)
  · rw [if_neg hg] at hQ
    apply zs_104_0 <;> intros
    all_goals first | omega | exact hQ G (fr_refl _ _) hC | (repeat' first | exact hrg _ | assumption | (unfold rg; omega) | omega | refine And.intro ?_ ?_)
theorem CI_walk {G1 G2 : zG} (hC : CI G1 a w) (hI : IX G1 66 a w (-1)) (h7 : G1 0 7 = 0) (f : fr G1 G2 (fun k _ => 92 ≤ k ∧ k ≤ 293)) : CI G2 a w ∧ IX G2 66 a w (-1) ∧ G2 0 7 = 0 := by
  have hI2 : IX G2 66 a w (-1) := IX_fr hI (fun k j k0 k1 => f k j (by omega))
  have h72 : G2 0 7 = 0 := (f _ _ (by omega)).trans h7
  exact ⟨CI_fr hC (fr_wide f (by intro k j t; unfold SC; omega)) hI2 h72, hI2, h72⟩
set_option maxHeartbeats 4000000 in
theorem k_follow (wf : WF w) (hC : CI G a w) {p day k : Int} (hp : rg p) (hdd : rg day) (hk : rg k) (hQ : ∀ G1, fr G G1 SC → CI G1 a w → Q (some (zi (q_follow w p day k))) G1) : zW (d + 7) 105 [zr 8 0 0, zi p, zi day, zi k] G Q := by
  obtain ⟨h03, ha, hA, ⟨ha0, ha1, ha2⟩, hs7, hix⟩ := hC; have hC : CI G a w := ⟨h03, ha, hA, ⟨ha0, ha1, ha2⟩, hs7, hix⟩; obtain ⟨n0, n1, n2, n3, n4, n5⟩ := WF_n wf; have hrg := WF_rg wf; have e3 : G (G 0 3) 3 = w 2 := by { rw [h03]; exact hA.1 }; have e4 : G (G 0 3) 4 = w 3 := by { rw [h03]; exact hA.2.1 }; have e5 : G (G 0 3) 5 = w 4 := by { rw [h03]; exact hA.2.2.1 }; have e2 : G (G 0 3) 2 = w 5 := by { rw [h03]; exact ha2 }
  unfold q_follow okPD at hQ
  refine zm_105 ?_
  by_cases hg : (0 ≤ p ∧ p < w 2) ∧ (0 ≤ day ∧ day ≤ 365)
  · apply zs_105_0 <;> intros
    case h6 =>
      refine c153 wf hC (fun G1 f1 hC1 hI1 h71 => zs_105_27 ?_)
      refine c89 wf ha (by omega) hI1 hC1.2.2.1 (by omega) (by omega) (by omega) (by omega) (by omega) (fun G2 f2 hW => ?_)
      obtain ⟨hC2, hI2, h72⟩ := CI_walk hC1 hI1 h71 (fr_wide f2 (by intro k j t; omega))
      have hQ1 := hQ G2 (fr_trans (fr_wide f1 (by intro k j t; unfold SC; omega)) f2 (by intro k j t; unfold SC; omega)) hC2
      apply zs_105_32 <;> intros
      case h1 => exact hk
      case h2 => rw [if_pos (by omega), if_pos (by omega)] at hQ1; rw [hW.2.2.1]; exact hQ1
      case h3 => rw [if_pos (by omega), if_neg (by omega), if_pos (by omega)] at hQ1; rw [hW.2.1]; exact hQ1
      case h4 => rw [if_pos (by omega), if_neg (by omega), if_neg (by omega)] at hQ1; rw [hW.2.2.2.1]; exact hQ1
      case h5 => rw [if_neg (by omega)] at hQ1; exact hQ1
    all_goals first | omega | (repeat' first | exact hrg _ | assumption | (unfold rg; omega) | omega | refine And.intro ?_ ?_)
  · rw [if_neg (fun h => hg h.1)] at hQ
    apply zs_105_0 <;> intros
    all_goals first | omega | exact hQ G (fr_refl _ _) hC | (repeat' first | exact hrg _ | assumption | (unfold rg; omega) | omega | refine And.intro ?_ ?_)
set_option maxHeartbeats 4000000 in
theorem k_followed (wf : WF w) (hC : CI G a w) {p day i : Int} (hp : rg p) (hdd : rg day) (hi : rg i) (hQ : ∀ G1, fr G G1 SC → CI G1 a w → Q (some (zi (q_followed w p day i))) G1) : zW (d + 7) 106 [zr 8 0 0, zi p, zi day, zi i] G Q := by
  obtain ⟨h03, ha, hA, ⟨ha0, ha1, ha2⟩, hs7, hix⟩ := hC; have hC : CI G a w := ⟨h03, ha, hA, ⟨ha0, ha1, ha2⟩, hs7, hix⟩; obtain ⟨n0, n1, n2, n3, n4, n5⟩ := WF_n wf; have hrg := WF_rg wf; have e3 : G (G 0 3) 3 = w 2 := by { rw [h03]; exact hA.1 }; have e4 : G (G 0 3) 4 = w 3 := by { rw [h03]; exact hA.2.1 }; have e5 : G (G 0 3) 5 = w 4 := by { rw [h03]; exact hA.2.2.1 }; have e2 : G (G 0 3) 2 = w 5 := by { rw [h03]; exact ha2 }
  unfold q_followed okPD at hQ
  refine zm_106 ?_
  by_cases hg : ((0 ≤ p ∧ p < w 2) ∧ (0 ≤ day ∧ day ≤ 365)) ∧ 0 ≤ i
  · rw [if_pos hg] at hQ
    apply zs_106_0 <;> intros
    case h7 =>
      refine c153 wf hC (fun G1 f1 hC1 hI1 h71 => zs_106_31 ?_)
      refine c89 wf ha (by omega) hI1 hC1.2.2.1 (by omega) (by omega) (by omega) (by omega) (by omega) (fun G2 f2 hW => ?_)
      obtain ⟨hC2, hI2, h72⟩ := CI_walk hC1 hI1 h71 (fr_wide f2 (by intro k j t; omega))
      have hQ1 := hQ G2 (fr_trans (fr_wide f1 (by intro k j t; unfold SC; omega)) f2 (by intro k j t; unfold SC; omega)) hC2
      have hl := wy_len8 wf (dr := -1) p day (by omega) (by omega)
      have h2 := hW.2.1
      apply zs_106_36 <;> intros
      case h1 => exact ⟨hi, by unfold rg; omega⟩
      case h2 => rw [if_neg (by omega)] at hQ1; exact hQ1
      case h3 => omega
      case h4 => rw [if_pos (by omega)] at hQ1; rw [show (93 : Int) = 92 + 1 by omega, hW.2.2.2.2 i (by omega) (by omega)]; exact hQ1
    all_goals first | omega | (repeat' first | exact hrg _ | assumption | (unfold rg; omega) | omega | refine And.intro ?_ ?_)
  · rw [if_neg hg] at hQ
    apply zs_106_0 <;> intros
    all_goals first | omega | exact hQ G (fr_refl _ _) hC | (repeat' first | exact hrg _ | assumption | (unfold rg; omega) | omega | refine And.intro ?_ ?_)
set_option maxHeartbeats 4000000 in
theorem k_view (wf : WF w) (hC : CI G a w) {p day : Int} (hp : rg p) (hdd : rg day) (hQ : ∀ G1, fr G G1 SC → CI G1 a w → Q (some (zi (q_view w p day))) G1) : zW (d + 11) 107 [zr 8 0 0, zi p, zi day] G Q := by
  unfold q_view at hQ
  refine zm_107 (zs_107_0 (c154 wf hC hp hdd (fun hg => ?_) (fun hg G1 f1 hC1 hI1 hV h0 => ?_)))
  · rw [if_neg hg] at hQ
    apply zs_107_6 <;> intros
    case h2 => exact hQ G (fr_refl _ _) hC
    all_goals first | omega | (unfold rg; omega)
  · rw [if_pos hg] at hQ
    apply zs_107_6 <;> intros
    case h3 => rw [hV.1]; exact hQ G1 f1 hC1
    all_goals first | omega | (unfold rg; omega)
set_option maxHeartbeats 4000000 in
theorem k_shot (wf : WF w) (hC : CI G a w) {s k : Int} (hp : rg s) (hk : rg k) (hQ : ∀ G1, fr G G1 SC → CI G1 a w → Q (some (zi (q_shot w s k))) G1) : zW (d + 7) 100 [zr 8 0 0, zi s, zi k] G Q := by
  obtain ⟨h03, ha, hA, ⟨ha0, ha1, ha2⟩, hs7, hix⟩ := hC; have hC : CI G a w := ⟨h03, ha, hA, ⟨ha0, ha1, ha2⟩, hs7, hix⟩; obtain ⟨n0, n1, n2, n3, n4, n5⟩ := WF_n wf; have hrg := WF_rg wf; have e3 : G (G 0 3) 3 = w 2 := by { rw [h03]; exact hA.1 }; have e4 : G (G 0 3) 4 = w 3 := by { rw [h03]; exact hA.2.1 }; have e5 : G (G 0 3) 5 = w 4 := by { rw [h03]; exact hA.2.2.1 }; have e2 : G (G 0 3) 2 = w 5 := by { rw [h03]; exact ha2 }
  unfold q_shot at hQ
  refine zm_100 ?_
  by_cases hs : 0 ≤ s ∧ s < w 4
  · obtain ⟨s7, s8, s9, s10⟩ := hA.2.2.2.2 s hs.1 hs.2
    have hQ1 := hQ G (fr_refl _ _) hC
    apply zs_100_0 <;> intros
    case h6 => rw [if_pos (by omega), if_pos (by omega)] at hQ1; rw [h03, s7]; exact hQ1
    case h8 => rw [if_pos (by omega), if_neg (by omega), if_pos (by omega)] at hQ1; rw [h03, s8]; exact hQ1
    case h10 => rw [if_pos (by omega), if_neg (by omega), if_neg (by omega), if_pos (by omega)] at hQ1; rw [h03, s9]; exact hQ1
    case h11 =>
      rw [if_pos (by omega), if_neg (by omega), if_neg (by omega), if_neg (by omega), if_pos (by omega)] at hQ
      refine c153 wf hC (fun G1 f1 hC1 hI1 h71 => ?_)
      have := (hI1.2.2.2.2.1 s ⟨hs.1, hs.2, by omega, rfl⟩).1.1
      apply zs_100_82 <;> intros
      case h2 => rw [this]; exact hQ G1 (fr_wide f1 (by intro k j t; unfold SC; omega)) hC1
      all_goals first | omega | (repeat' first | exact hrg _ | assumption | (unfold rg; omega) | omega | refine And.intro ?_ ?_)
    case h13 => rename_i h; rw [h03, s9] at h; rw [if_pos (by omega), if_neg (by omega), if_neg (by omega), if_neg (by omega), if_neg (by omega), if_neg h] at hQ1; exact hQ1
    case h14 => rename_i h; rw [h03, s9] at h; rw [if_pos (by omega), if_neg (by omega), if_neg (by omega), if_neg (by omega), if_neg (by omega), if_pos h] at hQ1; rw [h03, s10 (Or.inr h)]; exact hQ1
    case h15 => rw [if_neg (by omega)] at hQ1; exact hQ1
    all_goals first | omega | (rw [h03] at *; rw [s9] at *; (repeat' first | exact hrg _ | assumption | (unfold rg; omega) | omega | refine And.intro ?_ ?_)) | (repeat' first | exact hrg _ | assumption | (unfold rg; omega) | omega | refine And.intro ?_ ?_)
  · rw [if_neg (fun h => hs h.1)] at hQ
    apply zs_100_0 <;> intros
    all_goals first | omega | exact hQ G (fr_refl _ _) hC | (repeat' first | exact hrg _ | assumption | (unfold rg; omega) | omega | refine And.intro ?_ ?_)
theorem OD_all (wf : WF w) {o st : Int → Int} {p : Int} (h : OD w (-1) o st) (p0 : 0 ≤ p) (p1 : p < 8) : ci (sho w (-1) p) (w 4) = st (p + 1) - st p := by
  have hst := h.1 p p0 p1
  rcases Int.lt_or_le (st p) (st (p + 1)) with c | c
  · have := OD_cnt wf h p0 p1 (f := st p) (by omega) (st (p + 1) - st p - 1).toNat (by omega)
    rw [show st p + (((st (p + 1) - st p - 1).toNat : Nat) : Int) = st (p + 1) - 1 by omega] at this
    rw [show st (p + 1) - st p = (((st (p + 1) - st p - 1).toNat : Nat) : Int) + 1 by omega, ← this]
    refine cn_congr _ (fun t t0 t1 => ⟨fun hs => ?_, fun hs => hs.1⟩)
    obtain ⟨j, j0, j1, e⟩ := h.2.2.2 p p0 p1 t hs
    refine ⟨hs, ?_, ?_⟩
    · have : ¬ (w ((116 + (4 * (o j))) + 1)) < (w ((116 + (4 * (o (st p)))) + 1)) := by rw [OD_lt h p0 p1 j0 j1 (by omega) c]; omega
      rw [e] at this; omega
    · have : ¬ (w ((116 + (4 * (o (st (p + 1) - 1)))) + 1)) < (w ((116 + (4 * (o j))) + 1)) := by rw [OD_lt h p0 p1 (by omega) (by omega) j0 j1]; omega
      rw [e] at this; omega
  · unfold ci
    rw [cn_0 _ (fun t t0 t1 hs => by obtain ⟨j, j0, j1, e⟩ := h.2.2.2 p p0 p1 t hs; omega)]
    omega
theorem OD_bd (wf : WF w) {o st : Int → Int} {p : Int} (h : OD w (-1) o st) (p0 : 0 ≤ p) (p1 : p < 8) : ∀ n : Nat, bd w p n = if st p + n < st (p + 1) then o (st p + n) else -1 := by
  have hst := h.1 p p0 p1
  intro n
  induction n with
  | zero =>
    show be w (-1) p (-1) = _
    rw [show st p + ((0 : Nat) : Int) = st p by omega]
    by_cases c : st p < st (p + 1)
    · rw [if_pos c]
      have hs := h.2.1 p p0 p1 (st p) (by omega) c
      refine be_eq wf (Or.inr ⟨⟨hs, by have := (WF_s wf hs.1 hs.2.1).2.1; omega⟩, fun t ht => ?_⟩)
      obtain ⟨j, j0, j1, e⟩ := h.2.2.2 p p0 p1 t ht.1
      have : ¬ (w ((116 + (4 * (o j))) + 1)) < (w ((116 + (4 * (o (st p)))) + 1)) := by rw [OD_lt h p0 p1 j0 j1 (by omega) c]; omega
      rw [e] at this
      show (w ((116 + (4 * (o (st p)))) + 1)) ≤ (w ((116 + (4 * t)) + 1))
      omega
    · rw [if_neg c]
      refine be_eq wf (Or.inl ⟨rfl, fun t ht => ?_⟩)
      obtain ⟨j, j0, j1, e⟩ := h.2.2.2 p p0 p1 t ht.1
      omega
  | succ n ih =>
    show (if bd w p n = -1 then -1 else be w (-1) p (w ((116 + (4 * (bd w p n))) + 1))) = _
    rw [show st p + ((n + 1 : Nat) : Int) = st p + n + 1 by omega]
    by_cases c : st p + n < st (p + 1)
    · rw [if_pos c] at ih
      have hs := (h.2.1 p p0 p1 (st p + n) (by omega) c).1
      rw [ih, if_neg (by omega), OD_be wf h p0 p1 (by omega) c]
      by_cases c2 : st p + n + 1 = st (p + 1)
      · rw [if_pos c2, if_neg (by omega)]
      · rw [if_neg c2, if_pos (by omega)]
    · rw [if_neg c] at ih
      rw [if_pos ih, if_neg (by omega)]
set_option maxHeartbeats 4000000 in
theorem k_shots (wf : WF w) (hC : CI G a w) {p : Int} (hp : rg p) (hQ : ∀ G1, fr G G1 SC → CI G1 a w → Q (some (zi (q_shots w p))) G1) : zW (d + 7) 102 [zr 8 0 0, zi p] G Q := by
  obtain ⟨h03, ha, hA, ⟨ha0, ha1, ha2⟩, hs7, hix⟩ := hC; have hC : CI G a w := ⟨h03, ha, hA, ⟨ha0, ha1, ha2⟩, hs7, hix⟩; obtain ⟨n0, n1, n2, n3, n4, n5⟩ := WF_n wf; have hrg := WF_rg wf; have e3 : G (G 0 3) 3 = w 2 := by { rw [h03]; exact hA.1 }; have e4 : G (G 0 3) 4 = w 3 := by { rw [h03]; exact hA.2.1 }; have e5 : G (G 0 3) 5 = w 4 := by { rw [h03]; exact hA.2.2.1 }; have e2 : G (G 0 3) 2 = w 5 := by { rw [h03]; exact ha2 }
  unfold q_shots at hQ
  refine zm_102 ?_
  by_cases hg : 0 ≤ p ∧ p < w 2
  · rw [if_pos hg] at hQ
    apply zs_102_0 <;> intros
    case h4 =>
      refine c153 wf hC (fun G1 f1 hC1 hI1 h71 => ?_)
      apply zs_102_15 <;> intros
      case h2 => rw [← OD_all wf hI1.2.2.2.1 (by omega) (by omega)]; exact hQ G1 (fr_wide f1 (by intro k j t; unfold SC; omega)) hC1
      all_goals first | omega | (repeat' first | exact hrg _ | assumption | (unfold rg; omega) | omega | refine And.intro ?_ ?_)
    all_goals first | omega | (repeat' first | exact hrg _ | assumption | (unfold rg; omega) | omega | refine And.intro ?_ ?_)
  · rw [if_neg hg] at hQ
    apply zs_102_0 <;> intros
    all_goals first | omega | exact hQ G (fr_refl _ _) hC | (repeat' first | exact hrg _ | assumption | (unfold rg; omega) | omega | refine And.intro ?_ ?_)
set_option maxHeartbeats 4000000 in
theorem k_byDay (wf : WF w) (hC : CI G a w) {p k : Int} (hp : rg p) (hk : rg k) (hQ : ∀ G1, fr G G1 SC → CI G1 a w → Q (some (zi (q_byDay w p k))) G1) : zW (d + 7) 103 [zr 8 0 0, zi p, zi k] G Q := by
  obtain ⟨h03, ha, hA, ⟨ha0, ha1, ha2⟩, hs7, hix⟩ := hC; have hC : CI G a w := ⟨h03, ha, hA, ⟨ha0, ha1, ha2⟩, hs7, hix⟩; obtain ⟨n0, n1, n2, n3, n4, n5⟩ := WF_n wf; have hrg := WF_rg wf; have e3 : G (G 0 3) 3 = w 2 := by { rw [h03]; exact hA.1 }; have e4 : G (G 0 3) 4 = w 3 := by { rw [h03]; exact hA.2.1 }; have e5 : G (G 0 3) 5 = w 4 := by { rw [h03]; exact hA.2.2.1 }; have e2 : G (G 0 3) 2 = w 5 := by { rw [h03]; exact ha2 }
  unfold q_byDay at hQ
  refine zm_103 ?_
  by_cases hg : (0 ≤ p ∧ p < w 2) ∧ 0 ≤ k
  · rw [if_pos hg] at hQ
    apply zs_103_0 <;> intros
    case h5 =>
      refine c153 wf hC (fun G1 f1 hC1 hI1 h71 => ?_)
      have hO := hI1.2.2.2.1
      have hst := hO.1 p (by omega) (by omega)
      have hb := OD_bd wf hO (p := p) (by omega) (by omega) k.toNat
      rw [Int.toNat_of_nonneg hg.2] at hb
      have hQ1 := hQ G1 (fr_wide f1 (by intro k j t; unfold SC; omega)) hC1
      rw [hb] at hQ1
      have hk := hk
      unfold rg at hk
      apply zs_103_19 <;> intros
      case h2 => rw [if_neg (by omega)] at hQ1; exact hQ1
      case h4 => rw [if_pos (by omega)] at hQ1; exact hQ1
      all_goals first | omega | (repeat' first | exact hrg _ | assumption | (unfold rg; omega) | omega | refine And.intro ?_ ?_)
    all_goals first | omega | (repeat' first | exact hrg _ | assumption | (unfold rg; omega) | omega | refine And.intro ?_ ?_)
  · rw [if_neg hg] at hQ
    apply zs_103_0 <;> intros
    all_goals first | omega | exact hQ G (fr_refl _ _) hC | (repeat' first | exact hrg _ | assumption | (unfold rg; omega) | omega | refine And.intro ?_ ?_)
end CL
