/-! THE CALLS: body, stored, unused -/
section SPEC
variable (w : Int → Int)
noncomputable def q_body (b k : Int) : Int := bP ((0 ≤ b ∧ b < w 3) ∧ ((0 ≤ k ∧ k ≤ 3) ∨ (10 ≤ k ∧ k ≤ 13) ∨ (20 ≤ k ∧ k ≤ 23))) (if k = 0 then (w (6 + (11 * b))) else if k = 1 then (w ((6 + (11 * b)) + 1)) else if k = 2 then (w ((6 + (11 * b)) + 2)) else if k = 3 then lq w b else if k ≤ 13 then (if (w ((6 + (11 * b)) + 1)) ≤ k - 10 then -1 else (w (((6 + (11 * b)) + 3) + (k - 10)))) else (if (w ((6 + (11 * b)) + 2)) ≤ k - 20 then -1 else (w (((6 + (11 * b)) + 7) + (k - 20))))) (-2)
noncomputable def stA : Nat → Int
  | 0 => 0
  | n + 1 => stA n + (if bo w (-1) n = -1 then 0 else (w (6 + (11 * (bo w (-1) n)))))
def stP (n : Nat) (b : Int) : Prop := ∃ s : Nat, s < n ∧ bo w (-1) s ≠ -1 ∧ lq w (bo w (-1) s) = b
noncomputable def q_stored (k : Int) : Int := bP (0 < w 5 ∧ 0 ≤ k ∧ k ≤ 1) (if k = 0 then stA w (w 4).toNat else sumB w (stP w (w 4).toNat) (w 3).toNat) (-2)
noncomputable def unu : Nat → Int
  | 0 => zshl 1 (w 3) - 1
  | n + 1 => if bo w (-1) n = -1 then unu n else zand (unu n) (zxor (zshl 1 (bo w (-1) n)) (-1))
noncomputable def q_unused : Int := bP (0 < w 5) (unu w (w 4).toNat) (-2)
end SPEC
section SL
variable {w : Int → Int}
theorem stP_n {n : Nat} (h : bo w (-1) n = -1) (b : Int) : stP w (n + 1) b ↔ stP w n b := by
  constructor
  · rintro ⟨s, h1, h2, h3⟩
    by_cases c : s = n
    · rw [c] at h2; exact absurd h h2
    · exact ⟨s, by omega, h2, h3⟩
  · rintro ⟨s, h1, h2, h3⟩
    exact ⟨s, by omega, h2, h3⟩
theorem stP_y {n : Nat} (h : bo w (-1) n ≠ -1) (b : Int) : stP w (n + 1) b ↔ (stP w n b ∨ lq w (bo w (-1) n) = b) := by
  constructor
  · rintro ⟨s, h1, h2, h3⟩
    by_cases c : s = n
    · rw [c] at h3; exact Or.inr h3
    · exact Or.inl ⟨s, by omega, h2, h3⟩
  · rintro (⟨s, h1, h2, h3⟩ | h3)
    · exact ⟨s, by omega, h2, h3⟩
    · exact ⟨n, by omega, h, h3⟩
theorem wt_lq {b : Int} (b0 : 0 ≤ b) : (w (6 + (11 * b))) = (w (6 + (11 * (lq w b)))) := by
  rcases (lq_is (w := w) b0).2.2.1 with h | h
  · rw [h.2]
  · exact h.2.2.1.symm
theorem stP_0 (b : Int) : ¬ stP w 0 b := fun ⟨s, h, _⟩ => Nat.not_lt_zero _ h
end SL
section RE
variable {d : Nat} {G : zG} {Q : zQ} {w : Int → Int}
set_option maxHeartbeats 4000000 in
theorem r_body (wf : WF w) (hw : G 298 = w) (hd : G 297 7 = -1) {b k : Int} (hb : rg b) (hk : rg k) (hQ : ∀ G1, fr G G1 SR → Q (some (zi (q_body w b k))) G1) : zW (d + 7) 219 [zr 9 0 297, zi b, zi k] G Q := by
  subst hw
  obtain ⟨n0, n1, n2, n3, n4, n5⟩ := WF_n wf; have hrg := WF_rg wf
  unfold q_body at hQ
  refine zm_219 ?_
  have hQ := hQ G (fr_refl _ _)
  by_cases hg : (0 ≤ b ∧ b < G 298 3) ∧ ((0 ≤ k ∧ k ≤ 3) ∨ (10 ≤ k ∧ k ≤ 13) ∨ (20 ≤ k ∧ k ≤ 23))
  · rw [bP_t hg] at hQ
    have wb := WF_b wf hg.1.1 hg.1.2
    apply zs_219_0 <;> intros
    case h25 => rw [if_pos (by omega)] at hQ; exact hQ
    case h23 => rw [if_neg (by omega), if_pos (by omega)] at hQ; exact hQ
    case h21 => rw [if_neg (by omega), if_neg (by omega), if_pos (by omega)] at hQ; exact hQ
    case h19 =>
      rw [if_neg (by omega), if_neg (by omega), if_neg (by omega), if_pos (by omega)] at hQ
      exact c180 wf (by omega) (by omega) (fun r hr _ _ => zs_219_53 (by rw [hr]; exact hQ))
    case h4 => rw [if_neg (by omega), if_neg (by omega), if_neg (by omega), if_neg (by omega), if_pos (by omega), if_pos (by omega)] at hQ; exact hQ
    case h6 => rw [if_neg (by omega), if_neg (by omega), if_neg (by omega), if_neg (by omega), if_pos (by omega), if_neg (by omega)] at hQ; exact hQ
    case h14 => rw [if_neg (by omega), if_neg (by omega), if_neg (by omega), if_neg (by omega), if_neg (by omega), if_pos (by omega)] at hQ; exact hQ
    case h16 => rw [if_neg (by omega), if_neg (by omega), if_neg (by omega), if_neg (by omega), if_neg (by omega), if_neg (by omega)] at hQ; exact hQ
    all_goals first | omega | (repeat' first | exact hrg _ | assumption | (unfold rg; omega) | omega | refine And.intro ?_ ?_)
  · rw [bP_f hg] at hQ
    apply zs_219_0 <;> intros
    all_goals first | omega | exact hQ | (repeat' first | exact hrg _ | assumption | (unfold rg; omega) | omega | refine And.intro ?_ ?_)
set_option maxHeartbeats 4000000 in
theorem r_stored (wf : WF w) (hw : G 298 = w) (hd : G 297 7 = -1) {k : Int} (hk : rg k) (hQ : ∀ G1, fr G G1 SR → Q (some (zi (q_stored w k))) G1) : zW (d + 7) 253 [zr 9 0 297, zi k] G Q := by
  subst hw
  obtain ⟨n0, n1, n2, n3, n4, n5⟩ := WF_n wf; have hrg := WF_rg wf
  unfold q_stored at hQ
  refine zm_253 ?_
  have hQ := hQ G (fr_refl _ _)
  by_cases hg : 0 < G 298 5 ∧ 0 ≤ k ∧ k ≤ 1
  · rw [bP_t hg] at hQ
    have k93 : k ≠ 0 → ∀ (met : Int), (∀ b, 0 ≤ b → b < 32 → (zt met b ↔ stP (G 298) (G 298 4).toNat b)) → ∀ (r n : Nat), n + r = (G 298 3).toNat → ∀ l1 l2, zAt xT_253 (zW (d + 6)) Q 93 [zr 9 0 297, l1, l2, zi met, zi (sumB (G 298) (stP (G 298) (G 298 4).toNat) n), zi n] [] G := by
      intro k0 met hmet r
      rw [if_neg k0] at hQ
      induction r with
      | zero =>
        intro n hr l1 l2
        have e : n = (G 298 3).toNat := by omega
        apply zs_253_93 <;> intros
        case h2 => rw [e]; exact hQ
        all_goals first | omega | (repeat' first | exact hrg _ | assumption | (unfold rg; omega) | omega | refine And.intro ?_ ?_)
      | succ r ih =>
        intro n hr l1 l2
        have ih := ih (n + 1) (by omega)
        have e : sumB (G 298) (stP (G 298) (G 298 4).toNat) (n + 1) = sumB (G 298) (stP (G 298) (G 298 4).toNat) n + @ite Int (stP (G 298) (G 298 4).toNat n) (Classical.propDecidable _) ((G 298) (6 + (11 * (n : Int)))) 0 := rfl
        have hb := hmet n (by omega) (by omega)
        apply zs_253_93 <;> intros
        case h4 =>
          rename_i h
          have : ¬ stP (G 298) (G 298 4).toNat n := fun z => h ((zt_bit1 (by omega) (by omega)).mpr (hb.mpr z))
          rw [e, if_neg this] at ih; exact ih _ _
        case h6 =>
          rename_i h
          have : stP (G 298) (G 298 4).toNat n := hb.mp ((zt_bit1 (by omega) (by omega)).mp h)
          rw [e, if_pos this] at ih; exact ih _ _
        case h3 => exact rg_zand _ _
        all_goals first | omega | (repeat' first | exact hrg _ | assumption | (unfold rg; omega) | omega | refine And.intro ?_ ?_)
    have key : ∀ (r n : Nat) (met : Int), n + r = (G 298 4).toNat → (∀ b, 0 ≤ b → b < 32 → (zt met b ↔ stP (G 298) n b)) → ∀ l5, zAt xT_253 (zW (d + 6)) Q 27 [zr 9 0 297, zi k, zi (stA (G 298) n), zi met, zi n, l5] [] G := by
      intro r
      induction r with
      | zero =>
        intro n met hr hmet l5
        have e : n = (G 298 4).toNat := by omega
        apply zs_253_27 <;> intros
        case h3 => exact k93 (by omega) met (by rw [← e]; exact hmet) (G 298 3).toNat 0 (by omega) _ _
        case h4 => rw [if_pos (by omega)] at hQ; rw [e]; exact hQ
        all_goals first | omega | (repeat' first | exact hrg _ | assumption | (unfold rg; omega) | omega | refine And.intro ?_ ?_)
      | succ r ih =>
        intro n met hr hmet l5
        have hb := bo_rg (dr := -1) wf (s := n) (by omega) (by omega)
        have e : stA (G 298) (n + 1) = stA (G 298) n + (if bo (G 298) (-1) n = -1 then 0 else ((G 298) (6 + (11 * (bo (G 298) (-1) n))))) := rfl
        have ih := ih (n + 1)
        rw [e] at ih
        apply zs_253_27 <;> intros
        case h5 =>
          refine c178 wf (by rw [hd]; exact ⟨by omega, by omega⟩) (by omega) (by omega) ?_
          rw [hd]
          by_cases c : bo (G 298) (-1) n = -1
          · rw [if_pos c, Int.add_zero] at ih
            apply zs_253_44 <;> intros
            case h4 => exact ih met (by omega) (fun b b0 b1 => by rw [stP_n c]; exact hmet b b0 b1) _
            all_goals first | omega | (repeat' first | exact hrg _ | assumption | (unfold rg; omega) | omega | refine And.intro ?_ ?_)
          · rw [if_neg c] at ih
            apply zs_253_44 <;> intros
            case h3 =>
              refine c180 wf (by omega) (by omega) (fun q hq q0 q1 => zs_253_72 ?_)
              refine ih _ (by omega) (fun b b0 b1 => ?_) _
              rw [zt_or1 q0 (by omega) b0 b1, hmet b b0 b1, stP_y c, ← hq]
            all_goals first | omega | (repeat' first | exact hrg _ | assumption | (unfold rg; omega) | omega | refine And.intro ?_ ?_)
        all_goals first | omega | (repeat' first | exact hrg _ | assumption | (unfold rg; omega) | omega | refine And.intro ?_ ?_)
    apply zs_253_0 <;> intros
    case h4 => exact key (G 298 4).toNat 0 0 (by omega) (fun b b0 b1 => ⟨fun z => absurd z (zt_0 b), fun z => absurd z (stP_0 b)⟩) _
    all_goals first | omega | (repeat' first | exact hrg _ | assumption | (unfold rg; omega) | omega | refine And.intro ?_ ?_)
  · rw [bP_f hg] at hQ
    apply zs_253_0 <;> intros
    all_goals first | omega | exact hQ | (repeat' first | exact hrg _ | assumption | (unfold rg; omega) | omega | refine And.intro ?_ ?_)
set_option maxHeartbeats 4000000 in
theorem r_unused (wf : WF w) (hw : G 298 = w) (hd : G 297 7 = -1) (hQ : ∀ G1, fr G G1 SR → Q (some (zi (q_unused w))) G1) : zW (d + 7) 254 [zr 9 0 297] G Q := by
  subst hw
  obtain ⟨n0, n1, n2, n3, n4, n5⟩ := WF_n wf; have hrg := WF_rg wf
  unfold q_unused at hQ
  refine zm_254 ?_
  have hQ := hQ G (fr_refl _ _)
  by_cases hg : 0 < G 298 5
  · rw [bP_t hg] at hQ
    have key : ∀ (r n : Nat), n + r = (G 298 4).toNat → zAt xT_254 (zW (d + 6)) Q 23 [zr 9 0 297, zi (unu (G 298) n), zi n] [] G := by
      intro r
      induction r with
      | zero =>
        intro n hr
        have e : n = (G 298 4).toNat := by omega
        apply zs_254_23 <;> intros
        case h2 => rw [e]; exact hQ
        all_goals first | omega | (repeat' first | exact hrg _ | assumption | (unfold rg; omega) | omega | refine And.intro ?_ ?_)
      | succ r ih =>
        intro n hr
        have hb := bo_rg (dr := -1) wf (s := n) (by omega) (by omega)
        have e : unu (G 298) (n + 1) = if bo (G 298) (-1) n = -1 then unu (G 298) n else zand (unu (G 298) n) (zxor (zshl 1 (bo (G 298) (-1) n)) (-1)) := rfl
        have ih := ih (n + 1) (by omega)
        rw [e] at ih
        apply zs_254_23 <;> intros
        case h3 =>
          refine c178 wf (by rw [hd]; exact ⟨by omega, by omega⟩) (by omega) (by omega) ?_
          rw [hd]
          by_cases c : bo (G 298) (-1) n = -1
          · rw [if_pos c] at ih
            apply zs_254_38 <;> intros
            case h2 => exact ih
            all_goals first | omega | (repeat' first | exact hrg _ | assumption | (unfold rg; omega) | omega | refine And.intro ?_ ?_)
          · rw [if_neg c] at ih
            apply zs_254_38 <;> intros
            case h3 =>
              refine c178 wf (by rw [hd]; exact ⟨by omega, by omega⟩) (by omega) (by omega) (zs_254_49 ?_)
              rw [hd]
              exact ih
            all_goals first | omega | (repeat' first | exact hrg _ | assumption | (unfold rg; omega) | omega | refine And.intro ?_ ?_)
        all_goals first | omega | (repeat' first | exact hrg _ | assumption | (unfold rg; omega) | omega | refine And.intro ?_ ?_)
    apply zs_254_0 <;> intros
    case h3 => exact key (G 298 4).toNat 0 (by omega)
    all_goals first | omega | (repeat' first | exact hrg _ | assumption | (unfold rg; omega) | omega | refine And.intro ?_ ?_)
  · rw [bP_f hg] at hQ
    apply zs_254_0 <;> intros
    all_goals first | omega | exact hQ | (repeat' first | exact hrg _ | assumption | (unfold rg; omega) | omega | refine And.intro ?_ ?_)
end RE
section KV
variable {d : Nat} {G : zG} {Q : zQ} {a : Int} {w : Int → Int}
set_option maxHeartbeats 4000000 in
theorem k_body (wf : WF w) (hC : CI G a w) {b k : Int} (hb : rg b) (hk : rg k) (hQ : ∀ G1, fr G G1 SC → CI G1 a w → Q (some (zi (q_body w b k))) G1) : zW (d + 7) 101 [zr 8 0 0, zi b, zi k] G Q := by
  obtain ⟨h03, ha, hA, ⟨ha0, ha1, ha2⟩, hs7, hix⟩ := hC; have hC : CI G a w := ⟨h03, ha, hA, ⟨ha0, ha1, ha2⟩, hs7, hix⟩; obtain ⟨n0, n1, n2, n3, n4, n5⟩ := WF_n wf; have hrg := WF_rg wf; have e3 : G (G 0 3) 3 = w 2 := by { rw [h03]; exact hA.1 }; have e4 : G (G 0 3) 4 = w 3 := by { rw [h03]; exact hA.2.1 }; have e5 : G (G 0 3) 5 = w 4 := by { rw [h03]; exact hA.2.2.1 }; have e2 : G (G 0 3) 2 = w 5 := by { rw [h03]; exact ha2 }
  unfold q_body at hQ
  have hQ := hQ G (fr_refl _ _) hC
  by_cases hg : (0 ≤ b ∧ b < w 3) ∧ ((0 ≤ k ∧ k ≤ 3) ∨ (10 ≤ k ∧ k ≤ 13) ∨ (20 ≤ k ∧ k ≤ 23))
  · rw [bP_t hg] at hQ
    have wb := WF_b wf hg.1.1 hg.1.2
    obtain ⟨a1, a2, a3, a4, a5, a6⟩ := hA.2.2.2.1 b hg.1.1 hg.1.2
    rw [← h03] at a1 a2 a3 a4 a5 a6
    have b1 : G ((G 0 3) + 1) b = _ := a1
    have b2 : G ((G 0 3) + 2) b = _ := a2
    have b3 : G ((G 0 3) + 3) b = _ := a3
    have b4 : G ((G 0 3) + 6) b = _ := a4
    apply zf_101 <;> intros
    case h6 => rw [if_pos (by omega)] at hQ; rw [b1]; exact hQ
    case h8 => rw [if_neg (by omega), if_pos (by omega)] at hQ; rw [b2]; exact hQ
    case h10 => rw [if_neg (by omega), if_neg (by omega), if_pos (by omega)] at hQ; rw [b3]; exact hQ
    case h12 => rw [if_neg (by omega), if_neg (by omega), if_neg (by omega), if_pos (by omega)] at hQ; rw [b4]; exact hQ
    case h26 => rw [if_neg (by omega), if_neg (by omega), if_neg (by omega), if_neg (by omega), if_pos (by omega), if_pos (by omega)] at hQ; exact hQ
    case h28 => rw [if_neg (by omega), if_neg (by omega), if_neg (by omega), if_neg (by omega), if_pos (by omega), if_neg (by omega)] at hQ; rw [a5 (k - 10) (by omega) (by omega)]; exact hQ
    case h22 => rw [if_neg (by omega), if_neg (by omega), if_neg (by omega), if_neg (by omega), if_neg (by omega), if_pos (by omega)] at hQ; exact hQ
    case h24 => rw [if_neg (by omega), if_neg (by omega), if_neg (by omega), if_neg (by omega), if_neg (by omega), if_neg (by omega)] at hQ; rw [a6 (k - 20) (by omega) (by omega)]; exact hQ
    all_goals first | omega | (repeat' first | exact hrg _ | assumption | (unfold rg; omega) | omega | refine And.intro ?_ ?_)
  · rw [bP_f hg] at hQ
    by_cases hb3 : 0 ≤ b ∧ b < w 3
    · have wb := WF_b wf hb3.1 hb3.2
      obtain ⟨a1, a2, a3, a4, a5, a6⟩ := hA.2.2.2.1 b hb3.1 hb3.2
      rw [← h03] at a1 a2 a3 a4 a5 a6
      apply zf_101 <;> intros
      all_goals first | omega | exact hQ | (repeat' first | exact hrg _ | assumption | (unfold rg; omega) | omega | refine And.intro ?_ ?_)
    · apply zf_101 <;> intros
      all_goals first | omega | exact hQ | (repeat' first | exact hrg _ | assumption | (unfold rg; omega) | omega | refine And.intro ?_ ?_)
set_option maxHeartbeats 4000000 in
theorem k_stored (wf : WF w) (hC : CI G a w) {k : Int} (hk : rg k) (hQ : ∀ G1, fr G G1 SC → CI G1 a w → Q (some (zi (q_stored w k))) G1) : zW (d + 8) 130 [zr 8 0 0, zi k] G Q := by
  obtain ⟨h03, ha, hA, ⟨ha0, ha1, ha2⟩, hs7, hix⟩ := hC; have hC : CI G a w := ⟨h03, ha, hA, ⟨ha0, ha1, ha2⟩, hs7, hix⟩; obtain ⟨n0, n1, n2, n3, n4, n5⟩ := WF_n wf; have hrg := WF_rg wf; have e3 : G (G 0 3) 3 = w 2 := by { rw [h03]; exact hA.1 }; have e4 : G (G 0 3) 4 = w 3 := by { rw [h03]; exact hA.2.1 }; have e5 : G (G 0 3) 5 = w 4 := by { rw [h03]; exact hA.2.2.1 }; have e2 : G (G 0 3) 2 = w 5 := by { rw [h03]; exact ha2 }
  unfold q_stored at hQ
  refine zm_130 ?_
  by_cases hg : 0 < w 5 ∧ 0 ≤ k ∧ k ≤ 1
  · rw [bP_t hg] at hQ
    apply zs_130_0 <;> intros
    case h4 =>
      refine c153 wf hC (fun G1 f1 hC1 hI1 h71 => zs_130_23 ?_)
      have hQ1 := hQ G1 (fr_wide f1 (by intro k j t; unfold SC; omega)) hC1
      have g03 : G1 0 3 = a := hC1.1
      have hA1 := hC1.2.2.1
      have g5 : G1 (G1 0 3) 5 = w 4 := by rw [g03]; exact hA1.2.2.1
      have key : ∀ (r n : Nat) (met : Int), n + r = (w 4).toNat → (∀ b, 0 ≤ b → b < 32 → (zt met b ↔ stP w n b)) → ∀ l6 l7, zAt xT_130 (zW (d + 7)) Q 32 [zr 8 0 0, zi k, zr 1 0 66, zi met, zi (if k = 0 then stA w n else sumB w (stP w n) (w 3).toNat), zi n, l6, l7] [] G1 := by
        intro r
        induction r with
        | zero =>
          intro n met hr hmet l6 l7
          have e : n = (w 4).toNat := by omega
          apply zs_130_32 <;> intros
          case h2 => rw [e]; exact hQ1
          all_goals first | omega | (repeat' first | exact hrg _ | assumption | (unfold rg; omega) | omega | refine And.intro ?_ ?_)
        | succ r ih =>
          intro n met hr hmet l6 l7
          have hsh : sho w (-1) (w (116 + (4 * (n : Int)))) n := ⟨by omega, by omega, by omega, rfl⟩
          have hb := bo_rg (dr := -1) wf (s := n) (by omega) (by omega)
          have hbo : G1 (66 + 3) n = bo w (-1) n := (hI1.2.2.2.2.1 n hsh).1.1
          have e : stA w (n + 1) = stA w n + (if bo w (-1) n = -1 then 0 else (w (6 + (11 * (bo w (-1) n))))) := rfl
          by_cases c : bo w (-1) n = -1
          · rw [if_pos c, Int.add_zero] at e
            have nx := fun l6 l7 => ih (n + 1) met (by omega) (fun b b0 b1 => by rw [stP_n c]; exact hmet b b0 b1) l6 l7
            rw [e, sumB_congr (w := w) (P := stP w (n + 1)) (R := stP w n) (w 3).toNat (fun t _ _ => stP_n c t)] at nx
            apply zs_130_32 <;> intros
            case h9 => exact nx _ _
            all_goals first | omega | (repeat' first | exact hrg _ | assumption | (unfold rg; omega) | omega | refine And.intro ?_ ?_)
          · rw [if_neg c] at e
            have hlq := lq_is (w := w) (b := bo w (-1) n) (by omega)
            have q0 := hlq.1
            have q1 := hlq.2.1
            obtain ⟨a1, a2, a3, a4, a5, a6⟩ := hA1.2.2.2.1 (bo w (-1) n) (by omega) (by omega)
            rw [← g03] at a1 a4
            have nx := fun l6 l7 => ih (n + 1) (zor met (zshl 1 (lq w (bo w (-1) n)))) (by omega) (fun b b0 b1 => by rw [zt_or1 q0 (by omega) b0 b1, hmet b b0 b1, stP_y c]) l6 l7
            rw [e] at nx
            apply zs_130_32 <;> intros
            case h5 => rw [if_pos (by assumption)] at nx ⊢; rw [hbo, a4, a1]; exact nx _ _
            case h7 =>
              rename_i k0 h
              rw [hbo, a4] at h ⊢
              rw [if_neg k0] at nx ⊢
              have hz : zt met (lq w (bo w (-1) n)) := Classical.byContradiction fun z => h ((zt_and0 (by omega) (by omega)).mpr z)
              have hz := (hmet _ (by omega) (by omega)).mp hz
              rw [sumB_congr (w := w) (P := stP w (n + 1)) (R := stP w n) (w 3).toNat (fun t _ _ => (stP_y c t).trans ⟨fun z => z.elim id (fun e => e ▸ hz), Or.inl⟩)] at nx
              exact nx _ _
            case h8 =>
              rename_i k0 h
              rw [hbo, a4] at h ⊢
              rw [a1]
              rw [if_neg k0] at nx ⊢
              have hz := (zt_and0 (by omega) (by omega)).mp h
              have hz : ¬ stP w n (lq w (bo w (-1) n)) := fun q => hz ((hmet _ (by omega) (by omega)).mpr q)
              have ea := (sumB_add (w := w) hz (w 3).toNat).1 (by omega) (by omega)
              rw [wt_lq (w := w) (b := bo w (-1) n) (by omega), ← ea]
              rw [sumB_congr (w := w) (P := stP w (n + 1)) (R := fun t => stP w n t ∨ t = lq w (bo w (-1) n)) (w 3).toNat (fun t _ _ => (stP_y c t).trans ⟨fun z => z.imp id Eq.symm, fun z => z.imp id Eq.symm⟩)] at nx
              exact nx _ _
            case h6 => exact rg_zand _ _
            all_goals first | omega | (repeat' first | exact hrg _ | assumption | (unfold rg; omega) | omega | refine And.intro ?_ ?_)
      have := key (w 4).toNat 0 0 (by omega) (fun b b0 b1 => ⟨fun z => absurd z (zt_0 b), fun z => absurd z (stP_0 b)⟩) z0 z0
      have e0 : (if k = 0 then stA w 0 else sumB w (stP w 0) (w 3).toNat) = 0 := by
        split
        · rfl
        · rw [sumB_congr (w := w) (P := stP w 0) (R := fun _ => False) (w 3).toNat (fun t _ _ => ⟨fun z => absurd z (stP_0 t), fun z => z.elim⟩)]
          exact sumB_none _
      rw [e0] at this
      exact this
    all_goals first | omega | (repeat' first | exact hrg _ | assumption | (unfold rg; omega) | omega | refine And.intro ?_ ?_)
  · rw [bP_f hg] at hQ
    apply zs_130_0 <;> intros
    all_goals first | omega | exact hQ G (fr_refl _ _) hC | (repeat' first | exact hrg _ | assumption | (unfold rg; omega) | omega | refine And.intro ?_ ?_)
set_option maxHeartbeats 4000000 in
theorem k_unused (wf : WF w) (hC : CI G a w) (hQ : ∀ G1, fr G G1 SC → CI G1 a w → Q (some (zi (q_unused w))) G1) : zW (d + 8) 131 [zr 8 0 0] G Q := by
  obtain ⟨h03, ha, hA, ⟨ha0, ha1, ha2⟩, hs7, hix⟩ := hC; have hC : CI G a w := ⟨h03, ha, hA, ⟨ha0, ha1, ha2⟩, hs7, hix⟩; obtain ⟨n0, n1, n2, n3, n4, n5⟩ := WF_n wf; have hrg := WF_rg wf; have e3 : G (G 0 3) 3 = w 2 := by { rw [h03]; exact hA.1 }; have e4 : G (G 0 3) 4 = w 3 := by { rw [h03]; exact hA.2.1 }; have e5 : G (G 0 3) 5 = w 4 := by { rw [h03]; exact hA.2.2.1 }; have e2 : G (G 0 3) 2 = w 5 := by { rw [h03]; exact ha2 }
  unfold q_unused at hQ
  refine zm_131 ?_
  by_cases hg : 0 < w 5
  · rw [bP_t hg] at hQ
    apply zs_131_0 <;> intros
    case h2 =>
      refine c153 wf hC (fun G1 f1 hC1 hI1 h71 => ?_)
      have hQ1 := hQ G1 (fr_wide f1 (by intro k j t; unfold SC; omega)) hC1
      have g03 : G1 0 3 = a := hC1.1
      have hA1 := hC1.2.2.1
      have g5 : G1 (G1 0 3) 5 = w 4 := by rw [g03]; exact hA1.2.2.1
      have g4 : G1 (G1 0 3) 4 = w 3 := by rw [g03]; exact hA1.2.1
      have key : ∀ (r n : Nat), n + r = (w 4).toNat → zAt xT_131 (zW (d + 7)) Q 29 [zr 8 0 0, zr 1 0 66, zi (unu w n), zi n] [] G1 := by
        intro r
        induction r with
        | zero =>
          intro n hr
          have e : n = (w 4).toNat := by omega
          apply zs_131_29 <;> intros
          case h2 => rw [e]; exact hQ1
          all_goals first | omega | (repeat' first | exact hrg _ | assumption | (unfold rg; omega) | omega | refine And.intro ?_ ?_)
        | succ r ih =>
          intro n hr
          have hsh : sho w (-1) (w (116 + (4 * (n : Int)))) n := ⟨by omega, by omega, by omega, rfl⟩
          have hb := bo_rg (dr := -1) wf (s := n) (by omega) (by omega)
          have hbo : G1 (66 + 3) n = bo w (-1) n := (hI1.2.2.2.2.1 n hsh).1.1
          have e : unu w (n + 1) = if bo w (-1) n = -1 then unu w n else zand (unu w n) (zxor (zshl 1 (bo w (-1) n)) (-1)) := rfl
          have ih := ih (n + 1) (by omega)
          rw [e] at ih
          apply zs_131_29 <;> intros
          case h4 => rw [if_pos (by omega)] at ih; exact ih
          case h5 => rw [if_neg (by omega)] at ih; rw [hbo]; exact ih
          all_goals first | omega | (repeat' first | exact hrg _ | assumption | (unfold rg; omega) | omega | refine And.intro ?_ ?_)
      apply zs_131_14 <;> intros
      case h2 => rw [g4]; exact key (w 4).toNat 0 (by omega)
      all_goals first | omega | (repeat' first | exact hrg _ | assumption | (unfold rg; omega) | omega | refine And.intro ?_ ?_)
    all_goals first | omega | (repeat' first | exact hrg _ | assumption | (unfold rg; omega) | omega | refine And.intro ?_ ?_)
  · rw [bP_f hg] at hQ
    apply zs_131_0 <;> intros
    all_goals first | omega | exact hQ G (fr_refl _ _) hC | (repeat' first | exact hrg _ | assumption | (unfold rg; omega) | omega | refine And.intro ?_ ?_)
end KV
