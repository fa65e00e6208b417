/-! ACTS by the class: drop, rule, image, back -/
section CL
variable {d : Nat} {G : zG} {Q : zQ} {a m : Int} {W : Int → Int} {P : Int → Int → Int}
set_option maxHeartbeats 8000000 in
theorem c14 (ha : 5 ≤ a) (h : HS G a W m P) (m1 : m < 20) {s : Int} (s0 : 0 ≤ s ∧ s < W 4) (hQ : ∀ G1, fr G G1 (fun k _ => a ≤ k ∧ k ≤ a + 11) → HS G1 a (rmS W s) (m + 1) (Pn P m W) → Q none G1) : zW (d + 4) 14 [zr 0 0 a, zi s] G Q := by
  have hH := h
  obtain ⟨z1, z2, z3, z4, z5, z6⟩ := h
  have hm := z4.2
  have z41 := z4.1
  have nn := WF_n z1
  have a5 : G a 5 = W 4 := z2.2.2.1
  obtain ⟨v1, v2, v3, v4⟩ := z2.2.2.2.2 s s0.1 s0.2
  have key : ∀ G0 : zG, (∀ q j, ¬ (q = a ∧ j = 6) → ¬ (q = a + 11 ∧ m * 6 ≤ j) → G0 q j = G q j) → G0 a 6 = m + 1 → G0 (a + 11) (m * 6) = 1 → G0 (a + 11) (m * 6 + 1) = s → G0 (a + 11) (m * 6 + 2) = G (a + 7) s → G0 (a + 11) (m * 6 + 3) = G (a + 8) s → G0 (a + 11) (m * 6 + 4) = G (a + 9) s → G0 (a + 11) (m * 6 + 5) = G (a + 10) s → ∀ l2, zW (d + 3) 11 [zr 0 0 a, zi s] G0 (fun r G1 => zq0 r (zAt xT_14 (zW (d + 3)) Q 68 [zr 0 0 a, zi s, zi l2] [] G1)) := by
    intro G0 g g6 l0 l1 l2 l3 l4 l5 _
    have b5 : G0 a 5 = W 4 := (g _ _ (by omega) (by omega)).trans a5
    refine c11 (m := W 4) b5 s0 (by omega) (fun G1 hR => zs_14_68 ?_)
    obtain ⟨r1, r2, r3, r4⟩ := hR
    have f2 : ∀ q j, ¬ (a + 7 ≤ q ∧ q ≤ a + 10) → ¬ (q = a ∧ (j = 5 ∨ j = 6)) → ¬ (q = a + 11 ∧ m * 6 ≤ j) → G1 q j = G q j := fun q j c1 c2 c3 => by rw [r2 q j c1 (by omega), g _ _ (by omega) (by omega)]
    have lo : ∀ j, j ≠ 4 → j < 116 → rmS W s j = W j := fun j h4 h => rmS_lo h4 (by omega)
    have q0 : ∀ c, G1 (a + 11) c = G0 (a + 11) c := fun c => r2 _ _ (by omega) (by omega)
    refine hQ G1 (fun q j hk => f2 _ _ (by omega) (by omega) (by omega)) (HS_push hH m1 (WF_rm z1 s0) (lo _ (by omega) (by omega)) ?_ ⟨?_, ?_, ?_⟩ ?_ (BND_fr z5 (fun q j k0 k1 => f2 _ _ (by omega) (by omega) (by omega))) (fun j j0 j1 => f2 _ _ (by omega) (by omega) (by omega)) ?_)
    · refine ARC_re z1 z2 (fun j j0 j1 j4 => lo j j4 j1) (fun q j k0 k1 => f2 _ _ (by omega) (by omega) (by omega)) (f2 _ _ (by omega) (by omega) (by omega)) (f2 _ _ (by omega) (by omega) (by omega)) (by rw [r1, rmS_4]) (fun t t0 t1 => ?_)
      rw [rmS_4] at t1
      by_cases c : t < s
      · exact SH1_of (G := G) (w := W) (z2.2.2.2.2 t t0 (by omega)) (fun q k0 k1 => by rw [r3 q t (by omega) k1 t0 c, g _ _ (by omega) (by omega)]) (fun j j0 j1 => rmS_lo (by omega) (by omega))
      · obtain ⟨y1, y2, y3, y4⟩ := z2.2.2.2.2 (t + 1) (by omega) (by omega)
        have cell : ∀ c, 0 ≤ c → c < 4 → rmS W s (116 + 4 * t + c) = W (116 + 4 * (t + 1) + c) := fun c c0 c1 => by
          rw [rmS_hi s0.1 (by omega) (by omega)]; congr 1; omega
        have p0 : ((rmS W s) (116 + (4 * t))) = (W (116 + (4 * (t + 1)))) := by have := cell 0 (by omega) (by omega); rw [Int.add_zero, Int.add_zero] at this; exact this
        have p1 : ((rmS W s) ((116 + (4 * t)) + 1)) = (W ((116 + (4 * (t + 1))) + 1)) := cell 1 (by omega) (by omega)
        have p2 : ((rmS W s) ((116 + (4 * t)) + 2)) = (W ((116 + (4 * (t + 1))) + 2)) := cell 2 (by omega) (by omega)
        have p3 : ((rmS W s) ((116 + (4 * t)) + 3)) = (W ((116 + (4 * (t + 1))) + 3)) := cell 3 (by omega) (by omega)
        refine ⟨?_, ?_, ?_, fun hh => ?_⟩
        · rw [r4 _ _ (by omega) (by omega) (by omega) t1, g _ _ (by omega) (by omega), y1, p0]
        · rw [r4 _ _ (by omega) (by omega) (by omega) t1, g _ _ (by omega) (by omega), y2, p1]
        · rw [r4 _ _ (by omega) (by omega) (by omega) t1, g _ _ (by omega) (by omega), y3, p2]
        · rw [r4 _ _ (by omega) (by omega) (by omega) t1, g _ _ (by omega) (by omega), y4 (by rw [← p2]; exact hh), p3]
    · rw [f2 _ _ (by omega) (by omega) (by omega), lo _ (by omega) (by omega)]; exact z3.1
    · rw [f2 _ _ (by omega) (by omega) (by omega), lo _ (by omega) (by omega)]; exact z3.2.1
    · rw [f2 _ _ (by omega) (by omega) (by omega), lo _ (by omega) (by omega)]; exact z3.2.2
    · rw [r2 _ _ (by omega) (by omega)]; exact g6
    · refine Or.inr (Or.inl ?_)
      rw [q0, q0, q0, q0, q0, q0, l0, l1, l2, l3, l4, l5]
      exact ⟨rfl, s0, rmS_4, fun j j0 j1 j4 => rmS_lo j4 j1, fun j j0 j1 => rmS_hi s0.1 j0 j1, v1, v2, v3, v4⟩
  refine zm_14 ?_
  apply zs_14_0
  · rw [z41]; exact ⟨⟨by omega, by omega⟩, ⟨by omega, by omega⟩, ⟨by omega, by omega⟩, ⟨by omega, by omega⟩, ⟨by omega, by omega⟩, ⟨by omega, by omega⟩, ⟨by omega, by omega⟩⟩
  refine key _ (fun q j c1 c2 => ?_) ?_ ?_ ?_ ?_ ?_ ?_ ?_ _
  all_goals (rw [z41]; simp (disch := omega) only [zu_ne, zu_s, z41])
set_option maxHeartbeats 4000000 in
theorem k_drop (h03 : G 0 3 = a) (ha : 5 ≤ a) (h : HS G a W m P) {s : Int} (hs : rg s) (h2 : ¬ (0 ≤ s ∧ s < W 4) → Q (some (zi (-2))) G) (h5 : (0 ≤ s ∧ s < W 4) → m = 20 → Q (some (zi (-5))) G) (hQ : (0 ≤ s ∧ s < W 4) → m ≠ 20 → ∀ G1, fr G G1 (SMU a) → HS G1 a (rmS W s) (m + 1) (Pn P m W) → G1 0 7 = 1 → Q (some (zi (W 4 - 1))) G1) : zW (d + 5) 140 [zr 8 0 0, zi s] G Q := by
  have hm := h.2.2.2.1.2
  have nn := WF_n h.1
  have e5 : G (G 0 3) 5 = W 4 := by rw [h03]; exact h.2.1.2.2.1
  have e6 : G (G 0 3) 6 = m := by rw [h03]; exact h.2.2.2.1.1
  refine zm_140 ?_
  apply zs_140_0 <;> intros
  case h5 =>
    rw [h03]
    refine c14 ha h (by omega) ⟨by omega, by omega⟩ (fun G1 f1 hH1 => ?_)
    have b03 : G1 0 3 = a := (f1 _ _ (by omega)).trans h03
    have b5 : G1 a 5 = W 4 - 1 := by rw [hH1.2.1.2.2.1]; exact rmS_4
    apply zs_140_34
    · omega
    rw [b03, zu_kj (by omega), b5]
    exact hQ (by omega) (by omega) _ (fr_u (fr_wide f1 (fun k j t => Or.inl t)) (Or.inr ⟨rfl, rfl⟩)) (HS_fr hH1 (fun k j k0 k1 => zu_kj (by omega))) zu_s
  case h6 => exact h5 (by omega) (by omega)
  case h2 => exact h2 (by omega)
  case h7 => exact h2 (by omega)
  all_goals first | omega | (repeat' first | exact hrg _ | assumption | (unfold rg; omega) | omega | refine And.intro ?_ ?_)
def ruS (w : Int → Int) (l c : Int) : Int → Int := zpd (zpd w 0 l) 1 c
theorem WF_ru {w : Int → Int} (wf : WF w) {l c : Int} (hl : 0 ≤ l ∧ l ≤ 2) (hc : 0 ≤ c ∧ c ≤ 1) : WF (ruS w l c) := by
  obtain ⟨n0, n1, n2, n3, n4, n5⟩ := WF_n wf
  have e : ∀ j, j ≠ 0 → j ≠ 1 → ruS w l c j = w j := fun j h0 h1 => by unfold ruS; rw [zpd_n h1, zpd_n h0]
  have e0 : ruS w l c 0 = l := by unfold ruS; rw [zpd_n (by omega), zpd_s]
  have e1 : ruS w l c 1 = c := by unfold ruS; rw [zpd_s]
  refine WF_of wf (rg_zpd (rg_zpd (WF_rg wf) ⟨by omega, by omega⟩) ⟨by omega, by omega⟩) ?_ ?_ ?_ ?_ ?_ ?_ (fun j j0 j1 => e _ (by omega) (by omega)) (fun j j0 j1 => e _ (by omega) (by omega))
  · rw [e0]; exact hl
  · rw [e1]; exact hc
  · rw [e _ (by omega) (by omega)]; omega
  · exact e _ (by omega) (by omega)
  · exact e _ (by omega) (by omega)
  · rw [e _ (by omega) (by omega)]; exact n5
def okR (W : Int → Int) (l c : Int) : Prop := W 5 ≠ 0 ∧ (0 ≤ l ∧ l ≤ 2) ∧ (0 ≤ c ∧ c ≤ 1)
set_option maxHeartbeats 8000000 in
theorem k_rule (h03 : G 0 3 = a) (ha : 5 ≤ a) (h : HS G a W m P) {l c : Int} (hl : rg l) (hc : rg c) (h2 : ¬ okR W l c → Q (some (zi (-2))) G) (h5 : okR W l c → (m = 20 ∨ (l = W 0 ∧ c = W 1)) → Q (some (zi (-5))) G) (hQ : okR W l c → ¬ (m = 20 ∨ (l = W 0 ∧ c = W 1)) → ∀ G1, fr G G1 (SMU a) → HS G1 a (ruS W l c) (m + 1) (Pn P m W) → G1 0 7 = 1 → Q (some (zi 0)) G1) : zW (d + 3) 141 [zr 8 0 0, zi l, zi c] G Q := by
  have hH := h
  obtain ⟨z1, z2, z3, z4, z5, z6⟩ := h
  have hm := z4.2
  have z41 := z4.1
  have nn := WF_n z1
  have e2 : G (G 0 3) 2 = W 5 := by rw [h03]; exact z3.2.2
  have e0 : G (G 0 3) 0 = W 0 := by rw [h03]; exact z3.1
  have e1 : G (G 0 3) 1 = W 1 := by rw [h03]; exact z3.2.1
  have e6 : G (G 0 3) 6 = m := by rw [h03]; exact z41
  have r : ∀ j, j ≠ 0 → j ≠ 1 → ruS W l c j = W j := fun j h0 h1 => by unfold ruS; rw [zpd_n h1, zpd_n h0]
  have r0 : ruS W l c 0 = l := by unfold ruS; rw [zpd_n (by omega), zpd_s]
  have r1 : ruS W l c 1 = c := by unfold ruS; rw [zpd_s]
  have key : ∀ G1 : zG, okR W l c → ¬ (m = 20 ∨ (l = W 0 ∧ c = W 1)) → (∀ q j, ¬ (q = a ∧ (j = 0 ∨ j = 1 ∨ j = 6)) → ¬ (q = a + 11 ∧ m * 6 ≤ j ∧ j ≤ m * 6 + 3) → ¬ (q = 0 ∧ j = 7) → G1 q j = G q j) → G1 a 0 = l → G1 a 1 = c → G1 a 6 = m + 1 → G1 0 7 = 1 → G1 (a + 11) (m * 6) = 2 → G1 (a + 11) (m * 6 + 2) = W 0 → G1 (a + 11) (m * 6 + 3) = W 1 → Q (some (zi 0)) G1 := by
    intro G1 hok hno f2 t0 t1 t6 t7 l0 l2 l3
    refine hQ hok hno G1 (fun q j hk => f2 _ _ (fun t => hk (Or.inl (by omega))) (fun t => hk (Or.inl (by omega))) (fun t => hk (Or.inr t))) (HS_push hH (by omega) (WF_ru z1 hok.2.1 hok.2.2) (r _ (by omega) (by omega)) ?_ ⟨?_, ?_, ?_⟩ t6 (BND_fr z5 (fun q j k0 k1 => f2 _ _ (by omega) (by omega) (by omega))) (fun j j0 j1 => f2 _ _ (by omega) (by omega) (by omega)) ?_) t7
    · refine ARC_re z1 z2 (fun j j0 j1 j4 => r j (by omega) (by omega)) (fun q j k0 k1 => f2 _ _ (by omega) (by omega) (by omega)) (f2 _ _ (by omega) (by omega) (by omega)) (f2 _ _ (by omega) (by omega) (by omega)) (by rw [f2 _ _ (by omega) (by omega) (by omega), r _ (by omega) (by omega)]; exact z2.2.2.1) (fun s s0 s1 => ?_)
      rw [r _ (by omega) (by omega)] at s1
      exact SH1_of (G := G) (w := W) (z2.2.2.2.2 s s0 s1) (fun q k0 k1 => f2 _ _ (by omega) (by omega) (by omega)) (fun j j0 j1 => r j (by omega) (by omega))
    · rw [t0, r0]
    · rw [t1, r1]
    · rw [f2 _ _ (by omega) (by omega) (by omega), r _ (by omega) (by omega)]; exact z3.2.2
    · exact Or.inr (Or.inr ⟨l0, l2, l3, fun j j0 j1 => r j (by omega) (by omega)⟩)
  unfold okR at *
  apply zf_141 <;> intros
  case h11 =>
    refine key _ (by omega) (by omega) (fun q j c1 c2 c3 => ?_) ?_ ?_ ?_ ?_ ?_ ?_ ?_
    all_goals (rw [h03, z41]; simp (disch := omega) only [zu_ne, zu_s, z41, z3.1, z3.2.1])
  case h14 =>
    refine key _ (by omega) (by omega) (fun q j c1 c2 c3 => ?_) ?_ ?_ ?_ ?_ ?_ ?_ ?_
    all_goals (rw [h03, z41]; simp (disch := omega) only [zu_ne, zu_s, z41, z3.1, z3.2.1])
  case h8 => exact h5 (by omega) (by omega)
  case h15 => exact h5 (by omega) (by omega)
  all_goals first | omega | (refine h2 ?_; omega) | (repeat' first | exact hrg _ | assumption | (unfold rg; omega) | omega | refine And.intro ?_ ?_)
end CL
