/-! ACTS by the class: taking back -/
section CL
variable {d : Nat} {G : zG} {Q : zQ} {a m : Int} {W : Int → Int} {P : Int → Int → Int}
/-- the world ahead of the last act -/
theorem HS_back {G1 : zG} (h : HS G a W m P) (m0 : 0 < m) (e6 : G1 a 6 = m - 1) (e11 : ∀ j, G1 (a + 11) j = G (a + 11) j) (ek : ∀ k j, a + 1 ≤ k → k ≤ a + 6 → G1 k j = G k j) (e : G1 a 2 = G a 2 ∧ G1 a 3 = G a 3 ∧ G1 a 4 = G a 4) (e5 : G1 a 5 = P (m - 1) 4) (e01 : G1 a 0 = P (m - 1) 0 ∧ G1 a 1 = P (m - 1) 1) (hw : ∀ j, 2 ≤ j → j < 116 → j ≠ 4 → P (m - 1) j = W j) (hs : ∀ s, 0 ≤ s → s < P (m - 1) 4 → SH1 G1 a (P (m - 1)) s) : HS G1 a (P (m - 1)) (m - 1) P := by
  obtain ⟨h1, h2, h3, h4, h5, h6⟩ := h
  obtain ⟨q1, q2, q3⟩ := h6 (m - 1) (by omega) (by omega)
  refine ⟨q1, ARC_re h1 h2 hw ek e.2.1 e.2.2 e5 hs, ⟨e01.1, e01.2, by rw [e.1, q2]; exact h3.2.2⟩, ⟨e6, by omega, by omega⟩, BND_fr h5 (fun k j k0 k1 => ek k j k0 (by omega)), fun i i0 i1 => ?_⟩
  obtain ⟨r1, r2, r3⟩ := h6 i i0 (by omega)
  refine ⟨r1, by rw [r2, q2], ?_⟩
  have hn : WF (P (i + 1)) := (h6 (i + 1) (by omega) (by omega)).1
  rw [if_neg (by omega)] at r3
  have : (if i + 1 = m - 1 then P (m - 1) else P (i + 1)) = P (i + 1) := by
    split
    · rename_i c; rw [c]
    · rfl
  rw [this]
  exact ACTR_of r1 hn r3 (fun c c0 c1 => e11 _) (fun _ _ _ => rfl) (fun _ _ _ => rfl)
set_option maxHeartbeats 8000000 in
theorem c17 (h : HS G a W m P) (m0 : 0 < m) (hQ : ∀ G1, fr G G1 (fun k _ => a ≤ k ∧ k ≤ a + 10) → HS G1 a (P (m - 1)) (m - 1) P → Q none G1) : zW (d + 3) 17 [zr 0 0 a] G Q := by
  have hH := h
  obtain ⟨h1, h2, h3, h4, h5, h6⟩ := h
  obtain ⟨q1, q2, q3⟩ := h6 (m - 1) (by omega) (by omega)
  rw [if_pos (by omega)] at q3
  have nW := WF_n h1
  have nP := WF_n q1
  have hm := h4.2
  refine zm_17 ?_
  have g : ∀ k j, ¬ (k = a ∧ j = 6) → (zu G a 6 (m - 1)) k j = G k j := fun k j h => if_neg h
  have e11 : ∀ j, (zu G a 6 (m - 1)) (a + 11) j = G (a + 11) j := fun j => g _ _ (by omega)
  have a5 : G a 5 = W 4 := h2.2.2.1
  have hsh := h2.2.2.2.2
  apply zs_17_0 <;> intros <;> (try rw [h4.1] at *) <;> (try simp only [zu_s, e11] at *)
  case h1 => exact ⟨by omega, by omega⟩
  case h9 => omega
  case h4 =>
    rcases q3 with ⟨t1, t2, t3, t4⟩ | ⟨t1, t2⟩ | ⟨t1, t2⟩
    · rw [t2]
      refine c11 (s := P (m - 1) 4) (m := W 4) (by rw [g _ _ (by omega)]; exact a5) ⟨by omega, by omega⟩ (by omega) (fun G1 hR => zs_17_72 ?_)
      obtain ⟨r1, r2, r3, r4⟩ := hR
      refine hQ G1 (fun k j hk => by rw [r2 k j (by omega) (by omega), g _ _ (by omega)]) ?_
      have f2 : ∀ k j, ¬ (a + 7 ≤ k ∧ k ≤ a + 10) → ¬ (k = a ∧ (j = 5 ∨ j = 6)) → G1 k j = G k j := fun k j c1 c2 => by rw [r2 k j c1 (by omega), g _ _ (by omega)]
      refine HS_back hH m0 (by rw [r2 _ _ (by omega) (by omega), zu_s]) (fun j => f2 _ _ (by omega) (by omega)) (fun k j k0 k1 => f2 _ _ (by omega) (by omega)) ⟨f2 _ _ (by omega) (by omega), f2 _ _ (by omega) (by omega), f2 _ _ (by omega) (by omega)⟩ (by omega) ⟨?_, ?_⟩ (fun j j0 j1 j4 => (t4 j (by omega) (by omega) j4).symm) (fun s s0 s1 => ?_)
      · rw [f2 _ _ (by omega) (by omega), h3.1]; exact t4 0 (by omega) (by omega) (by omega)
      · rw [f2 _ _ (by omega) (by omega), h3.2.1]; exact t4 1 (by omega) (by omega) (by omega)
      · exact SH1_of (G := G) (w := W) (hsh s s0 (by omega)) (fun k k0 k1 => by rw [r3 k s (by omega) k1 s0 s1, g _ _ (by omega)]) (fun j j0 j1 => (t4 j (by omega) (by omega) (by omega)).symm)
    · omega
    · omega
  case h6 =>
    rcases q3 with ⟨t1, t2⟩ | ⟨t1, t2, t3, t4, t5, t6, t7, t8, t9⟩ | ⟨t1, t2⟩
    · omega
    · generalize hs : G (a + 11) ((m - 1) * 6 + 1) = s at *
      refine c10 (s := s) (m := W 4) (by rw [g _ _ (by omega)]; exact a5) ⟨by omega, by omega⟩ (by omega) (fun G1 hR => zs_17_119 ?_)
      obtain ⟨r1, r2, r3, r4, r5, r6, r7, r8⟩ := hR
      refine hQ G1 (fun k j hk => by rw [r2 k j (by omega) (by omega), g _ _ (by omega)]) ?_
      have f2 : ∀ k j, ¬ (a + 7 ≤ k ∧ k ≤ a + 10) → ¬ (k = a ∧ (j = 5 ∨ j = 6)) → G1 k j = G k j := fun k j c1 c2 => by rw [r2 k j c1 (by omega), g _ _ (by omega)]
      refine HS_back hH m0 (by rw [r2 _ _ (by omega) (by omega), zu_s]) (fun j => f2 _ _ (by omega) (by omega)) (fun k j k0 k1 => f2 _ _ (by omega) (by omega)) ⟨f2 _ _ (by omega) (by omega), f2 _ _ (by omega) (by omega), f2 _ _ (by omega) (by omega)⟩ (by omega) ⟨?_, ?_⟩ (fun j j0 j1 j4 => (t4 j (by omega) (by omega) j4).symm) (fun x x0 x1 => ?_)
      · rw [f2 _ _ (by omega) (by omega), h3.1]; exact t4 0 (by omega) (by omega) (by omega)
      · rw [f2 _ _ (by omega) (by omega), h3.2.1]; exact t4 1 (by omega) (by omega) (by omega)
      · rcases Int.lt_trichotomy x s with c | c | c
        · exact SH1_of (G := G) (w := W) (hsh x x0 (by omega)) (fun k k0 k1 => by rw [r3 k x (by omega) k1 x0 c, g _ _ (by omega)]) (fun j j0 j1 => (t4 j (by omega) (by omega) (by omega)).symm)
        · rw [c]
          exact ⟨by rw [r5]; exact t6, by rw [r6]; exact t7, by rw [r7]; exact t8, fun hh => by rw [r8]; exact t9 hh⟩
        · obtain ⟨z1, z2, z3, z4⟩ := hsh (x - 1) (by omega) (by omega)
          have cell : ∀ c, 0 ≤ c → c < 4 → W (116 + 4 * (x - 1) + c) = P (m - 1) (116 + 4 * x + c) := fun c c0 c1 => by
            rw [t5 _ (by omega) (by omega)]; congr 1; omega
          have p0 : (W (116 + (4 * (x - 1)))) = ((P (m - 1)) (116 + (4 * x))) := by have := cell 0 (by omega) (by omega); rw [Int.add_zero, Int.add_zero] at this; exact this
          have p1 : (W ((116 + (4 * (x - 1))) + 1)) = ((P (m - 1)) ((116 + (4 * x)) + 1)) := cell 1 (by omega) (by omega)
          have p2 : (W ((116 + (4 * (x - 1))) + 2)) = ((P (m - 1)) ((116 + (4 * x)) + 2)) := cell 2 (by omega) (by omega)
          have p3 : (W ((116 + (4 * (x - 1))) + 3)) = ((P (m - 1)) ((116 + (4 * x)) + 3)) := cell 3 (by omega) (by omega)
          refine ⟨?_, ?_, ?_, fun hh => ?_⟩
          · rw [r4 _ _ (by omega) (by omega) c (by omega), g _ _ (by omega), z1, p0]
          · rw [r4 _ _ (by omega) (by omega) c (by omega), g _ _ (by omega), z2, p1]
          · rw [r4 _ _ (by omega) (by omega) c (by omega), g _ _ (by omega), z3, p2]
          · rw [r4 _ _ (by omega) (by omega) c (by omega), g _ _ (by omega), z4 (by rw [p2]; exact hh), p3]
    · omega
  case h8 =>
    rcases q3 with ⟨t1, t2⟩ | ⟨t1, t2⟩ | ⟨t1, t2, t3, t4⟩
    · omega
    · omega
    · generalize hG1 : zu (zu (zu G a 6 (m - 1)) a 0 (G (a + 11) ((m - 1) * 6 + 2))) a 1 _ = G1
      have e3 : (zu (zu G a 6 (m - 1)) a 0 (G (a + 11) ((m - 1) * 6 + 2))) (a + 11) ((m - 1) * 6 + 3) = G (a + 11) ((m - 1) * 6 + 3) := by rw [zu_kj (by omega), zu_kj (by omega)]
      rw [e3, t2, t3] at hG1
      have f2 : ∀ k j, ¬ (k = a ∧ (j = 0 ∨ j = 1 ∨ j = 6)) → G1 k j = G k j := fun k j c => by
        rw [← hG1]
        have e : ∀ (H : zG) (i v : Int), (i = 0 ∨ i = 1 ∨ i = 6) → zu H a i v k j = H k j := fun H i v hi => if_neg (by omega)
        rw [e _ _ _ (by omega), e _ _ _ (by omega), e _ _ _ (by omega)]
      have v4 : W 4 = P (m - 1) 4 := t4 4 (by omega) (by omega)
      refine hQ G1 (fun k j hk => f2 _ _ (by omega)) ?_
      refine HS_back hH m0 (by rw [← hG1, zu_j (by omega), zu_j (by omega), zu_s]) (fun j => f2 _ _ (by omega)) (fun k j k0 k1 => f2 _ _ (by omega)) ⟨f2 _ _ (by omega), f2 _ _ (by omega), f2 _ _ (by omega)⟩ (by rw [f2 _ _ (by omega)]; omega) ⟨?_, ?_⟩ (fun j j0 j1 j4 => (t4 j (by omega) (by omega)).symm) (fun s s0 s1 => ?_)
      · rw [← hG1, zu_j (by omega), zu_s]
      · rw [← hG1, zu_s]
      · exact SH1_of (G := G) (w := W) (hsh s s0 (by omega)) (fun k k0 k1 => f2 _ _ (by omega)) (fun j j0 j1 => (t4 j (by omega) (by omega)).symm)
  case h2 =>
    refine ⟨⟨by omega, by omega⟩, ?_⟩
    rcases q3 with ⟨t1, t2⟩ | ⟨t1, t2⟩ | ⟨t1, t2⟩ <;> (rw [t1]; exact ⟨by omega, by omega⟩)
  all_goals first | omega | (repeat' first | exact hrg _ | assumption | (unfold rg; omega) | omega | refine And.intro ?_ ?_)
set_option maxHeartbeats 4000000 in
theorem k_undo (h03 : G 0 3 = a) (ha : 5 ≤ a) (h : HS G a W m P) (h2 : W 5 = 0 → Q (some (zi (-2))) G) (h5 : W 5 ≠ 0 → m = 0 → Q (some (zi (-5))) G) (hQ : W 5 ≠ 0 → 0 < m → ∀ G1, fr G G1 (fun k j => (a ≤ k ∧ k ≤ a + 10) ∨ (k = 0 ∧ j = 7)) → HS G1 a (P (m - 1)) (m - 1) P → G1 0 7 = 1 → Q (some (zi (m - 1))) G1) : zW (d + 5) 144 [zr 8 0 0] G Q := by
  have e2 : G (G 0 3) 2 = W 5 := by rw [h03]; exact h.2.2.1.2.2
  have e6 : G (G 0 3) 6 = m := by rw [h03]; exact h.2.2.2.1.1
  have hm := h.2.2.2.1.2
  have n5 := (WF_n h.1).2.2.2.2.2
  refine zm_144 ?_
  apply zs_144_0 <;> intros
  case h5 => exact h2 (by omega)
  case h4 => exact h5 (by omega) (by omega)
  case h3 =>
    have hW : W 5 ≠ 0 := by omega
    rw [h03]
    refine c17 h (by omega) (fun G1 f1 hH => ?_)
    have b03 : G1 0 3 = a := (f1 _ _ (by omega)).trans h03
    apply zs_144_30 <;> intros
    case h1 => omega
    case h2 =>
      rw [b03, zu_kj (by omega), hH.2.2.2.1.1]
      refine hQ hW (by omega) _ (fr_u (fr_wide f1 (fun k j t => Or.inl t)) (Or.inr ⟨rfl, rfl⟩)) ?_ zu_s
      obtain ⟨z1, z2, z3, z4, z5, z6⟩ := hH
      refine ⟨z1, ARC_fr z2 (fun k j k0 k1 => zu_kj (by omega)), by rw [zu_kj (by omega), zu_kj (by omega), zu_kj (by omega)]; exact z3, by rw [zu_kj (by omega)]; exact z4, BND_fr z5 (fun k j k0 k1 => zu_kj (by omega)), fun i i0 i1 => ⟨(z6 i i0 i1).1, (z6 i i0 i1).2.1, ?_⟩⟩
      have hHn : HS G1 a (P (m - 1)) (m - 1) P := ⟨z1, z2, z3, z4, z5, z6⟩
      exact ACTR_of (z6 i i0 i1).1 (HS_next hHn i0 i1) (z6 i i0 i1).2.2 (fun c c0 c1 => zu_kj (by omega)) (fun _ _ _ => rfl) (fun _ _ _ => rfl)
  all_goals first | omega | (repeat' first | exact hrg _ | assumption | (unfold rg; omega) | omega | refine And.intro ?_ ?_)
/-- what an archive's words say does not hang on the rest -/
theorem HS_fr {G1 : zG} (h : HS G a W m P) (e : ∀ k j, a ≤ k → k ≤ a + 11 → G1 k j = G k j) : HS G1 a W m P := by
  have hH := h
  obtain ⟨z1, z2, z3, z4, z5, z6⟩ := h
  refine ⟨z1, ARC_fr z2 (fun k j k0 k1 => e _ _ (by omega) (by omega)), by rw [e _ _ (by omega) (by omega), e _ _ (by omega) (by omega), e _ _ (by omega) (by omega)]; exact z3, by rw [e _ _ (by omega) (by omega)]; exact z4, BND_fr z5 (fun k j k0 k1 => e _ _ (by omega) (by omega)), fun i i0 i1 => ⟨(z6 i i0 i1).1, (z6 i i0 i1).2.1, ?_⟩⟩
  exact ACTR_of (z6 i i0 i1).1 (HS_next hH i0 i1) (z6 i i0 i1).2.2 (fun c c0 c1 => e _ _ (by omega) (by omega)) (fun _ _ _ => rfl) (fun _ _ _ => rfl)
set_option maxHeartbeats 4000000 in
theorem k_anew (h03 : G 0 3 = a) (ha : 5 ≤ a) (h : HS G a W m P) (h2 : W 5 = 0 → Q (some (zi (-2))) G) (hQ : W 5 ≠ 0 → ∀ G1, fr G G1 (fun k j => (a ≤ k ∧ k ≤ a + 10) ∨ (k = 0 ∧ j = 7)) → HS G1 a (if m = 0 then W else P 0) 0 P → G1 0 7 = 1 → Q (some (zi m)) G1) : zW (d + 5) 145 [zr 8 0 0] G Q := by
  have e2 : G (G 0 3) 2 = W 5 := by rw [h03]; exact h.2.2.1.2.2
  have e6 : G (G 0 3) 6 = m := by rw [h03]; exact h.2.2.2.1.1
  have hm := h.2.2.2.1.2
  have n5 := (WF_n h.1).2.2.2.2.2
  have loop : W 5 ≠ 0 → ∀ (r : Nat) (t : Int) (U : Int → Int) (G1 : zG), t + r = m → 0 ≤ t → HS G1 a U (m - t) P → U = (if t = 0 then W else P (m - t)) → fr G G1 (fun k _ => a ≤ k ∧ k ≤ a + 10) → zAt xT_145 (zW (d + 4)) Q 20 [zr 8 0 0, zi m, zi t] [] G1 := by
    intro hW r
    induction r with
    | zero =>
      intro t U G1 ht t0 hH hU f1
      have ht : t = m := by simpa using ht
      have b03 : G1 0 3 = a := (f1 _ _ (by omega)).trans h03
      apply zs_145_20 <;> intros
      case h2 =>
        refine hQ hW _ (fr_u (fr_wide f1 (fun k j t => Or.inl t)) (Or.inr ⟨rfl, rfl⟩)) ?_ zu_s
        have e : m - t = 0 := by omega
        rw [e] at hH hU
        rw [show (if m = 0 then W else P 0) = U by rw [hU, ht]]
        exact HS_fr hH (fun k j k0 k1 => zu_kj (by omega))
      all_goals first | omega | (repeat' first | exact hrg _ | assumption | (unfold rg; omega) | omega | refine And.intro ?_ ?_)
    | succ r ih =>
      intro t U G1 ht t0 hH hU f1
      have b03 : G1 0 3 = a := (f1 _ _ (by omega)).trans h03
      apply zs_145_20 <;> intros
      case h4 =>
        rw [b03]
        refine c17 hH (by omega) (fun G2 f2 hH2 => zs_145_32 ?_)
        rw [show m - t - 1 = m - (t + 1) by omega] at hH2
        exact ih (t + 1) (P (m - (t + 1))) G2 (by omega) (by omega) hH2 (by rw [if_neg (by omega)]) (fr_trans f1 f2 (fun _ _ t => t))
      all_goals first | omega | (repeat' first | exact hrg _ | assumption | (unfold rg; omega) | omega | refine And.intro ?_ ?_)
  refine zm_145 ?_
  apply zs_145_0 <;> intros
  case h3 => exact h2 (by omega)
  case h2 =>
    rw [e6]
    exact loop (by omega) m.toNat 0 W G (by omega) (by omega) (by rw [Int.sub_zero]; exact h) (by rw [if_pos rfl]) (fr_refl _ _)
  all_goals first | omega | (repeat' first | exact hrg _ | assumption | (unfold rg; omega) | omega | refine And.intro ?_ ?_)
end CL
