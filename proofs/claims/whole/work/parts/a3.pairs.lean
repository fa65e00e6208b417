/-! BOTH SIDES: images, archive -/
section PR
variable {G : zG} {d : Nat}
set_option maxHeartbeats 1000000 in
theorem pr_47 (hI : INV G) {x1 : Int} (h1 : rg x1) : PAIR 100 142 [zr 8 0 0, zi x1] 276 [zr 9 0 297, zi x1] G := by
  have wf := INV_wf hI
  have n5 := (WF_n wf).2.2.2.2.2
  obtain ⟨a, b, hN⟩ := hI.1
  have hab := hN.1
  have hH := hN.2.2.2.1
  have hm := hH.2.2.2.1.2
  refine k_image hN.2.1 (by omega) hH h1 (fun hn => ?_) (fun hy G1 f1 hH1 => ?_)
  · exact ⟨_, rfl, r_image h1 (WF_rg wf 5) (fun _ => ⟨rfl, hI⟩) (fun h => absurd ⟨h.1, by omega⟩ hn)⟩
  · have e1 : ∀ k j, ¬ (30 + 12 * x1 ≤ k ∧ k ≤ 30 + 12 * x1 + 11) → G1 k j = G k j := fun k j h => f1 k j h
    have e298 : G1 298 = G 298 := funext fun j => e1 _ _ (by omega)
    refine ⟨_, rfl, r_image h1 (by rw [e298]; exact WF_rg wf 5) (fun h => by rw [e298] at h; exact absurd ⟨hy.1, by omega⟩ h) (fun _ G2 f2 g1 g2 g3 g4 => ⟨rfl, ?_⟩)⟩
    have e2 : ∀ k j, ¬ ((k = 301 ∧ 7477 * x1 ≤ j ∧ j < 7477 * x1 + 7477) ∨ (k = 302 ∧ j = x1)) → G2 k j = G1 k j := fun k j h => f2 k j h
    have e : ∀ k j, ¬ (30 + 12 * x1 ≤ k ∧ k ≤ 30 + 12 * x1 + 11) → ¬ (k = 301 ∨ k = 302) → G2 k j = G k j := fun k j c1 c2 => by rw [e2 _ _ (by omega), e1 _ _ c1]
    have hI0 := hI
    obtain ⟨_, h7, ht, hf, ho, hi, hg⟩ := hI
    obtain ⟨n1, n2, n3, n4, nb, n6, n7⟩ := hN
    have e298' : G2 298 = G 298 := funext fun j => e _ _ (by omega) (by omega)
    refine ⟨⟨a, b, n1, (e _ _ (by omega) (by omega)).trans n2, (e _ _ (by omega) (by omega)).trans n3, ?_, BND_fr nb (fun k j k0 k1 => e _ _ (by omega) (by omega)), by rw [e _ _ (by omega) (by omega)]; exact n6, fun hs => ?_⟩, (e _ _ (by omega) (by omega)).trans h7, TPE_fr ht (fun k j hk => e _ _ (by omega) (by omega)), ?_, TOL_fr ho (fun k j hk => e _ _ (by omega) (by omega)), ?_, fun j hj => by rw [e _ _ (by omega) (by omega)]; exact hg j hj⟩
    · rw [e298', e 297 4 (by omega) (by omega), Pr_fr (fun x => e _ _ (by omega) (by omega))]
      exact HS_fr n4 (fun k j k0 k1 => e _ _ (by omega) (by omega))
    · rw [e298']
      exact IX_fr (n7 (by rw [← e 0 7 (by omega) (by omega)]; exact hs)) (fun k j k0 k1 => e _ _ (by omega) (by omega))
    · rw [e _ _ (by omega) (by omega), e _ _ (by omega) (by omega), e _ _ (by omega) (by omega), e _ _ (by omega) (by omega)]; exact hf
    · intro k k0 k1
      by_cases c : k = x1
      · subst c
        have hH2 : HS G2 (30 + 12 * k) (G 298) (G 297 4) (Pr G) := HS_fr hH1 (fun q j q0 q1 => e2 _ _ (by omega))
        refine Or.inr ⟨g4, by rw [hH2.2.2.1.2.2]; exact hy.2, ?_⟩
        rw [g2, e1 297 4 (by omega)]
        have hW : ∀ j, 0 ≤ j → j < 356 → c0 (fun j => G2 301 (7477 * k + j)) j = G 298 j := fun j j0 j1 => by
          rw [c0_in ⟨j0, j1⟩]; show G2 301 (7477 * k + j) = _; rw [g1 j j0 j1, e298]
        have hPp : ∀ i, 0 ≤ i → i < G 297 4 → ∀ j, 0 ≤ j → j < 356 → Pim G2 k i j = Pr G i j := fun i i0 i1 j j0 j1 => by
          unfold Pim
          rw [c0_in ⟨j0, j1⟩, Pr_in ⟨j0, j1⟩]
          show G2 301 (7477 * k + 357 + (356 * i + j)) = _
          rw [g3 _ (by omega) (by omega), e1 _ _ (by omega)]
        refine HS_cong hH2 (c0_rg (fun j j0 j1 => ?_)) hW (fun i i0 i1 => ?_) hPp
        · have := hW j j0 j1
          rw [c0_in ⟨j0, j1⟩] at this
          rw [this]; exact WF_rg wf j
        · refine c0_rg (fun j j0 j1 => ?_)
          have := hPp i i0 i1 j j0 j1
          unfold Pim at this
          rw [c0_in ⟨j0, j1⟩] at this
          rw [this]; exact WF_rg (hH2.2.2.2.2.2 i i0 i1).1 j
      · have x301 : ∀ j, 7477 * k ≤ j → j < 7477 * k + 7477 → G2 301 j = G 301 j := fun j j0 j1 => by rw [e2 _ _ (by omega), e1 _ _ (by omega)]
        have xk : ∀ q j, 30 + 12 * k ≤ q → q ≤ 30 + 12 * k + 11 → G2 q j = G q j := fun q j q0 q1 => by rw [e2 _ _ (by omega), e1 _ _ (by omega)]
        rw [show G2 302 k = G 302 k by rw [e2 _ _ (by omega), e1 _ _ (by omega)], xk (30 + 12 * k) 2 (by omega) (by omega)]
        rcases hi k k0 k1 with h | ⟨p1, p2, p3⟩
        · exact Or.inl h
        · refine Or.inr ⟨p1, p2, ?_⟩
          rw [x301 _ (by omega) (by omega)]
          have p3' := HS_fr (G1 := G2) p3 xk
          have hm3 := p3'.2.2.2.1.2
          have hW : ∀ j, 0 ≤ j → j < 356 → c0 (fun j => G2 301 (7477 * k + j)) j = c0 (fun j => G 301 (7477 * k + j)) j := fun j j0 j1 => by
            rw [c0_in ⟨j0, j1⟩, c0_in ⟨j0, j1⟩]; exact x301 _ (by omega) (by omega)
          have hPp : ∀ i, 0 ≤ i → i < G 301 (7477 * k + 356) → ∀ j, 0 ≤ j → j < 356 → Pim G2 k i j = Pim G k i j := fun i i0 i1 j j0 j1 => by
            unfold Pim
            rw [c0_in ⟨j0, j1⟩, c0_in ⟨j0, j1⟩]; exact x301 _ (by omega) (by omega)
          refine HS_cong p3' (c0_rg (fun j j0 j1 => ?_)) hW (fun i i0 i1 => c0_rg (fun j j0 j1 => ?_)) hPp
          · have := hW j j0 j1
            rw [c0_in ⟨j0, j1⟩] at this
            rw [this]; exact WF_rg p3'.1 j
          · have := hPp i i0 i1 j j0 j1
            unfold Pim at this
            rw [c0_in ⟨j0, j1⟩] at this
            rw [this]; exact WF_rg (p3'.2.2.2.2.2 i i0 i1).1 j
set_option maxHeartbeats 1000000 in
theorem pr_48 (hI : INV G) {x1 : Int} (h1 : rg x1) : PAIR 100 143 [zr 8 0 0, zi x1] 277 [zr 9 0 297, zi x1] G := by
  have wf := INV_wf hI
  obtain ⟨a, b, hN⟩ := hI.1
  have hab := hN.1
  have hi := hI.2.2.2.2.2.1
  have h302 : ∀ k, 0 ≤ k → k < 3 → G 302 k = 0 ∨ G 302 k = 1 := fun k k0 k1 => (hi k k0 k1).elim (fun h => Or.inl h.1) (fun h => Or.inr h.1)
  have hl : ∀ k, 0 ≤ k → k < 3 → 0 ≤ G (30 + 12 * k) 2 ∧ G (30 + 12 * k) 2 ≤ 1200 := fun k k0 k1 => by
    rcases hi k k0 k1 with h | ⟨_, _, h⟩
    · omega
    · rw [h.2.2.1.2.2]; exact (WF_n h.1).2.2.2.2.2
  have hiff : ∀ k, 0 ≤ k → k < 3 → (G (30 + 12 * k) 2 = 0 ↔ G 302 k = 0) := fun k k0 k1 => by
    rcases hi k k0 k1 with h | ⟨h1, h2, _⟩
    · exact ⟨fun _ => h.1, fun _ => h.2⟩
    · exact ⟨fun h => absurd h h2, fun h => by omega⟩
  refine k_back (W := c0 (fun j => G 301 (7477 * x1 + j))) (m := G 301 (7477 * x1 + 356)) (P := Pim G x1) hN.2.1 (by omega) h1 (hl x1) (fun hn => ?_) (fun hy hn => ?_) (fun hy hn => ?_) (fun hy hn G1 f1 hH1 h7 => ?_)
  · exact ⟨_, rfl, r_back h1 (h302 x1) (fun _ => ⟨rfl, hI⟩) (fun h => absurd h hn) (fun h => absurd h hn)⟩
  · exact ⟨_, rfl, r_back h1 (h302 x1) (fun h => absurd hy h) (fun _ _ => ⟨rfl, hI⟩) (fun _ h => absurd ((hiff x1 hy.1 hy.2).mp hn) h)⟩
  · rcases hi x1 hy.1 hy.2 with h | h
    · exact absurd h.2 hn
    · exact h.2.2
  · have e1 : ∀ k j, ¬ ((a ≤ k ∧ k ≤ a + 11) ∨ (k = 0 ∧ j = 7)) → G1 k j = G k j := fun k j h => f1 k j h
    have hne : G1 302 x1 ≠ 0 := by rw [e1 _ _ (by omega)]; exact fun h => hn ((hiff x1 hy.1 hy.2).mpr h)
    refine ⟨_, rfl, r_back h1 (fun k0 k1 => by rw [e1 _ _ (by omega)]; exact h302 x1 k0 k1) (fun h => absurd hy h) (fun _ h => absurd h hne) (fun _ _ G2 f2 g1 g2 g3 => ⟨rfl, ?_⟩)⟩
    have e2 : ∀ k j, ¬ ((k = 298 ∧ 0 ≤ j ∧ j < 356) ∨ k = 300 ∨ (k = 297 ∧ j = 4)) → G2 k j = G1 k j := fun k j h => f2 k j h
    refine INV_act hI hN (fun k j c1 c2 c3 => ?_) ((e2 _ _ (by omega)).trans h7) ?_
    · have c3 : ¬ (k = 298 ∨ k = 300 ∨ (k = 297 ∧ j = 4)) := c3
      rw [e2 _ _ (by omega), e1 _ _ (by omega)]
    have hH2 := HS_fr (G1 := G2) hH1 (fun k j k0 k1 => e2 _ _ (by omega))
    have hm3 := hH2.2.2.2.1.2
    rw [g2, e1 301 _ (by omega)]
    have hW : ∀ j, 0 ≤ j → j < 356 → G2 298 j = c0 (fun j => G 301 (7477 * x1 + j)) j := fun j j0 j1 => by
      rw [g1, cut_in ⟨j0, j1⟩, c0_in ⟨j0, j1⟩, e1 _ _ (by omega)]
    have hPp : ∀ i, 0 ≤ i → i < G 301 (7477 * x1 + 356) → ∀ j, 0 ≤ j → j < 356 → Pr G2 i j = Pim G x1 i j := fun i i0 i1 j j0 j1 => by
      unfold Pim
      rw [Pr_in ⟨j0, j1⟩, c0_in ⟨j0, j1⟩, g3 _ (by omega) (by omega), e1 _ _ (by omega)]
    refine HS_cong hH2 (fun j => ?_) hW (fun i i0 i1 => c0_rg (fun j j0 j1 => ?_)) hPp
    · by_cases c : 0 ≤ j ∧ j < 356
      · rw [hW j c.1 c.2]; exact WF_rg hH2.1 j
      · rw [e2 _ _ (by omega), e1 _ _ (by omega)]; exact WF_rg wf j
    · have := hPp i i0 i1 j j0 j1
      rw [Pr_in ⟨j0, j1⟩] at this
      rw [this]; exact WF_rg (hH2.2.2.2.2.2 i i0 i1).1 j
set_option maxHeartbeats 1000000 in
theorem pr_2 (hI : INV G) : PAIR 100 97 [zr 8 0 0] 216 [zr 9 0 297] G := by
  have hI0 := hI
  have wf := INV_wf hI
  obtain ⟨⟨a, b, hN⟩, h7, ht, hf, ho, hi, hg⟩ := hI
  obtain ⟨n1, n2, n3, n4, nb, n6, n7⟩ := hN
  obtain ⟨t1, t2, t3⟩ := ht
  have hT : TP (G 312) (G 0 1) := ⟨t2, fun j j0 j1 => (t3 j j0 j1).2⟩
  refine k_archive hT n3 (by omega) n2 (by omega) rfl (fun j j0 j1 => (t3 j j0 j1).1) nb hg (fun G1 e he he1 f1 hF hb1 h01 => ?_) (fun G1 S hs hps f1 hF hA h3 h6 hb1 h01 h03 h04 h07 => ?_)
  · have e1 : ∀ k j, ¬ (k = 2 ∨ k = 3 ∨ k = 4 ∨ (b ≤ k ∧ k ≤ b + 10) ∨ (k = 0 ∧ j = 1)) → G1 k j = G k j := fun k j h => f1 k j (fun t => h (by unfold SKC SKB at t; omega))
    have e299 : G1 299 = G 299 := funext fun j => e1 _ _ (by omega)
    refine ⟨_, rfl, r_archive hT ((e1 _ _ (by omega)).trans t1.symm) (fun j j0 j1 => e1 _ _ (by omega)) (by rw [e299]; exact hg) (fun G2 e' he' f2 _ g37 g38 g30 => ⟨rfl, ?_⟩) (fun G2 S hs => by rw [e299, he] at hs; cases hs)⟩
    rw [e299, he] at he'
    cases he'
    have e2 : ∀ k j, ¬ ((k = 299 ∧ 0 ≤ j ∧ j < 356) ∨ k = 314 ∨ (k = 297 ∧ (30 ≤ j ∧ j ≤ 38))) → G2 k j = G1 k j := fun k j h => f2 k j (fun t => h (by unfold SA1 SRD at t; omega))
    have ee : ∀ k j, ¬ (k = 2 ∨ k = 3 ∨ k = 4 ∨ (b ≤ k ∧ k ≤ b + 10) ∨ (k = 0 ∧ j = 1)) → ¬ ((k = 299 ∧ 0 ≤ j ∧ j < 356) ∨ k = 314 ∨ (k = 297 ∧ (30 ≤ j ∧ j ≤ 38))) → G2 k j = G k j := fun k j c1 c2 => (e2 k j c2).trans (e1 k j c1)
    have e298 : G2 298 = G 298 := funext fun j => ee _ _ (by omega) (by omega)
    refine ⟨⟨a, b, n1, (ee _ _ (by omega) (by omega)).trans n2, (ee _ _ (by omega) (by omega)).trans n3, ?_, BND_fr hb1 (fun k j k0 k1 => e2 _ _ (by omega)), by rw [ee _ _ (by omega) (by omega)]; exact n6, fun hs => ?_⟩, (ee _ _ (by omega) (by omega)).trans h7, ⟨?_, ?_, ?_⟩, ⟨?_, ?_⟩, TOL_fr ho (fun k j hk => ee _ _ (by omega) (by omega)), IMG_fr hi (fun k j hk => ee _ _ (by omega) (by omega)), fun j hj => by rw [ee _ _ (by omega) (by omega)]; exact hg j hj⟩
    · rw [e298, ee 297 4 (by omega) (by omega), Pr_fr (fun x => ee _ _ (by omega) (by omega))]
      exact HS_fr n4 (fun k j k0 k1 => ee _ _ (by omega) (by omega))
    · rw [e298]
      exact IX_fr (n7 (by rw [← ee 0 7 (by omega) (by omega)]; exact hs)) (fun k j k0 k1 => ee _ _ (by omega) (by omega))
    · rw [e2 _ _ (by omega), h01, g30]
    · rw [e2 _ _ (by omega), h01]; omega
    · intro j j0 j1
      rw [e2 _ _ (by omega), h01] at j1; omega
    · rw [e2 _ _ (by omega), hF.1, g37]
    · rw [e2 _ _ (by omega), hF.2, g38]
  · have e1 : ∀ k j, ¬ (k = 2 ∨ k = 3 ∨ k = 4 ∨ (b ≤ k ∧ k ≤ b + 10) ∨ (k = 0 ∧ (j = 1 ∨ j = 3 ∨ j = 4 ∨ j = 7))) → G1 k j = G k j := fun k j h => f1 k j (fun t => h (by unfold SKD SKC SKB at t; omega))
    have e299 : G1 299 = G 299 := funext fun j => e1 _ _ (by omega)
    have e298a : G1 298 = G 298 := funext fun j => e1 _ _ (by omega)
    refine ⟨_, rfl, r_archive hT ((e1 _ _ (by omega)).trans t1.symm) (fun j j0 j1 => e1 _ _ (by omega)) (by rw [e299]; exact hg) (fun G2 e' he' => by rw [e299, hs] at he'; cases he') (fun G2 S' hs' hps' f2 g37 g38 g30 g298 g4 => ?_)⟩
    rw [e299, hs] at hs'
    cases hs'
    refine ⟨rfl, ?_⟩
    have e2 : ∀ k j, ¬ ((k = 299 ∧ 0 ≤ j ∧ j < 356) ∨ k = 314 ∨ k = 298 ∨ (k = 297 ∧ (j = 4 ∨ (30 ≤ j ∧ j ≤ 38)))) → G2 k j = G1 k j := fun k j h => f2 k j (fun t => h (by unfold SA2 SA1 SRD at t; omega))
    have ee : ∀ k j, ¬ (k = 2 ∨ k = 3 ∨ k = 4 ∨ (b ≤ k ∧ k ≤ b + 10) ∨ (k = 0 ∧ (j = 1 ∨ j = 3 ∨ j = 4 ∨ j = 7))) → ¬ ((k = 299 ∧ 0 ≤ j ∧ j < 356) ∨ k = 314 ∨ k = 298 ∨ (k = 297 ∧ (j = 4 ∨ (30 ≤ j ∧ j ≤ 38)))) → G2 k j = G k j := fun k j c1 c2 => (e2 k j c2).trans (e1 k j c1)
    have hH1 : HS G1 b S.2.1 0 (Pr G2) := ⟨hps.2.1, hA, h3, ⟨h6, by omega, by omega⟩, hb1, fun i i0 i1 => by omega⟩
    have hH2 := HS_fr (G1 := G2) hH1 (fun k j k0 k1 => e2 _ _ (by omega))
    refine ⟨⟨b, a, by omega, (e2 _ _ (by omega)).trans h03, (e2 _ _ (by omega)).trans h04, ?_, BND_fr n4.2.2.2.2.1 (fun k j k0 k1 => ee _ _ (by omega) (by omega)), Or.inr ((e2 _ _ (by omega)).trans h07), fun hs => ?_⟩, (ee _ _ (by omega) (by omega)).trans h7, ⟨?_, ?_, ?_⟩, ⟨?_, ?_⟩, TOL_fr ho (fun k j hk => ee _ _ (by omega) (by omega)), IMG_fr hi (fun k j hk => ee _ _ (by omega) (by omega)), fun j hj => by rw [ee _ _ (by omega) (by omega)]; exact hg j hj⟩
    · rw [g298, g4, e298a]
      refine HS_cong hH2 (fun j => ?_) (fun j j0 j1 => cut_in ⟨j0, j1⟩) (fun i i0 i1 => by omega) (fun _ _ _ _ _ _ => rfl)
      unfold cut
      split
      · exact WF_rg hps.2.1 j
      · exact WF_rg wf j
    · have := (e2 0 7 (by omega)).trans h07
      omega
    · rw [e2 _ _ (by omega), h01, g30]
    · rw [e2 _ _ (by omega), h01]; omega
    · intro j j0 j1
      rw [e2 _ _ (by omega), h01] at j1; omega
    · rw [e2 _ _ (by omega), hF.1, g37]
    · rw [e2 _ _ (by omega), hF.2, g38]
end PR
