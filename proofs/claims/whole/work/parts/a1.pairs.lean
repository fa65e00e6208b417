/-! BOTH SIDES: the tape, faults, counts, telling, spare -/
section PR
variable {G : zG} {d : Nat}
theorem zb_rg (v : Int) : -128 ≤ zb v ∧ zb v ≤ 127 := by
  unfold zb Int.bmod
  simp only
  split <;> omega
theorem INV_tp {G2 : zG} (hI : INV G) (e : ∀ k j, ¬ (k = 1 ∨ (k = 0 ∧ j = 1) ∨ k = 312 ∨ k = 313 ∨ (k = 297 ∧ j = 30)) → G2 k j = G k j) (ht : TPE G2) : INV G2 := by
  obtain ⟨⟨a, b, n1, n2, n3, n4, n5, n6, n7⟩, h7, _, hf, ho, hi, hg⟩ := hI
  have e298 : G2 298 = G 298 := funext fun j => e _ _ (by omega)
  refine ⟨⟨a, b, n1, (e _ _ (by omega)).trans n2, (e _ _ (by omega)).trans n3, ?_, BND_fr n5 (fun k j k0 k1 => e _ _ (by omega)), by rw [e _ _ (by omega)]; exact n6, fun hs => ?_⟩, (e _ _ (by omega)).trans h7, ht, ?_, TOL_fr ho (fun k j hk => e _ _ (by omega)), IMG_fr hi (fun k j hk => e _ _ (by omega)), fun j hj => by rw [e _ _ (by omega)]; exact hg j hj⟩
  · rw [e298, e 297 4 (by omega), Pr_fr (fun x => e _ _ (by omega))]
    exact HS_fr n4 (fun k j k0 k1 => e _ _ (by omega))
  · rw [e298]
    exact IX_fr (n7 (by rw [← e 0 7 (by omega)]; exact hs)) (fun k j k0 k1 => e _ _ (by omega))
  · rw [e _ _ (by omega), e _ _ (by omega), e _ _ (by omega), e _ _ (by omega)]; exact hf
set_option maxHeartbeats 1000000 in
theorem pr_0 (hI : INV G) {x1 x2 x3 x4 x5 : Int} : PAIR 100 95 [zr 8 0 0, zi x1, zi x2, zi x3, zi x4, zi x5] 192 [zr 9 0 297, zi x1, zi x2, zi x3, zi x4, zi x5] G := by
  obtain ⟨t1, t2, t3⟩ := hI.2.2.1
  refine k_feed rfl t2.1 t2.2 (fun hF => ?_) (fun hF G1 f1 e1 e2 e3 => ?_)
  · exact ⟨_, rfl, r_feed t1.symm t2.1 t2.2 (fun _ => ⟨rfl, hI⟩) (fun h => by omega)⟩
  · have a30 : G1 297 30 = G 0 1 := by rw [f1 _ _ (by omega)]; exact t1.symm
    refine ⟨_, rfl, r_feed a30 t2.1 t2.2 (fun h => by omega) (fun _ G2 f2 g1 g2 g3 => ⟨rfl, ?_⟩)⟩
    refine INV_tp hI (fun k j hk => by rw [f2 _ _ (by omega), f1 _ _ (by omega)]) ?_
    have b1 : G2 0 1 = G 0 1 + 20 := by rw [f2 _ _ (by omega)]; exact e1
    have bk : ∀ j, G2 1 j = G1 1 j := fun j => f2 _ _ (by omega)
    refine ⟨by rw [b1, g1], by rw [b1]; omega, fun j j0 j1 => ?_⟩
    rw [b1] at j1
    rw [bk]
    by_cases c : G 0 1 ≤ j
    · rw [e2 j c j1, g2 j c j1]
      exact ⟨rfl, zb_rg _⟩
    · have := t3 j j0 (by omega)
      rw [e3 j (by omega), g3 j (by omega), f1 312 j (by omega)]
      exact this
set_option maxHeartbeats 1000000 in
theorem pr_1 (hI : INV G) {x1 : Int} (h1 : rg x1) : PAIR 100 96 [zr 8 0 0, zi x1] 193 [zr 9 0 297, zi x1] G := by
  obtain ⟨t1, t2, t3⟩ := hI.2.2.1
  refine k_end h1 rfl t2.1 t2.2 (fun hF => ?_) (fun hF => ?_)
  · exact ⟨_, rfl, r_end h1 t1.symm t2.1 t2.2 (fun _ => ⟨rfl, hI⟩) (fun h => absurd h hF)⟩
  · refine ⟨_, rfl, r_end h1 (n := G 0 1) (by rw [zu_kj (by omega)]; exact t1.symm) t2.1 t2.2 (fun h => absurd hF h) (fun _ => ⟨rfl, ?_⟩)⟩
    refine INV_tp hI (fun k j hk => by rw [zu_ne (by omega), zu_ne (by omega)]) ?_
    have b1 : zu (zu G 0 1 x1) 297 30 x1 0 1 = x1 := by rw [zu_kj (by omega), zu_s]
    have b2 : zu (zu G 0 1 x1) 297 30 x1 297 30 = x1 := zu_s
    refine ⟨by rw [b1, b2], by rw [b1]; omega, fun j j0 j1 => ?_⟩
    rw [b1] at j1
    rw [zu_kj (by omega), zu_kj (by omega), zu_kj (by omega), zu_kj (by omega)]
    exact t3 j j0 (by omega)
theorem pr_3 (hI : INV G) {x1 : Int} (h1 : rg x1) : PAIR 100 98 [zr 8 0 0, zi x1] 202 [zr 9 0 297, zi x1] G := by
  have hf := hI.2.2.2.1
  refine k_fault h1 ⟨_, rfl, r_fault h1 ⟨?_, hI⟩⟩
  rw [hf.1, hf.2]
theorem TOL_n (hI : INV G) : ∃ n, G 294 1 = n ∧ G 297 49 = n ∧ 0 ≤ n ∧ n ≤ 765 ∧ ∀ j, 0 ≤ j → j < n → G 295 j = G 319 j := by
  obtain ⟨l, h1, h2, h3⟩ := hI.2.2.2.2.1
  refine ⟨l.length, h1.1, h2.1, by omega, by omega, fun j j0 j1 => ?_⟩
  have e : j = (j.toNat : Int) := by omega
  rw [e, h1.2 j.toNat (by omega), h2.2 j.toNat (by omega)]
theorem pr_4 (hI : INV G) {x1 : Int} (h1 : rg x1) : PAIR 100 99 [zr 8 0 0, zi x1] 217 [zr 9 0 297, zi x1] G := by
  obtain ⟨n, o1, o2, _, _, _⟩ := TOL_n hI
  have ht := hI.2.2.1.1
  obtain ⟨a, b, n1, n2, n3, n4, _⟩ := hI.1
  obtain ⟨z1, z2, z3, z4, z5, z6⟩ := n4
  refine k_count h1 n2 (by omega) ⟨_, rfl, r_count h1 ⟨?_, hI⟩⟩
  rw [z3.1, z3.2.1, z3.2.2, z2.1, z2.2.1, z2.2.2.1, z4.1, ht, o1, o2]
theorem pr_43 (hI : INV G) {x1 : Int} (h1 : rg x1) : PAIR 100 121 [zr 8 0 0, zi x1] 270 [zr 9 0 297, zi x1] G := by
  obtain ⟨n, o1, o2, o3, o4, o5⟩ := TOL_n hI
  refine k_octet h1 o1 o3 (by omega) ⟨_, rfl, r_octet h1 o2 o3 (by omega) ⟨?_, hI⟩⟩
  by_cases c : 0 ≤ x1 ∧ x1 < n
  · rw [if_pos c, if_pos c, o5 x1 c.1 c.2]
  · rw [if_neg c, if_neg c]
theorem INV_qt {G1 G2 : zG} {a b : Int} (h : INV G) (hN : NOW G a b) (f1 : fr G G1 SCT) (hC : CI G1 a (G 298)) (f2 : fr G1 G2 ST) (ho : TOL G2) : INV G2 := by
  obtain ⟨_, h7, ht, hf, _, hi, hg⟩ := h
  obtain ⟨n1, n2, n3, n4, n5, n6, n7⟩ := hN
  have e : ∀ k j, ¬ SCT k j → ¬ ST k j → G2 k j = G k j := fun k j c1 c2 => (f2 k j c2).trans (f1 k j c1)
  have e298 : G2 298 = G 298 := funext fun j => e _ _ (by unfold SCT SC SP2; omega) (by unfold ST SR SO; omega)
  have e2 : ∀ k j, k ≤ 293 → G2 k j = G1 k j := fun k j hk => f2 k j (by unfold ST SR SO; omega)
  have es : G2 0 7 = G1 0 7 := e2 _ _ (by omega)
  refine ⟨⟨a, b, n1, (e _ _ (by unfold SCT SC SP2; omega) (by unfold ST SR SO; omega)).trans n2, (e _ _ (by unfold SCT SC SP2; omega) (by unfold ST SR SO; omega)).trans n3, ?_, BND_fr n5 (fun k j k0 k1 => e _ _ (by unfold SCT SC SP2; omega) (by unfold ST SR SO; omega)), ?_, ?_⟩, (e _ _ (by unfold SCT SC SP2; omega) (by unfold ST SR SO; omega)).trans h7, TPE_fr ht (fun k j hk => e _ _ (by unfold SCT SC SP2; omega) (by unfold ST SR SO; omega)), ?_, ho, IMG_fr hi (fun k j hk => e _ _ (by unfold SCT SC SP2; omega) (by unfold ST SR SO; omega)), fun j hj => by rw [e _ _ (by unfold SCT SC SP2; omega) (by unfold ST SR SO; omega)]; exact hg j hj⟩
  · rw [e298, e 297 4 (by unfold SCT SC SP2; omega) (by unfold ST SR SO; omega), Pr_fr (fun x => e _ _ (by unfold SCT SC SP2; omega) (by unfold ST SR SO; omega))]
    exact HS_fr n4 (fun k j k0 k1 => e _ _ (by unfold SCT SC SP2; omega) (by unfold ST SR SO; omega))
  · rw [es]; exact hC.2.2.2.2.1
  · intro hs
    rw [e298]
    exact IX_fr (hC.2.2.2.2.2 (by rw [← es]; exact hs)) (fun k j k0 k1 => e2 _ _ (by omega))
  · rw [e _ _ (by unfold SCT SC SP2; omega) (by unfold ST SR SO; omega), e _ _ (by unfold SCT SC SP2; omega) (by unfold ST SR SO; omega), e _ _ (by unfold SCT SC SP2; omega) (by unfold ST SR SO; omega), e _ _ (by unfold SCT SC SP2; omega) (by unfold ST SR SO; omega)]; exact hf
set_option maxHeartbeats 1000000 in
theorem pr_42 (hI : INV G) {x1 x2 : Int} (h1 : rg x1) (h2 : rg x2) : PAIR 100 120 [zr 8 0 0, zi x1, zi x2] 269 [zr 9 0 297, zi x1, zi x2] G := by
  have wf := INV_wf hI
  obtain ⟨a, b, hN⟩ := hI.1
  refine k_tell wf (NOW_CI hN) h1 h2 (fun hn => ?_) (fun hy G1 f1 hC hO => ?_)
  · exact ⟨_, rfl, r_tell wf rfl hI.2.1 h1 h2 (fun _ => ⟨rfl, hI⟩) (fun h => absurd h hn)⟩
  · have e298 : G1 298 = G 298 := funext fun j => f1 _ _ (by unfold SCT SC SP2; omega)
    have e7 : G1 297 7 = -1 := (f1 _ _ (by unfold SCT SC SP2; omega)).trans hI.2.1
    refine ⟨_, rfl, r_tell wf e298 e7 h1 h2 (fun h => absurd hy h) (fun _ G2 f2 hO2 => ⟨rfl, ?_⟩)⟩
    refine INV_qt hI hN f1 hC f2 ⟨tel (G 298) x1 x2, OUT_fr hO (f2 _ _ (by unfold ST SR SO; omega)) (fun j => f2 _ _ (by unfold ST SR SO; omega)), hO2, tel_len wf hy⟩
/-- spare answers by a long -/
theorem pr_39 (hI : INV G) : zW 100 132 [zr 8 0 0] G (fun r G1 => ∃ v, r = some (zl v) ∧ zW 100 263 [zr 9 0 297] G1 (fun r2 G2 => r2 = some (zl v) ∧ INV G2)) := by
  have wf := INV_wf hI
  obtain ⟨a, b, hN⟩ := hI.1
  refine k_spare wf (NOW_CI hN) (fun G1 f1 hC => ⟨_, rfl, r_spare wf ?_ ?_ (fun G2 f2 => ⟨rfl, INV_q hI hN f1 hC f2⟩)⟩)
  · exact funext fun j => f1 _ _ (by unfold SC; omega)
  · exact (f1 _ _ (by unfold SC; omega)).trans hI.2.1
end PR
