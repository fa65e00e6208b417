/-! BOTH SIDES: acts, images -/
section PR
variable {G : zG} {d : Nat}
theorem INV_act {G2 : zG} {a b : Int} (hI : INV G) (hN : NOW G a b) (e : ∀ k j, ¬ (a ≤ k ∧ k ≤ a + 11) → ¬ (k = 0 ∧ j = 7) → ¬ SRA k j → G2 k j = G k j) (h7 : G2 0 7 = 1) (hH : HS G2 a (G2 298) (G2 297 4) (Pr G2)) : INV G2 := by
  obtain ⟨_, h7', ht, hf, ho, hi, hg⟩ := hI
  obtain ⟨n1, n2, n3, n4, n5, n6, n7⟩ := hN
  have e' : ∀ k j, ¬ (a ≤ k ∧ k ≤ a + 11) → ¬ (k = 0 ∧ j = 7) → ¬ (k = 298 ∨ k = 300 ∨ (k = 297 ∧ j = 4)) → G2 k j = G k j := e
  refine ⟨⟨a, b, n1, (e' _ _ (by omega) (by omega) (by omega)).trans n2, (e' _ _ (by omega) (by omega) (by omega)).trans n3, hH, BND_fr n5 (fun k j k0 k1 => e' _ _ (by omega) (by omega) (by omega)), Or.inr h7, fun hs => by omega⟩, (e' _ _ (by omega) (by omega) (by omega)).trans h7', TPE_fr ht (fun k j hk => e' _ _ (by omega) (by omega) (by omega)), ?_, TOL_fr ho (fun k j hk => e' _ _ (by omega) (by omega) (by omega)), IMG_fr hi (fun k j hk => e' _ _ (by omega) (by omega) (by omega)), fun j hj => by rw [e' _ _ (by omega) (by omega) (by omega)]; exact hg j hj⟩
  rw [e' _ _ (by omega) (by omega) (by omega), e' _ _ (by omega) (by omega) (by omega), e' _ _ (by omega) (by omega) (by omega), e' _ _ (by omega) (by omega) (by omega)]; exact hf
theorem Pr_in {G : zG} {i j : Int} (h : 0 ≤ j ∧ j < 356) : Pr G i j = G 300 (356 * i + j) := c0_in h
theorem c0_rg {v : Int → Int} (h : ∀ j, 0 ≤ j → j < 356 → rg (v j)) (j : Int) : rg (c0 v j) := by
  unfold c0 cut
  split
  · rename_i hj; exact h j hj.1 hj.2
  · exact rg_0
/-- an act more, on both sides -/
theorem act_more {G1 G2 : zG} {a b m : Int} {U : Int → Int} (hI : INV G) (hN : NOW G a b) (hm : G 297 4 = m) (f1 : fr G G1 (SMU a)) (hH : HS G1 a U (m + 1) (Pn (Pr G) m (G 298))) (h7 : G1 0 7 = 1) (f2 : fr G1 G2 SRA) (e8 : G2 298 = U) (e4 : G2 297 4 = m + 1) (hR : REM G1 G2 m (G 298)) : INV G2 := by
  have hab := hN.1
  have e2 : ∀ k j, ¬ (k = 298 ∨ k = 300 ∨ (k = 297 ∧ j = 4)) → G2 k j = G1 k j := fun k j h => f2 k j h
  have e1 : ∀ k j, ¬ ((a ≤ k ∧ k ≤ a + 11) ∨ (k = 0 ∧ j = 7)) → G1 k j = G k j := fun k j h => f1 k j h
  refine INV_act hI hN (fun k j c1 c2 c3 => by rw [f2 k j c3, e1 _ _ (by omega)]) ((e2 _ _ (by omega)).trans h7) ?_
  rw [e8, e4]
  have hmm := hN.2.2.2.1.2.2.2.1.2
  rw [hm] at hmm
  have hH2 := HS_fr (G1 := G2) hH (fun k j k0 k1 => e2 _ _ (by omega))
  have hP : ∀ i, 0 ≤ i → i < m + 1 → ∀ j, 0 ≤ j → j < 356 → Pr G2 i j = Pn (Pr G) m (G 298) i j := fun i i0 i1 j j0 j1 => by
    rw [Pr_in ⟨j0, j1⟩]
    unfold Pn
    by_cases c : i = m
    · rw [if_pos c, c]; exact hR.1 j j0 j1
    · rw [if_neg c, Pr_in ⟨j0, j1⟩, hR.2 _ (by omega), e1 _ _ (by omega)]
  refine HS_cong hH2 (WF_rg hH2.1) (fun j _ _ => rfl) (fun i i0 i1 => ?_) hP
  refine c0_rg (fun j j0 j1 => ?_)
  have := hP i i0 i1 j j0 j1
  rw [Pr_in ⟨j0, j1⟩] at this
  rw [this]
  exact WF_rg (hH2.2.2.2.2.2 i i0 i1).1 j
set_option maxHeartbeats 1000000 in
theorem pr_44 (hI : INV G) {x1 x2 x3 x4 : Int} (h1 : rg x1) (h2 : rg x2) (h3 : rg x3) (h4 : rg x4) : PAIR 100 139 [zr 8 0 0, zi x1, zi x2, zi x3, zi x4] 273 [zr 9 0 297, zi x1, zi x2, zi x3, zi x4] G := by
  have wf := INV_wf hI
  obtain ⟨a, b, hN⟩ := hI.1
  have hab := hN.1
  have hH := hN.2.2.2.1
  have hm := hH.2.2.2.1.2
  refine k_add hN.2.1 (by omega) hH h1 h2 h3 h4 (fun hn => ?_) (fun hy hn => ?_) (fun hy hn G1 f1 hH1 h7 => ?_)
  · exact ⟨_, rfl, r_add wf rfl rfl hm h1 h2 h3 h4 (fun _ => ⟨rfl, hI⟩) (fun h => absurd h hn) (fun h => absurd h hn)⟩
  · exact ⟨_, rfl, r_add wf rfl rfl hm h1 h2 h3 h4 (fun h => absurd hy h) (fun _ _ => ⟨rfl, hI⟩) (fun _ h => absurd hn h)⟩
  · have e1 : ∀ k j, ¬ ((a ≤ k ∧ k ≤ a + 11) ∨ (k = 0 ∧ j = 7)) → G1 k j = G k j := fun k j h => f1 k j h
    exact ⟨_, rfl, r_add wf (funext fun j => e1 _ _ (by omega)) (e1 _ _ (by omega)) hm h1 h2 h3 h4 (fun h => absurd hy h) (fun _ h => absurd h hn) (fun _ _ G2 f2 e8 e4 hR => ⟨rfl, act_more hI hN rfl f1 hH1 h7 f2 e8 e4 hR⟩)⟩
set_option maxHeartbeats 1000000 in
theorem pr_45 (hI : INV G) {x1 : Int} (h1 : rg x1) : PAIR 100 140 [zr 8 0 0, zi x1] 274 [zr 9 0 297, zi x1] G := by
  have wf := INV_wf hI
  obtain ⟨a, b, hN⟩ := hI.1
  have hab := hN.1
  have hH := hN.2.2.2.1
  have hm := hH.2.2.2.1.2
  refine k_drop hN.2.1 (by omega) hH h1 (fun hn => ?_) (fun hy hn => ?_) (fun hy hn G1 f1 hH1 h7 => ?_)
  · exact ⟨_, rfl, r_drop wf rfl rfl hm h1 (fun _ => ⟨rfl, hI⟩) (fun h => absurd h hn) (fun h => absurd h hn)⟩
  · exact ⟨_, rfl, r_drop wf rfl rfl hm h1 (fun h => absurd hy h) (fun _ _ => ⟨rfl, hI⟩) (fun _ h => absurd hn h)⟩
  · have e1 : ∀ k j, ¬ ((a ≤ k ∧ k ≤ a + 11) ∨ (k = 0 ∧ j = 7)) → G1 k j = G k j := fun k j h => f1 k j h
    exact ⟨_, rfl, r_drop wf (funext fun j => e1 _ _ (by omega)) (e1 _ _ (by omega)) hm h1 (fun h => absurd hy h) (fun _ h => absurd h hn) (fun _ _ G2 f2 e8 e4 hR => ⟨rfl, act_more hI hN rfl f1 hH1 h7 f2 e8 e4 hR⟩)⟩
set_option maxHeartbeats 1000000 in
theorem pr_46 (hI : INV G) {x1 x2 : Int} (h1 : rg x1) (h2 : rg x2) : PAIR 100 141 [zr 8 0 0, zi x1, zi x2] 275 [zr 9 0 297, zi x1, zi x2] G := by
  have wf := INV_wf hI
  obtain ⟨a, b, hN⟩ := hI.1
  have hab := hN.1
  have hH := hN.2.2.2.1
  have hm := hH.2.2.2.1.2
  refine k_rule hN.2.1 (by omega) hH h1 h2 (fun hn => ?_) (fun hy hn => ?_) (fun hy hn G1 f1 hH1 h7 => ?_)
  · exact ⟨_, rfl, r_rule wf rfl rfl hm h1 h2 (fun _ => ⟨rfl, hI⟩) (fun h => absurd h hn) (fun h => absurd h hn)⟩
  · exact ⟨_, rfl, r_rule wf rfl rfl hm h1 h2 (fun h => absurd hy h) (fun _ _ => ⟨rfl, hI⟩) (fun _ h => absurd hn h)⟩
  · have e1 : ∀ k j, ¬ ((a ≤ k ∧ k ≤ a + 11) ∨ (k = 0 ∧ j = 7)) → G1 k j = G k j := fun k j h => f1 k j h
    exact ⟨_, rfl, r_rule wf (funext fun j => e1 _ _ (by omega)) (e1 _ _ (by omega)) hm h1 h2 (fun h => absurd hy h) (fun _ h => absurd h hn) (fun _ _ G2 f2 e8 e4 hR => ⟨rfl, act_more hI hN rfl f1 hH1 h7 f2 e8 e4 hR⟩)⟩
/-- acts taken back, on both sides: m of them are left -/
theorem act_less {G1 G2 : zG} {a b m : Int} {V : Int → Int} (hI : INV G) (hN : NOW G a b) (f1 : fr G G1 (fun k j => (a ≤ k ∧ k ≤ a + 10) ∨ (k = 0 ∧ j = 7))) (hH : HS G1 a V m (Pr G)) (h7 : G1 0 7 = 1) (f2 : fr G1 G2 SRB) (e4 : G2 297 4 = m) (e8 : ∀ j, 0 ≤ j → j < 356 → G2 298 j = V j) : INV G2 := by
  have hab := hN.1
  have e2 : ∀ k j, ¬ ((k = 298 ∧ 0 ≤ j ∧ j < 356) ∨ (k = 297 ∧ j = 4)) → G2 k j = G1 k j := fun k j h => f2 k j h
  have e1 : ∀ k j, ¬ ((a ≤ k ∧ k ≤ a + 10) ∨ (k = 0 ∧ j = 7)) → G1 k j = G k j := fun k j h => f1 k j h
  refine INV_act hI hN (fun k j c1 c2 c3 => ?_) ((e2 _ _ (by omega)).trans h7) ?_
  · have c3 : ¬ (k = 298 ∨ k = 300 ∨ (k = 297 ∧ j = 4)) := c3
    rw [e2 _ _ (by omega), e1 _ _ (by omega)]
  rw [e4]
  have hH2 := HS_fr (G1 := G2) hH (fun k j k0 k1 => e2 _ _ (by omega))
  have eP : Pr G2 = Pr G := Pr_fr (fun x => (e2 _ _ (by omega)).trans (e1 _ _ (by omega)))
  rw [eP]
  refine HS_cong hH2 (fun j => ?_) e8 (fun i i0 i1 => WF_rg (hH2.2.2.2.2.2 i i0 i1).1) (fun _ _ _ _ _ _ => rfl)
  by_cases c : 0 ≤ j ∧ j < 356
  · rw [e8 j c.1 c.2]; exact WF_rg hH2.1 j
  · rw [e2 _ _ (by omega), e1 _ _ (by omega)]; exact WF_rg (INV_wf hI) j
set_option maxHeartbeats 1000000 in
theorem pr_49 (hI : INV G) : PAIR 100 144 [zr 8 0 0] 279 [zr 9 0 297] G := by
  have wf := INV_wf hI
  have n5 := (WF_n wf).2.2.2.2.2
  obtain ⟨a, b, hN⟩ := hI.1
  have hab := hN.1
  have hH := hN.2.2.2.1
  have hm := hH.2.2.2.1.2
  refine k_undo hN.2.1 (by omega) hH (fun hn => ?_) (fun hy hn => ?_) (fun hy hn G1 f1 hH1 h7 => ?_)
  · exact ⟨_, rfl, r_undo rfl hm n5 (fun _ => ⟨rfl, hI⟩) (fun h => absurd hn h) (fun h => absurd hn h)⟩
  · exact ⟨_, rfl, r_undo rfl hm n5 (fun h => absurd h hy) (fun _ _ => ⟨rfl, hI⟩) (fun _ h => by omega)⟩
  · have e1 : ∀ k j, ¬ ((a ≤ k ∧ k ≤ a + 10) ∨ (k = 0 ∧ j = 7)) → G1 k j = G k j := fun k j h => f1 k j h
    have e298 : ∀ j, G1 298 j = G 298 j := fun j => e1 _ _ (by omega)
    refine ⟨_, rfl, r_undo (m := G 297 4) (e1 _ _ (by omega)) hm (by rw [e298]; exact n5) (fun h => by rw [e298] at h; exact absurd h hy) (fun _ h => by omega) (fun _ _ G2 f2 e4 e8 => ⟨rfl, act_less hI hN f1 hH1 h7 f2 e4 (fun j j0 j1 => ?_)⟩)⟩
    rw [e8, cut_in ⟨j0, j1⟩, Pr_in ⟨j0, j1⟩, e1 _ _ (by omega)]
set_option maxHeartbeats 1000000 in
theorem pr_50 (hI : INV G) : PAIR 100 145 [zr 8 0 0] 280 [zr 9 0 297] G := by
  have wf := INV_wf hI
  have n5 := (WF_n wf).2.2.2.2.2
  obtain ⟨a, b, hN⟩ := hI.1
  have hab := hN.1
  have hH := hN.2.2.2.1
  have hm := hH.2.2.2.1.2
  refine k_anew hN.2.1 (by omega) hH (fun hn => ?_) (fun hy G1 f1 hH1 h7 => ?_)
  · exact ⟨_, rfl, r_anew rfl hm n5 (fun _ => ⟨rfl, hI⟩) (fun h => absurd hn h)⟩
  · have e1 : ∀ k j, ¬ ((a ≤ k ∧ k ≤ a + 10) ∨ (k = 0 ∧ j = 7)) → G1 k j = G k j := fun k j h => f1 k j h
    have e298 : ∀ j, G1 298 j = G 298 j := fun j => e1 _ _ (by omega)
    refine ⟨_, rfl, r_anew (m := G 297 4) (e1 _ _ (by omega)) hm (by rw [e298]; exact n5) (fun h => by rw [e298] at h; exact absurd h hy) (fun _ G2 f2 e4 e8 => ⟨rfl, act_less hI hN f1 hH1 h7 f2 e4 (fun j j0 j1 => ?_)⟩)⟩
    rw [e8]
    by_cases c : G 297 4 = 0
    · rw [if_pos c, if_pos c]; exact e298 j
    · rw [if_neg c, if_neg c, cut_in ⟨j0, j1⟩, Pr_in ⟨j0, j1⟩, e1 _ _ (by omega)]
end PR
