/-! BOTH SIDES: what holds between two calls; the questions -/
def Pr (G : zG) (i : Int) : Int → Int := c0 (fun j => G 300 (356 * i + j))
def Pim (G : zG) (k i : Int) : Int → Int := c0 (fun j => G 301 (7477 * k + 357 + (356 * i + j)))
def IMG (G : zG) : Prop := ∀ k, 0 ≤ k → k < 3 → (G 302 k = 0 ∧ G (30 + 12 * k) 2 = 0) ∨ (G 302 k = 1 ∧ G (30 + 12 * k) 2 ≠ 0 ∧ HS G (30 + 12 * k) (c0 (fun j => G 301 (7477 * k + j))) (G 301 (7477 * k + 356)) (Pim G k))
def TPE (G : zG) : Prop := G 0 1 = G 297 30 ∧ (0 ≤ G 0 1 ∧ G 0 1 ≤ 1200) ∧ ∀ j, 0 ≤ j → j < G 0 1 → G 1 j = G 312 j ∧ (-128 ≤ G 312 j ∧ G 312 j ≤ 127)
def TOL (G : zG) : Prop := ∃ l, OUT G 294 1 295 l ∧ OUT G 297 49 319 l ∧ l.length ≤ 765
def NOW (G : zG) (a b : Int) : Prop := (a = 5 ∧ b = 17 ∨ a = 17 ∧ b = 5) ∧ G 0 3 = a ∧ G 0 4 = b ∧ HS G a (G 298) (G 297 4) (Pr G) ∧ BND G b ∧ (G 0 7 = 0 ∨ G 0 7 = 1) ∧ (G 0 7 = 0 → IX G 66 a (G 298) (-1))
def INV (G : zG) : Prop := (∃ a b, NOW G a b) ∧ G 297 7 = -1 ∧ TPE G ∧ (G 2 0 = G 297 37 ∧ G 2 1 = G 297 38) ∧ TOL G ∧ IMG G ∧ ∀ j, ¬ (0 ≤ j ∧ j < 356) → rg (G 299 j)
def PAIR (d i : Nat) (vs : List zV) (j : Nat) (us : List zV) (G : zG) : Prop := zW d i vs G (fun r G1 => ∃ v, r = some (zi v) ∧ zW d j us G1 (fun r2 G2 => r2 = some (zi v) ∧ INV G2))
section PR
variable {G : zG} {d : Nat}
theorem INV_wf (h : INV G) : WF (G 298) := by
  obtain ⟨⟨a, b, h⟩, _⟩ := h
  exact h.2.2.2.1.1
theorem NOW_CI {a b : Int} (h : NOW G a b) : CI G a (G 298) := by
  obtain ⟨h1, h2, h3, h4, h5, h6, h7⟩ := h
  exact ⟨h2, by omega, h4.2.1, h4.2.2.1, h6, h7⟩
theorem OUT_fr {G1 : zG} {kc jc kb : Int} {l : List Int} (h : OUT G kc jc kb l) (e1 : G1 kc jc = G kc jc) (e2 : ∀ j, G1 kb j = G kb j) : OUT G1 kc jc kb l := ⟨e1.trans h.1, fun i hi => (e2 i).trans (h.2 i hi)⟩
theorem TOL_fr {G1 : zG} (h : TOL G) (e : ∀ k j, (k = 294 ∧ j = 1) ∨ k = 295 ∨ (k = 297 ∧ j = 49) ∨ k = 319 → G1 k j = G k j) : TOL G1 := by
  obtain ⟨l, h1, h2, h3⟩ := h
  exact ⟨l, OUT_fr h1 (e _ _ (by omega)) (fun j => e _ _ (by omega)), OUT_fr h2 (e _ _ (by omega)) (fun j => e _ _ (by omega)), h3⟩
theorem TPE_fr {G1 : zG} (h : TPE G) (e : ∀ k j, (k = 0 ∧ j = 1) ∨ k = 1 ∨ (k = 297 ∧ j = 30) ∨ k = 312 → G1 k j = G k j) : TPE G1 := by
  obtain ⟨h1, h2, h3⟩ := h
  unfold TPE
  rw [e 0 1 (by omega), e 297 30 (by omega)]
  exact ⟨h1, h2, fun j j0 j1 => by rw [e _ _ (by omega), e _ _ (by omega)]; exact h3 j j0 j1⟩
theorem IMG_fr {G1 : zG} (h : IMG G) (e : ∀ k j, (30 ≤ k ∧ k ≤ 65) ∨ k = 301 ∨ k = 302 → G1 k j = G k j) : IMG G1 := by
  intro k k0 k1
  have e1 : ∀ x, G1 301 x = G 301 x := fun x => e _ _ (by omega)
  have eP : Pim G1 k = Pim G k := by
    funext i; unfold Pim; simp only [e1]
  rw [e 302 k (by omega), e (30 + 12 * k) 2 (by omega), eP]
  simp only [e1]
  rcases h k k0 k1 with h | ⟨h1, h2, h3⟩
  · exact Or.inl h
  · exact Or.inr ⟨h1, h2, HS_fr h3 (fun q j q0 q1 => e _ _ (by omega))⟩
theorem Pr_fr {G1 : zG} (e : ∀ x, G1 300 x = G 300 x) : Pr G1 = Pr G := by
  funext i; unfold Pr; simp only [e]
theorem INV_q {G1 G2 : zG} {a b : Int} (h : INV G) (hN : NOW G a b) (f1 : fr G G1 SC) (hC : CI G1 a (G 298)) (f2 : fr G1 G2 SR) : INV G2 := by
  obtain ⟨_, h7, ht, hf, ho, hi, hg⟩ := h
  obtain ⟨n1, n2, n3, n4, n5, n6, n7⟩ := hN
  have e : ∀ k j, ¬ SC k j → ¬ SR k j → G2 k j = G k j := fun k j c1 c2 => (f2 k j c2).trans (f1 k j c1)
  have e298 : G2 298 = G 298 := funext fun j => e _ _ (by unfold SC; omega) (by unfold SR; omega)
  have e2 : ∀ k j, k ≤ 296 → G2 k j = G1 k j := fun k j hk => f2 k j (by unfold SR; omega)
  have es : G2 0 7 = G1 0 7 := e2 _ _ (by omega)
  refine ⟨⟨a, b, n1, (e _ _ (by unfold SC; omega) (by unfold SR; omega)).trans n2, (e _ _ (by unfold SC; omega) (by unfold SR; omega)).trans n3, ?_, BND_fr n5 (fun k j k0 k1 => e _ _ (by unfold SC; omega) (by unfold SR; omega)), ?_, ?_⟩, (e _ _ (by unfold SC; omega) (by unfold SR; omega)).trans h7, TPE_fr ht (fun k j hk => e _ _ (by unfold SC; omega) (by unfold SR; omega)), ?_, TOL_fr ho (fun k j hk => e _ _ (by unfold SC; omega) (by unfold SR; omega)), IMG_fr hi (fun k j hk => e _ _ (by unfold SC; omega) (by unfold SR; omega)), fun j hj => by rw [e _ _ (by unfold SC; omega) (by unfold SR; omega)]; exact hg j hj⟩
  · rw [e298, e 297 4 (by unfold SC; omega) (by unfold SR; omega), Pr_fr (fun x => e _ _ (by unfold SC; omega) (by unfold SR; omega))]
    exact HS_fr n4 (fun k j k0 k1 => e _ _ (by unfold SC; omega) (by unfold SR; omega))
  · rw [es]; exact hC.2.2.2.2.1
  · intro hs
    rw [e298]
    exact IX_fr (hC.2.2.2.2.2 (by rw [← es]; exact hs)) (fun k j k0 k1 => e2 _ _ (by omega))
  · rw [e _ _ (by unfold SC; omega) (by unfold SR; omega), e _ _ (by unfold SC; omega) (by unfold SR; omega), e _ _ (by unfold SC; omega) (by unfold SR; omega), e _ _ (by unfold SC; omega) (by unfold SR; omega)]; exact hf
theorem pair_q {v : Int} {i j : Nat} {vs us : List zV} (hI : INV G) (hk : ∀ (Q : zQ) (a : Int), CI G a (G 298) → (∀ G1, fr G G1 SC → CI G1 a (G 298) → Q (some (zi v)) G1) → zW d i vs G Q) (hr : ∀ (G1 : zG) (Q : zQ), G1 298 = G 298 → G1 297 7 = -1 → (∀ G2, fr G1 G2 SR → Q (some (zi v)) G2) → zW d j us G1 Q) : PAIR d i vs j us G := by
  obtain ⟨a, b, hN⟩ := hI.1
  refine hk _ a (NOW_CI hN) (fun G1 f1 hC => ⟨v, rfl, hr G1 _ ?_ ?_ (fun G2 f2 => ⟨rfl, INV_q hI hN f1 hC f2⟩)⟩)
  · exact funext fun j => f1 _ _ (by unfold SC; omega)
  · exact (f1 _ _ (by unfold SC; omega)).trans hI.2.1
theorem pr_5 (hI : INV G) {x1 x2 : Int} (h1 : rg x1) (h2 : rg x2) : PAIR 100 100 [zr 8 0 0, zi x1, zi x2] 218 [zr 9 0 297, zi x1, zi x2] G :=
  pair_q hI (fun Q a hC hQ => k_shot (INV_wf hI) hC h1 h2 hQ) (fun G1 Q hw hd hQ => r_shot (INV_wf hI) hw hd h1 h2 hQ)
theorem pr_6 (hI : INV G) {x1 x2 : Int} (h1 : rg x1) (h2 : rg x2) : PAIR 100 101 [zr 8 0 0, zi x1, zi x2] 219 [zr 9 0 297, zi x1, zi x2] G :=
  pair_q hI (fun Q a hC hQ => k_body (INV_wf hI) hC h1 h2 hQ) (fun G1 Q hw hd hQ => r_body (INV_wf hI) hw hd h1 h2 hQ)
theorem pr_7 (hI : INV G) {x1 : Int} (h1 : rg x1) : PAIR 100 102 [zr 8 0 0, zi x1] 220 [zr 9 0 297, zi x1] G :=
  pair_q hI (fun Q a hC hQ => k_shots (INV_wf hI) hC h1 hQ) (fun G1 Q hw hd hQ => r_shots (INV_wf hI) hw h1 hQ)
theorem pr_8 (hI : INV G) {x1 x2 : Int} (h1 : rg x1) (h2 : rg x2) : PAIR 100 103 [zr 8 0 0, zi x1, zi x2] 221 [zr 9 0 297, zi x1, zi x2] G :=
  pair_q hI (fun Q a hC hQ => k_byDay (INV_wf hI) hC h1 h2 hQ) (fun G1 Q hw hd hQ => r_byDay (INV_wf hI) hw hd h1 h2 hQ)
theorem pr_9 (hI : INV G) {x1 x2 : Int} (h1 : rg x1) (h2 : rg x2) : PAIR 100 104 [zr 8 0 0, zi x1, zi x2] 223 [zr 9 0 297, zi x1, zi x2] G :=
  pair_q hI (fun Q a hC hQ => k_nearest (INV_wf hI) hC h1 h2 hQ) (fun G1 Q hw hd hQ => r_nearest (INV_wf hI) hw hd h1 h2 hQ)
theorem pr_10 (hI : INV G) {x1 x2 x3 : Int} (h1 : rg x1) (h2 : rg x2) (h3 : rg x3) : PAIR 100 105 [zr 8 0 0, zi x1, zi x2, zi x3] 224 [zr 9 0 297, zi x1, zi x2, zi x3] G :=
  pair_q hI (fun Q a hC hQ => k_follow (INV_wf hI) hC h1 h2 h3 hQ) (fun G1 Q hw hd hQ => r_follow (INV_wf hI) hw hd h1 h2 h3 hQ)
theorem pr_11 (hI : INV G) {x1 x2 x3 : Int} (h1 : rg x1) (h2 : rg x2) (h3 : rg x3) : PAIR 100 106 [zr 8 0 0, zi x1, zi x2, zi x3] 225 [zr 9 0 297, zi x1, zi x2, zi x3] G :=
  pair_q hI (fun Q a hC hQ => k_followed (INV_wf hI) hC h1 h2 h3 hQ) (fun G1 Q hw hd hQ => r_followed (INV_wf hI) hw hd h1 h2 h3 hQ)
theorem pr_12 (hI : INV G) {x1 x2 : Int} (h1 : rg x1) (h2 : rg x2) : PAIR 100 107 [zr 8 0 0, zi x1, zi x2] 226 [zr 9 0 297, zi x1, zi x2] G :=
  pair_q hI (fun Q a hC hQ => k_view (INV_wf hI) hC h1 h2 hQ) (fun G1 Q hw hd hQ => r_view (INV_wf hI) hw hd h1 h2 hQ)
theorem pr_13 (hI : INV G) {x1 x2 x3 x4 : Int} (h1 : rg x1) (h2 : rg x2) (h3 : rg x3) (h4 : rg x4) : PAIR 100 108 [zr 8 0 0, zi x1, zi x2, zi x3, zi x4] 228 [zr 9 0 297, zi x1, zi x2, zi x3, zi x4] G :=
  pair_q hI (fun Q a hC hQ => k_element (INV_wf hI) hC h1 h2 h3 h4 hQ) (fun G1 Q hw hd hQ => r_element (INV_wf hI) hw hd h1 h2 h3 h4 hQ)
theorem pr_14 (hI : INV G) {x1 x2 : Int} (h1 : rg x1) (h2 : rg x2) : PAIR 100 109 [zr 8 0 0, zi x1, zi x2] 229 [zr 9 0 297, zi x1, zi x2] G :=
  pair_q hI (fun Q a hC hQ => k_whole (INV_wf hI) hC h1 h2 hQ) (fun G1 Q hw hd hQ => r_whole (INV_wf hI) hw hd h1 h2 hQ)
theorem pr_15 (hI : INV G) {x1 x2 : Int} (h1 : rg x1) (h2 : rg x2) : PAIR 100 110 [zr 8 0 0, zi x1, zi x2] 230 [zr 9 0 297, zi x1, zi x2] G :=
  pair_q hI (fun Q a hC hQ => k_judged (INV_wf hI) hC h1 h2 hQ) (fun G1 Q hw hd hQ => r_judged (INV_wf hI) hw hd h1 h2 hQ)
theorem pr_16 (hI : INV G) {x1 x2 x3 : Int} (h1 : rg x1) (h2 : rg x2) (h3 : rg x3) : PAIR 100 111 [zr 8 0 0, zi x1, zi x2, zi x3] 231 [zr 9 0 297, zi x1, zi x2, zi x3] G :=
  pair_q hI (fun Q a hC hQ => k_common (INV_wf hI) hC h1 h2 h3 hQ) (fun G1 Q hw hd hQ => r_common (INV_wf hI) hw hd h1 h2 h3 hQ)
theorem pr_17 (hI : INV G) {x1 x2 : Int} (h1 : rg x1) (h2 : rg x2) : PAIR 100 112 [zr 8 0 0, zi x1, zi x2] 233 [zr 9 0 297, zi x1, zi x2] G :=
  pair_q hI (fun Q a hC hQ => k_clash (INV_wf hI) hC h1 h2 hQ) (fun G1 Q hw hd hQ => r_clash (INV_wf hI) hw hd h1 h2 hQ)
theorem pr_18 (hI : INV G) {x1 x2 : Int} (h1 : rg x1) (h2 : rg x2) : PAIR 100 113 [zr 8 0 0, zi x1, zi x2] 234 [zr 9 0 297, zi x1, zi x2] G :=
  pair_q hI (fun Q a hC hQ => k_culprit (INV_wf hI) hC h1 h2 hQ) (fun G1 Q hw hd hQ => r_culprit (INV_wf hI) hw hd h1 h2 hQ)
theorem pr_19 (hI : INV G) {x1 x2 : Int} (h1 : rg x1) (h2 : rg x2) : PAIR 100 114 [zr 8 0 0, zi x1, zi x2] 235 [zr 9 0 297, zi x1, zi x2] G :=
  pair_q hI (fun Q a hC hQ => k_spread (INV_wf hI) hC h1 h2 hQ) (fun G1 Q hw hd hQ => r_spread (INV_wf hI) hw hd h1 h2 hQ)
theorem pr_20 (hI : INV G) {x1 x2 : Int} (h1 : rg x1) (h2 : rg x2) : PAIR 100 115 [zr 8 0 0, zi x1, zi x2] 236 [zr 9 0 297, zi x1, zi x2] G :=
  pair_q hI (fun Q a hC hQ => k_farthest (INV_wf hI) hC h1 h2 hQ) (fun G1 Q hw hd hQ => r_farthest (INV_wf hI) hw hd h1 h2 hQ)
theorem pr_21 (hI : INV G) {x1 x2 : Int} (h1 : rg x1) (h2 : rg x2) : PAIR 100 116 [zr 8 0 0, zi x1, zi x2] 237 [zr 9 0 297, zi x1, zi x2] G :=
  pair_q hI (fun Q a hC hQ => k_heavy (INV_wf hI) hC h1 h2 hQ) (fun G1 Q hw hd hQ => r_heavy (INV_wf hI) hw hd h1 h2 hQ)
theorem pr_22 (hI : INV G) {x1 x2 : Int} (h1 : rg x1) (h2 : rg x2) : PAIR 100 128 [zr 8 0 0, zi x1, zi x2] 238 [zr 9 0 297, zi x1, zi x2] G :=
  pair_q hI (fun Q a hC hQ => k_run (INV_wf hI) hC h1 h2 hQ) (fun G1 Q hw hd hQ => r_run (INV_wf hI) hw hd h1 h2 hQ)
theorem pr_23 (hI : INV G) {x1 x2 : Int} (h1 : rg x1) (h2 : rg x2) : PAIR 100 122 [zr 8 0 0, zi x1, zi x2] 246 [zr 9 0 297, zi x1, zi x2] G :=
  pair_q hI (fun Q a hC hQ => k_days (INV_wf hI) hC h1 h2 hQ) (fun G1 Q hw hd hQ => r_days (INV_wf hI) hw hd h1 h2 hQ)
theorem pr_24 (hI : INV G) {x1 x2 : Int} (h1 : rg x1) (h2 : rg x2) : PAIR 100 123 [zr 8 0 0, zi x1, zi x2] 247 [zr 9 0 297, zi x1, zi x2] G :=
  pair_q hI (fun Q a hC hQ => k_firstDay (INV_wf hI) hC h1 h2 hQ) (fun G1 Q hw hd hQ => r_firstDay (INV_wf hI) hw hd h1 h2 hQ)
theorem pr_25 (hI : INV G) {x1 : Int} (h1 : rg x1) : PAIR 100 124 [zr 8 0 0, zi x1] 250 [zr 9 0 297, zi x1] G :=
  pair_q hI (fun Q a hC hQ => k_changes (INV_wf hI) hC h1 hQ) (fun G1 Q hw hd hQ => r_changes (INV_wf hI) hw hd h1 hQ)
theorem pr_26 (hI : INV G) {x1 x2 : Int} (h1 : rg x1) (h2 : rg x2) : PAIR 100 125 [zr 8 0 0, zi x1, zi x2] 251 [zr 9 0 297, zi x1, zi x2] G :=
  pair_q hI (fun Q a hC hQ => k_change (INV_wf hI) hC h1 h2 hQ) (fun G1 Q hw hd hQ => r_change (INV_wf hI) hw hd h1 h2 hQ)
theorem pr_27 (hI : INV G) {x1 : Int} (h1 : rg x1) : PAIR 100 129 [zr 8 0 0, zi x1] 252 [zr 9 0 297, zi x1] G :=
  pair_q hI (fun Q a hC hQ => k_runs (INV_wf hI) hC h1 hQ) (fun G1 Q hw hd hQ => r_runs (INV_wf hI) hw hd h1 hQ)
theorem pr_28 (hI : INV G) {x1 : Int} (h1 : rg x1) : PAIR 100 130 [zr 8 0 0, zi x1] 253 [zr 9 0 297, zi x1] G :=
  pair_q hI (fun Q a hC hQ => k_stored (INV_wf hI) hC h1 hQ) (fun G1 Q hw hd hQ => r_stored (INV_wf hI) hw hd h1 hQ)
theorem pr_29 (hI : INV G)  : PAIR 100 131 [zr 8 0 0] 254 [zr 9 0 297] G :=
  pair_q hI (fun Q a hC hQ => k_unused (INV_wf hI) hC  hQ) (fun G1 Q hw hd hQ => r_unused (INV_wf hI) hw hd  hQ)
theorem pr_30 (hI : INV G) {x1 x2 x3 : Int} (h1 : rg x1) (h2 : rg x2) (h3 : rg x3) : PAIR 100 118 [zr 8 0 0, zi x1, zi x2, zi x3] 241 [zr 9 0 297, zi x1, zi x2, zi x3] G :=
  pair_q hI (fun Q a hC hQ => k_both (INV_wf hI) hC h1 h2 h3 hQ) (fun G1 Q hw hd hQ => r_both (INV_wf hI) hw hd h1 h2 h3 hQ)
theorem pr_31 (hI : INV G) {x1 x2 x3 : Int} (h1 : rg x1) (h2 : rg x2) (h3 : rg x3) : PAIR 100 126 [zr 8 0 0, zi x1, zi x2, zi x3] 242 [zr 9 0 297, zi x1, zi x2, zi x3] G :=
  pair_q hI (fun Q a hC hQ => k_bothOn (INV_wf hI) hC h1 h2 h3 hQ) (fun G1 Q hw hd hQ => r_bothOn (INV_wf hI) hw hd h1 h2 h3 hQ)
theorem pr_32 (hI : INV G) {x1 x2 : Int} (h1 : rg x1) (h2 : rg x2) : PAIR 100 117 [zr 8 0 0, zi x1, zi x2] 244 [zr 9 0 297, zi x1, zi x2] G :=
  pair_q hI (fun Q a hC hQ => k_drift (INV_wf hI) hC h1 h2 hQ) (fun G1 Q hw hd hQ => r_drift (INV_wf hI) hw hd h1 h2 hQ)
theorem pr_33 (hI : INV G) {x1 : Int} (h1 : rg x1) : PAIR 100 127 [zr 8 0 0, zi x1] 245 [zr 9 0 297, zi x1] G :=
  pair_q hI (fun Q a hC hQ => k_bestDay (INV_wf hI) hC h1 hQ) (fun G1 Q hw hd hQ => r_bestDay (INV_wf hI) hw hd h1 hQ)
theorem pr_34 (hI : INV G) {x1 x2 x3 x4 : Int} (h1 : rg x1) (h2 : rg x2) (h3 : rg x3) (h4 : rg x4) : PAIR 100 134 [zr 8 0 0, zi x1, zi x2, zi x3, zi x4] 256 [zr 9 0 297, zi x1, zi x2, zi x3, zi x4] G :=
  pair_q hI (fun Q a hC hQ => k_click (INV_wf hI) hC h1 h2 h3 h4 hQ) (fun G1 Q hw hd hQ => r_click (INV_wf hI) hw hd h1 h2 h3 h4 hQ)
theorem pr_35 (hI : INV G) {x1 x2 x3 : Int} (h1 : rg x1) (h2 : rg x2) (h3 : rg x3) : PAIR 100 135 [zr 8 0 0, zi x1, zi x2, zi x3] 258 [zr 9 0 297, zi x1, zi x2, zi x3] G :=
  pair_q hI (fun Q a hC hQ => k_reach (INV_wf hI) hC h1 h2 h3 hQ) (fun G1 Q hw hd hQ => r_reach (INV_wf hI) hw hd h1 h2 h3 hQ)
theorem pr_36 (hI : INV G) {x1 x2 x3 : Int} (h1 : rg x1) (h2 : rg x2) (h3 : rg x3) : PAIR 100 136 [zr 8 0 0, zi x1, zi x2, zi x3] 259 [zr 9 0 297, zi x1, zi x2, zi x3] G :=
  pair_q hI (fun Q a hC hQ => k_clicks (INV_wf hI) hC h1 h2 h3 hQ) (fun G1 Q hw hd hQ => r_clicks (INV_wf hI) hw hd h1 h2 h3 hQ)
theorem pr_37 (hI : INV G) {x1 x2 : Int} (h1 : rg x1) (h2 : rg x2) : PAIR 100 137 [zr 8 0 0, zi x1, zi x2] 260 [zr 9 0 297, zi x1, zi x2] G :=
  pair_q hI (fun Q a hC hQ => k_linking (INV_wf hI) hC h1 h2 hQ) (fun G1 Q hw hd hQ => r_linking (INV_wf hI) hw hd h1 h2 hQ)
theorem pr_38 (hI : INV G) {x1 : Int} (h1 : rg x1) : PAIR 100 138 [zr 8 0 0, zi x1] 261 [zr 9 0 297, zi x1] G :=
  pair_q hI (fun Q a hC hQ => k_dead (INV_wf hI) hC h1 hQ) (fun G1 Q hw hd hQ => r_dead (INV_wf hI) hw hd h1 hQ)
theorem pr_40 (hI : INV G) {x1 : Int} (h1 : rg x1) : PAIR 100 133 [zr 8 0 0, zi x1] 264 [zr 9 0 297, zi x1] G :=
  pair_q hI (fun Q a hC hQ => k_blank (INV_wf hI) hC h1 hQ) (fun G1 Q hw hd hQ => r_blank (INV_wf hI) hw hd h1 hQ)
theorem pr_41 (hI : INV G) {x1 x2 x3 x4 : Int} (h1 : rg x1) (h2 : rg x2) (h3 : rg x3) (h4 : rg x4) : PAIR 100 119 [zr 8 0 0, zi x1, zi x2, zi x3, zi x4] 265 [zr 9 0 297, zi x1, zi x2, zi x3, zi x4] G :=
  pair_q hI (fun Q a hC hQ => k_by (INV_wf hI) hC h1 h2 h3 h4 hQ) (fun G1 Q hw hd hQ => r_by (INV_wf hI) hw hd h1 h2 h3 h4 hQ)
end PR
