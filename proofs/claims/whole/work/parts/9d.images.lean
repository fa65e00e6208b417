/-! ACTS by the class: images -/
section CL
variable {d : Nat} {G : zG} {Q : zQ} {a b m : Int} {W : Int → Int} {P : Int → Int → Int}
set_option maxHeartbeats 4000000 in
theorem c3 {n : Nat} {q p : Int} (hn : n ≤ 200) (hQ : ∀ G1, (∀ k x : Int, ¬ (k = p ∧ 0 ≤ x ∧ x < n) → G1 k x = G k x) → (∀ x : Int, 0 ≤ x → x < n → G1 p x = G q x) → Q none G1) : zW (d + 1) 3 [zr 10 n q, zr 10 n p] G Q := by
  have e : min (n : Int) (n : Int) = n := by omega
  apply zf_3
  · rw [e]; exact ⟨⟨by omega, by omega⟩, ⟨by omega, by omega⟩, by omega, by omega, by omega, by omega, by omega⟩
  rw [e]
  refine hQ _ (fun k x h => ?_) (fun x x0 x1 => ?_)
  · unfold zcp; rw [if_neg (by omega)]
  · unfold zcp; rw [if_pos ⟨rfl, x0, by omega⟩]; congr 1; omega
def ln (i : Int) : Int := if i = 4 ∨ i = 5 then 40 else if i = 11 then 120 else if 7 ≤ i then 60 else 10
def CY (G G1 : zG) (a b i : Int) : Prop := (∀ k x, ¬ (b ≤ k ∧ k ≤ b + 11) → G1 k x = G k x) ∧ (∀ j, 0 ≤ j → j ≤ 6 → G1 b j = G a j) ∧ (∀ t x, 1 ≤ t → t < i → 0 ≤ x → x < ln t → G1 (b + t) x = G (a + t) x)
theorem CY_s {G1 G2 : zG} {n : Nat} {i : Int} (hab : a + 12 ≤ b ∨ b + 12 ≤ a) (i0 : 1 ≤ i ∧ i ≤ 11) (hl : ln i = n) (h : CY G G1 a b i) (f : ∀ k x : Int, ¬ (k = b + i ∧ 0 ≤ x ∧ x < n) → G2 k x = G1 k x) (g : ∀ x : Int, 0 ≤ x → x < n → G2 (b + i) x = G1 (a + i) x) : CY G G2 a b (i + 1) := by
  obtain ⟨h1, h2, h3⟩ := h
  refine ⟨fun k x hk => by rw [f _ _ (by omega)]; exact h1 k x hk, fun j j0 j1 => by rw [f _ _ (by omega)]; exact h2 j j0 j1, fun t x t0 t1 x0 x1 => ?_⟩
  by_cases c : t = i
  · rw [c] at x1 ⊢
    rw [g x x0 (by omega), h1 _ _ (by omega)]
  · rw [f _ _ (by omega)]; exact h3 t x t0 (by omega) x0 x1
set_option maxHeartbeats 8000000 in
theorem c2 (hab : a + 12 ≤ b ∨ b + 12 ≤ a) (hQ : ∀ G1, CY G G1 a b 12 → Q none G1) : zW (d + 2) 2 [zr 0 0 b, zr 0 0 a] G Q := by
  have key : ∀ G0 : zG, CY G G0 a b 1 → zW (d + 1) 3 [zr 10 10 (a + 1), zr 10 10 (b + 1)] G0 (fun r G1 => zq0 r (zAt xT_2 (zW (d + 1)) Q 67 [zr 0 0 b, zr 0 0 a] [] G1)) := by
    intro G0 h0
    refine c3 (by omega) (fun G1 f1 g1 => zs_2_67 ?_)
    have h1 := CY_s hab (i := 1) (by omega) rfl h0 f1 g1
    refine c3 (by omega) (fun G2 f2 g2 => zs_2_78 ?_)
    have h2 := CY_s hab (i := 2) (by omega) rfl h1 f2 g2
    refine c3 (by omega) (fun G3 f3 g3 => zs_2_89 ?_)
    have h3 := CY_s hab (i := 3) (by omega) rfl h2 f3 g3
    refine c3 (by omega) (fun G4 f4 g4 => zs_2_100 ?_)
    have h4 := CY_s hab (i := 4) (by omega) rfl h3 f4 g4
    refine c3 (by omega) (fun G5 f5 g5 => zs_2_111 ?_)
    have h5 := CY_s hab (i := 5) (by omega) rfl h4 f5 g5
    refine c3 (by omega) (fun G6 f6 g6 => zs_2_122 ?_)
    have h6 := CY_s hab (i := 6) (by omega) rfl h5 f6 g6
    refine c3 (by omega) (fun G7 f7 g7 => zs_2_133 ?_)
    have h7 := CY_s hab (i := 7) (by omega) rfl h6 f7 g7
    refine c3 (by omega) (fun G8 f8 g8 => zs_2_144 ?_)
    have h8 := CY_s hab (i := 8) (by omega) rfl h7 f8 g8
    refine c3 (by omega) (fun G9 f9 g9 => zs_2_155 ?_)
    have h9 := CY_s hab (i := 9) (by omega) rfl h8 f9 g9
    refine c3 (by omega) (fun GA fA gA => zs_2_166 ?_)
    have hA := CY_s hab (i := 10) (by omega) rfl h9 fA gA
    refine c3 (by omega) (fun GB fB gB => zs_2_177 ?_)
    have hB := CY_s hab (i := 11) (by omega) rfl hA fB gB
    exact hQ GB hB
  refine zm_2 (zs_2_0 (key _ ⟨fun k x hk => ?_, fun j j0 j1 => ?_, fun t x t0 t1 => by omega⟩))
  · simp (disch := omega) only [zu_ne]
  · have hj : j = 0 ∨ j = 1 ∨ j = 2 ∨ j = 3 ∨ j = 4 ∨ j = 5 ∨ j = 6 := by omega
    rcases hj with c | c | c | c | c | c | c <;> (rw [c]; simp (disch := omega) only [zu_ne, zu_s])
theorem HS_copy {G1 : zG} (h : HS G a W m P) (hc : CY G G1 a b 12) : HS G1 b W m P := by
  have hH := h
  obtain ⟨z1, z2, z3, z4, z5, z6⟩ := h
  obtain ⟨c1, c2, c3⟩ := hc
  have nn := WF_n z1
  have l10 : ∀ t x, (t = 1 ∨ t = 2 ∨ t = 3 ∨ t = 6) → 0 ≤ x → x < 10 → G1 (b + t) x = G (a + t) x := fun t x ht x0 x1 => c3 t x (by omega) (by omega) x0 (by unfold ln; rw [if_neg (by omega), if_neg (by omega), if_neg (by omega)]; exact x1)
  have l40 : ∀ t x, (t = 4 ∨ t = 5) → 0 ≤ x → x < 40 → G1 (b + t) x = G (a + t) x := fun t x ht x0 x1 => c3 t x (by omega) (by omega) x0 (by unfold ln; rw [if_pos ht]; exact x1)
  have l60 : ∀ t x, (7 ≤ t ∧ t ≤ 10) → 0 ≤ x → x < 60 → G1 (b + t) x = G (a + t) x := fun t x ht x0 x1 => c3 t x (by omega) (by omega) x0 (by unfold ln; rw [if_neg (by omega), if_neg (by omega), if_pos (by omega)]; exact x1)
  have l120 : ∀ x, 0 ≤ x → x < 120 → G1 (b + 11) x = G (a + 11) x := fun x x0 x1 => c3 11 x (by omega) (by omega) x0 (by unfold ln; rw [if_neg (by omega), if_pos rfl]; exact x1)
  have hm := z4.2
  refine ⟨z1, ?_, ⟨by rw [c2 _ (by omega) (by omega)]; exact z3.1, by rw [c2 _ (by omega) (by omega)]; exact z3.2.1, by rw [c2 _ (by omega) (by omega)]; exact z3.2.2⟩, ⟨by rw [c2 _ (by omega) (by omega)]; exact z4.1, hm⟩, ?_, fun i i0 i1 => ⟨(z6 i i0 i1).1, (z6 i i0 i1).2.1, ?_⟩⟩
  · obtain ⟨y1, y2, y3, y4, y5⟩ := z2
    refine ⟨by rw [c2 _ (by omega) (by omega)]; exact y1, by rw [c2 _ (by omega) (by omega)]; exact y2, by rw [c2 _ (by omega) (by omega)]; exact y3, fun x x0 x1 => ?_, fun s s0 s1 => ?_⟩
    · have wb := WF_b z1 x0 x1
      obtain ⟨q1, q2, q3, q4, q5, q6⟩ := y4 x x0 x1
      exact ⟨by rw [l10 _ _ (by omega) x0 (by omega)]; exact q1, by rw [l10 _ _ (by omega) x0 (by omega)]; exact q2, by rw [l10 _ _ (by omega) x0 (by omega)]; exact q3, by rw [l10 _ _ (by omega) x0 (by omega)]; exact q4, fun i i0 i1 => by rw [l40 _ _ (by omega) (by omega) (by omega)]; exact q5 i i0 i1, fun i i0 i1 => by rw [l40 _ _ (by omega) (by omega) (by omega)]; exact q6 i i0 i1⟩
    · obtain ⟨q1, q2, q3, q4⟩ := y5 s s0 s1
      exact ⟨by rw [l60 _ _ (by omega) s0 (by omega)]; exact q1, by rw [l60 _ _ (by omega) s0 (by omega)]; exact q2, by rw [l60 _ _ (by omega) s0 (by omega)]; exact q3, fun hh => by rw [l60 _ _ (by omega) s0 (by omega)]; exact q4 hh⟩
  · refine ⟨fun x x0 x1 => ?_, fun i i0 i1 => ?_⟩
    · rw [l10 _ _ (by omega) x0 x1, l10 _ _ (by omega) x0 x1, l10 _ _ (by omega) x0 x1]; exact z5.1 x x0 x1
    · rw [l40 _ _ (by omega) i0 i1, l40 _ _ (by omega) i0 i1]; exact z5.2 i i0 i1
  · exact ACTR_of (z6 i i0 i1).1 (HS_next hH i0 i1) (z6 i i0 i1).2.2 (fun c c0 c1 => l120 _ (by omega) (by omega)) (fun _ _ _ => rfl) (fun _ _ _ => rfl)
set_option maxHeartbeats 4000000 in
theorem k_image (h03 : G 0 3 = a) (ha : a = 5 ∨ a = 17) (h : HS G a W m P) {k : Int} (hk : rg k) (h2 : ¬ ((0 ≤ k ∧ k < 3) ∧ W 5 ≠ 0) → Q (some (zi (-2))) G) (hQ : (0 ≤ k ∧ k < 3) ∧ W 5 ≠ 0 → ∀ G1, fr G G1 (fun q _ => 30 + 12 * k ≤ q ∧ q ≤ 30 + 12 * k + 11) → HS G1 (30 + 12 * k) W m P → Q (some (zi 0)) G1) : zW (d + 3) 142 [zr 8 0 0, zi k] G Q := by
  have nn := WF_n h.1
  have e2 : G (G 0 3) 2 = W 5 := by rw [h03]; exact h.2.2.1.2.2
  refine zm_142 ?_
  apply zs_142_0 <;> intros
  case h6 =>
    rw [h03]
    refine c2 (by omega) (fun G1 hc => zs_142_32 (hQ ⟨by omega, by omega⟩ G1 (fun q j hq => hc.1 q j (by omega)) (HS_copy h hc)))
  case h2 => exact h2 (by omega)
  case h3 => exact h2 (by omega)
  case h7 => exact h2 (by omega)
  all_goals first | omega | (repeat' first | exact hrg _ | assumption | (unfold rg; omega) | omega | refine And.intro ?_ ?_)
set_option maxHeartbeats 4000000 in
theorem k_back (h03 : G 0 3 = a) (ha : a = 5 ∨ a = 17) {k : Int} (hk : rg k) (hl : 0 ≤ k → k < 3 → 0 ≤ G (30 + 12 * k) 2 ∧ G (30 + 12 * k) 2 ≤ 1200) (h2 : ¬ (0 ≤ k ∧ k < 3) → Q (some (zi (-2))) G) (h6 : (0 ≤ k ∧ k < 3) → G (30 + 12 * k) 2 = 0 → Q (some (zi (-6))) G) (hH : (0 ≤ k ∧ k < 3) → G (30 + 12 * k) 2 ≠ 0 → HS G (30 + 12 * k) W m P) (hQ : (0 ≤ k ∧ k < 3) → G (30 + 12 * k) 2 ≠ 0 → ∀ G1, fr G G1 (SMU a) → HS G1 a W m P → G1 0 7 = 1 → Q (some (zi 0)) G1) : zW (d + 3) 143 [zr 8 0 0, zi k] G Q := by
  refine zm_143 ?_
  apply zs_143_0 <;> intros
  case h5 =>
    rename_i hne
    rw [h03]
    refine c2 (by omega) (fun G1 hc => zs_143_40 ?_)
    exact hQ ⟨by omega, by omega⟩ hne _ (fr_u (fun q j hq => hc.1 q j (fun t => hq (Or.inl t))) (Or.inr ⟨rfl, rfl⟩)) (HS_fr (HS_copy (hH ⟨by omega, by omega⟩ hne) hc) (fun q j k0 k1 => zu_kj (by omega))) zu_s
  case h2 => exact h2 (by omega)
  case h7 => exact h2 (by omega)
  case h6 => exact h6 (by omega) (by assumption)
  case h3 => have := hl (by omega) (by omega); exact ⟨⟨by omega, by omega⟩, ⟨by omega, by omega⟩⟩
  all_goals first | omega | (repeat' first | exact hrg _ | assumption | (unfold rg; omega) | omega | refine And.intro ?_ ?_)
end CL
