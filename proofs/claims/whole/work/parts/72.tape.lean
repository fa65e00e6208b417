/-! THE TAPE: feed, end -/
def fbx (x1 x2 x3 x4 x5 i : Int) : Int := if i = 0 then x1 else if i = 1 then x2 else if i = 2 then x3 else if i = 3 then x4 else x5
def fby (x1 x2 x3 x4 x5 i : Int) : Int := zb (zb (zshr (fbx x1 x2 x3 x4 x5 (i / 4)) (24 - (8 * (i % 4)))))
section RE
variable {d : Nat} {G : zG} {Q : zQ}
set_option maxHeartbeats 4000000 in
theorem r_feed {n x1 x2 x3 x4 x5 : Int} (hn : G 297 30 = n) (n0 : 0 ≤ n) (n1 : n ≤ 1200) (hF : 1200 < n + 20 → Q (some (zi (-1))) G) (hQ : n + 20 ≤ 1200 → ∀ G1, fr G G1 (fun k j => k = 312 ∨ k = 313 ∨ (k = 297 ∧ j = 30)) → G1 297 30 = n + 20 → (∀ j, n ≤ j → j < n + 20 → G1 312 j = fby x1 x2 x3 x4 x5 (j - n)) → (∀ j, ¬ (n ≤ j ∧ j < n + 20) → G1 312 j = G 312 j) → Q (some (zi (n + 20))) G1) : zW (d + 3) 192 [zr 9 0 297, zi x1, zi x2, zi x3, zi x4, zi x5] G Q := by
  refine zm_192 ?_
  have key : n + 20 ≤ 1200 → ∀ (r i : Nat) (G1 : zG), i + r = 20 → fr G G1 (fun k j => k = 312 ∨ k = 313 ∨ (k = 297 ∧ j = 30)) → G1 297 30 = n → (∀ j, 0 ≤ j → j < 5 → G1 313 j = fbx x1 x2 x3 x4 x5 j) → (∀ j, n ≤ j → j < n + i → G1 312 j = fby x1 x2 x3 x4 x5 (j - n)) → (∀ j, ¬ (n ≤ j ∧ j < n + i) → G1 312 j = G 312 j) → ∀ l1 l2 l3 l4 l5, zAt xT_192 (zW (d + 2)) Q 55 [zr 9 0 297, l1, l2, l3, l4, l5, zi i] [] G1 := by
    intro n2 r
    induction r with
    | zero =>
      intro i G1 hi f1 g30 gw gy go l1 l2 l3 l4 l5
      have e : (i : Int) = 20 := by omega
      rw [e] at gy go
      apply zs_192_55 <;> intros
      case h2 =>
        rw [g30]
        refine hQ n2 _ (fr_u f1 (by omega)) zu_s (fun j j0 j1 => ?_) (fun j hj => ?_)
        · rw [zu_k (by omega)]; exact gy j j0 j1
        · rw [zu_k (by omega)]; exact go j hj
      all_goals first | omega | (repeat' first | exact hrg _ | assumption | (unfold rg; omega) | omega | refine And.intro ?_ ?_)
    | succ r ih =>
      intro i G1 hi f1 g30 gw gy go l1 l2 l3 l4 l5
      have hb : G1 313 ((i : Int) / 4) = fbx x1 x2 x3 x4 x5 ((i : Int) / 4) := gw _ (by omega) (by omega)
      apply zs_192_55 <;> intros
      case h4 =>
        rw [g30, hb]
        refine ih (i + 1) _ (by omega) (fr_u f1 (by omega)) (by rw [zu_k (by omega)]; exact g30) (fun j j0 j1 => by rw [zu_k (by omega)]; exact gw j j0 j1) (fun j j0 j1 => ?_) (fun j hj => ?_) _ _ _ _ _
        · by_cases c : j = n + i
          · rw [c, zu_s]; unfold fby; rw [show n + (i : Int) - n = i by omega]
          · rw [zu_j c]; exact gy j j0 (by omega)
        · rw [zu_j (by omega)]; exact go j (by omega)
      all_goals first | omega | (repeat' first | exact hrg _ | assumption | (unfold rg; omega) | omega | refine And.intro ?_ ?_)
  apply zs_192_0 <;> intros
  case h2 =>
    refine key (by omega) 20 0 _ (by omega) (fr_u (fr_u (fr_u (fr_u (fr_u (fr_refl _ _) (by omega)) (by omega)) (by omega)) (by omega)) (by omega)) ?_ (fun j j0 j1 => ?_) (fun j j0 j1 => by omega) (fun j hj => ?_) _ _ _ _ _
    · rw [zu_k (by omega), zu_k (by omega), zu_k (by omega), zu_k (by omega), zu_k (by omega)]; exact hn
    · have h5 : j = 0 ∨ j = 1 ∨ j = 2 ∨ j = 3 ∨ j = 4 := by omega
      rcases h5 with h | h | h | h | h
      · rw [h]; (simp (disch := omega) only [zu_kj, zu_s, zl10, zl20, zl21, zl30, zl31, zl32, zl40, zl41, zl42, zl43, zl02, zl03, zl04, zl23, zl24, zl34, zl12, zl13, zl14, zl01]); rfl
      · rw [h]; (simp (disch := omega) only [zu_kj, zu_s, zl10, zl20, zl21, zl30, zl31, zl32, zl40, zl41, zl42, zl43, zl02, zl03, zl04, zl23, zl24, zl34, zl12, zl13, zl14, zl01]); rfl
      · rw [h]; (simp (disch := omega) only [zu_kj, zu_s, zl10, zl20, zl21, zl30, zl31, zl32, zl40, zl41, zl42, zl43, zl02, zl03, zl04, zl23, zl24, zl34, zl12, zl13, zl14, zl01]); rfl
      · rw [h]; (simp (disch := omega) only [zu_kj, zu_s, zl10, zl20, zl21, zl30, zl31, zl32, zl40, zl41, zl42, zl43, zl02, zl03, zl04, zl23, zl24, zl34, zl12, zl13, zl14, zl01]); rfl
      · rw [h]; (simp (disch := omega) only [zu_kj, zu_s, zl10, zl20, zl21, zl30, zl31, zl32, zl40, zl41, zl42, zl43, zl02, zl03, zl04, zl23, zl24, zl34, zl12, zl13, zl14, zl01]); rfl
    · rw [zu_k (by omega), zu_k (by omega), zu_k (by omega), zu_k (by omega), zu_k (by omega)]
  case h3 => exact hF (by omega)
  all_goals first | omega | (repeat' first | exact hrg _ | assumption | (unfold rg; omega) | omega | refine And.intro ?_ ?_)
set_option maxHeartbeats 4000000 in
theorem c152 {n x : Int} (hn : G 0 1 = n) (n0 : 0 ≤ n) (n1 : n + 4 ≤ 1200) (hQ : ∀ G1, fr G G1 (fun k j => k = 1 ∨ (k = 0 ∧ j = 1)) → G1 0 1 = n + 4 → (∀ j, n ≤ j → j < n + 4 → G1 1 j = zb (zb (zshr x (24 - (8 * (j - n)))))) → (∀ j, ¬ (n ≤ j ∧ j < n + 4) → G1 1 j = G 1 j) → Q none G1) : zW (d + 2) 152 [zr 8 0 0, zi x] G Q := by
  refine zm_152 (zs_152_0 ?_)
  have key : ∀ (r i : Nat) (G1 : zG), i + r = 4 → fr G G1 (fun k j => k = 1 ∨ (k = 0 ∧ j = 1)) → G1 0 1 = n + i → (∀ j, n ≤ j → j < n + i → G1 1 j = zb (zb (zshr x (24 - (8 * (j - n)))))) → (∀ j, ¬ (n ≤ j ∧ j < n + i) → G1 1 j = G 1 j) → ∀ v, v = 24 - 8 * (i : Int) → zAt xT_152 (zW (d + 1)) Q 3 [zr 8 0 0, zi x, zi v] [] G1 := by
    intro r
    induction r with
    | zero =>
      intro i G1 hi f1 g1 gy go v hv
      have e : (i : Int) = 4 := by omega
      rw [e] at g1 gy go
      apply zs_152_3 <;> intros
      case h2 => exact hQ G1 f1 g1 gy go
      all_goals first | omega | (repeat' first | exact hrg _ | assumption | (unfold rg; omega) | omega | refine And.intro ?_ ?_)
    | succ r ih =>
      intro i G1 hi f1 g1 gy go v hv
      apply zs_152_3 <;> intros
      case h6 =>
        rw [g1]
        refine ih (i + 1) _ (by omega) (fr_u (fr_u f1 (by omega)) (by omega)) (by rw [zu_s]; omega) (fun j j0 j1 => ?_) (fun j hj => ?_) _ (by omega)
        · rw [zu_k (by omega)]
          by_cases c : j = n + i
          · rw [c, zu_s, show n + (i : Int) - n = i by omega, ← hv]
          · rw [zu_j c]; exact gy j j0 (by omega)
        · rw [zu_k (by omega), zu_j (by omega)]; exact go j (by omega)
      all_goals first | omega | (repeat' first | exact hrg _ | assumption | (unfold rg; omega) | omega | refine And.intro ?_ ?_)
  exact key 4 0 G (by omega) (fr_refl _ _) (by omega) (fun j j0 j1 => by omega) (fun j _ => rfl) 24 (by omega)
end RE
