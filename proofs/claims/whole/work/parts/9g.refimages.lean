/-! ACTS by the reference: images, taking back -/
theorem cut_cut (u x y : Int → Int) : cut (cut u x) y = cut u y := by
  funext j
  unfold cut
  by_cases c : 0 ≤ j ∧ j < 356
  · rw [if_pos c, if_pos c]
  · rw [if_neg c, if_neg c, if_neg c]
section RE
variable {d : Nat} {G : zG} {Q : zQ} {m : Int} {W : Int → Int}
set_option maxHeartbeats 1000000 in
theorem r_image {k : Int} (hk : rg k) (h5 : rg (G 298 5)) (h2 : ¬ ((0 ≤ k ∧ k < 3) ∧ 0 < G 298 5) → Q (some (zi (-2))) G) (hQ : (0 ≤ k ∧ k < 3) ∧ 0 < G 298 5 → ∀ G1, fr G G1 (fun q j => (q = 301 ∧ 7477 * k ≤ j ∧ j < 7477 * k + 7477) ∨ (q = 302 ∧ j = k)) → (∀ j, 0 ≤ j → j < 356 → G1 301 (7477 * k + j) = G 298 j) → G1 301 (7477 * k + 356) = G 297 4 → (∀ x, 0 ≤ x → x < 7120 → G1 301 (7477 * k + 357 + x) = G 300 x) → G1 302 k = 1 → Q (some (zi 0)) G1) : zW (d + 4) 276 [zr 9 0 297, zi k] G Q := by
  refine zm_276 ?_
  apply zs_276_0 <;> intros
  case h4 =>
    have hk3 : 0 ≤ k ∧ k < 3 := by omega
    have h5p : 0 < G 298 5 := by assumption
    have l73 : ∀ (rem t : Nat) (G1 : zG), t + rem = 7120 → fr G G1 (fun q j => q = 301 ∧ 7477 * k ≤ j ∧ j < 7477 * k + 7477) → (∀ j : Int, 0 ≤ j → j < 356 → G1 301 (7477 * k + j) = G 298 j) → G1 301 (7477 * k + 356) = G 297 4 → (∀ x : Int, 0 ≤ x → x < t → G1 301 (7477 * k + 357 + x) = G 300 x) → zAt xT_276 (zW (d + 3)) Q 73 [zr 9 0 297, zi k, zi (7477 * k), zi t] [] G1 := by
      intro rem
      induction rem with
      | zero =>
        intro t G1 ht f1 e1 e2 e3
        apply zs_276_73 <;> intros
        case h3 =>
          refine hQ ⟨hk3, h5p⟩ _ (fr_u (fr_wide f1 (fun q j t => Or.inl t)) (Or.inr ⟨rfl, rfl⟩)) (fun j j0 j1 => by rw [zu_kj (by omega)]; exact e1 j j0 j1) (by rw [zu_kj (by omega)]; exact e2) (fun x x0 x1 => by rw [zu_kj (by omega)]; exact e3 x x0 (by omega)) zu_s
        all_goals first | omega | (repeat' first | exact hrg _ | assumption | (unfold rg; omega) | omega | refine And.intro ?_ ?_)
      | succ rem ih =>
        intro t G1 ht f1 e1 e2 e3
        have e0 : G1 300 t = G 300 t := f1 _ _ (by omega)
        apply zs_276_73 <;> intros
        case h5 =>
          rw [e0]
          refine ih (t + 1) _ (by omega) (fr_u f1 ⟨rfl, by omega, by omega⟩) (fun j j0 j1 => by rw [zu_j (by omega)]; exact e1 j j0 j1) (by rw [zu_j (by omega)]; exact e2) (fun x x0 x1 => ?_)
          by_cases c : x = t
          · rw [c, zu_e rfl (by omega)]
          · rw [zu_j (by omega)]; exact e3 x x0 (by omega)
        all_goals first | omega | (repeat' first | exact hrg _ | assumption | (unfold rg; omega) | omega | refine And.intro ?_ ?_)
    have l30 : ∀ (rem t : Nat) (G1 : zG), t + rem = 356 → fr G G1 (fun q j => q = 301 ∧ 7477 * k ≤ j ∧ j < 7477 * k + 7477) → (∀ j : Int, 0 ≤ j → j < t → G1 301 (7477 * k + j) = G 298 j) → zAt xT_276 (zW (d + 3)) Q 30 [zr 9 0 297, zi k, zi (7477 * k), zi t] [] G1 := by
      intro rem
      induction rem with
      | zero =>
        intro t G1 ht f1 e1
        have e4 : G1 297 4 = G 297 4 := f1 _ _ (by omega)
        apply zs_276_30 <;> intros
        case h3 =>
          rw [e4]
          exact l73 7120 0 _ (by omega) (fr_u f1 ⟨rfl, by omega, by omega⟩) (fun j j0 j1 => by rw [zu_j (by omega)]; exact e1 j j0 (by omega)) zu_s (fun x x0 x1 => by omega)
        all_goals first | omega | (repeat' first | exact hrg _ | assumption | (unfold rg; omega) | omega | refine And.intro ?_ ?_)
      | succ rem ih =>
        intro t G1 ht f1 e1
        have e0 : G1 298 t = G 298 t := f1 _ _ (by omega)
        apply zs_276_30 <;> intros
        case h5 =>
          rw [e0]
          refine ih (t + 1) _ (by omega) (fr_u f1 ⟨rfl, by omega, by omega⟩) (fun j j0 j1 => ?_)
          by_cases c : j = t
          · rw [c, zu_s]
          · rw [zu_j (by omega)]; exact e1 j j0 (by omega)
        all_goals first | omega | (repeat' first | exact hrg _ | assumption | (unfold rg; omega) | omega | refine And.intro ?_ ?_)
    exact l30 356 0 G (by omega) (fr_refl _ _) (fun j j0 j1 => by omega)
  case h3 => exact h2 (by omega)
  case h5 => exact h2 (by omega)
  case h6 => exact h2 (by omega)
  all_goals first | omega | (repeat' first | exact hrg _ | assumption | (unfold rg; omega) | omega | refine And.intro ?_ ?_)
def SRK (k j : Int) : Prop := (k = 298 ∧ 0 ≤ j ∧ j < 356) ∨ k = 300 ∨ (k = 297 ∧ j = 4)
set_option maxHeartbeats 1000000 in
theorem r_back {k : Int} (hk : rg k) (h302 : 0 ≤ k → k < 3 → G 302 k = 0 ∨ G 302 k = 1) (h2 : ¬ (0 ≤ k ∧ k < 3) → Q (some (zi (-2))) G) (h6 : (0 ≤ k ∧ k < 3) → G 302 k = 0 → Q (some (zi (-6))) G) (hQ : (0 ≤ k ∧ k < 3) → G 302 k ≠ 0 → ∀ G1, fr G G1 SRK → G1 298 = cut (G 298) (fun j => G 301 (7477 * k + j)) → G1 297 4 = G 301 (7477 * k + 356) → (∀ x, 0 ≤ x → x < 7120 → G1 300 x = G 301 (7477 * k + 357 + x)) → Q (some (zi 0)) G1) : zW (d + 4) 277 [zr 9 0 297, zi k] G Q := by
  refine zm_277 ?_
  apply zs_277_0 <;> intros
  case h3 =>
    have hk3 : 0 ≤ k ∧ k < 3 := by omega
    have hne : G 302 k ≠ 0 := by assumption
    have l78 : ∀ (rem t : Nat) (G1 : zG), t + rem = 7120 → fr G G1 SRK → G1 298 = cut (G 298) (fun j => G 301 (7477 * k + j)) → G1 297 4 = G 301 (7477 * k + 356) → (∀ x : Int, 0 ≤ x → x < t → G1 300 x = G 301 (7477 * k + 357 + x)) → ∀ l1, zAt xT_277 (zW (d + 3)) Q 78 [zr 9 0 297, l1, zi (7477 * k), zi t] [] G1 := by
      intro rem
      induction rem with
      | zero =>
        intro t G1 ht f1 e1 e2 e3 l1
        apply zs_277_78 <;> intros
        case h2 => exact hQ hk3 hne G1 f1 e1 e2 (fun x x0 x1 => e3 x x0 (by omega))
        all_goals first | omega | (repeat' first | exact hrg _ | assumption | (unfold rg; omega) | omega | refine And.intro ?_ ?_)
      | succ rem ih =>
        intro t G1 ht f1 e1 e2 e3 l1
        have e0 : G1 301 (((7477 * k + 356) + 1) + t) = G 301 (7477 * k + 357 + t) := by
          rw [f1 _ _ (fun e => by unfold SRK at e; omega)]; congr 1; omega
        apply zs_277_78 <;> intros
        case h4 =>
          rw [e0]
          refine ih (t + 1) _ (by omega) (fr_u f1 (Or.inr (Or.inl rfl))) (by rw [zu_k (by omega)]; exact e1) (by rw [zu_kj (by omega)]; exact e2) (fun x x0 x1 => ?_) _
          by_cases c : x = t
          · rw [c, zu_s]
          · rw [zu_j (by omega)]; exact e3 x x0 (by omega)
        all_goals first | omega | (repeat' first | exact hrg _ | assumption | (unfold rg; omega) | omega | refine And.intro ?_ ?_)
    have l35 : ∀ (rem t : Nat) (G1 : zG), t + rem = 356 → fr G G1 SRK → (∀ j : Int, 0 ≤ j → j < t → G1 298 j = G 301 (7477 * k + j)) → (∀ j : Int, ¬ (0 ≤ j ∧ j < t) → G1 298 j = G 298 j) → ∀ l1, zAt xT_277 (zW (d + 3)) Q 35 [zr 9 0 297, l1, zi (7477 * k), zi t] [] G1 := by
      intro rem
      induction rem with
      | zero =>
        intro t G1 ht f1 e1 e2 l1
        have ht : t = 356 := by omega
        subst ht
        have e0 : G1 301 (7477 * k + 356) = G 301 (7477 * k + 356) := f1 _ _ (fun e => by unfold SRK at e; omega)
        apply zs_277_35 <;> intros
        case h3 =>
          rw [e0]
          refine l78 7120 0 _ (by omega) (fr_u f1 (Or.inr (Or.inr ⟨rfl, rfl⟩))) ?_ zu_s (fun x x0 x1 => by omega) _
          rw [zu_k (by omega)]
          funext j
          unfold cut
          split
          · rename_i hj; exact e1 j hj.1 (by omega)
          · rename_i hj; exact e2 j (by omega)
        all_goals first | omega | (repeat' first | exact hrg _ | assumption | (unfold rg; omega) | omega | refine And.intro ?_ ?_)
      | succ rem ih =>
        intro t G1 ht f1 e1 e2 l1
        have e0 : G1 301 (7477 * k + t) = G 301 (7477 * k + t) := f1 _ _ (fun e => by unfold SRK at e; omega)
        apply zs_277_35 <;> intros
        case h5 =>
          rw [e0]
          refine ih (t + 1) _ (by omega) (fr_u f1 (Or.inl ⟨rfl, by omega, by omega⟩)) (fun j j0 j1 => ?_) (fun j hj => by rw [zu_j (by omega)]; exact e2 j (by omega)) _
          by_cases c : j = t
          · rw [c, zu_s]
          · rw [zu_j (by omega)]; exact e1 j j0 (by omega)
        all_goals first | omega | (repeat' first | exact hrg _ | assumption | (unfold rg; omega) | omega | refine And.intro ?_ ?_)
    exact l35 356 0 G (by omega) (fr_refl _ _) (fun j j0 j1 => by omega) (fun j hj => rfl) _
  case h4 => exact h6 (by omega) (by assumption)
  case h5 => exact h2 (by omega)
  case h6 => exact h2 (by omega)
  case h2 => have := h302 (by omega) (by omega); exact ⟨⟨by omega, by omega⟩, ⟨by omega, by omega⟩⟩
  all_goals first | omega | (repeat' first | exact hrg _ | assumption | (unfold rg; omega) | omega | refine And.intro ?_ ?_)
def SRB (k j : Int) : Prop := (k = 298 ∧ 0 ≤ j ∧ j < 356) ∨ (k = 297 ∧ j = 4)
set_option maxHeartbeats 1000000 in
theorem c278 (h4 : G 297 4 = m) (hm : 0 < m ∧ m ≤ 20) (hQ : ∀ G1, fr G G1 SRB → G1 297 4 = m - 1 → G1 298 = cut (G 298) (fun j => G 300 (356 * (m - 1) + j)) → Q none G1) : zW (d + 1) 278 [zr 9 0 297] G Q := by
  refine zm_278 (zs_278_0 ?_)
  rw [h4]
  have key : ∀ (rem t : Nat) (G1 : zG), t + rem = 356 → fr G G1 SRB → G1 297 4 = m - 1 → (∀ j : Int, 0 ≤ j → j < t → G1 298 j = G 300 (356 * (m - 1) + j)) → (∀ j : Int, ¬ (0 ≤ j ∧ j < t) → G1 298 j = G 298 j) → zAt xT_278 (zW d) Q 12 [zr 9 0 297, zi t] [] G1 := by
    intro rem
    induction rem with
    | zero =>
      intro t G1 ht f1 e4 e1 e2
      have ht : t = 356 := by omega
      subst ht
      apply zs_278_12 <;> intros
      case h2 =>
        refine hQ G1 f1 e4 ?_
        funext j
        unfold cut
        split
        · rename_i hj; exact e1 j hj.1 (by omega)
        · rename_i hj; exact e2 j (by omega)
      all_goals first | omega | (repeat' first | exact hrg _ | assumption | (unfold rg; omega) | omega | refine And.intro ?_ ?_)
    | succ rem ih =>
      intro t G1 ht f1 e4 e1 e2
      have e0 : G1 300 (356 * (m - 1) + t) = G 300 (356 * (m - 1) + t) := f1 _ _ (fun e => by unfold SRB at e; omega)
      apply zs_278_12 <;> intros
      case h4 =>
        rw [e4, e0]
        refine ih (t + 1) _ (by omega) (fr_u f1 (Or.inl ⟨rfl, by omega, by omega⟩)) (by rw [zu_kj (by omega)]; exact e4) (fun j j0 j1 => ?_) (fun j hj => by rw [zu_j (by omega)]; exact e2 j (by omega))
        by_cases c : j = t
        · rw [c, zu_s]
        · rw [zu_j (by omega)]; exact e1 j j0 (by omega)
      all_goals first | omega | (repeat' first | exact hrg _ | assumption | (unfold rg; omega) | omega | refine And.intro ?_ ?_)
  exact key 356 0 _ (by omega) (fr_u (fr_refl _ _) (Or.inr ⟨rfl, rfl⟩)) zu_s (fun j j0 j1 => by omega) (fun j hj => zu_kj (by omega))
set_option maxHeartbeats 1000000 in
theorem r_undo (h4 : G 297 4 = m) (hm : 0 ≤ m ∧ m ≤ 20) (h5r : 0 ≤ G 298 5 ∧ G 298 5 ≤ 1200) (h2 : G 298 5 = 0 → Q (some (zi (-2))) G) (h5 : G 298 5 ≠ 0 → m = 0 → Q (some (zi (-5))) G) (hQ : G 298 5 ≠ 0 → 0 < m → ∀ G1, fr G G1 SRB → G1 297 4 = m - 1 → G1 298 = cut (G 298) (fun j => G 300 (356 * (m - 1) + j)) → Q (some (zi (m - 1))) G1) : zW (d + 4) 279 [zr 9 0 297] G Q := by
  refine zm_279 ?_
  apply zs_279_0 <;> intros
  case h2 => exact h2 (by omega)
  case h5 => exact h5 (by omega) (by omega)
  case h4 =>
    refine c278 h4 ⟨by omega, by omega⟩ (fun G1 f1 e4 e8 => zs_279_24 ?_)
    rw [e4]
    exact hQ (by omega) (by omega) G1 f1 e4 e8
  all_goals first | omega | (repeat' first | exact hrg _ | assumption | (unfold rg; omega) | omega | refine And.intro ?_ ?_)
set_option maxHeartbeats 1000000 in
theorem r_anew (h4 : G 297 4 = m) (hm : 0 ≤ m ∧ m ≤ 20) (h5r : 0 ≤ G 298 5 ∧ G 298 5 ≤ 1200) (h2 : G 298 5 = 0 → Q (some (zi (-2))) G) (hQ : G 298 5 ≠ 0 → ∀ G1, fr G G1 SRB → G1 297 4 = 0 → G1 298 = (if m = 0 then G 298 else cut (G 298) (fun j => G 300 (356 * 0 + j))) → Q (some (zi m)) G1) : zW (d + 4) 280 [zr 9 0 297] G Q := by
  have loop : G 298 5 ≠ 0 → ∀ (t : Nat) (G1 : zG), (t : Int) ≤ m → fr G G1 SRB → G1 297 4 = t → G1 298 = (if (t : Int) = m then G 298 else cut (G 298) (fun j => G 300 (356 * t + j))) → zAt xT_280 (zW (d + 3)) Q 15 [zr 9 0 297, zi m] [] G1 := by
    intro hne t
    induction t with
    | zero =>
      intro G1 ht f1 e4 e8
      apply zs_280_15 <;> intros
      case h2 =>
        refine hQ hne G1 f1 e4 ?_
        rw [e8]
        by_cases c : m = 0
        · rw [if_pos c, if_pos (by omega)]
        · rw [if_neg c, if_neg (by omega)]; rfl
      all_goals first | omega | (repeat' first | exact hrg _ | assumption | (unfold rg; omega) | omega | refine And.intro ?_ ?_)
    | succ t ih =>
      intro G1 ht f1 e4 e8
      apply zs_280_15 <;> intros
      case h3 =>
        refine c278 e4 ⟨by omega, by omega⟩ (fun G2 f2 g4 g8 => zs_280_26 (ih G2 (by omega) (fr_trans f1 f2 (fun _ _ t => t)) (by rw [g4]; omega) ?_))
        rw [if_neg (by omega), g8, e8]
        have e300 : ∀ x, G1 300 x = G 300 x := fun x => f1 _ _ (fun e => by unfold SRB at e; omega)
        have : (fun j => G1 300 (356 * (((t + 1 : Nat) : Int) - 1) + j)) = (fun j => G 300 (356 * t + j)) := by
          funext j; rw [e300]; congr 1; omega
        rw [this]
        split
        · rfl
        · rw [cut_cut]
      all_goals first | omega | (repeat' first | exact hrg _ | assumption | (unfold rg; omega) | omega | refine And.intro ?_ ?_)
  refine zm_280 ?_
  apply zs_280_0 <;> intros
  case h2 => exact h2 (by omega)
  case h3 =>
    have e : G 297 4 = (m.toNat : Int) := by omega
    have := loop (by omega) m.toNat G (by omega) (fr_refl _ _) e (by rw [if_pos (by omega)])
    rw [h4]; exact this
  all_goals first | omega | (repeat' first | exact hrg _ | assumption | (unfold rg; omega) | omega | refine And.intro ?_ ?_)
end RE
