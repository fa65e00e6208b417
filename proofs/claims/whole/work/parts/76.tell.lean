/-! TELLING: numbers by the class -/
section RE
variable {d : Nat} {G : zG} {Q : zQ}
def SP2 (k j : Int) : Prop := k = 295 ∨ (k = 294 ∧ j = 1)
set_option maxHeartbeats 4000000 in
theorem c71 {v : Int} (hv : 0 ≤ v ∧ v < 65536) {l : List Int} (hl : l.length < 850) (hO : OUT G 294 1 295 l) (hQ : ∀ G1, fr G G1 SP2 → OUT G1 294 1 295 (l ++ [zch v]) → Q none G1) : zW (d + 1) 71 [zr 5 0 294, zi v] G Q := by
  have h1 := hO.1
  apply zf_71 <;> intros
  case h4 => exact hQ _ (fr_u (fr_u (fr_refl _ _) (Or.inl rfl)) (Or.inr ⟨rfl, rfl⟩)) (OUT_push (by omega) hO)
  all_goals first | omega | (repeat' first | exact hrg _ | assumption | (unfold rg; omega) | omega | refine And.intro ?_ ?_)
set_option maxHeartbeats 8000000 in
theorem c70 {v : Int} (v0 : 0 ≤ v) (v1 : v ≤ 999) {l : List Int} (hl : l.length + 3 ≤ 850) (hO : OUT G 294 1 295 l) (hQ : ∀ G1, fr G G1 SP2 → OUT G1 294 1 295 (l ++ dg v) → Q none G1) : zW (d + 2) 70 [zr 5 0 294, zi v] G Q := by
  have h1 := hO.1
  unfold dg at hQ
  have P1 : ∀ x, OUT (zu (zu G 295 (G 294 1) x) 294 1 (G 294 1 + 1)) 294 1 295 (l ++ [x]) := fun x => OUT_push (by omega) hO
  have P2 : ∀ x y, OUT (zu (zu (zu (zu G 295 (G 294 1) x) 294 1 (G 294 1 + 1)) 295 (G 294 1 + 1) y) 294 1 ((G 294 1 + 1) + 1)) 294 1 295 (l ++ [x, y]) := fun x y => by
    have := OUT_push (x := y) (by omega) (P1 x)
    rw [zu_s, List.append_assoc] at this
    exact this
  have P3 : ∀ x y z, OUT (zu (zu (zu (zu (zu (zu G 295 (G 294 1) x) 294 1 (G 294 1 + 1)) 295 (G 294 1 + 1) y) 294 1 ((G 294 1 + 1) + 1)) 295 ((G 294 1 + 1) + 1) z) 294 1 (((G 294 1 + 1) + 1) + 1)) 294 1 295 (l ++ [x, y, z]) := fun x y z => by
    have := OUT_push (x := z) (by omega) (P2 x y)
    rw [zu_s, List.append_assoc] at this
    exact this
  apply zf_70 <;> intros
  case h5 => rw [if_pos (by omega)] at hQ; exact hQ _ (fr_u (fr_u (fr_refl _ _) (Or.inl rfl)) (Or.inr ⟨rfl, rfl⟩)) (P1 _)
  case h14 => rw [if_neg (by omega), if_pos (by omega)] at hQ; exact hQ _ (fr_u (fr_u (fr_u (fr_u (fr_refl _ _) (Or.inl rfl)) (Or.inr ⟨rfl, rfl⟩)) (Or.inl rfl)) (Or.inr ⟨rfl, rfl⟩)) (P2 _ _)
  case h37 => rw [if_neg (by omega), if_neg (by omega)] at hQ; exact hQ _ (fr_u (fr_u (fr_u (fr_u (fr_u (fr_u (fr_refl _ _) (Or.inl rfl)) (Or.inr ⟨rfl, rfl⟩)) (Or.inl rfl)) (Or.inr ⟨rfl, rfl⟩)) (Or.inl rfl)) (Or.inr ⟨rfl, rfl⟩)) (P3 _ _ _)
  all_goals first | omega | (repeat' first | exact hrg _ | assumption | (unfold rg; omega) | omega | refine And.intro ?_ ?_)
end RE
