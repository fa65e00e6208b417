/-! TELLING: what closes -/
section RE
variable {d : Nat} {G : zG} {Q : zQ}
set_option maxHeartbeats 4000000 in
theorem c68 {v : Int} (v0 : rg v) {l : List Int} (hl : (l.length : Int) + v ≤ 850) (hl2 : l.length ≤ 850) (hO : OUT G 294 1 295 l) (hQ : ∀ G1, fr G G1 SP2 → OUT G1 294 1 295 (l ++ List.replicate v.toNat (zch 93)) → Q none G1) : zW (d + 2) 68 [zr 5 0 294, zi v] G Q := by
  refine zm_68 (zs_68_0 ?_)
  have key : ∀ (r i : Nat) (G1 : zG), i + r = v.toNat → fr G G1 SP2 → OUT G1 294 1 295 (l ++ List.replicate i (zch 93)) → zAt xT_68 (zW (d + 1)) Q 2 [zr 5 0 294, zi v, zi i] [] G1 := by
    intro r
    induction r with
    | zero =>
      intro i G1 hi f1 hO1
      have e : i = v.toNat := by omega
      rw [e] at hO1
      apply zs_68_2 <;> intros
      case h2 => exact hQ G1 f1 hO1
      all_goals first | omega | (repeat' first | exact hrg _ | assumption | (unfold rg; omega) | omega | refine And.intro ?_ ?_)
    | succ r ih =>
      intro i G1 hi f1 hO1
      have h1 := hO1.1
      rw [List.length_append, List.length_replicate] at h1
      apply zs_68_2 <;> intros
      case h6 =>
        have := OUT_push (x := zch 93) (by omega) hO1
        rw [List.append_assoc, ← List.replicate_succ'] at this
        exact ih (i + 1) _ (by omega) (fr_u (fr_u f1 (Or.inl rfl)) (Or.inr ⟨rfl, rfl⟩)) this
      all_goals first | omega | (repeat' first | exact hrg _ | assumption | (unfold rg; omega) | omega | refine And.intro ?_ ?_)
  exact key v.toNat 0 G (by omega) (fr_refl _ _) (by rw [List.replicate_zero, List.append_nil]; exact hO)
end RE
