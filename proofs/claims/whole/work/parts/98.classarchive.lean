/-! THE CALLS: archive by the class -/
section CL
variable {d : Nat} {G : zG} {Q : zQ} {B : Int → Int} {n a b : Int}
def SKC (b k j : Int) : Prop := SKB b k j ∨ (k = 0 ∧ j = 1)
def SKD (b k j : Int) : Prop := SKC b k j ∨ (k = 0 ∧ (j = 3 ∨ j = 4 ∨ j = 7))
set_option maxHeartbeats 4000000 in
theorem k_archive (hT : TP B n) (h04 : G 0 4 = b) (hb5 : 5 ≤ b) (h03 : G 0 3 = a) (ha5 : 5 ≤ a) (h01 : G 0 1 = n) (hB : ∀ j, 0 ≤ j → j < n → G 1 j = B j) (hbd : BND G b) {u : Int → Int} (hu : ∀ j, ¬ (0 ≤ j ∧ j < 356) → rg (u j))
    (hE : ∀ G1 e, oRd B n u = Except.error e → (1 ≤ e.1 ∧ e.1 ≤ 3) → fr G G1 (SKC b) → RF G1 e.1 e.2 → BND G1 b → G1 0 1 = 0 → Q (some (zi (-4))) G1)
    (hK : ∀ G1 S, oRd B n u = Except.ok S → PSok B n S → fr G G1 (SKD b) → RF G1 0 (-1) → ARC G1 b S.2.1 → (G1 b 0 = S.2.1 0 ∧ G1 b 1 = S.2.1 1 ∧ G1 b 2 = S.2.1 5) → G1 b 6 = 0 → BND G1 b → G1 0 1 = 0 → G1 0 3 = b → G1 0 4 = a → G1 0 7 = 1 → Q (some (zi (S.2.1 5))) G1) : zW (d + 11) 97 [zr 8 0 0] G Q := by
  refine zm_97 ?_
  have hn := hT.1
  generalize hG0 : zu (zu (zu (zu (zu (zu (zu G b 0 0) b 1 0) b 2 0) b 3 0) b 4 0) b 5 0) b 6 0 = G0
  have g0 : ∀ k j, ¬ (k = b ∧ 0 ≤ j ∧ j ≤ 6) → G0 k j = G k j := fun k j h => by
    rw [← hG0]
    have e : ∀ (H : zG) (i : Int), 0 ≤ i → i ≤ 6 → zu H b i 0 k j = H k j := fun H i i0 i1 => if_neg (by omega)
    rw [e _ _ (by omega) (by omega), e _ _ (by omega) (by omega), e _ _ (by omega) (by omega), e _ _ (by omega) (by omega), e _ _ (by omega) (by omega), e _ _ (by omega) (by omega), e _ _ (by omega) (by omega)]
  have z0 : G0 b 0 = 0 ∧ G0 b 1 = 0 ∧ G0 b 2 = 0 ∧ G0 b 3 = 0 ∧ G0 b 4 = 0 ∧ G0 b 5 = 0 ∧ G0 b 6 = 0 := by
    rw [← hG0]
    refine ⟨?_, ?_, ?_, ?_, ?_, ?_, ?_⟩ <;> simp [zu]
  have f0 : fr G G0 (SKB b) := fun k j h => g0 k j (fun t => h (Or.inr (Or.inr (Or.inr ⟨by omega, by omega⟩))))
  apply zs_97_0
  · rw [h04, hG0, g0 _ _ (by omega), h04]; exact ⟨by omega, by omega⟩
  rw [h04, hG0, g0 0 1 (by omega), g0 0 4 (by omega), h01, h04]
  refine k33 hT hb5 (fun j j0 j1 => (g0 _ _ (by omega)).trans (hB j j0 j1)) z0 (BND_fr hbd (fun k j k0 k1 => g0 _ _ (by omega))) hu (fun G1 e he he1 f1 hF hb1 => ?_) (fun G1 S hs hps f1 hF hA h3 h6 hb1 => ?_)
  · have F1 : fr G G1 (SKB b) := fr_trans f0 f1 (fun _ _ t => t)
    apply zs_97_26 <;> intros
    case h4 => exact hE _ e he he1 (fr_u (fr_wide F1 (fun k j t => Or.inl t)) (Or.inr ⟨rfl, rfl⟩)) ⟨by rw [zu_kj (by omega)]; exact hF.1, by rw [zu_kj (by omega)]; exact hF.2⟩ (BND_fr hb1 (fun k j k0 k1 => zu_kj (by omega))) zu_s
    all_goals first | omega | (repeat' first | exact hrg _ | assumption | (unfold rg; omega) | omega | refine And.intro ?_ ?_)
  · have F1 : fr G G1 (SKB b) := fr_trans f0 f1 (fun _ _ t => t)
    have e3 : G1 0 3 = a := (F1 _ _ (fun t => by unfold SKB at t; omega)).trans h03
    have e4 : G1 0 4 = b := (F1 _ _ (fun t => by unfold SKB at t; omega)).trans h04
    apply zs_97_26 <;> intros
    case h3 =>
      rw [e3, e4]
      have g : ∀ k j, k ≠ 0 → zu (zu (zu (zu G1 0 1 0) 0 3 b) 0 4 a) 0 7 1 k j = G1 k j := fun k j hk => by rw [zu_kj hk, zu_kj hk, zu_kj hk, zu_kj hk]
      rw [g _ _ (by omega), h3.2.2]
      refine hK _ S hs hps ?_ ⟨by rw [g _ _ (by omega)]; exact hF.1, by rw [g _ _ (by omega)]; exact hF.2⟩ (ARC_fr hA (fun k j k0 k1 => g _ _ (by omega))) (by rw [g _ _ (by omega), g _ _ (by omega), g _ _ (by omega)]; exact h3) (by rw [g _ _ (by omega)]; exact h6) (BND_fr hb1 (fun k j k0 k1 => g _ _ (by omega))) (by rw [zu_j (by omega), zu_j (by omega), zu_j (by omega), zu_s]) (by rw [zu_j (by omega), zu_j (by omega), zu_s]) (by rw [zu_j (by omega), zu_s]) zu_s
      refine fr_u (fr_u (fr_u (fr_u (fr_wide F1 (fun k j t => Or.inl (Or.inl t))) ?_) ?_) ?_) ?_
      · exact Or.inl (Or.inr ⟨rfl, rfl⟩)
      · exact Or.inr ⟨rfl, by omega⟩
      · exact Or.inr ⟨rfl, by omega⟩
      · exact Or.inr ⟨rfl, by omega⟩
    all_goals first | omega | (repeat' first | exact hrg _ | assumption | (unfold rg; omega) | omega | refine And.intro ?_ ?_)
end CL
