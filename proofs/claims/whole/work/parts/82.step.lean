/-! THE READER: tokens by the class -/
section CL
variable {d : Nat} {G : zG} {Q : zQ} {B : Int → Int} {n : Int}
def S52 (k j : Int) : Prop := k = 2 ∧ 5 ≤ j ∧ j ≤ 8
set_option maxHeartbeats 8000000 in
theorem c52 (hn : 0 ≤ n ∧ n ≤ 1200) (hb : BY B n) (hB : ∀ j, 0 ≤ j → j < n → G 1 j = B j) (h2 : G 2 2 = 1) (h3 : G 2 3 = n) {i : Int} (i0 : 0 ≤ i) (i1 : i ≤ n) (h5 : G 2 5 = i) (hQ : ∀ G1, fr G G1 S52 → TC G1 (nx B n i) → Q none G1) : zW (d + 3) 52 [zr 2 0 2] G Q := by
  have g12 : ∀ G1, fr G G1 S52 → G1 2 3 = n ∧ G1 2 2 = 1 ∧ ∀ j, 0 ≤ j → j < n → G1 1 j = B j := fun G1 f => ⟨(f _ _ (fun e => by unfold S52 at e; omega)).trans h3, (f _ _ (fun e => by unfold S52 at e; omega)).trans h2, fun j j0 j1 => (f _ _ (fun e => by unfold S52 at e; omega)).trans (hB j j0 j1)⟩
  have wrd : ∀ (k : Nat) (p f : Int) (G1 : zG), (n - p).toNat = k → 0 ≤ p → p ≤ n → fr G G1 S52 → G1 2 5 = p → G1 2 7 = f → G1 2 6 = 1 → nx B n i = (1, f, eow B n k p, 0) → zAt xT_52 (zW (d + 2)) Q 91 [zr 2 0 2] [] G1 := by
    intro k
    induction k with
    | zero =>
      intro p f G1 hk p0 p1 f1 e5 e7 e6 he
      obtain ⟨e3, e2, eB⟩ := g12 G1 f1
      apply zs_52_91 <;> intros
      case h2 => exact hQ _ f1 (by rw [he]; exact ⟨e5, e7, e6, fun h => absurd h (by simp)⟩)
      all_goals first | omega | (repeat' first | exact hrg _ | assumption | (unfold rg; omega) | omega | refine And.intro ?_ ?_)
    | succ k ih =>
      intro p f G1 hk p0 p1 f1 e5 e7 e6 he
      obtain ⟨e3, e2, eB⟩ := g12 G1 f1
      have hz : G1 (G1 2 2) (G1 2 5) = B p := by rw [e2, e5]; exact eB p p0 (by omega)
      have hbp := hb p p0 (by omega)
      have hfin : ¬ isL (B p) → Q none G1 := fun hc => by
        have e : eow B n (k + 1) p = p := by unfold eow; rw [if_neg (fun h => hc h.2)]
        rw [e] at he
        exact hQ _ f1 (by rw [he]; exact ⟨e5, e7, e6, fun h => absurd h (by simp)⟩)
      apply zs_52_91 <;> intros <;> (try rw [hz] at *)
      case h6 =>
        have hc : isL (B p) := ⟨by omega, by omega⟩
        have e : eow B n (k + 1) p = eow B n k (p + 1) := by
          show (if p < n ∧ isL (B p) then eow B n k (p + 1) else p) = _
          rw [if_pos ⟨by omega, hc⟩]
        rw [e] at he
        exact ih (p + 1) f _ (by omega) (by omega) (by omega) (fr_u f1 ⟨rfl, by omega, by omega⟩) (by rw [zu_s]; omega) (by rw [zu_j (by omega)]; exact e7) (by rw [zu_j (by omega)]; exact e6) he
      case h4 => exact hfin (fun hc => by have := hc.1; omega)
      case h5 => exact hfin (fun hc => by have := hc.2; omega)
      all_goals first | omega | (repeat' first | exact hrg _ | assumption | (unfold rg; omega) | omega | refine And.intro ?_ ?_)
  have num : ∀ (k : Nat) (p f v : Int) (G1 : zG) (Q1 : zQ), (n - p).toNat = k → 0 ≤ p → p ≤ n → 0 ≤ v → fr G G1 S52 → G1 2 5 = p → G1 2 7 = f → G1 2 6 = 2 → G1 2 8 = min v 100000 → nx B n i = (2, f, (nmb B n k p v).1, (nmb B n k p v).2) → (∀ G2, fr G G2 S52 → TC G2 (nx B n i) → Q1 none G2) → zAt xT_53 (zW (d + 1)) Q1 5 [zr 2 0 2] [] G1 := by
    intro k
    induction k with
    | zero =>
      intro p f v G1 Q1 hk p0 p1 v0 f1 e5 e7 e6 e8 he hQ1
      obtain ⟨e3, e2, eB⟩ := g12 G1 f1
      apply zs_53_5 <;> intros
      case h2 => exact hQ1 _ f1 (by rw [he]; exact ⟨e5, e7, e6, fun _ => e8⟩)
      all_goals first | omega | (repeat' first | exact hrg _ | assumption | (unfold rg; omega) | omega | refine And.intro ?_ ?_)
    | succ k ih =>
      intro p f v G1 Q1 hk p0 p1 v0 f1 e5 e7 e6 e8 he hQ1
      obtain ⟨e3, e2, eB⟩ := g12 G1 f1
      have hz : G1 (G1 2 2) (G1 2 5) = B p := by rw [e2, e5]; exact eB p p0 (by omega)
      have hbp := hb p p0 (by omega)
      have hfin : ¬ isD (B p) → Q1 none G1 := fun hc => by
        have e : nmb B n (k + 1) p v = (p, v) := by unfold nmb; rw [if_neg (fun h => hc h.2)]
        rw [e] at he
        exact hQ1 _ f1 (by rw [he]; exact ⟨e5, e7, e6, fun _ => e8⟩)
      apply zs_53_5 <;> intros <;> (try rw [hz] at *)
      case h7 =>
        have hc : isD (B p) := ⟨by omega, by omega⟩
        have e : nmb B n (k + 1) p v = nmb B n k (p + 1) (10 * v + B p - 48) := by
          show (if p < n ∧ isD (B p) then nmb B n k (p + 1) (10 * v + B p - 48) else (p, v)) = _
          rw [if_pos ⟨by omega, hc⟩]
        rw [e] at he
        refine ih (p + 1) f _ _ Q1 (by omega) (by omega) (by omega) (by have := hc.1; omega) (fr_u (fr_u f1 ⟨rfl, by omega, by omega⟩) ⟨rfl, by omega, by omega⟩) (by rw [zu_s]; omega) (by rw [zu_j (by omega), zu_j (by omega)]; exact e7) (by rw [zu_j (by omega), zu_j (by omega)]; exact e6) ?_ he hQ1
        rw [zu_j (by omega), zu_s, e8]
        have := hc.1
        omega
      case h4 => exact hfin (fun hc => by have := hc.1; omega)
      case h5 => exact hfin (fun hc => by have := hc.2; omega)
      all_goals first | omega | (repeat' first | exact hrg _ | assumption | (unfold rg; omega) | omega | refine And.intro ?_ ?_)
  have top : ∀ (p : Int) (G1 : zG), 0 ≤ p → p ≤ n → fr G G1 S52 → G1 2 5 = p → nx B n i = nxf B n p → zAt xT_52 (zW (d + 2)) Q 52 [zr 2 0 2] [] G1 := by
    intro p G1 p0 p1 f1 e5 he
    obtain ⟨e3, e2, eB⟩ := g12 G1 f1
    by_cases c0 : n ≤ p
    · have he : nx B n i = (0, p, p, 0) := by rw [he]; unfold nxf; rw [if_pos c0]
      apply zs_52_52 <;> intros
      case h14 => exact hQ _ (fr_u (fr_u f1 ⟨rfl, by omega, by omega⟩) ⟨rfl, by omega, by omega⟩) (by rw [he]; exact ⟨by rw [zu_j (by omega), zu_j (by omega)]; exact e5, by rw [zu_j (by omega), zu_s]; exact e5, zu_s, fun h => absurd h (by simp)⟩)
      all_goals first | omega | (repeat' first | exact hrg _ | assumption | (unfold rg; omega) | omega | refine And.intro ?_ ?_)
    · have hz : (zu G1 2 7 (G1 2 5)) (G1 2 2) (G1 2 5) = B p := by rw [e2, e5, zu_kj (by omega)]; exact eB p p0 (by omega)
      have hz2 : G1 (G1 2 2) (G1 2 5) = B p := by rw [e2, e5]; exact eB p p0 (by omega)
      have hbp := hb p p0 (by omega)
      have hone : ∀ t, nxf B n p = (t, p, p + 1, 0) → t ≠ 2 → Q none (zu (zu (zu G1 2 7 (G1 2 5)) 2 6 t) 2 5 (G1 2 5 + 1)) := fun t ht t2 => by
        refine hQ _ (fr_u (fr_u (fr_u f1 ⟨rfl, by omega, by omega⟩) ⟨rfl, by omega, by omega⟩) ⟨rfl, by omega, by omega⟩) ?_
        rw [he, ht]
        exact ⟨by rw [zu_s]; show _ = p + 1; omega, by rw [zu_j (by omega), zu_j (by omega), zu_s]; exact e5, by rw [zu_j (by omega), zu_s], fun h => absurd h t2⟩
      have hbad : ¬ isL (B p) → ¬ isD (B p) → B p ≠ 59 → Q none (zu (zu (zu G1 2 7 (G1 2 5)) 2 6 4) 2 5 (G1 2 5 + 1)) := fun c2 c3 c4 => hone 4 (by unfold nxf; rw [if_neg c0, if_neg c2, if_neg c3, if_neg c4]) (by decide)
      have hsem : B p = 59 → Q none (zu (zu (zu G1 2 7 (G1 2 5)) 2 6 3) 2 5 (G1 2 5 + 1)) := fun c4 => hone 3 (by unfold nxf; rw [if_neg c0, if_neg (fun h => by have := h.1; omega), if_neg (fun h => by have := h.2; omega), if_pos c4]) (by decide)
      have hk : (n - p).toNat = (n - p).toNat := rfl
      have hwd : isL (B p) → zAt xT_52 (zW (d + 2)) Q 91 [zr 2 0 2] [] (zu (zu G1 2 7 (G1 2 5)) 2 6 1) := fun hc => by
        refine wrd (n - p).toNat p p _ hk p0 p1 (fr_u (fr_u f1 ⟨rfl, by omega, by omega⟩) ⟨rfl, by omega, by omega⟩) (by rw [zu_j (by omega), zu_j (by omega)]; exact e5) (by rw [zu_j (by omega), zu_s]; exact e5) zu_s ?_
        rw [he]
        unfold nxf; rw [if_neg c0, if_pos hc]
      have hnm : isD (B p) → zW (d + 2) 53 [zr 2 0 2] (zu (zu G1 2 7 (G1 2 5)) 2 6 2) (fun r G1 => zq0 r (zAt xT_52 (zW (d + 2)) Q 138 [zr 2 0 2] [] G1)) := fun hc => by
        refine zm_53 (zs_53_0 ?_)
        refine num (n - p).toNat p p 0 _ _ hk p0 p1 (by omega) (fr_u (fr_u (fr_u f1 ⟨rfl, by omega, by omega⟩) ⟨rfl, by omega, by omega⟩) ⟨rfl, by omega, by omega⟩) (by rw [zu_j (by omega), zu_j (by omega), zu_j (by omega)]; exact e5) (by rw [zu_j (by omega), zu_j (by omega), zu_s]; exact e5) (by rw [zu_j (by omega), zu_s]) (by rw [zu_s]; decide) ?_ (fun G2 f2 hT => zs_52_138 (hQ G2 f2 hT))
        rw [he]
        unfold nxf; rw [if_neg c0, if_neg (fun h => by have := h.1; have := hc.2; omega), if_pos hc]
      apply zs_52_52 <;> intros <;> (try rw [hz] at *)
      case h3 => exact hbad (fun h => by have := h.1; omega) (fun h => by have := h.1; omega) (by omega)
      case h4 => exact hsem (by omega)
      case h5 => exact hbad (fun h => by have := h.1; omega) (fun h => by have := h.2; omega) (by omega)
      case h6 => exact hsem (by omega)
      case h7 => exact hnm ⟨by omega, by omega⟩
      case h8 => omega
      case h9 => omega
      case h10 => exact hbad (fun h => by have := h.2; omega) (fun h => by have := h.2; omega) (by omega)
      case h11 => omega
      case h12 => omega
      case h13 => exact hwd ⟨by omega, by omega⟩
      case h14 => omega
      all_goals first | omega | (repeat' first | exact hrg _ | assumption | (unfold rg; omega) | omega | refine And.intro ?_ ?_)
  have key : ∀ (k : Nat) (p : Int) (G1 : zG), (n - p).toNat = k → 0 ≤ p → p ≤ n → fr G G1 S52 → G1 2 5 = p → nx B n i = nxf B n (skp B n k p) → zAt xT_52 (zW (d + 2)) Q 0 [zr 2 0 2] [] G1 := by
    intro k
    induction k with
    | zero =>
      intro p G1 hk p0 p1 f1 e5 he
      obtain ⟨e3, e2, eB⟩ := g12 G1 f1
      apply zs_52_0 <;> intros
      case h2 => exact top p G1 p0 p1 f1 e5 he
      all_goals first | omega | (repeat' first | exact hrg _ | assumption | (unfold rg; omega) | omega | refine And.intro ?_ ?_)
    | succ k ih =>
      intro p G1 hk p0 p1 f1 e5 he
      obtain ⟨e3, e2, eB⟩ := g12 G1 f1
      have hz : G1 (G1 2 2) (G1 2 5) = B p := by rw [e2, e5]; exact eB p p0 (by omega)
      have hbp := hb p p0 (by omega)
      have hsp : (B p = 32 ∨ B p = 10) → zAt xT_52 (zW (d + 2)) Q 0 [zr 2 0 2] [] (zu G1 2 5 (G1 2 5 + 1)) := fun hc => by
        refine ih (p + 1) _ (by omega) (by omega) (by omega) (fr_u f1 ⟨rfl, by omega, by omega⟩) (by rw [zu_s]; omega) ?_
        rw [he]; show nxf B n (if p < n ∧ (B p = 32 ∨ B p = 10) then skp B n k (p + 1) else p) = _
        rw [if_pos ⟨by omega, hc⟩]
      apply zs_52_0 <;> intros <;> (try rw [hz] at *)
      case h4 => exact hsp (by omega)
      case h6 => exact hsp (by omega)
      case h5 => exact top p G1 p0 p1 f1 e5 (by rw [he]; unfold skp; rw [if_neg (fun h => by have := h.2; omega)])
      all_goals first | omega | (repeat' first | exact hrg _ | assumption | (unfold rg; omega) | omega | refine And.intro ?_ ?_)
  exact zm_52 (key (n - i).toNat i G rfl i0 i1 (fr_refl _ _) h5 rfl)
end CL
