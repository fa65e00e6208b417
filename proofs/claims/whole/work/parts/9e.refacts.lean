/-! ACTS by the reference -/
section RE
variable {d : Nat} {G : zG} {Q : zQ} {m : Int} {W : Int → Int}
def REM (G G1 : zG) (m : Int) (W : Int → Int) : Prop := (∀ j, 0 ≤ j → j < 356 → G1 300 (356 * m + j) = W j) ∧ (∀ x, ¬ (356 * m ≤ x ∧ x < 356 * m + 356) → G1 300 x = G 300 x)
def SRA (k j : Int) : Prop := k = 298 ∨ k = 300 ∨ (k = 297 ∧ j = 4)
theorem sra (j : Int) : SRA 298 j := Or.inl rfl
set_option maxHeartbeats 2000000 in
theorem c272 (h4 : G 297 4 = m) (hm : 0 ≤ m ∧ m < 20) (hQ : ∀ G1, fr G G1 (fun k j => k = 300 ∨ (k = 297 ∧ j = 4)) → REM G G1 m (G 298) → G1 297 4 = m + 1 → Q none G1) : zW (d + 1) 272 [zr 9 0 297] G Q := by
  have key : ∀ (rem k : Nat) (G1 : zG), k + rem = 356 → fr G G1 (fun k _ => k = 300) → (∀ j : Int, 0 ≤ j → j < k → G1 300 (356 * m + j) = G 298 j) → (∀ x : Int, ¬ (356 * m ≤ x ∧ x < 356 * m + k) → G1 300 x = G 300 x) → zAt xT_272 (zW d) Q 2 [zr 9 0 297, zi k] [] G1 := by
    intro rem
    induction rem with
    | zero =>
      intro k G1 hk f1 h1 h2
      have e4 : G1 297 4 = m := (f1 _ _ (by omega)).trans h4
      apply zs_272_2 <;> intros
      case h2 =>
        rw [e4]
        exact hQ _ (fr_u (fr_wide f1 (fun k j t => Or.inl t)) (Or.inr ⟨rfl, rfl⟩)) ⟨fun j j0 j1 => by rw [zu_kj (by omega)]; exact h1 j j0 (by omega), fun x hx => by rw [zu_kj (by omega)]; exact h2 x (by omega)⟩ zu_s
      all_goals first | omega | (repeat' first | exact hrg _ | assumption | (unfold rg; omega) | omega | refine And.intro ?_ ?_)
    | succ rem ih =>
      intro k G1 hk f1 h1 h2
      have e4 : G1 297 4 = m := (f1 _ _ (by omega)).trans h4
      have e8 : G1 298 k = G 298 k := f1 _ _ (by omega)
      apply zs_272_2 <;> intros
      case h4 =>
        rw [e4, e8]
        refine ih (k + 1) _ (by omega) (fr_u f1 rfl) (fun j j0 j1 => ?_) (fun x hx => ?_)
        · by_cases c : j = k
          · rw [c, zu_s]
          · rw [zu_j (by omega)]; exact h1 j j0 (by omega)
        · rw [zu_j (by omega)]; exact h2 x (by omega)
      all_goals first | omega | (repeat' first | exact hrg _ | assumption | (unfold rg; omega) | omega | refine And.intro ?_ ?_)
  exact zm_272 (zs_272_0 (key 356 0 G (by omega) (fr_refl _ _) (fun j j0 j1 => by omega) (fun x hx => rfl)))
set_option maxHeartbeats 2000000 in
theorem r_drop (wf : WF W) (hw : G 298 = W) (h4 : G 297 4 = m) (hm : 0 ≤ m ∧ m ≤ 20) {s : Int} (hs : rg s) (h2 : ¬ (0 ≤ s ∧ s < W 4) → Q (some (zi (-2))) G) (h5 : (0 ≤ s ∧ s < W 4) → m = 20 → Q (some (zi (-5))) G) (hQ : (0 ≤ s ∧ s < W 4) → m ≠ 20 → ∀ G1, fr G G1 SRA → G1 298 = rmS W s → G1 297 4 = m + 1 → REM G G1 m W → Q (some (zi (W 4 - 1))) G1) : zW (d + 4) 274 [zr 9 0 297, zi s] G Q := by
  subst hw
  obtain ⟨n0, n1, n2, n3, n4, n5⟩ := WF_n wf; have hrg := WF_rg wf
  refine zm_274 ?_
  apply zs_274_0 <;> intros
  case h3 =>
    have hs0 : 0 ≤ s ∧ s < G 298 4 := by omega
    refine c272 h4 ⟨by omega, by omega⟩ (fun G1 f1 hR h41 => zs_274_25 ?_)
    have FA : fr G G1 SRA := fr_wide f1 (fun k j t => Or.inr t)
    have e8 : G1 298 = G 298 := fr_k f1 (fun j => by omega)
    have key : ∀ (rem : Nat) (t : Int) (G2 : zG), t + rem = 116 + 4 * (G 298 4 - 1) → 116 + 4 * s ≤ t → fr G1 G2 (fun k _ => k = 298) → (∀ j, G2 298 j = if j = 4 then G 298 4 - 1 else if 116 + 4 * s ≤ j ∧ j < t then G 298 (j + 4) else G 298 j) → ∀ l1, zAt xT_274 (zW (d + 3)) Q 42 [zr 9 0 297, l1, zi t] [] G2 := by
      intro rem
      induction rem with
      | zero =>
        intro t G2 ht hst f2 he l1
        have ht : t = 116 + 4 * (G 298 4 - 1) := by simpa using ht
        have e4 : G2 298 4 = G 298 4 - 1 := by rw [he, if_pos rfl]
        apply zs_274_42 <;> intros
        case h2 =>
          rw [e4]
          refine hQ hs0 (by omega) G2 (fr_trans FA f2 (fun k j t => Or.inl t)) ?_ ((f2 _ _ (by omega)).trans h41) ⟨fun j j0 j1 => (f2 _ _ (by omega)).trans (hR.1 j j0 j1), fun x hx => (f2 _ _ (by omega)).trans (hR.2 x hx)⟩
          funext j
          rw [he j, ht]
          rfl
        all_goals first | omega | (repeat' first | exact hrg _ | assumption | (unfold rg; omega) | omega | refine And.intro ?_ ?_)
      | succ rem ih =>
        intro t G2 ht hst f2 he l1
        have e4 : G2 298 4 = G 298 4 - 1 := by rw [he, if_pos rfl]
        have et : G2 298 (t + 4) = G 298 (t + 4) := by rw [he, if_neg (by omega), if_neg (by omega)]
        apply zs_274_42 <;> intros
        case h4 =>
          rw [et]
          refine ih (t + 1) _ (by omega) (by omega) (fr_u f2 rfl) (fun j => ?_) _
          by_cases c : j = t
          · rw [c, zu_s, if_neg (by omega), if_pos (by omega)]
          · rw [zu_j c, he j]
            by_cases c4 : j = 4
            · rw [if_pos c4, if_pos c4]
            · rw [if_neg c4, if_neg c4]
              by_cases c5 : 116 + 4 * s ≤ j ∧ j < t
              · rw [if_pos c5, if_pos (by omega)]
              · rw [if_neg c5, if_neg (by omega)]
        all_goals first | omega | (repeat' first | exact hrg _ | assumption | (unfold rg; omega) | omega | refine And.intro ?_ ?_)
    refine key (4 * (G 298 4 - 1 - s)).toNat (116 + 4 * s) _ (by omega) (by omega) (fr_u (fr_refl _ _) rfl) (fun j => ?_) _
    by_cases c : j = 4
    · rw [c, zu_s, if_pos rfl, e8]
    · rw [zu_j c, if_neg c, if_neg (by omega), e8]
  case h4 => exact h5 (by omega) (by omega)
  case h5 => exact h2 (by omega)
  case h6 => exact h2 (by omega)
  all_goals first | omega | (repeat' first | exact hrg _ | assumption | (unfold rg; omega) | omega | refine And.intro ?_ ?_)
set_option maxHeartbeats 2000000 in
theorem r_rule (wf : WF W) (hw : G 298 = W) (h4 : G 297 4 = m) (hm : 0 ≤ m ∧ m ≤ 20) {l c : Int} (hl : rg l) (hc : rg c) (h2 : ¬ okR W l c → Q (some (zi (-2))) G) (h5 : okR W l c → (m = 20 ∨ (l = W 0 ∧ c = W 1)) → Q (some (zi (-5))) G) (hQ : okR W l c → ¬ (m = 20 ∨ (l = W 0 ∧ c = W 1)) → ∀ G1, fr G G1 SRA → G1 298 = ruS W l c → G1 297 4 = m + 1 → REM G G1 m W → Q (some (zi 0)) G1) : zW (d + 3) 275 [zr 9 0 297, zi l, zi c] G Q := by
  subst hw
  obtain ⟨n0, n1, n2, n3, n4, n5⟩ := WF_n wf; have hrg := WF_rg wf
  have g52 : okR (G 298) l c → ¬ (l = G 298 0 ∧ c = G 298 1) → zAt xT_275 (zW (d + 2)) Q 52 [zr 9 0 297, zi l, zi c] [] G := by
    intro hok hne
    apply zs_275_52 <;> intros
    case h3 => exact h5 hok (Or.inl (by omega))
    case h2 =>
      refine c272 h4 ⟨by omega, by omega⟩ (fun G1 f1 hR h41 => zs_275_66 ?_)
      have FA : fr G G1 SRA := fr_wide f1 (fun k j t => Or.inr t)
      have e8 : G1 298 = G 298 := fr_k f1 (fun j => by omega)
      refine hQ hok (by omega) _ (fr_u (fr_u FA (sra _)) (sra _)) ?_ (by rw [zu_kj (by omega), zu_kj (by omega)]; exact h41) ⟨fun j j0 j1 => by rw [zu_kj (by omega), zu_kj (by omega)]; exact hR.1 j j0 j1, fun x hx => by rw [zu_kj (by omega), zu_kj (by omega)]; exact hR.2 x hx⟩
      rw [zu_f, zu_f, e8]; rfl
    all_goals first | omega | (repeat' first | exact hrg _ | assumption | (unfold rg; omega) | omega | refine And.intro ?_ ?_)
  unfold okR at *
  refine zm_275 ?_
  apply zs_275_0 <;> intros
  case h6 => exact g52 (by omega) (by omega)
  case h9 => exact g52 (by omega) (by omega)
  case h8 => exact h5 (by omega) (Or.inr ⟨by assumption, by assumption⟩)
  all_goals first | omega | (refine h2 ?_; omega) | (repeat' first | exact hrg _ | assumption | (unfold rg; omega) | omega | refine And.intro ?_ ?_)
end RE
