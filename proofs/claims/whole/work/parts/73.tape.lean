/-! THE TAPE: feed by the class; end -/
section RE
variable {d : Nat} {G : zG} {Q : zQ}
theorem fby_k {x1 x2 x3 x4 x5 x k i : Int} (hx : fbx x1 x2 x3 x4 x5 k = x) (i0 : 4 * k ≤ i) (i1 : i < 4 * k + 4) : fby x1 x2 x3 x4 x5 i = zb (zb (zshr x (24 - (8 * (i - 4 * k))))) := by
  unfold fby
  rw [show i / 4 = k by omega, hx, show i % 4 = i - 4 * k by omega]
set_option maxHeartbeats 4000000 in
theorem k_feed {n x1 x2 x3 x4 x5 : Int} (hn : G 0 1 = n) (n0 : 0 ≤ n) (n1 : n ≤ 1200) (hF : 1200 < n + 20 → Q (some (zi (-1))) G) (hQ : n + 20 ≤ 1200 → ∀ G1, fr G G1 (fun k j => k = 1 ∨ (k = 0 ∧ j = 1)) → G1 0 1 = n + 20 → (∀ j, n ≤ j → j < n + 20 → G1 1 j = fby x1 x2 x3 x4 x5 (j - n)) → (∀ j, ¬ (n ≤ j ∧ j < n + 20) → G1 1 j = G 1 j) → Q (some (zi (n + 20))) G1) : zW (d + 3) 95 [zr 8 0 0, zi x1, zi x2, zi x3, zi x4, zi x5] G Q := by
  refine zm_95 ?_
  have e1 : fbx x1 x2 x3 x4 x5 0 = x1 := rfl
  have e2 : fbx x1 x2 x3 x4 x5 1 = x2 := rfl
  have e3 : fbx x1 x2 x3 x4 x5 2 = x3 := rfl
  have e4 : fbx x1 x2 x3 x4 x5 3 = x4 := rfl
  have e5 : fbx x1 x2 x3 x4 x5 4 = x5 := rfl
  apply zs_95_0 <;> intros
  case h2 =>
    refine c152 hn n0 (by omega) (fun G1 f1 g1 y1 o1 => zs_95_20 ?_)
    refine c152 g1 (by omega) (by omega) (fun G2 f2 g2 y2 o2 => zs_95_25 ?_)
    refine c152 g2 (by omega) (by omega) (fun G3 f3 g3 y3 o3 => zs_95_30 ?_)
    refine c152 g3 (by omega) (by omega) (fun G4 f4 g4 y4 o4 => zs_95_36 ?_)
    refine c152 g4 (by omega) (by omega) (fun G5 f5 g5 y5 o5 => zs_95_42 ?_)
    have g : G5 0 1 = n + 20 := by omega
    rw [g]
    refine hQ (by omega) G5 (fr_trans (fr_trans (fr_trans (fr_trans f1 f2 (fun k j t => t)) f3 (fun k j t => t)) f4 (fun k j t => t)) f5 (fun k j t => t)) g (fun j j0 j1 => ?_) (fun j hj => ?_)
    · by_cases c5 : n + 16 ≤ j
      · rw [y5 j (by omega) (by omega), fby_k e5 (by omega) (by omega)]
        congr 4; omega
      · rw [o5 j (by omega)]
        by_cases c4 : n + 12 ≤ j
        · rw [y4 j (by omega) (by omega), fby_k e4 (by omega) (by omega)]
          congr 4; omega
        · rw [o4 j (by omega)]
          by_cases c3 : n + 8 ≤ j
          · rw [y3 j (by omega) (by omega), fby_k e3 (by omega) (by omega)]
            congr 4; omega
          · rw [o3 j (by omega)]
            by_cases c2 : n + 4 ≤ j
            · rw [y2 j (by omega) (by omega), fby_k e2 (by omega) (by omega)]
              congr 4; omega
            · rw [o2 j (by omega), y1 j (by omega) (by omega), fby_k e1 (by omega) (by omega)]
              congr 4; omega
    · rw [o5 j (by omega), o4 j (by omega), o3 j (by omega), o2 j (by omega), o1 j (by omega)]
  case h3 => exact hF (by omega)
  all_goals first | omega | (repeat' first | exact hrg _ | assumption | (unfold rg; omega) | omega | refine And.intro ?_ ?_)
set_option maxHeartbeats 4000000 in
theorem r_end {n v : Int} (hv : rg v) (hn : G 297 30 = n) (n0 : 0 ≤ n) (n1 : n ≤ 1200) (hF : ¬ (0 ≤ v ∧ v ≤ n) → Q (some (zi (-1))) G) (hQ : 0 ≤ v ∧ v ≤ n → Q (some (zi v)) (zu G 297 30 v)) : zW (d + 2) 193 [zr 9 0 297, zi v] G Q := by
  apply zf_193 <;> intros
  case h2 => exact hQ (by omega)
  all_goals first | omega | exact hF (by omega) | (repeat' first | exact hrg _ | assumption | (unfold rg; omega) | omega | refine And.intro ?_ ?_)
set_option maxHeartbeats 4000000 in
theorem k_end {n v : Int} (hv : rg v) (hn : G 0 1 = n) (n0 : 0 ≤ n) (n1 : n ≤ 1200) (hF : ¬ (0 ≤ v ∧ v ≤ n) → Q (some (zi (-1))) G) (hQ : 0 ≤ v ∧ v ≤ n → Q (some (zi v)) (zu G 0 1 v)) : zW (d + 2) 96 [zr 8 0 0, zi v] G Q := by
  apply zf_96 <;> intros
  case h4 => exact hQ (by omega)
  all_goals first | omega | exact hF (by omega) | (repeat' first | exact hrg _ | assumption | (unfold rg; omega) | omega | refine And.intro ?_ ?_)
end RE
