/-! THE CALLS: octet, fault, count: what they read -/
section RE
variable {d : Nat} {G : zG} {Q : zQ}
set_option maxHeartbeats 4000000 in
theorem r_octet {n i : Int} (hi : rg i) (hn : G 297 49 = n) (n0 : 0 ≤ n) (n1 : n ≤ 850) (hQ : Q (some (zi (if 0 ≤ i ∧ i < n then G 319 i else -1))) G) : zW (d + 2) 270 [zr 9 0 297, zi i] G Q := by
  apply zf_270 <;> intros
  case h3 => rw [if_pos (by omega)] at hQ; exact hQ
  case h4 => rw [if_neg (by omega)] at hQ; exact hQ
  case h5 => rw [if_neg (by omega)] at hQ; exact hQ
  all_goals first | omega | (repeat' first | exact hrg _ | assumption | (unfold rg; omega) | omega | refine And.intro ?_ ?_)
set_option maxHeartbeats 4000000 in
theorem k_octet {n i : Int} (hi : rg i) (hn : G 294 1 = n) (n0 : 0 ≤ n) (n1 : n ≤ 850) (hQ : Q (some (zi (if 0 ≤ i ∧ i < n then G 295 i else -1))) G) : zW (d + 2) 121 [zr 8 0 0, zi i] G Q := by
  apply zf_121 <;> intros
  case h2 => rw [if_neg (by omega)] at hQ; exact hQ
  case h4 => rw [if_neg (by omega)] at hQ; exact hQ
  case h6 => rw [if_pos (by omega)] at hQ; exact hQ
  all_goals first | omega | (repeat' first | exact hrg _ | assumption | (unfold rg; omega) | omega | refine And.intro ?_ ?_)
set_option maxHeartbeats 4000000 in
theorem r_fault {i : Int} (hi : rg i) (hQ : Q (some (zi (if i = 0 then G 297 37 else if i = 1 then G 297 38 else -1))) G) : zW (d + 2) 202 [zr 9 0 297, zi i] G Q := by
  apply zf_202 <;> intros
  case h2 => rw [if_neg (by omega), if_neg (by omega)] at hQ; exact hQ
  case h3 => rw [if_neg (by omega), if_pos (by omega)] at hQ; exact hQ
  case h4 => rw [if_pos (by omega)] at hQ; exact hQ
  all_goals first | omega | (repeat' first | exact hrg _ | assumption | (unfold rg; omega) | omega | refine And.intro ?_ ?_)
set_option maxHeartbeats 4000000 in
theorem k_fault {i : Int} (hi : rg i) (hQ : Q (some (zi (if i = 0 then G 2 0 else if i = 1 then G 2 1 else -1))) G) : zW (d + 2) 98 [zr 8 0 0, zi i] G Q := by
  apply zf_98 <;> intros
  case h2 => rw [if_pos (by omega)] at hQ; exact hQ
  case h3 => rw [if_neg (by omega), if_pos (by omega)] at hQ; exact hQ
  case h4 => rw [if_neg (by omega), if_neg (by omega)] at hQ; exact hQ
  all_goals first | omega | (repeat' first | exact hrg _ | assumption | (unfold rg; omega) | omega | refine And.intro ?_ ?_)
def cnt (l m p b s a g t o i : Int) : Int := if i = 0 then l else if i = 1 then m else if i = 2 then p else if i = 3 then b else if i = 4 then s else if i = 5 then a else if i = 6 then g else if i = 7 then t else if i = 8 then o else -1
set_option maxHeartbeats 4000000 in
theorem r_count {i : Int} (hi : rg i) (hQ : Q (some (zi (cnt (G 298 0) (G 298 1) (G 298 2) (G 298 3) (G 298 4) (G 297 4) (G 298 5) (G 297 30) (G 297 49) i))) G) : zW (d + 2) 217 [zr 9 0 297, zi i] G Q := by
  unfold cnt at hQ
  apply zf_217 <;> intros
  case h2 => rw [if_pos (by omega)] at hQ; exact hQ
  case h3 => rw [if_neg (by omega), if_pos (by omega)] at hQ; exact hQ
  case h4 => rw [if_neg (by omega), if_neg (by omega), if_pos (by omega)] at hQ; exact hQ
  case h5 => rw [if_neg (by omega), if_neg (by omega), if_neg (by omega), if_pos (by omega)] at hQ; exact hQ
  case h6 => rw [if_neg (by omega), if_neg (by omega), if_neg (by omega), if_neg (by omega), if_pos (by omega)] at hQ; exact hQ
  case h7 => rw [if_neg (by omega), if_neg (by omega), if_neg (by omega), if_neg (by omega), if_neg (by omega), if_pos (by omega)] at hQ; exact hQ
  case h8 => rw [if_neg (by omega), if_neg (by omega), if_neg (by omega), if_neg (by omega), if_neg (by omega), if_neg (by omega), if_pos (by omega)] at hQ; exact hQ
  case h9 => rw [if_neg (by omega), if_neg (by omega), if_neg (by omega), if_neg (by omega), if_neg (by omega), if_neg (by omega), if_neg (by omega), if_pos (by omega)] at hQ; exact hQ
  case h10 => rw [if_neg (by omega), if_neg (by omega), if_neg (by omega), if_neg (by omega), if_neg (by omega), if_neg (by omega), if_neg (by omega), if_neg (by omega), if_pos (by omega)] at hQ; exact hQ
  case h11 => rw [if_neg (by omega), if_neg (by omega), if_neg (by omega), if_neg (by omega), if_neg (by omega), if_neg (by omega), if_neg (by omega), if_neg (by omega), if_neg (by omega)] at hQ; exact hQ
  all_goals first | omega | (repeat' first | exact hrg _ | assumption | (unfold rg; omega) | omega | refine And.intro ?_ ?_)
set_option maxHeartbeats 4000000 in
theorem k_count {a i : Int} (hi : rg i) (h03 : G 0 3 = a) (ha : 5 ≤ a) (hQ : Q (some (zi (cnt (G a 0) (G a 1) (G a 3) (G a 4) (G a 5) (G a 6) (G a 2) (G 0 1) (G 294 1) i))) G) : zW (d + 2) 99 [zr 8 0 0, zi i] G Q := by
  unfold cnt at hQ
  apply zf_99 <;> intros
  case h3 => rw [if_pos (by omega)] at hQ; rw [h03]; exact hQ
  case h5 => rw [if_neg (by omega), if_pos (by omega)] at hQ; rw [h03]; exact hQ
  case h7 => rw [if_neg (by omega), if_neg (by omega), if_pos (by omega)] at hQ; rw [h03]; exact hQ
  case h9 => rw [if_neg (by omega), if_neg (by omega), if_neg (by omega), if_pos (by omega)] at hQ; rw [h03]; exact hQ
  case h11 => rw [if_neg (by omega), if_neg (by omega), if_neg (by omega), if_neg (by omega), if_pos (by omega)] at hQ; rw [h03]; exact hQ
  case h13 => rw [if_neg (by omega), if_neg (by omega), if_neg (by omega), if_neg (by omega), if_neg (by omega), if_pos (by omega)] at hQ; rw [h03]; exact hQ
  case h15 => rw [if_neg (by omega), if_neg (by omega), if_neg (by omega), if_neg (by omega), if_neg (by omega), if_neg (by omega), if_pos (by omega)] at hQ; rw [h03]; exact hQ
  case h16 => rw [if_neg (by omega), if_neg (by omega), if_neg (by omega), if_neg (by omega), if_neg (by omega), if_neg (by omega), if_neg (by omega), if_pos (by omega)] at hQ; exact hQ
  case h17 => rw [if_neg (by omega), if_neg (by omega), if_neg (by omega), if_neg (by omega), if_neg (by omega), if_neg (by omega), if_neg (by omega), if_neg (by omega), if_pos (by omega)] at hQ; exact hQ
  case h18 => rw [if_neg (by omega), if_neg (by omega), if_neg (by omega), if_neg (by omega), if_neg (by omega), if_neg (by omega), if_neg (by omega), if_neg (by omega), if_neg (by omega)] at hQ; exact hQ
  all_goals first | omega | (rw [h03]; omega) | (repeat' first | exact hrg _ | assumption | (unfold rg; omega) | omega | refine And.intro ?_ ?_)
end RE
