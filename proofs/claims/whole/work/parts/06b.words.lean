def xTy (c : Nat) : Nat → FieldType := match c with
  | 0 => tyX0
  | 1 => tyX1
  | 2 => tyX2
  | 3 => tyX3
  | 4 => tyX4
  | 5 => tyX5
  | 6 => tyX6
  | 7 => tyX7
  | 8 => tyX8
  | _ => tyX9
theorem x10 {P : Nat → Prop} (h0 : P 0) (h1 : P 1) (h2 : P 2) (h3 : P 3) (h4 : P 4) (h5 : P 5) (h6 : P 6) (h7 : P 7) (h8 : P 8) (h9 : P 9) : ∀ c, c < 10 → P c := by
  intro c hc
  match c, hc with
  | 0, _ => exact h0
  | 1, _ => exact h1
  | 2, _ => exact h2
  | 3, _ => exact h3
  | 4, _ => exact h4
  | 5, _ => exact h5
  | 6, _ => exact h6
  | 7, _ => exact h7
  | 8, _ => exact h8
  | 9, _ => exact h9
  | c + 10, h => omega
theorem xTy_ok : ∀ c, c < 10 → ∀ k, k < (xcl c).2.2 → parseFieldDescriptor ((xcl c).2.1 k).2.2.1 = some (xTy c k) := x10 tyX0_ok tyX1_ok tyX2_ok tyX3_ok tyX4_ok tyX5_ok tyX6_ok tyX7_ok tyX8_ok tyX9_ok
theorem xNm_ok : ∀ c, c < 10 → ∀ a, a < (xcl c).2.2 → ∀ b, b < (xcl c).2.2 → a ≠ b → ((xcl c).2.1 a).2.1 ≠ ((xcl c).2.1 b).2.1 := x10 nmX0 nmX1 nmX2 nmX3 nmX4 nmX5 nmX6 nmX7 nmX8 nmX9
theorem xcl_at : ∀ c, c < 10 → vwCl[c]? = some ((xcl c).1, (xcl c).2.1, (xcl c).2.2) := x10 rfl rfl rfl rfl rfl rfl rfl rfl rfl rfl
theorem xin_ck : ∀ c, c < 10 → (List.range (xcl c).2.2).all (fun k => xlk ((xfp.getD c []).getD k 0) (u_lay (xcl c).1 (xcl c).2.1 k)) = true := x10 (by decide +kernel) (by decide +kernel) (by decide +kernel) (by decide +kernel) (by decide +kernel) (by decide +kernel) (by decide +kernel) (by decide +kernel) (by decide +kernel) (by decide +kernel)
theorem xin_all : ∀ c, c < 10 → ∀ w ∈ u_ws (xcl c).1 (xcl c).2.1 (xcl c).2.2, w ∈ xG := by
  intro c hc w hw
  obtain ⟨k, hk, rfl⟩ := List.mem_map.mp hw
  exact xlk_in (List.all_eq_true.mp (xin_ck c hc) k hk)
