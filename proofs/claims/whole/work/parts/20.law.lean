/-! the law is as its table has it -/
def xckL (pc : Nat) : Bool := match xT_law pc with
  | none => true
  | some e => decide (decode code pc = .ok e.1) && xchk "AsOfPagesLaw" false 4 ret pc e
theorem xckL_0 : (xrng 0 130).all xckL = true := by decide +kernel
theorem xckL_1 : (xrng 130 130).all xckL = true := by decide +kernel
theorem xckL_2 : (xrng 260 130).all xckL = true := by decide +kernel
theorem xckL_3 : (xrng 390 130).all xckL = true := by decide +kernel
theorem xckL_4 : (xrng 520 130).all xckL = true := by decide +kernel
theorem xckL_5 : (xrng 650 130).all xckL = true := by decide +kernel
theorem xckL_6 : (xrng 780 130).all xckL = true := by decide +kernel
theorem xckL_7 : (xrng 910 130).all xckL = true := by decide +kernel
theorem xckL_8 : (xrng 1040 130).all xckL = true := by decide +kernel
theorem xckL_9 : (xrng 1170 130).all xckL = true := by decide +kernel
theorem xckL_10 : (xrng 1300 130).all xckL = true := by decide +kernel
theorem xckL_11 : (xrng 1430 130).all xckL = true := by decide +kernel
theorem xckL_12 : (xrng 1560 130).all xckL = true := by decide +kernel
theorem xckL_13 : (xrng 1690 130).all xckL = true := by decide +kernel
theorem xckL_14 : (xrng 1820 64).all xckL = true := by decide +kernel
theorem xrngL {a n i : Nat} (h1 : a ≤ i) (h2 : i < a + n) (h : (xrng a n).all xckL = true) : xckL i = true := List.all_eq_true.mp h i (List.mem_map.mpr ⟨i - a, List.mem_range.mpr (by omega), by omega⟩)
theorem xckL_all : ∀ (pc : Nat) (en : xE), xT_law pc = some en → decode code pc = .ok en.1 ∧ xchk "AsOfPagesLaw" false 4 ret pc en = true := by
  intro pc en he
  have hlt : pc < 1884 := xgd_lt he
  have h : xckL pc = true := by
    rcases Nat.lt_or_ge pc 130 with h0 | h0
    · exact xrngL (a := 0) (n := 130) (by omega) (by omega) xckL_0
    rcases Nat.lt_or_ge pc 260 with h1 | h1
    · exact xrngL (a := 130) (n := 130) (by omega) (by omega) xckL_1
    rcases Nat.lt_or_ge pc 390 with h2 | h2
    · exact xrngL (a := 260) (n := 130) (by omega) (by omega) xckL_2
    rcases Nat.lt_or_ge pc 520 with h3 | h3
    · exact xrngL (a := 390) (n := 130) (by omega) (by omega) xckL_3
    rcases Nat.lt_or_ge pc 650 with h4 | h4
    · exact xrngL (a := 520) (n := 130) (by omega) (by omega) xckL_4
    rcases Nat.lt_or_ge pc 780 with h5 | h5
    · exact xrngL (a := 650) (n := 130) (by omega) (by omega) xckL_5
    rcases Nat.lt_or_ge pc 910 with h6 | h6
    · exact xrngL (a := 780) (n := 130) (by omega) (by omega) xckL_6
    rcases Nat.lt_or_ge pc 1040 with h7 | h7
    · exact xrngL (a := 910) (n := 130) (by omega) (by omega) xckL_7
    rcases Nat.lt_or_ge pc 1170 with h8 | h8
    · exact xrngL (a := 1040) (n := 130) (by omega) (by omega) xckL_8
    rcases Nat.lt_or_ge pc 1300 with h9 | h9
    · exact xrngL (a := 1170) (n := 130) (by omega) (by omega) xckL_9
    rcases Nat.lt_or_ge pc 1430 with h10 | h10
    · exact xrngL (a := 1300) (n := 130) (by omega) (by omega) xckL_10
    rcases Nat.lt_or_ge pc 1560 with h11 | h11
    · exact xrngL (a := 1430) (n := 130) (by omega) (by omega) xckL_11
    rcases Nat.lt_or_ge pc 1690 with h12 | h12
    · exact xrngL (a := 1560) (n := 130) (by omega) (by omega) xckL_12
    rcases Nat.lt_or_ge pc 1820 with h13 | h13
    · exact xrngL (a := 1690) (n := 130) (by omega) (by omega) xckL_13
    exact xrngL (a := 1820) (n := 64) (by omega) (by omega) xckL_14
  unfold xckL at h
  rw [he] at h
  have := Bool.and_eq_true_iff.mp h
  exact ⟨of_decide_eq_true this.1, this.2⟩
