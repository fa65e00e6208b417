theorem xck_0 : xckN 0 = true := by decide +kernel
theorem xck_1 : xckN 1 = true := by decide +kernel
theorem xck_2 : xckN 2 = true := by decide +kernel
theorem xck_3 : xckN 3 = true := by decide +kernel
theorem xck_4 : xckN 4 = true := by decide +kernel
theorem xck_5 : xckN 5 = true := by decide +kernel
theorem xck_6 : xckN 6 = true := by decide +kernel
theorem xck_7 : xckN 7 = true := by decide +kernel
theorem xck_8 : xckN 8 = true := by decide +kernel
theorem xck_9 : xckN 9 = true := by decide +kernel
theorem xck_10 : xckN 10 = true := by decide +kernel
theorem xck_11 : xckN 11 = true := by decide +kernel
theorem xck_12 : xckN 12 = true := by decide +kernel
theorem xck_13 : xckN 13 = true := by decide +kernel
theorem xck_14 : xckN 14 = true := by decide +kernel
theorem xck_15 : xckN 15 = true := by decide +kernel
theorem xck_16 : xckN 16 = true := by decide +kernel
theorem xck_17 : xckN 17 = true := by decide +kernel
theorem xck_18 : xckN 18 = true := by decide +kernel
theorem xck_19 : xckN 19 = true := by decide +kernel
theorem xck_20 : xckN 20 = true := by decide +kernel
theorem xck_21 : xckN 21 = true := by decide +kernel
theorem xck_22 : xckN 22 = true := by decide +kernel
theorem xck_23 : xckN 23 = true := by decide +kernel
theorem xck_24 : xckN 24 = true := by decide +kernel
theorem xck_25 : xckN 25 = true := by decide +kernel
theorem xck_26 : xckN 26 = true := by decide +kernel
theorem xck_27 : xckN 27 = true := by decide +kernel
theorem xck_28 : xckN 28 = true := by decide +kernel
theorem xck_29 : xckN 29 = true := by decide +kernel
theorem xck_30 : xckN 30 = true := by decide +kernel
theorem xck_31 : xckN 31 = true := by decide +kernel
theorem xckp_0 : ∀ i, 0 ≤ i → i < 32 → xckN i = true := by
  intro i h1 h2
  rcases (show i = 0 ∨ i = 1 ∨ i = 2 ∨ i = 3 ∨ i = 4 ∨ i = 5 ∨ i = 6 ∨ i = 7 ∨ i = 8 ∨ i = 9 ∨ i = 10 ∨ i = 11 ∨ i = 12 ∨ i = 13 ∨ i = 14 ∨ i = 15 ∨ i = 16 ∨ i = 17 ∨ i = 18 ∨ i = 19 ∨ i = 20 ∨ i = 21 ∨ i = 22 ∨ i = 23 ∨ i = 24 ∨ i = 25 ∨ i = 26 ∨ i = 27 ∨ i = 28 ∨ i = 29 ∨ i = 30 ∨ i = 31 by omega) with rfl | rfl | rfl | rfl | rfl | rfl | rfl | rfl | rfl | rfl | rfl | rfl | rfl | rfl | rfl | rfl | rfl | rfl | rfl | rfl | rfl | rfl | rfl | rfl | rfl | rfl | rfl | rfl | rfl | rfl | rfl | rfl
  · exact xck_0
  · exact xck_1
  · exact xck_2
  · exact xck_3
  · exact xck_4
  · exact xck_5
  · exact xck_6
  · exact xck_7
  · exact xck_8
  · exact xck_9
  · exact xck_10
  · exact xck_11
  · exact xck_12
  · exact xck_13
  · exact xck_14
  · exact xck_15
  · exact xck_16
  · exact xck_17
  · exact xck_18
  · exact xck_19
  · exact xck_20
  · exact xck_21
  · exact xck_22
  · exact xck_23
  · exact xck_24
  · exact xck_25
  · exact xck_26
  · exact xck_27
  · exact xck_28
  · exact xck_29
  · exact xck_30
  · exact xck_31
