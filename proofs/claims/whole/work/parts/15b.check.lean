theorem xck_32 : xckN 32 = true := by decide +kernel
theorem xck_33 : xckN 33 = true := by decide +kernel
theorem xck_34 : xckN 34 = true := by decide +kernel
theorem xck_35 : xckN 35 = true := by decide +kernel
theorem xck_36 : xckN 36 = true := by decide +kernel
theorem xck_37 : xckN 37 = true := by decide +kernel
theorem xck_38 : xckN 38 = true := by decide +kernel
theorem xck_39 : xckN 39 = true := by decide +kernel
theorem xck_40 : xckN 40 = true := by decide +kernel
theorem xck_41 : xckN 41 = true := by decide +kernel
theorem xck_42 : xckN 42 = true := by decide +kernel
theorem xck_43 : xckN 43 = true := by decide +kernel
theorem xck_44 : xckN 44 = true := by decide +kernel
theorem xck_45 : xckN 45 = true := by decide +kernel
theorem xck_46 : xckN 46 = true := by decide +kernel
theorem xck_47 : xckN 47 = true := by decide +kernel
theorem xck_48 : xckN 48 = true := by decide +kernel
theorem xck_49 : xckN 49 = true := by decide +kernel
theorem xck_50 : xckN 50 = true := by decide +kernel
theorem xck_51 : xckN 51 = true := by decide +kernel
theorem xck_52 : xckN 52 = true := by decide +kernel
theorem xck_53 : xckN 53 = true := by decide +kernel
theorem xck_54 : xckN 54 = true := by decide +kernel
theorem xck_55 : xckN 55 = true := by decide +kernel
theorem xck_56 : xckN 56 = true := by decide +kernel
theorem xck_57 : xckN 57 = true := by decide +kernel
theorem xck_58 : xckN 58 = true := by decide +kernel
theorem xck_59 : xckN 59 = true := by decide +kernel
theorem xck_60 : xckN 60 = true := by decide +kernel
theorem xck_61 : xckN 61 = true := by decide +kernel
theorem xck_62 : xckN 62 = true := by decide +kernel
theorem xck_63 : xckN 63 = true := by decide +kernel
theorem xckp_1 : ∀ i, 32 ≤ i → i < 64 → xckN i = true := by
  intro i h1 h2
  rcases (show i = 32 ∨ i = 33 ∨ i = 34 ∨ i = 35 ∨ i = 36 ∨ i = 37 ∨ i = 38 ∨ i = 39 ∨ i = 40 ∨ i = 41 ∨ i = 42 ∨ i = 43 ∨ i = 44 ∨ i = 45 ∨ i = 46 ∨ i = 47 ∨ i = 48 ∨ i = 49 ∨ i = 50 ∨ i = 51 ∨ i = 52 ∨ i = 53 ∨ i = 54 ∨ i = 55 ∨ i = 56 ∨ i = 57 ∨ i = 58 ∨ i = 59 ∨ i = 60 ∨ i = 61 ∨ i = 62 ∨ i = 63 by omega) with rfl | rfl | rfl | rfl | rfl | rfl | rfl | rfl | rfl | rfl | rfl | rfl | rfl | rfl | rfl | rfl | rfl | rfl | rfl | rfl | rfl | rfl | rfl | rfl | rfl | rfl | rfl | rfl | rfl | rfl | rfl | rfl
  · exact xck_32
  · exact xck_33
  · exact xck_34
  · exact xck_35
  · exact xck_36
  · exact xck_37
  · exact xck_38
  · exact xck_39
  · exact xck_40
  · exact xck_41
  · exact xck_42
  · exact xck_43
  · exact xck_44
  · exact xck_45
  · exact xck_46
  · exact xck_47
  · exact xck_48
  · exact xck_49
  · exact xck_50
  · exact xck_51
  · exact xck_52
  · exact xck_53
  · exact xck_54
  · exact xck_55
  · exact xck_56
  · exact xck_57
  · exact xck_58
  · exact xck_59
  · exact xck_60
  · exact xck_61
  · exact xck_62
  · exact xck_63
