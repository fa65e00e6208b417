theorem xck_64 : xckN 64 = true := by decide +kernel
theorem xck_65 : xckN 65 = true := by decide +kernel
theorem xck_66 : xckN 66 = true := by decide +kernel
theorem xck_67 : xckN 67 = true := by decide +kernel
theorem xck_68 : xckN 68 = true := by decide +kernel
theorem xck_69 : xckN 69 = true := by decide +kernel
theorem xck_70 : xckN 70 = true := by decide +kernel
theorem xck_71 : xckN 71 = true := by decide +kernel
theorem xck_72 : xckN 72 = true := by decide +kernel
theorem xck_73 : xckN 73 = true := by decide +kernel
theorem xck_74 : xckN 74 = true := by decide +kernel
theorem xck_75 : xckN 75 = true := by decide +kernel
theorem xck_76 : xckN 76 = true := by decide +kernel
theorem xck_77 : xckN 77 = true := by decide +kernel
theorem xck_78 : xckN 78 = true := by decide +kernel
theorem xck_79 : xckN 79 = true := by decide +kernel
theorem xck_80 : xckN 80 = true := by decide +kernel
theorem xck_81 : xckN 81 = true := by decide +kernel
theorem xck_82 : xckN 82 = true := by decide +kernel
theorem xck_83 : xckN 83 = true := by decide +kernel
theorem xck_84 : xckN 84 = true := by decide +kernel
theorem xck_85 : xckN 85 = true := by decide +kernel
theorem xck_86 : xckN 86 = true := by decide +kernel
theorem xck_87 : xckN 87 = true := by decide +kernel
theorem xck_88 : xckN 88 = true := by decide +kernel
theorem xck_89 : xckN 89 = true := by decide +kernel
theorem xck_90 : xckN 90 = true := by decide +kernel
theorem xck_91 : xckN 91 = true := by decide +kernel
theorem xck_92 : xckN 92 = true := by decide +kernel
theorem xck_93 : xckN 93 = true := by decide +kernel
theorem xck_94 : xckN 94 = true := by decide +kernel
theorem xck_95 : xckN 95 = true := by decide +kernel
theorem xckp_2 : ∀ i, 64 ≤ i → i < 96 → xckN i = true := by
  intro i h1 h2
  rcases (show i = 64 ∨ i = 65 ∨ i = 66 ∨ i = 67 ∨ i = 68 ∨ i = 69 ∨ i = 70 ∨ i = 71 ∨ i = 72 ∨ i = 73 ∨ i = 74 ∨ i = 75 ∨ i = 76 ∨ i = 77 ∨ i = 78 ∨ i = 79 ∨ i = 80 ∨ i = 81 ∨ i = 82 ∨ i = 83 ∨ i = 84 ∨ i = 85 ∨ i = 86 ∨ i = 87 ∨ i = 88 ∨ i = 89 ∨ i = 90 ∨ i = 91 ∨ i = 92 ∨ i = 93 ∨ i = 94 ∨ i = 95 by omega) with rfl | rfl | rfl | rfl | rfl | rfl | rfl | rfl | rfl | rfl | rfl | rfl | rfl | rfl | rfl | rfl | rfl | rfl | rfl | rfl | rfl | rfl | rfl | rfl | rfl | rfl | rfl | rfl | rfl | rfl | rfl | rfl
  · exact xck_64
  · exact xck_65
  · exact xck_66
  · exact xck_67
  · exact xck_68
  · exact xck_69
  · exact xck_70
  · exact xck_71
  · exact xck_72
  · exact xck_73
  · exact xck_74
  · exact xck_75
  · exact xck_76
  · exact xck_77
  · exact xck_78
  · exact xck_79
  · exact xck_80
  · exact xck_81
  · exact xck_82
  · exact xck_83
  · exact xck_84
  · exact xck_85
  · exact xck_86
  · exact xck_87
  · exact xck_88
  · exact xck_89
  · exact xck_90
  · exact xck_91
  · exact xck_92
  · exact xck_93
  · exact xck_94
  · exact xck_95
