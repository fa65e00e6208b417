theorem xck_96 : xckN 96 = true := by decide +kernel
theorem xck_97 : xckN 97 = true := by decide +kernel
theorem xck_98 : xckN 98 = true := by decide +kernel
theorem xck_99 : xckN 99 = true := by decide +kernel
theorem xck_100 : xckN 100 = true := by decide +kernel
theorem xck_101 : xckN 101 = true := by decide +kernel
theorem xck_102 : xckN 102 = true := by decide +kernel
theorem xck_103 : xckN 103 = true := by decide +kernel
theorem xck_104 : xckN 104 = true := by decide +kernel
theorem xck_105 : xckN 105 = true := by decide +kernel
theorem xck_106 : xckN 106 = true := by decide +kernel
theorem xck_107 : xckN 107 = true := by decide +kernel
theorem xck_108 : xckN 108 = true := by decide +kernel
theorem xck_109 : xckN 109 = true := by decide +kernel
theorem xck_110 : xckN 110 = true := by decide +kernel
theorem xck_111 : xckN 111 = true := by decide +kernel
theorem xck_112 : xckN 112 = true := by decide +kernel
theorem xck_113 : xckN 113 = true := by decide +kernel
theorem xck_114 : xckN 114 = true := by decide +kernel
theorem xck_115 : xckN 115 = true := by decide +kernel
theorem xck_116 : xckN 116 = true := by decide +kernel
theorem xck_117 : xckN 117 = true := by decide +kernel
theorem xck_118 : xckN 118 = true := by decide +kernel
theorem xck_119 : xckN 119 = true := by decide +kernel
theorem xck_120 : xckN 120 = true := by decide +kernel
theorem xck_121 : xckN 121 = true := by decide +kernel
theorem xck_122 : xckN 122 = true := by decide +kernel
theorem xck_123 : xckN 123 = true := by decide +kernel
theorem xck_124 : xckN 124 = true := by decide +kernel
theorem xck_125 : xckN 125 = true := by decide +kernel
theorem xck_126 : xckN 126 = true := by decide +kernel
theorem xck_127 : xckN 127 = true := by decide +kernel
theorem xckp_3 : ∀ i, 96 ≤ i → i < 128 → xckN i = true := by
  intro i h1 h2
  rcases (show i = 96 ∨ i = 97 ∨ i = 98 ∨ i = 99 ∨ i = 100 ∨ i = 101 ∨ i = 102 ∨ i = 103 ∨ i = 104 ∨ i = 105 ∨ i = 106 ∨ i = 107 ∨ i = 108 ∨ i = 109 ∨ i = 110 ∨ i = 111 ∨ i = 112 ∨ i = 113 ∨ i = 114 ∨ i = 115 ∨ i = 116 ∨ i = 117 ∨ i = 118 ∨ i = 119 ∨ i = 120 ∨ i = 121 ∨ i = 122 ∨ i = 123 ∨ i = 124 ∨ i = 125 ∨ i = 126 ∨ i = 127 by omega) with rfl | rfl | rfl | rfl | rfl | rfl | rfl | rfl | rfl | rfl | rfl | rfl | rfl | rfl | rfl | rfl | rfl | rfl | rfl | rfl | rfl | rfl | rfl | rfl | rfl | rfl | rfl | rfl | rfl | rfl | rfl | rfl
  · exact xck_96
  · exact xck_97
  · exact xck_98
  · exact xck_99
  · exact xck_100
  · exact xck_101
  · exact xck_102
  · exact xck_103
  · exact xck_104
  · exact xck_105
  · exact xck_106
  · exact xck_107
  · exact xck_108
  · exact xck_109
  · exact xck_110
  · exact xck_111
  · exact xck_112
  · exact xck_113
  · exact xck_114
  · exact xck_115
  · exact xck_116
  · exact xck_117
  · exact xck_118
  · exact xck_119
  · exact xck_120
  · exact xck_121
  · exact xck_122
  · exact xck_123
  · exact xck_124
  · exact xck_125
  · exact xck_126
  · exact xck_127
