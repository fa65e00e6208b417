theorem xck_128 : xckN 128 = true := by decide +kernel
theorem xck_129 : xckN 129 = true := by decide +kernel
theorem xck_130 : xckN 130 = true := by decide +kernel
theorem xck_131 : xckN 131 = true := by decide +kernel
theorem xck_132 : xckN 132 = true := by decide +kernel
theorem xck_133 : xckN 133 = true := by decide +kernel
theorem xck_134 : xckN 134 = true := by decide +kernel
theorem xck_135 : xckN 135 = true := by decide +kernel
theorem xck_136 : xckN 136 = true := by decide +kernel
theorem xck_137 : xckN 137 = true := by decide +kernel
theorem xck_138 : xckN 138 = true := by decide +kernel
theorem xck_139 : xckN 139 = true := by decide +kernel
theorem xck_140 : xckN 140 = true := by decide +kernel
theorem xck_141 : xckN 141 = true := by decide +kernel
theorem xck_142 : xckN 142 = true := by decide +kernel
theorem xck_143 : xckN 143 = true := by decide +kernel
theorem xck_144 : xckN 144 = true := by decide +kernel
theorem xck_145 : xckN 145 = true := by decide +kernel
theorem xck_146 : xckN 146 = true := by decide +kernel
theorem xck_147 : xckN 147 = true := by decide +kernel
theorem xck_148 : xckN 148 = true := by decide +kernel
theorem xck_149 : xckN 149 = true := by decide +kernel
theorem xck_150 : xckN 150 = true := by decide +kernel
theorem xck_151 : xckN 151 = true := by decide +kernel
theorem xck_152 : xckN 152 = true := by decide +kernel
theorem xck_153 : xckN 153 = true := by decide +kernel
theorem xck_154 : xckN 154 = true := by decide +kernel
theorem xck_155 : xckN 155 = true := by decide +kernel
theorem xck_156 : xckN 156 = true := by decide +kernel
theorem xck_157 : xckN 157 = true := by decide +kernel
theorem xck_158 : xckN 158 = true := by decide +kernel
theorem xck_159 : xckN 159 = true := by decide +kernel
theorem xckp_4 : ∀ i, 128 ≤ i → i < 160 → xckN i = true := by
  intro i h1 h2
  rcases (show i = 128 ∨ i = 129 ∨ i = 130 ∨ i = 131 ∨ i = 132 ∨ i = 133 ∨ i = 134 ∨ i = 135 ∨ i = 136 ∨ i = 137 ∨ i = 138 ∨ i = 139 ∨ i = 140 ∨ i = 141 ∨ i = 142 ∨ i = 143 ∨ i = 144 ∨ i = 145 ∨ i = 146 ∨ i = 147 ∨ i = 148 ∨ i = 149 ∨ i = 150 ∨ i = 151 ∨ i = 152 ∨ i = 153 ∨ i = 154 ∨ i = 155 ∨ i = 156 ∨ i = 157 ∨ i = 158 ∨ i = 159 by omega) with rfl | rfl | rfl | rfl | rfl | rfl | rfl | rfl | rfl | rfl | rfl | rfl | rfl | rfl | rfl | rfl | rfl | rfl | rfl | rfl | rfl | rfl | rfl | rfl | rfl | rfl | rfl | rfl | rfl | rfl | rfl | rfl
  · exact xck_128
  · exact xck_129
  · exact xck_130
  · exact xck_131
  · exact xck_132
  · exact xck_133
  · exact xck_134
  · exact xck_135
  · exact xck_136
  · exact xck_137
  · exact xck_138
  · exact xck_139
  · exact xck_140
  · exact xck_141
  · exact xck_142
  · exact xck_143
  · exact xck_144
  · exact xck_145
  · exact xck_146
  · exact xck_147
  · exact xck_148
  · exact xck_149
  · exact xck_150
  · exact xck_151
  · exact xck_152
  · exact xck_153
  · exact xck_154
  · exact xck_155
  · exact xck_156
  · exact xck_157
  · exact xck_158
  · exact xck_159
