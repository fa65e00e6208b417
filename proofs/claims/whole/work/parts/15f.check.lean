theorem xck_160 : xckN 160 = true := by decide +kernel
theorem xck_161 : xckN 161 = true := by decide +kernel
theorem xck_162 : xckN 162 = true := by decide +kernel
theorem xck_163 : xckN 163 = true := by decide +kernel
theorem xck_164 : xckN 164 = true := by decide +kernel
theorem xck_165 : xckN 165 = true := by decide +kernel
theorem xck_166 : xckN 166 = true := by decide +kernel
theorem xck_167 : xckN 167 = true := by decide +kernel
theorem xck_168 : xckN 168 = true := by decide +kernel
theorem xck_169 : xckN 169 = true := by decide +kernel
theorem xck_170 : xckN 170 = true := by decide +kernel
theorem xck_171 : xckN 171 = true := by decide +kernel
theorem xck_172 : xckN 172 = true := by decide +kernel
theorem xck_173 : xckN 173 = true := by decide +kernel
theorem xck_174 : xckN 174 = true := by decide +kernel
theorem xck_175 : xckN 175 = true := by decide +kernel
theorem xck_176 : xckN 176 = true := by decide +kernel
theorem xck_177 : xckN 177 = true := by decide +kernel
theorem xck_178 : xckN 178 = true := by decide +kernel
theorem xck_179 : xckN 179 = true := by decide +kernel
theorem xck_180 : xckN 180 = true := by decide +kernel
theorem xck_181 : xckN 181 = true := by decide +kernel
theorem xck_182 : xckN 182 = true := by decide +kernel
theorem xck_183 : xckN 183 = true := by decide +kernel
theorem xck_184 : xckN 184 = true := by decide +kernel
theorem xck_185 : xckN 185 = true := by decide +kernel
theorem xck_186 : xckN 186 = true := by decide +kernel
theorem xck_187 : xckN 187 = true := by decide +kernel
theorem xck_188 : xckN 188 = true := by decide +kernel
theorem xck_189 : xckN 189 = true := by decide +kernel
theorem xck_190 : xckN 190 = true := by decide +kernel
theorem xck_191 : xckN 191 = true := by decide +kernel
theorem xckp_5 : ∀ i, 160 ≤ i → i < 192 → xckN i = true := by
  intro i h1 h2
  rcases (show i = 160 ∨ i = 161 ∨ i = 162 ∨ i = 163 ∨ i = 164 ∨ i = 165 ∨ i = 166 ∨ i = 167 ∨ i = 168 ∨ i = 169 ∨ i = 170 ∨ i = 171 ∨ i = 172 ∨ i = 173 ∨ i = 174 ∨ i = 175 ∨ i = 176 ∨ i = 177 ∨ i = 178 ∨ i = 179 ∨ i = 180 ∨ i = 181 ∨ i = 182 ∨ i = 183 ∨ i = 184 ∨ i = 185 ∨ i = 186 ∨ i = 187 ∨ i = 188 ∨ i = 189 ∨ i = 190 ∨ i = 191 by omega) with rfl | rfl | rfl | rfl | rfl | rfl | rfl | rfl | rfl | rfl | rfl | rfl | rfl | rfl | rfl | rfl | rfl | rfl | rfl | rfl | rfl | rfl | rfl | rfl | rfl | rfl | rfl | rfl | rfl | rfl | rfl | rfl
  · exact xck_160
  · exact xck_161
  · exact xck_162
  · exact xck_163
  · exact xck_164
  · exact xck_165
  · exact xck_166
  · exact xck_167
  · exact xck_168
  · exact xck_169
  · exact xck_170
  · exact xck_171
  · exact xck_172
  · exact xck_173
  · exact xck_174
  · exact xck_175
  · exact xck_176
  · exact xck_177
  · exact xck_178
  · exact xck_179
  · exact xck_180
  · exact xck_181
  · exact xck_182
  · exact xck_183
  · exact xck_184
  · exact xck_185
  · exact xck_186
  · exact xck_187
  · exact xck_188
  · exact xck_189
  · exact xck_190
  · exact xck_191
