theorem xck_192 : xckN 192 = true := by decide +kernel
theorem xck_193 : xckN 193 = true := by decide +kernel
theorem xck_194 : xckN 194 = true := by decide +kernel
theorem xck_195 : xckN 195 = true := by decide +kernel
theorem xck_196 : xckN 196 = true := by decide +kernel
theorem xck_197 : xckN 197 = true := by decide +kernel
theorem xck_198 : xckN 198 = true := by decide +kernel
theorem xck_199 : xckN 199 = true := by decide +kernel
theorem xck_200 : xckN 200 = true := by decide +kernel
theorem xck_201 : xckN 201 = true := by decide +kernel
theorem xck_202 : xckN 202 = true := by decide +kernel
theorem xck_203 : xckN 203 = true := by decide +kernel
theorem xck_204 : xckN 204 = true := by decide +kernel
theorem xck_205 : xckN 205 = true := by decide +kernel
theorem xck_206 : xckN 206 = true := by decide +kernel
theorem xck_207 : xckN 207 = true := by decide +kernel
theorem xck_208 : xckN 208 = true := by decide +kernel
theorem xck_209 : xckN 209 = true := by decide +kernel
theorem xck_210 : xckN 210 = true := by decide +kernel
theorem xck_211 : xckN 211 = true := by decide +kernel
theorem xck_212 : xckN 212 = true := by decide +kernel
theorem xck_213 : xckN 213 = true := by decide +kernel
theorem xck_214 : xckN 214 = true := by decide +kernel
theorem xck_215 : xckN 215 = true := by decide +kernel
theorem xck_216 : xckN 216 = true := by decide +kernel
theorem xck_217 : xckN 217 = true := by decide +kernel
theorem xck_218 : xckN 218 = true := by decide +kernel
theorem xck_219 : xckN 219 = true := by decide +kernel
theorem xck_220 : xckN 220 = true := by decide +kernel
theorem xck_221 : xckN 221 = true := by decide +kernel
theorem xck_222 : xckN 222 = true := by decide +kernel
theorem xck_223 : xckN 223 = true := by decide +kernel
theorem xckp_6 : ∀ i, 192 ≤ i → i < 224 → xckN i = true := by
  intro i h1 h2
  rcases (show i = 192 ∨ i = 193 ∨ i = 194 ∨ i = 195 ∨ i = 196 ∨ i = 197 ∨ i = 198 ∨ i = 199 ∨ i = 200 ∨ i = 201 ∨ i = 202 ∨ i = 203 ∨ i = 204 ∨ i = 205 ∨ i = 206 ∨ i = 207 ∨ i = 208 ∨ i = 209 ∨ i = 210 ∨ i = 211 ∨ i = 212 ∨ i = 213 ∨ i = 214 ∨ i = 215 ∨ i = 216 ∨ i = 217 ∨ i = 218 ∨ i = 219 ∨ i = 220 ∨ i = 221 ∨ i = 222 ∨ i = 223 by omega) with rfl | rfl | rfl | rfl | rfl | rfl | rfl | rfl | rfl | rfl | rfl | rfl | rfl | rfl | rfl | rfl | rfl | rfl | rfl | rfl | rfl | rfl | rfl | rfl | rfl | rfl | rfl | rfl | rfl | rfl | rfl | rfl
  · exact xck_192
  · exact xck_193
  · exact xck_194
  · exact xck_195
  · exact xck_196
  · exact xck_197
  · exact xck_198
  · exact xck_199
  · exact xck_200
  · exact xck_201
  · exact xck_202
  · exact xck_203
  · exact xck_204
  · exact xck_205
  · exact xck_206
  · exact xck_207
  · exact xck_208
  · exact xck_209
  · exact xck_210
  · exact xck_211
  · exact xck_212
  · exact xck_213
  · exact xck_214
  · exact xck_215
  · exact xck_216
  · exact xck_217
  · exact xck_218
  · exact xck_219
  · exact xck_220
  · exact xck_221
  · exact xck_222
  · exact xck_223
