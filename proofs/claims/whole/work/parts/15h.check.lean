theorem xck_224 : xckN 224 = true := by decide +kernel
theorem xck_225 : xckN 225 = true := by decide +kernel
theorem xck_226 : xckN 226 = true := by decide +kernel
theorem xck_227 : xckN 227 = true := by decide +kernel
theorem xck_228 : xckN 228 = true := by decide +kernel
theorem xck_229 : xckN 229 = true := by decide +kernel
theorem xck_230 : xckN 230 = true := by decide +kernel
theorem xck_231 : xckN 231 = true := by decide +kernel
theorem xck_232 : xckN 232 = true := by decide +kernel
theorem xck_233 : xckN 233 = true := by decide +kernel
theorem xck_234 : xckN 234 = true := by decide +kernel
theorem xck_235 : xckN 235 = true := by decide +kernel
theorem xck_236 : xckN 236 = true := by decide +kernel
theorem xck_237 : xckN 237 = true := by decide +kernel
theorem xck_238 : xckN 238 = true := by decide +kernel
theorem xck_239 : xckN 239 = true := by decide +kernel
theorem xck_240 : xckN 240 = true := by decide +kernel
theorem xck_241 : xckN 241 = true := by decide +kernel
theorem xck_242 : xckN 242 = true := by decide +kernel
theorem xck_243 : xckN 243 = true := by decide +kernel
theorem xck_244 : xckN 244 = true := by decide +kernel
theorem xck_245 : xckN 245 = true := by decide +kernel
theorem xck_246 : xckN 246 = true := by decide +kernel
theorem xck_247 : xckN 247 = true := by decide +kernel
theorem xck_248 : xckN 248 = true := by decide +kernel
theorem xck_249 : xckN 249 = true := by decide +kernel
theorem xck_250 : xckN 250 = true := by decide +kernel
theorem xck_251 : xckN 251 = true := by decide +kernel
theorem xck_252 : xckN 252 = true := by decide +kernel
theorem xck_253 : xckN 253 = true := by decide +kernel
theorem xck_254 : xckN 254 = true := by decide +kernel
theorem xck_255 : xckN 255 = true := by decide +kernel
theorem xckp_7 : ∀ i, 224 ≤ i → i < 256 → xckN i = true := by
  intro i h1 h2
  rcases (show i = 224 ∨ i = 225 ∨ i = 226 ∨ i = 227 ∨ i = 228 ∨ i = 229 ∨ i = 230 ∨ i = 231 ∨ i = 232 ∨ i = 233 ∨ i = 234 ∨ i = 235 ∨ i = 236 ∨ i = 237 ∨ i = 238 ∨ i = 239 ∨ i = 240 ∨ i = 241 ∨ i = 242 ∨ i = 243 ∨ i = 244 ∨ i = 245 ∨ i = 246 ∨ i = 247 ∨ i = 248 ∨ i = 249 ∨ i = 250 ∨ i = 251 ∨ i = 252 ∨ i = 253 ∨ i = 254 ∨ i = 255 by omega) with rfl | rfl | rfl | rfl | rfl | rfl | rfl | rfl | rfl | rfl | rfl | rfl | rfl | rfl | rfl | rfl | rfl | rfl | rfl | rfl | rfl | rfl | rfl | rfl | rfl | rfl | rfl | rfl | rfl | rfl | rfl | rfl
  · exact xck_224
  · exact xck_225
  · exact xck_226
  · exact xck_227
  · exact xck_228
  · exact xck_229
  · exact xck_230
  · exact xck_231
  · exact xck_232
  · exact xck_233
  · exact xck_234
  · exact xck_235
  · exact xck_236
  · exact xck_237
  · exact xck_238
  · exact xck_239
  · exact xck_240
  · exact xck_241
  · exact xck_242
  · exact xck_243
  · exact xck_244
  · exact xck_245
  · exact xck_246
  · exact xck_247
  · exact xck_248
  · exact xck_249
  · exact xck_250
  · exact xck_251
  · exact xck_252
  · exact xck_253
  · exact xck_254
  · exact xck_255
