theorem xck_256 : xckN 256 = true := by decide +kernel
theorem xck_257 : xckN 257 = true := by decide +kernel
theorem xck_258 : xckN 258 = true := by decide +kernel
theorem xck_259 : xckN 259 = true := by decide +kernel
theorem xck_260 : xckN 260 = true := by decide +kernel
theorem xck_261 : xckN 261 = true := by decide +kernel
theorem xck_262 : xckN 262 = true := by decide +kernel
theorem xck_263 : xckN 263 = true := by decide +kernel
theorem xck_264 : xckN 264 = true := by decide +kernel
theorem xck_265 : xckN 265 = true := by decide +kernel
theorem xck_266 : xckN 266 = true := by decide +kernel
theorem xck_267 : xckN 267 = true := by decide +kernel
theorem xck_268 : xckN 268 = true := by decide +kernel
theorem xck_269 : xckN 269 = true := by decide +kernel
theorem xck_270 : xckN 270 = true := by decide +kernel
theorem xck_271 : xckN 271 = true := by decide +kernel
theorem xck_272 : xckN 272 = true := by decide +kernel
theorem xck_273 : xckN 273 = true := by decide +kernel
theorem xck_274 : xckN 274 = true := by decide +kernel
theorem xck_275 : xckN 275 = true := by decide +kernel
theorem xck_276 : xckN 276 = true := by decide +kernel
theorem xck_277 : xckN 277 = true := by decide +kernel
theorem xck_278 : xckN 278 = true := by decide +kernel
theorem xck_279 : xckN 279 = true := by decide +kernel
theorem xck_280 : xckN 280 = true := by decide +kernel
theorem xckp_8 : ∀ i, 256 ≤ i → i < 281 → xckN i = true := by
  intro i h1 h2
  rcases (show i = 256 ∨ i = 257 ∨ i = 258 ∨ i = 259 ∨ i = 260 ∨ i = 261 ∨ i = 262 ∨ i = 263 ∨ i = 264 ∨ i = 265 ∨ i = 266 ∨ i = 267 ∨ i = 268 ∨ i = 269 ∨ i = 270 ∨ i = 271 ∨ i = 272 ∨ i = 273 ∨ i = 274 ∨ i = 275 ∨ i = 276 ∨ i = 277 ∨ i = 278 ∨ i = 279 ∨ i = 280 by omega) with rfl | rfl | rfl | rfl | rfl | rfl | rfl | rfl | rfl | rfl | rfl | rfl | rfl | rfl | rfl | rfl | rfl | rfl | rfl | rfl | rfl | rfl | rfl | rfl | rfl
  · exact xck_256
  · exact xck_257
  · exact xck_258
  · exact xck_259
  · exact xck_260
  · exact xck_261
  · exact xck_262
  · exact xck_263
  · exact xck_264
  · exact xck_265
  · exact xck_266
  · exact xck_267
  · exact xck_268
  · exact xck_269
  · exact xck_270
  · exact xck_271
  · exact xck_272
  · exact xck_273
  · exact xck_274
  · exact xck_275
  · exact xck_276
  · exact xck_277
  · exact xck_278
  · exact xck_279
  · exact xck_280
