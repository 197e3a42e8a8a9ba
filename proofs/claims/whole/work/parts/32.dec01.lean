theorem dX10_init_170 : decode cX10_init 170 = .ok (.iastore, 1) := by decide +kernel
theorem dX10_init_171 : decode cX10_init 171 = .ok (.dup, 1) := by decide +kernel
theorem dX10_init_172 : decode cX10_init 172 = .ok (.bipush 24, 2) := by decide +kernel
theorem dX10_init_174 : decode cX10_init 174 = .ok (.sipush 4624, 3) := by decide +kernel
theorem dX10_init_177 : decode cX10_init 177 = .ok (.iastore, 1) := by decide +kernel
theorem dX10_init_178 : decode cX10_init 178 = .ok (.dup, 1) := by decide +kernel
theorem dX10_init_179 : decode cX10_init 179 = .ok (.bipush 25, 2) := by decide +kernel
theorem dX10_init_181 : decode cX10_init 181 = .ok (.sipush 8208, 3) := by decide +kernel
theorem dX10_init_184 : decode cX10_init 184 = .ok (.iastore, 1) := by decide +kernel
theorem dX10_init_185 : decode cX10_init 185 = .ok (.dup, 1) := by decide +kernel
theorem dX10_init_186 : decode cX10_init 186 = .ok (.bipush 26, 2) := by decide +kernel
theorem dX10_init_188 : decode cX10_init 188 = .ok (.sipush 9232, 3) := by decide +kernel
theorem dX10_init_191 : decode cX10_init 191 = .ok (.iastore, 1) := by decide +kernel
theorem dX10_init_192 : decode cX10_init 192 = .ok (.dup, 1) := by decide +kernel
theorem dX10_init_193 : decode cX10_init 193 = .ok (.bipush 27, 2) := by decide +kernel
theorem dX10_init_195 : decode cX10_init 195 = .ok (.sipush 8720, 3) := by decide +kernel
theorem dX10_init_198 : decode cX10_init 198 = .ok (.iastore, 1) := by decide +kernel
theorem dX10_init_199 : decode cX10_init 199 = .ok (.dup, 1) := by decide +kernel
theorem dX10_init_200 : decode cX10_init 200 = .ok (.bipush 28, 2) := by decide +kernel
theorem dX10_init_202 : decode cX10_init 202 = .ok (.sipush 4112, 3) := by decide +kernel
theorem dX10_init_205 : decode cX10_init 205 = .ok (.iastore, 1) := by decide +kernel
theorem dX10_init_206 : decode cX10_init 206 = .ok (.dup, 1) := by decide +kernel
theorem dX10_init_207 : decode cX10_init 207 = .ok (.bipush 29, 2) := by decide +kernel
theorem dX10_init_209 : decode cX10_init 209 = .ok (.sipush 528, 3) := by decide +kernel
theorem dX10_init_212 : decode cX10_init 212 = .ok (.iastore, 1) := by decide +kernel
theorem dX10_init_213 : decode cX10_init 213 = .ok (.dup, 1) := by decide +kernel
theorem dX10_init_214 : decode cX10_init 214 = .ok (.bipush 30, 2) := by decide +kernel
theorem dX10_init_216 : decode cX10_init 216 = .ok (.sipush 1040, 3) := by decide +kernel
theorem dX10_init_219 : decode cX10_init 219 = .ok (.iastore, 1) := by decide +kernel
theorem dX10_init_220 : decode cX10_init 220 = .ok (.dup, 1) := by decide +kernel
theorem dX10_init_221 : decode cX10_init 221 = .ok (.bipush 31, 2) := by decide +kernel
theorem dX10_init_223 : decode cX10_init 223 = .ok (.sipush 2064, 3) := by decide +kernel
theorem dX10_init_226 : decode cX10_init 226 = .ok (.iastore, 1) := by decide +kernel
theorem dX10_init_227 : decode cX10_init 227 = .ok (.dup, 1) := by decide +kernel
theorem dX10_init_228 : decode cX10_init 228 = .ok (.bipush 32, 2) := by decide +kernel
theorem dX10_init_230 : decode cX10_init 230 = .ok (.bipush 32, 2) := by decide +kernel
theorem dX10_init_232 : decode cX10_init 232 = .ok (.iastore, 1) := by decide +kernel
theorem dX10_init_233 : decode cX10_init 233 = .ok (.dup, 1) := by decide +kernel
theorem dX10_init_234 : decode cX10_init 234 = .ok (.bipush 33, 2) := by decide +kernel
theorem dX10_init_236 : decode cX10_init 236 = .ok (.sipush 8456, 3) := by decide +kernel
theorem dX10_init_239 : decode cX10_init 239 = .ok (.iastore, 1) := by decide +kernel
theorem dX10_init_240 : decode cX10_init 240 = .ok (.dup, 1) := by decide +kernel
theorem dX10_init_241 : decode cX10_init 241 = .ok (.bipush 34, 2) := by decide +kernel
theorem dX10_init_243 : decode cX10_init 243 = .ok (.sipush 544, 3) := by decide +kernel
theorem dX10_init_246 : decode cX10_init 246 = .ok (.iastore, 1) := by decide +kernel
theorem dX10_init_247 : decode cX10_init 247 = .ok (.dup, 1) := by decide +kernel
theorem dX10_init_248 : decode cX10_init 248 = .ok (.bipush 35, 2) := by decide +kernel
theorem dX10_init_250 : decode cX10_init 250 = .ok (.sipush 2336, 3) := by decide +kernel
theorem dX10_init_253 : decode cX10_init 253 = .ok (.iastore, 1) := by decide +kernel
theorem dX10_init_254 : decode cX10_init 254 = .ok (.dup, 1) := by decide +kernel
theorem dX10_init_255 : decode cX10_init 255 = .ok (.bipush 36, 2) := by decide +kernel
theorem dX10_init_257 : decode cX10_init 257 = .ok (.sipush 4360, 3) := by decide +kernel
theorem dX10_init_260 : decode cX10_init 260 = .ok (.iastore, 1) := by decide +kernel
theorem dX10_init_261 : decode cX10_init 261 = .ok (.dup, 1) := by decide +kernel
theorem dX10_init_262 : decode cX10_init 262 = .ok (.bipush 37, 2) := by decide +kernel
theorem dX10_init_264 : decode cX10_init 264 = .ok (.sipush 264, 3) := by decide +kernel
theorem dX10_init_267 : decode cX10_init 267 = .ok (.iastore, 1) := by decide +kernel
theorem dX10_init_268 : decode cX10_init 268 = .ok (.dup, 1) := by decide +kernel
theorem dX10_init_269 : decode cX10_init 269 = .ok (.bipush 38, 2) := by decide +kernel
theorem dX10_init_271 : decode cX10_init 271 = .ok (.sipush 4128, 3) := by decide +kernel
theorem dX10_init_274 : decode cX10_init 274 = .ok (.iastore, 1) := by decide +kernel
theorem dX10_init_275 : decode cX10_init 275 = .ok (.dup, 1) := by decide +kernel
theorem dX10_init_276 : decode cX10_init 276 = .ok (.bipush 39, 2) := by decide +kernel
theorem dX10_init_278 : decode cX10_init 278 = .ok (.sipush 2312, 3) := by decide +kernel
theorem dX10_init_281 : decode cX10_init 281 = .ok (.iastore, 1) := by decide +kernel
theorem dX10_init_282 : decode cX10_init 282 = .ok (.dup, 1) := by decide +kernel
theorem dX10_init_283 : decode cX10_init 283 = .ok (.bipush 40, 2) := by decide +kernel
theorem dX10_init_285 : decode cX10_init 285 = .ok (.sipush 4680, 3) := by decide +kernel
theorem dX10_init_288 : decode cX10_init 288 = .ok (.iastore, 1) := by decide +kernel
theorem dX10_init_289 : decode cX10_init 289 = .ok (.dup, 1) := by decide +kernel
theorem dX10_init_290 : decode cX10_init 290 = .ok (.bipush 41, 2) := by decide +kernel
theorem dX10_init_292 : decode cX10_init 292 = .ok (.sipush 8264, 3) := by decide +kernel
theorem dX10_init_295 : decode cX10_init 295 = .ok (.iastore, 1) := by decide +kernel
theorem dX10_init_296 : decode cX10_init 296 = .ok (.dup, 1) := by decide +kernel
theorem dX10_init_297 : decode cX10_init 297 = .ok (.bipush 42, 2) := by decide +kernel
theorem dX10_init_299 : decode cX10_init 299 = .ok (.sipush 9288, 3) := by decide +kernel
theorem dX10_init_302 : decode cX10_init 302 = .ok (.iastore, 1) := by decide +kernel
theorem dX10_init_303 : decode cX10_init 303 = .ok (.dup, 1) := by decide +kernel
theorem dX10_init_304 : decode cX10_init 304 = .ok (.bipush 43, 2) := by decide +kernel
theorem dX10_init_306 : decode cX10_init 306 = .ok (.sipush 8776, 3) := by decide +kernel
theorem dX10_init_309 : decode cX10_init 309 = .ok (.iastore, 1) := by decide +kernel
theorem dX10_init_310 : decode cX10_init 310 = .ok (.dup, 1) := by decide +kernel
theorem dX10_init_311 : decode cX10_init 311 = .ok (.bipush 44, 2) := by decide +kernel
theorem dX10_init_313 : decode cX10_init 313 = .ok (.sipush 4168, 3) := by decide +kernel
theorem dX10_init_316 : decode cX10_init 316 = .ok (.iastore, 1) := by decide +kernel
theorem dX10_init_317 : decode cX10_init 317 = .ok (.dup, 1) := by decide +kernel
theorem dX10_init_318 : decode cX10_init 318 = .ok (.bipush 45, 2) := by decide +kernel
theorem dX10_init_320 : decode cX10_init 320 = .ok (.bipush 72, 2) := by decide +kernel
theorem dX10_init_322 : decode cX10_init 322 = .ok (.iastore, 1) := by decide +kernel
theorem dX10_init_323 : decode cX10_init 323 = .ok (.dup, 1) := by decide +kernel
theorem dX10_init_324 : decode cX10_init 324 = .ok (.bipush 46, 2) := by decide +kernel
theorem dX10_init_326 : decode cX10_init 326 = .ok (.sipush 1096, 3) := by decide +kernel
theorem dX10_init_329 : decode cX10_init 329 = .ok (.iastore, 1) := by decide +kernel
theorem dX10_init_330 : decode cX10_init 330 = .ok (.dup, 1) := by decide +kernel
theorem dX10_init_331 : decode cX10_init 331 = .ok (.bipush 47, 2) := by decide +kernel
theorem dX10_init_333 : decode cX10_init 333 = .ok (.sipush 2120, 3) := by decide +kernel
theorem dX10_init_336 : decode cX10_init 336 = .ok (.iastore, 1) := by decide +kernel
theorem dX10_init_337 : decode cX10_init 337 = .ok (.dup, 1) := by decide +kernel
theorem dX10_init_338 : decode cX10_init 338 = .ok (.bipush 48, 2) := by decide +kernel
theorem dX10_init_340 : decode cX10_init 340 = .ok (.sipush 256, 3) := by decide +kernel
