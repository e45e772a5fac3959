/-! The tables keep to it: methods 210 to 293 -/
set_option maxRecDepth 100000 in
theorem zk_210 : zchk 210 zm_210 = true := by decide +kernel
set_option maxRecDepth 100000 in
theorem zk_211 : zchk 211 zm_211 = true := by decide +kernel
set_option maxRecDepth 100000 in
theorem zk_212 : zchk 212 zm_212 = true := by decide +kernel
set_option maxRecDepth 100000 in
theorem zk_213 : zchk 213 zm_213 = true := by decide +kernel
set_option maxRecDepth 100000 in
theorem zk_214 : zchk 214 zm_214 = true := by decide +kernel
set_option maxRecDepth 100000 in
theorem zk_215 : zchk 215 zm_215 = true := by decide +kernel
set_option maxRecDepth 100000 in
theorem zk_216 : zchk 216 zm_216 = true := by decide +kernel
set_option maxRecDepth 100000 in
theorem zk_217 : zchk 217 zm_217 = true := by decide +kernel
set_option maxRecDepth 100000 in
theorem zk_218 : zchk 218 zm_218 = true := by decide +kernel
set_option maxRecDepth 100000 in
theorem zk_219 : zchk 219 zm_219 = true := by decide +kernel
set_option maxRecDepth 100000 in
theorem zk_220 : zchk 220 zm_220 = true := by decide +kernel
set_option maxRecDepth 100000 in
theorem zk_221 : zchk 221 zm_221 = true := by decide +kernel
set_option maxRecDepth 100000 in
theorem zk_222 : zchk 222 zm_222 = true := by decide +kernel
set_option maxRecDepth 100000 in
theorem zk_223 : zchk 223 zm_223 = true := by decide +kernel
set_option maxRecDepth 100000 in
theorem zk_224 : zchk 224 zm_224 = true := by decide +kernel
set_option maxRecDepth 100000 in
theorem zk_225 : zchk 225 zm_225 = true := by decide +kernel
set_option maxRecDepth 100000 in
theorem zk_226 : zchk 226 zm_226 = true := by decide +kernel
set_option maxRecDepth 100000 in
theorem zk_227 : zchk 227 zm_227 = true := by decide +kernel
set_option maxRecDepth 100000 in
theorem zk_228 : zchk 228 zm_228 = true := by decide +kernel
set_option maxRecDepth 100000 in
theorem zk_229 : zchk 229 zm_229 = true := by decide +kernel
set_option maxRecDepth 100000 in
theorem zk_230 : zchk 230 zm_230 = true := by decide +kernel
set_option maxRecDepth 100000 in
theorem zk_231 : zchk 231 zm_231 = true := by decide +kernel
set_option maxRecDepth 100000 in
theorem zk_232 : zchk 232 zm_232 = true := by decide +kernel
set_option maxRecDepth 100000 in
theorem zk_233 : zchk 233 zm_233 = true := by decide +kernel
set_option maxRecDepth 100000 in
theorem zk_234 : zchk 234 zm_234 = true := by decide +kernel
set_option maxRecDepth 100000 in
theorem zk_235 : zchk 235 zm_235 = true := by decide +kernel
set_option maxRecDepth 100000 in
theorem zk_236 : zchk 236 zm_236 = true := by decide +kernel
set_option maxRecDepth 100000 in
theorem zk_237 : zchk 237 zm_237 = true := by decide +kernel
set_option maxRecDepth 100000 in
theorem zk_238 : zchk 238 zm_238 = true := by decide +kernel
set_option maxRecDepth 100000 in
theorem zk_239 : zchk 239 zm_239 = true := by decide +kernel
set_option maxRecDepth 100000 in
theorem zk_240 : zchk 240 zm_240 = true := by decide +kernel
set_option maxRecDepth 100000 in
theorem zk_241 : zchk 241 zm_241 = true := by decide +kernel
set_option maxRecDepth 100000 in
theorem zk_242 : zchk 242 zm_242 = true := by decide +kernel
set_option maxRecDepth 100000 in
theorem zk_243 : zchk 243 zm_243 = true := by decide +kernel
set_option maxRecDepth 100000 in
theorem zk_244 : zchk 244 zm_244 = true := by decide +kernel
set_option maxRecDepth 100000 in
theorem zk_245 : zchk 245 zm_245 = true := by decide +kernel
set_option maxRecDepth 100000 in
theorem zk_246 : zchk 246 zm_246 = true := by decide +kernel
set_option maxRecDepth 100000 in
theorem zk_247 : zchk 247 zm_247 = true := by decide +kernel
set_option maxRecDepth 100000 in
theorem zk_248 : zchk 248 zm_248 = true := by decide +kernel
set_option maxRecDepth 100000 in
theorem zk_249 : zchk 249 zm_249 = true := by decide +kernel
set_option maxRecDepth 100000 in
theorem zk_250 : zchk 250 zm_250 = true := by decide +kernel
set_option maxRecDepth 100000 in
theorem zk_251 : zchk 251 zm_251 = true := by decide +kernel
set_option maxRecDepth 100000 in
theorem zk_252 : zchk 252 zm_252 = true := by decide +kernel
set_option maxRecDepth 100000 in
theorem zk_253 : zchk 253 zm_253 = true := by decide +kernel
set_option maxRecDepth 100000 in
theorem zk_254 : zchk 254 zm_254 = true := by decide +kernel
set_option maxRecDepth 100000 in
theorem zk_255 : zchk 255 zm_255 = true := by decide +kernel
set_option maxRecDepth 100000 in
theorem zk_256 : zchk 256 zm_256 = true := by decide +kernel
set_option maxRecDepth 100000 in
theorem zk_257 : zchk 257 zm_257 = true := by decide +kernel
set_option maxRecDepth 100000 in
theorem zk_258 : zchk 258 zm_258 = true := by decide +kernel
set_option maxRecDepth 100000 in
theorem zk_259 : zchk 259 zm_259 = true := by decide +kernel
set_option maxRecDepth 100000 in
theorem zk_260 : zchk 260 zm_260 = true := by decide +kernel
set_option maxRecDepth 100000 in
theorem zk_261 : zchk 261 zm_261 = true := by decide +kernel
set_option maxRecDepth 100000 in
theorem zk_262 : zchk 262 zm_262 = true := by decide +kernel
set_option maxRecDepth 100000 in
theorem zk_263 : zchk 263 zm_263 = true := by decide +kernel
set_option maxRecDepth 100000 in
theorem zk_264 : zchk 264 zm_264 = true := by decide +kernel
set_option maxRecDepth 100000 in
theorem zk_265 : zchk 265 zm_265 = true := by decide +kernel
set_option maxRecDepth 100000 in
theorem zk_266 : zchk 266 zm_266 = true := by decide +kernel
set_option maxRecDepth 100000 in
theorem zk_267 : zchk 267 zm_267 = true := by decide +kernel
set_option maxRecDepth 100000 in
theorem zk_268 : zchk 268 zm_268 = true := by decide +kernel
set_option maxRecDepth 100000 in
theorem zk_269 : zchk 269 zm_269 = true := by decide +kernel
set_option maxRecDepth 100000 in
theorem zk_270 : zchk 270 zm_270 = true := by decide +kernel
set_option maxRecDepth 100000 in
theorem zk_271 : zchk 271 zm_271 = true := by decide +kernel
set_option maxRecDepth 100000 in
theorem zk_272 : zchk 272 zm_272 = true := by decide +kernel
set_option maxRecDepth 100000 in
theorem zk_273 : zchk 273 zm_273 = true := by decide +kernel
set_option maxRecDepth 100000 in
theorem zk_274 : zchk 274 zm_274 = true := by decide +kernel
set_option maxRecDepth 100000 in
theorem zk_275 : zchk 275 zm_275 = true := by decide +kernel
set_option maxRecDepth 100000 in
theorem zk_276 : zchk 276 zm_276 = true := by decide +kernel
set_option maxRecDepth 100000 in
theorem zk_277 : zchk 277 zm_277 = true := by decide +kernel
set_option maxRecDepth 100000 in
theorem zk_278 : zchk 278 zm_278 = true := by decide +kernel
set_option maxRecDepth 100000 in
theorem zk_279 : zchk 279 zm_279 = true := by decide +kernel
set_option maxRecDepth 100000 in
theorem zk_280 : zchk 280 zm_280 = true := by decide +kernel
set_option maxRecDepth 100000 in
theorem zk_281 : zchk 281 zm_281 = true := by decide +kernel
set_option maxRecDepth 100000 in
theorem zk_282 : zchk 282 zm_282 = true := by decide +kernel
set_option maxRecDepth 100000 in
theorem zk_283 : zchk 283 zm_283 = true := by decide +kernel
set_option maxRecDepth 100000 in
theorem zk_284 : zchk 284 zm_284 = true := by decide +kernel
set_option maxRecDepth 100000 in
theorem zk_285 : zchk 285 zm_285 = true := by decide +kernel
set_option maxRecDepth 100000 in
theorem zk_286 : zchk 286 zm_286 = true := by decide +kernel
set_option maxRecDepth 100000 in
theorem zk_287 : zchk 287 zm_287 = true := by decide +kernel
set_option maxRecDepth 100000 in
theorem zk_288 : zchk 288 zm_288 = true := by decide +kernel
set_option maxRecDepth 100000 in
theorem zk_289 : zchk 289 zm_289 = true := by decide +kernel
set_option maxRecDepth 100000 in
theorem zk_290 : zchk 290 zm_290 = true := by decide +kernel
