/-! THE CLAIM OUT OF ONE WALK OF THE LAW'S BODY. Your part is whole_start (and what it stands on); all else here is the same for every law, but numbers. -/
def R_law : String := "TablePackerLaw"
def lw_P (b : Addr) (xs : List Int32) (args : Array Value) (s : State) : Prop := args = #[.ref b] ∧ s.IntsAt b xs ∧ xs.length ≤ 2048 ∧ (Jvm.Cond.and given_1 narrow_1).before args s = true
def lw_Q (_ : Array Value) (s : State) (o : Outcome) (t : State) : Prop := o = .returned (some (.int 1)) ∧ Framed s o t [] 48 95340
def lw_Z (below : List Frame) (a : Array Value) (s : State) : State → Prop := fun t => ∃ o, t.status = .running ∧ Ended t below o ∧ lw_Q a s o t
/-- the law's own end, with 1 on the stack, nothing written that was there before, its room as the claim has it -/
theorem lw_ret {p : Program} {l : Launch} {e : Env} {s : State} {m : MethodId} {below : List Frame} {meth : Method} {c : Code} {b : Nat} (hx : p.tables.exec = Jvm.exec) (hb : c.code = code) (hr : meth.sig.returnType = ret) (hlocks : meth.locks = false) {pc : Nat} {H : Heap} {ls : Array Slot} (hdg : decode code pc = .ok (.ireturn, 1)) : W p l e room_1 s m #[Value.ref b] below meth c H [] 48 95340 (lw_Z below #[Value.ref b] s) (F0 m pc ls [.int 1]) := by
  intro T hT X
  obtain ⟨fs, hret, hrun, hended, hW, hframe⟩ := X.leave (v := some (.int 1)) (hlocks := hlocks) (fun h => by rw [hr] at h; cases h)
  have hmeth' : T.vm.method? m = some meth := X.method'
  refine ⟨T.setFrames fs, ?_, .returned (some (.int 1)), hrun, hended, rfl, ⟨_, rfl⟩, hW, hframe⟩
  jvm_step X.here [X.here.top, hx, hb, hdg, hmeth', hr, ret, narrow_b1]
  (try refine ⟨rfl, ?_⟩); (try refine ⟨rfl, ?_⟩)
  first | (intro acts; rw [hret _ acts rfl rfl rfl]) | rw [hret _ _ rfl rfl rfl]
  exact Steps.refl _
/-- what holds at the law's entry: the machine, the code, the tables' words (any of lw_tbl by 'hts w (by decide +kernel)'), the script of L ints xs at the cell b, what the Statement gives of the start (any of its parts by flat_of_before) -/
def lw_At (p : Program) (s : State) (m : MethodId) (meth : Method) (c : Code) (b L : Nat) (xs : Nat → Int32) : Prop :=
  p.tables.exec = Jvm.exec ∧ c.code = code ∧ meth.sig.returnType = ret ∧ c.maxLocals = 4 ∧ s.vm.findClass R_law = some m.cls ∧ (∀ w ∈ lw_tbl, w.before #[Value.ref b] s = true) ∧ va_X b L xs s s.heap ∧ b < s.heap.size ∧ meth.locks = false ∧ (Jvm.Cond.and given_1 narrow_1).before #[Value.ref b] s = true
theorem dL_0 : decode code 0 = .ok (.new 7, 3) := by decide +kernel
theorem dL_3 : decode code 3 = .ok (.dup, 1) := by decide +kernel
theorem dL_4 : decode code 4 = .ok (.invokespecial 9, 3) := by decide +kernel
theorem dL_7 : decode code 7 = .ok (.astore_n 1, 1) := by decide +kernel
theorem dL_8 : decode code 8 = .ok (.new 10, 3) := by decide +kernel
theorem dL_11 : decode code 11 = .ok (.dup, 1) := by decide +kernel
theorem dL_12 : decode code 12 = .ok (.invokespecial 12, 3) := by decide +kernel
theorem dL_15 : decode code 15 = .ok (.astore_n 2, 1) := by decide +kernel
theorem dL_16 : decode code 16 = .ok (.iconst (.ofNat 0), 1) := by decide +kernel
theorem dL_17 : decode code 17 = .ok (.istore_n 3, 1) := by decide +kernel
theorem dL_18 : decode code 18 = .ok (.iload_n 3, 1) := by decide +kernel
theorem dL_19 : decode code 19 = .ok (.aload_n 0, 1) := by decide +kernel
theorem dL_20 : decode code 20 = .ok (.arraylength, 1) := by decide +kernel
theorem dL_21 : decode code 21 = .ok (.iconst (.ofNat 4), 1) := by decide +kernel
theorem dL_22 : decode code 22 = .ok (.isub, 1) := by decide +kernel
theorem dL_23 : decode code 23 = .ok (.if_icmp .gt (.ofNat 510), 3) := by decide +kernel
theorem dL_26 : decode code 26 = .ok (.aload_n 0, 1) := by decide +kernel
theorem dL_27 : decode code 27 = .ok (.iload_n 3, 1) := by decide +kernel
theorem dL_28 : decode code 28 = .ok (.iaload, 1) := by decide +kernel
theorem dL_29 : decode code 29 = .ok (.bipush (.ofNat 31), 2) := by decide +kernel
theorem dL_31 : decode code 31 = .ok (.iand, 1) := by decide +kernel
theorem dL_32 : decode code 32 = .ok (.tableswitch (.ofNat 495) (.ofNat 0) (.ofNat 16) #[.ofNat 84, .ofNat 107, .ofNat 130, .ofNat 143, .ofNat 156, .ofNat 179, .ofNat 192, .ofNat 215, .ofNat 238, .ofNat 271, .ofNat 314, .ofNat 347, .ofNat 380, .ofNat 413, .ofNat 436, .ofNat 459, .ofNat 482], 84) := by decide +kernel
theorem dL_116 : decode code 116 = .ok (.aload_n 1, 1) := by decide +kernel
theorem dL_117 : decode code 117 = .ok (.aload_n 0, 1) := by decide +kernel
theorem dL_118 : decode code 118 = .ok (.iload_n 3, 1) := by decide +kernel
theorem dL_119 : decode code 119 = .ok (.iconst (.ofNat 1), 1) := by decide +kernel
theorem dL_120 : decode code 120 = .ok (.iadd, 1) := by decide +kernel
theorem dL_121 : decode code 121 = .ok (.iaload, 1) := by decide +kernel
theorem dL_122 : decode code 122 = .ok (.invokevirtual 13, 3) := by decide +kernel
theorem dL_125 : decode code 125 = .ok (.aload_n 2, 1) := by decide +kernel
theorem dL_126 : decode code 126 = .ok (.aload_n 0, 1) := by decide +kernel
theorem dL_127 : decode code 127 = .ok (.iload_n 3, 1) := by decide +kernel
theorem dL_128 : decode code 128 = .ok (.iconst (.ofNat 1), 1) := by decide +kernel
theorem dL_129 : decode code 129 = .ok (.iadd, 1) := by decide +kernel
theorem dL_130 : decode code 130 = .ok (.iaload, 1) := by decide +kernel
theorem dL_131 : decode code 131 = .ok (.invokevirtual 17, 3) := by decide +kernel
theorem dL_134 : decode code 134 = .ok (.if_icmp .eq (.ofNat 393), 3) := by decide +kernel
theorem dL_137 : decode code 137 = .ok (.iconst (.ofNat 0), 1) := by decide +kernel
theorem dL_138 : decode code 138 = .ok (.ireturn, 1) := by decide +kernel
theorem dL_139 : decode code 139 = .ok (.aload_n 1, 1) := by decide +kernel
theorem dL_140 : decode code 140 = .ok (.aload_n 0, 1) := by decide +kernel
theorem dL_141 : decode code 141 = .ok (.iload_n 3, 1) := by decide +kernel
theorem dL_142 : decode code 142 = .ok (.iconst (.ofNat 1), 1) := by decide +kernel
theorem dL_143 : decode code 143 = .ok (.iadd, 1) := by decide +kernel
theorem dL_144 : decode code 144 = .ok (.iaload, 1) := by decide +kernel
theorem dL_145 : decode code 145 = .ok (.invokevirtual 18, 3) := by decide +kernel
theorem dL_148 : decode code 148 = .ok (.aload_n 2, 1) := by decide +kernel
theorem dL_149 : decode code 149 = .ok (.aload_n 0, 1) := by decide +kernel
theorem dL_150 : decode code 150 = .ok (.iload_n 3, 1) := by decide +kernel
theorem dL_151 : decode code 151 = .ok (.iconst (.ofNat 1), 1) := by decide +kernel
theorem dL_152 : decode code 152 = .ok (.iadd, 1) := by decide +kernel
theorem dL_153 : decode code 153 = .ok (.iaload, 1) := by decide +kernel
theorem dL_154 : decode code 154 = .ok (.invokevirtual 21, 3) := by decide +kernel
theorem dL_157 : decode code 157 = .ok (.if_icmp .eq (.ofNat 370), 3) := by decide +kernel
theorem dL_160 : decode code 160 = .ok (.iconst (.ofNat 0), 1) := by decide +kernel
theorem dL_161 : decode code 161 = .ok (.ireturn, 1) := by decide +kernel
theorem dL_162 : decode code 162 = .ok (.aload_n 1, 1) := by decide +kernel
theorem dL_163 : decode code 163 = .ok (.invokevirtual 22, 3) := by decide +kernel
theorem dL_166 : decode code 166 = .ok (.aload_n 2, 1) := by decide +kernel
theorem dL_167 : decode code 167 = .ok (.invokevirtual 26, 3) := by decide +kernel
theorem dL_170 : decode code 170 = .ok (.if_icmp .eq (.ofNat 357), 3) := by decide +kernel
theorem dL_173 : decode code 173 = .ok (.iconst (.ofNat 0), 1) := by decide +kernel
theorem dL_174 : decode code 174 = .ok (.ireturn, 1) := by decide +kernel
theorem dL_175 : decode code 175 = .ok (.aload_n 1, 1) := by decide +kernel
theorem dL_176 : decode code 176 = .ok (.invokevirtual 27, 3) := by decide +kernel
theorem dL_179 : decode code 179 = .ok (.aload_n 2, 1) := by decide +kernel
theorem dL_180 : decode code 180 = .ok (.invokevirtual 30, 3) := by decide +kernel
theorem dL_183 : decode code 183 = .ok (.if_icmp .eq (.ofNat 344), 3) := by decide +kernel
theorem dL_186 : decode code 186 = .ok (.iconst (.ofNat 0), 1) := by decide +kernel
theorem dL_187 : decode code 187 = .ok (.ireturn, 1) := by decide +kernel
theorem dL_188 : decode code 188 = .ok (.aload_n 1, 1) := by decide +kernel
theorem dL_189 : decode code 189 = .ok (.aload_n 0, 1) := by decide +kernel
theorem dL_190 : decode code 190 = .ok (.iload_n 3, 1) := by decide +kernel
theorem dL_191 : decode code 191 = .ok (.iconst (.ofNat 1), 1) := by decide +kernel
theorem dL_192 : decode code 192 = .ok (.iadd, 1) := by decide +kernel
theorem dL_193 : decode code 193 = .ok (.iaload, 1) := by decide +kernel
theorem dL_194 : decode code 194 = .ok (.invokevirtual 31, 3) := by decide +kernel
theorem dL_197 : decode code 197 = .ok (.aload_n 2, 1) := by decide +kernel
theorem dL_198 : decode code 198 = .ok (.aload_n 0, 1) := by decide +kernel
theorem dL_199 : decode code 199 = .ok (.iload_n 3, 1) := by decide +kernel
theorem dL_200 : decode code 200 = .ok (.iconst (.ofNat 1), 1) := by decide +kernel
theorem dL_201 : decode code 201 = .ok (.iadd, 1) := by decide +kernel
theorem dL_202 : decode code 202 = .ok (.iaload, 1) := by decide +kernel
theorem dL_203 : decode code 203 = .ok (.invokevirtual 34, 3) := by decide +kernel
theorem dL_206 : decode code 206 = .ok (.if_icmp .eq (.ofNat 321), 3) := by decide +kernel
theorem dL_209 : decode code 209 = .ok (.iconst (.ofNat 0), 1) := by decide +kernel
theorem dL_210 : decode code 210 = .ok (.ireturn, 1) := by decide +kernel
theorem dL_211 : decode code 211 = .ok (.aload_n 1, 1) := by decide +kernel
theorem dL_212 : decode code 212 = .ok (.invokevirtual 35, 3) := by decide +kernel
theorem dL_215 : decode code 215 = .ok (.aload_n 2, 1) := by decide +kernel
theorem dL_216 : decode code 216 = .ok (.invokevirtual 38, 3) := by decide +kernel
theorem dL_219 : decode code 219 = .ok (.if_icmp .eq (.ofNat 308), 3) := by decide +kernel
theorem dL_222 : decode code 222 = .ok (.iconst (.ofNat 0), 1) := by decide +kernel
theorem dL_223 : decode code 223 = .ok (.ireturn, 1) := by decide +kernel
theorem dL_224 : decode code 224 = .ok (.aload_n 1, 1) := by decide +kernel
theorem dL_225 : decode code 225 = .ok (.aload_n 0, 1) := by decide +kernel
theorem dL_226 : decode code 226 = .ok (.iload_n 3, 1) := by decide +kernel
theorem dL_227 : decode code 227 = .ok (.iconst (.ofNat 1), 1) := by decide +kernel
theorem dL_228 : decode code 228 = .ok (.iadd, 1) := by decide +kernel
theorem dL_229 : decode code 229 = .ok (.iaload, 1) := by decide +kernel
theorem dL_230 : decode code 230 = .ok (.invokevirtual 39, 3) := by decide +kernel
theorem dL_233 : decode code 233 = .ok (.aload_n 2, 1) := by decide +kernel
theorem dL_234 : decode code 234 = .ok (.aload_n 0, 1) := by decide +kernel
theorem dL_235 : decode code 235 = .ok (.iload_n 3, 1) := by decide +kernel
theorem dL_236 : decode code 236 = .ok (.iconst (.ofNat 1), 1) := by decide +kernel
theorem dL_237 : decode code 237 = .ok (.iadd, 1) := by decide +kernel
theorem dL_238 : decode code 238 = .ok (.iaload, 1) := by decide +kernel
theorem dL_239 : decode code 239 = .ok (.invokevirtual 42, 3) := by decide +kernel
theorem dL_242 : decode code 242 = .ok (.if_icmp .eq (.ofNat 285), 3) := by decide +kernel
theorem dL_245 : decode code 245 = .ok (.iconst (.ofNat 0), 1) := by decide +kernel
theorem dL_246 : decode code 246 = .ok (.ireturn, 1) := by decide +kernel
theorem dL_247 : decode code 247 = .ok (.aload_n 1, 1) := by decide +kernel
theorem dL_248 : decode code 248 = .ok (.aload_n 0, 1) := by decide +kernel
theorem dL_249 : decode code 249 = .ok (.iload_n 3, 1) := by decide +kernel
theorem dL_250 : decode code 250 = .ok (.iconst (.ofNat 1), 1) := by decide +kernel
theorem dL_251 : decode code 251 = .ok (.iadd, 1) := by decide +kernel
theorem dL_252 : decode code 252 = .ok (.iaload, 1) := by decide +kernel
theorem dL_253 : decode code 253 = .ok (.invokevirtual 43, 3) := by decide +kernel
theorem dL_256 : decode code 256 = .ok (.aload_n 2, 1) := by decide +kernel
theorem dL_257 : decode code 257 = .ok (.aload_n 0, 1) := by decide +kernel
theorem dL_258 : decode code 258 = .ok (.iload_n 3, 1) := by decide +kernel
theorem dL_259 : decode code 259 = .ok (.iconst (.ofNat 1), 1) := by decide +kernel
theorem dL_260 : decode code 260 = .ok (.iadd, 1) := by decide +kernel
theorem dL_261 : decode code 261 = .ok (.iaload, 1) := by decide +kernel
theorem dL_262 : decode code 262 = .ok (.invokevirtual 46, 3) := by decide +kernel
theorem dL_265 : decode code 265 = .ok (.if_icmp .eq (.ofNat 262), 3) := by decide +kernel
theorem dL_268 : decode code 268 = .ok (.iconst (.ofNat 0), 1) := by decide +kernel
theorem dL_269 : decode code 269 = .ok (.ireturn, 1) := by decide +kernel
theorem dL_270 : decode code 270 = .ok (.aload_n 1, 1) := by decide +kernel
theorem dL_271 : decode code 271 = .ok (.aload_n 0, 1) := by decide +kernel
theorem dL_272 : decode code 272 = .ok (.iload_n 3, 1) := by decide +kernel
theorem dL_273 : decode code 273 = .ok (.iconst (.ofNat 1), 1) := by decide +kernel
theorem dL_274 : decode code 274 = .ok (.iadd, 1) := by decide +kernel
theorem dL_275 : decode code 275 = .ok (.iaload, 1) := by decide +kernel
theorem dL_276 : decode code 276 = .ok (.aload_n 0, 1) := by decide +kernel
theorem dL_277 : decode code 277 = .ok (.iload_n 3, 1) := by decide +kernel
theorem dL_278 : decode code 278 = .ok (.iconst (.ofNat 2), 1) := by decide +kernel
theorem dL_279 : decode code 279 = .ok (.iadd, 1) := by decide +kernel
theorem dL_280 : decode code 280 = .ok (.iaload, 1) := by decide +kernel
theorem dL_281 : decode code 281 = .ok (.invokevirtual 47, 3) := by decide +kernel
theorem dL_284 : decode code 284 = .ok (.aload_n 2, 1) := by decide +kernel
theorem dL_285 : decode code 285 = .ok (.aload_n 0, 1) := by decide +kernel
theorem dL_286 : decode code 286 = .ok (.iload_n 3, 1) := by decide +kernel
theorem dL_287 : decode code 287 = .ok (.iconst (.ofNat 1), 1) := by decide +kernel
theorem dL_288 : decode code 288 = .ok (.iadd, 1) := by decide +kernel
theorem dL_289 : decode code 289 = .ok (.iaload, 1) := by decide +kernel
theorem dL_290 : decode code 290 = .ok (.aload_n 0, 1) := by decide +kernel
theorem dL_291 : decode code 291 = .ok (.iload_n 3, 1) := by decide +kernel
theorem dL_292 : decode code 292 = .ok (.iconst (.ofNat 2), 1) := by decide +kernel
theorem dL_293 : decode code 293 = .ok (.iadd, 1) := by decide +kernel
theorem dL_294 : decode code 294 = .ok (.iaload, 1) := by decide +kernel
theorem dL_295 : decode code 295 = .ok (.invokevirtual 51, 3) := by decide +kernel
theorem dL_298 : decode code 298 = .ok (.if_icmp .eq (.ofNat 229), 3) := by decide +kernel
theorem dL_301 : decode code 301 = .ok (.iconst (.ofNat 0), 1) := by decide +kernel
theorem dL_302 : decode code 302 = .ok (.ireturn, 1) := by decide +kernel
theorem dL_303 : decode code 303 = .ok (.aload_n 1, 1) := by decide +kernel
theorem dL_304 : decode code 304 = .ok (.aload_n 0, 1) := by decide +kernel
theorem dL_305 : decode code 305 = .ok (.iload_n 3, 1) := by decide +kernel
theorem dL_306 : decode code 306 = .ok (.iconst (.ofNat 1), 1) := by decide +kernel
theorem dL_307 : decode code 307 = .ok (.iadd, 1) := by decide +kernel
theorem dL_308 : decode code 308 = .ok (.iaload, 1) := by decide +kernel
theorem dL_309 : decode code 309 = .ok (.aload_n 0, 1) := by decide +kernel
theorem dL_310 : decode code 310 = .ok (.iload_n 3, 1) := by decide +kernel
theorem dL_311 : decode code 311 = .ok (.iconst (.ofNat 2), 1) := by decide +kernel
theorem dL_312 : decode code 312 = .ok (.iadd, 1) := by decide +kernel
theorem dL_313 : decode code 313 = .ok (.iaload, 1) := by decide +kernel
theorem dL_314 : decode code 314 = .ok (.aload_n 0, 1) := by decide +kernel
theorem dL_315 : decode code 315 = .ok (.iload_n 3, 1) := by decide +kernel
theorem dL_316 : decode code 316 = .ok (.iconst (.ofNat 3), 1) := by decide +kernel
theorem dL_317 : decode code 317 = .ok (.iadd, 1) := by decide +kernel
theorem dL_318 : decode code 318 = .ok (.iaload, 1) := by decide +kernel
theorem dL_319 : decode code 319 = .ok (.invokevirtual 52, 3) := by decide +kernel
theorem dL_322 : decode code 322 = .ok (.aload_n 2, 1) := by decide +kernel
theorem dL_323 : decode code 323 = .ok (.aload_n 0, 1) := by decide +kernel
theorem dL_324 : decode code 324 = .ok (.iload_n 3, 1) := by decide +kernel
theorem dL_325 : decode code 325 = .ok (.iconst (.ofNat 1), 1) := by decide +kernel
theorem dL_326 : decode code 326 = .ok (.iadd, 1) := by decide +kernel
theorem dL_327 : decode code 327 = .ok (.iaload, 1) := by decide +kernel
theorem dL_328 : decode code 328 = .ok (.aload_n 0, 1) := by decide +kernel
theorem dL_329 : decode code 329 = .ok (.iload_n 3, 1) := by decide +kernel
theorem dL_330 : decode code 330 = .ok (.iconst (.ofNat 2), 1) := by decide +kernel
theorem dL_331 : decode code 331 = .ok (.iadd, 1) := by decide +kernel
theorem dL_332 : decode code 332 = .ok (.iaload, 1) := by decide +kernel
theorem dL_333 : decode code 333 = .ok (.aload_n 0, 1) := by decide +kernel
theorem dL_334 : decode code 334 = .ok (.iload_n 3, 1) := by decide +kernel
theorem dL_335 : decode code 335 = .ok (.iconst (.ofNat 3), 1) := by decide +kernel
theorem dL_336 : decode code 336 = .ok (.iadd, 1) := by decide +kernel
theorem dL_337 : decode code 337 = .ok (.iaload, 1) := by decide +kernel
theorem dL_338 : decode code 338 = .ok (.invokevirtual 56, 3) := by decide +kernel
theorem dL_341 : decode code 341 = .ok (.if_icmp .eq (.ofNat 186), 3) := by decide +kernel
theorem dL_344 : decode code 344 = .ok (.iconst (.ofNat 0), 1) := by decide +kernel
theorem dL_345 : decode code 345 = .ok (.ireturn, 1) := by decide +kernel
theorem dL_346 : decode code 346 = .ok (.aload_n 1, 1) := by decide +kernel
theorem dL_347 : decode code 347 = .ok (.aload_n 0, 1) := by decide +kernel
theorem dL_348 : decode code 348 = .ok (.iload_n 3, 1) := by decide +kernel
theorem dL_349 : decode code 349 = .ok (.iconst (.ofNat 1), 1) := by decide +kernel
theorem dL_350 : decode code 350 = .ok (.iadd, 1) := by decide +kernel
theorem dL_351 : decode code 351 = .ok (.iaload, 1) := by decide +kernel
theorem dL_352 : decode code 352 = .ok (.aload_n 0, 1) := by decide +kernel
theorem dL_353 : decode code 353 = .ok (.iload_n 3, 1) := by decide +kernel
theorem dL_354 : decode code 354 = .ok (.iconst (.ofNat 2), 1) := by decide +kernel
theorem dL_355 : decode code 355 = .ok (.iadd, 1) := by decide +kernel
theorem dL_356 : decode code 356 = .ok (.iaload, 1) := by decide +kernel
theorem dL_357 : decode code 357 = .ok (.invokevirtual 57, 3) := by decide +kernel
theorem dL_360 : decode code 360 = .ok (.aload_n 2, 1) := by decide +kernel
theorem dL_361 : decode code 361 = .ok (.aload_n 0, 1) := by decide +kernel
theorem dL_362 : decode code 362 = .ok (.iload_n 3, 1) := by decide +kernel
theorem dL_363 : decode code 363 = .ok (.iconst (.ofNat 1), 1) := by decide +kernel
theorem dL_364 : decode code 364 = .ok (.iadd, 1) := by decide +kernel
theorem dL_365 : decode code 365 = .ok (.iaload, 1) := by decide +kernel
theorem dL_366 : decode code 366 = .ok (.aload_n 0, 1) := by decide +kernel
theorem dL_367 : decode code 367 = .ok (.iload_n 3, 1) := by decide +kernel
theorem dL_368 : decode code 368 = .ok (.iconst (.ofNat 2), 1) := by decide +kernel
theorem dL_369 : decode code 369 = .ok (.iadd, 1) := by decide +kernel
theorem dL_370 : decode code 370 = .ok (.iaload, 1) := by decide +kernel
theorem dL_371 : decode code 371 = .ok (.invokevirtual 60, 3) := by decide +kernel
theorem dL_374 : decode code 374 = .ok (.if_icmp .eq (.ofNat 153), 3) := by decide +kernel
theorem dL_377 : decode code 377 = .ok (.iconst (.ofNat 0), 1) := by decide +kernel
theorem dL_378 : decode code 378 = .ok (.ireturn, 1) := by decide +kernel
theorem dL_379 : decode code 379 = .ok (.aload_n 1, 1) := by decide +kernel
theorem dL_380 : decode code 380 = .ok (.aload_n 0, 1) := by decide +kernel
theorem dL_381 : decode code 381 = .ok (.iload_n 3, 1) := by decide +kernel
theorem dL_382 : decode code 382 = .ok (.iconst (.ofNat 1), 1) := by decide +kernel
theorem dL_383 : decode code 383 = .ok (.iadd, 1) := by decide +kernel
theorem dL_384 : decode code 384 = .ok (.iaload, 1) := by decide +kernel
theorem dL_385 : decode code 385 = .ok (.aload_n 0, 1) := by decide +kernel
theorem dL_386 : decode code 386 = .ok (.iload_n 3, 1) := by decide +kernel
theorem dL_387 : decode code 387 = .ok (.iconst (.ofNat 2), 1) := by decide +kernel
theorem dL_388 : decode code 388 = .ok (.iadd, 1) := by decide +kernel
theorem dL_389 : decode code 389 = .ok (.iaload, 1) := by decide +kernel
theorem dL_390 : decode code 390 = .ok (.invokevirtual 61, 3) := by decide +kernel
theorem dL_393 : decode code 393 = .ok (.aload_n 2, 1) := by decide +kernel
theorem dL_394 : decode code 394 = .ok (.aload_n 0, 1) := by decide +kernel
theorem dL_395 : decode code 395 = .ok (.iload_n 3, 1) := by decide +kernel
theorem dL_396 : decode code 396 = .ok (.iconst (.ofNat 1), 1) := by decide +kernel
theorem dL_397 : decode code 397 = .ok (.iadd, 1) := by decide +kernel
theorem dL_398 : decode code 398 = .ok (.iaload, 1) := by decide +kernel
theorem dL_399 : decode code 399 = .ok (.aload_n 0, 1) := by decide +kernel
theorem dL_400 : decode code 400 = .ok (.iload_n 3, 1) := by decide +kernel
theorem dL_401 : decode code 401 = .ok (.iconst (.ofNat 2), 1) := by decide +kernel
theorem dL_402 : decode code 402 = .ok (.iadd, 1) := by decide +kernel
theorem dL_403 : decode code 403 = .ok (.iaload, 1) := by decide +kernel
theorem dL_404 : decode code 404 = .ok (.invokevirtual 64, 3) := by decide +kernel
theorem dL_407 : decode code 407 = .ok (.if_icmp .eq (.ofNat 120), 3) := by decide +kernel
theorem dL_410 : decode code 410 = .ok (.iconst (.ofNat 0), 1) := by decide +kernel
theorem dL_411 : decode code 411 = .ok (.ireturn, 1) := by decide +kernel
theorem dL_412 : decode code 412 = .ok (.aload_n 1, 1) := by decide +kernel
theorem dL_413 : decode code 413 = .ok (.aload_n 0, 1) := by decide +kernel
theorem dL_414 : decode code 414 = .ok (.iload_n 3, 1) := by decide +kernel
theorem dL_415 : decode code 415 = .ok (.iconst (.ofNat 1), 1) := by decide +kernel
theorem dL_416 : decode code 416 = .ok (.iadd, 1) := by decide +kernel
theorem dL_417 : decode code 417 = .ok (.iaload, 1) := by decide +kernel
theorem dL_418 : decode code 418 = .ok (.aload_n 0, 1) := by decide +kernel
theorem dL_419 : decode code 419 = .ok (.iload_n 3, 1) := by decide +kernel
theorem dL_420 : decode code 420 = .ok (.iconst (.ofNat 2), 1) := by decide +kernel
theorem dL_421 : decode code 421 = .ok (.iadd, 1) := by decide +kernel
theorem dL_422 : decode code 422 = .ok (.iaload, 1) := by decide +kernel
theorem dL_423 : decode code 423 = .ok (.invokevirtual 65, 3) := by decide +kernel
theorem dL_426 : decode code 426 = .ok (.aload_n 2, 1) := by decide +kernel
theorem dL_427 : decode code 427 = .ok (.aload_n 0, 1) := by decide +kernel
theorem dL_428 : decode code 428 = .ok (.iload_n 3, 1) := by decide +kernel
theorem dL_429 : decode code 429 = .ok (.iconst (.ofNat 1), 1) := by decide +kernel
theorem dL_430 : decode code 430 = .ok (.iadd, 1) := by decide +kernel
theorem dL_431 : decode code 431 = .ok (.iaload, 1) := by decide +kernel
theorem dL_432 : decode code 432 = .ok (.aload_n 0, 1) := by decide +kernel
theorem dL_433 : decode code 433 = .ok (.iload_n 3, 1) := by decide +kernel
theorem dL_434 : decode code 434 = .ok (.iconst (.ofNat 2), 1) := by decide +kernel
theorem dL_435 : decode code 435 = .ok (.iadd, 1) := by decide +kernel
theorem dL_436 : decode code 436 = .ok (.iaload, 1) := by decide +kernel
theorem dL_437 : decode code 437 = .ok (.invokevirtual 68, 3) := by decide +kernel
theorem dL_440 : decode code 440 = .ok (.if_icmp .eq (.ofNat 87), 3) := by decide +kernel
theorem dL_443 : decode code 443 = .ok (.iconst (.ofNat 0), 1) := by decide +kernel
theorem dL_444 : decode code 444 = .ok (.ireturn, 1) := by decide +kernel
theorem dL_445 : decode code 445 = .ok (.aload_n 1, 1) := by decide +kernel
theorem dL_446 : decode code 446 = .ok (.aload_n 0, 1) := by decide +kernel
theorem dL_447 : decode code 447 = .ok (.iload_n 3, 1) := by decide +kernel
theorem dL_448 : decode code 448 = .ok (.iconst (.ofNat 1), 1) := by decide +kernel
theorem dL_449 : decode code 449 = .ok (.iadd, 1) := by decide +kernel
theorem dL_450 : decode code 450 = .ok (.iaload, 1) := by decide +kernel
theorem dL_451 : decode code 451 = .ok (.invokevirtual 69, 3) := by decide +kernel
theorem dL_454 : decode code 454 = .ok (.aload_n 2, 1) := by decide +kernel
theorem dL_455 : decode code 455 = .ok (.aload_n 0, 1) := by decide +kernel
theorem dL_456 : decode code 456 = .ok (.iload_n 3, 1) := by decide +kernel
theorem dL_457 : decode code 457 = .ok (.iconst (.ofNat 1), 1) := by decide +kernel
theorem dL_458 : decode code 458 = .ok (.iadd, 1) := by decide +kernel
theorem dL_459 : decode code 459 = .ok (.iaload, 1) := by decide +kernel
theorem dL_460 : decode code 460 = .ok (.invokevirtual 72, 3) := by decide +kernel
theorem dL_463 : decode code 463 = .ok (.if_icmp .eq (.ofNat 64), 3) := by decide +kernel
theorem dL_466 : decode code 466 = .ok (.iconst (.ofNat 0), 1) := by decide +kernel
theorem dL_467 : decode code 467 = .ok (.ireturn, 1) := by decide +kernel
theorem dL_468 : decode code 468 = .ok (.aload_n 1, 1) := by decide +kernel
theorem dL_469 : decode code 469 = .ok (.aload_n 0, 1) := by decide +kernel
theorem dL_470 : decode code 470 = .ok (.iload_n 3, 1) := by decide +kernel
theorem dL_471 : decode code 471 = .ok (.iconst (.ofNat 1), 1) := by decide +kernel
theorem dL_472 : decode code 472 = .ok (.iadd, 1) := by decide +kernel
theorem dL_473 : decode code 473 = .ok (.iaload, 1) := by decide +kernel
theorem dL_474 : decode code 474 = .ok (.invokevirtual 73, 3) := by decide +kernel
theorem dL_477 : decode code 477 = .ok (.aload_n 2, 1) := by decide +kernel
theorem dL_478 : decode code 478 = .ok (.aload_n 0, 1) := by decide +kernel
theorem dL_479 : decode code 479 = .ok (.iload_n 3, 1) := by decide +kernel
theorem dL_480 : decode code 480 = .ok (.iconst (.ofNat 1), 1) := by decide +kernel
theorem dL_481 : decode code 481 = .ok (.iadd, 1) := by decide +kernel
theorem dL_482 : decode code 482 = .ok (.iaload, 1) := by decide +kernel
theorem dL_483 : decode code 483 = .ok (.invokevirtual 76, 3) := by decide +kernel
theorem dL_486 : decode code 486 = .ok (.if_icmp .eq (.ofNat 41), 3) := by decide +kernel
theorem dL_489 : decode code 489 = .ok (.iconst (.ofNat 0), 1) := by decide +kernel
theorem dL_490 : decode code 490 = .ok (.ireturn, 1) := by decide +kernel
theorem dL_491 : decode code 491 = .ok (.aload_n 1, 1) := by decide +kernel
theorem dL_492 : decode code 492 = .ok (.aload_n 0, 1) := by decide +kernel
theorem dL_493 : decode code 493 = .ok (.iload_n 3, 1) := by decide +kernel
theorem dL_494 : decode code 494 = .ok (.iconst (.ofNat 1), 1) := by decide +kernel
theorem dL_495 : decode code 495 = .ok (.iadd, 1) := by decide +kernel
theorem dL_496 : decode code 496 = .ok (.iaload, 1) := by decide +kernel
theorem dL_497 : decode code 497 = .ok (.invokevirtual 77, 3) := by decide +kernel
theorem dL_500 : decode code 500 = .ok (.aload_n 2, 1) := by decide +kernel
theorem dL_501 : decode code 501 = .ok (.aload_n 0, 1) := by decide +kernel
theorem dL_502 : decode code 502 = .ok (.iload_n 3, 1) := by decide +kernel
theorem dL_503 : decode code 503 = .ok (.iconst (.ofNat 1), 1) := by decide +kernel
theorem dL_504 : decode code 504 = .ok (.iadd, 1) := by decide +kernel
theorem dL_505 : decode code 505 = .ok (.iaload, 1) := by decide +kernel
theorem dL_506 : decode code 506 = .ok (.invokevirtual 80, 3) := by decide +kernel
theorem dL_509 : decode code 509 = .ok (.if_icmp .eq (.ofNat 18), 3) := by decide +kernel
theorem dL_512 : decode code 512 = .ok (.iconst (.ofNat 0), 1) := by decide +kernel
theorem dL_513 : decode code 513 = .ok (.ireturn, 1) := by decide +kernel
theorem dL_514 : decode code 514 = .ok (.aload_n 1, 1) := by decide +kernel
theorem dL_515 : decode code 515 = .ok (.invokevirtual 81, 3) := by decide +kernel
theorem dL_518 : decode code 518 = .ok (.aload_n 2, 1) := by decide +kernel
theorem dL_519 : decode code 519 = .ok (.invokevirtual 84, 3) := by decide +kernel
theorem dL_522 : decode code 522 = .ok (.if_icmp .eq (.ofNat 5), 3) := by decide +kernel
theorem dL_525 : decode code 525 = .ok (.iconst (.ofNat 0), 1) := by decide +kernel
theorem dL_526 : decode code 526 = .ok (.ireturn, 1) := by decide +kernel
theorem dL_527 : decode code 527 = .ok (.iinc 3 (.ofNat 4), 3) := by decide +kernel
theorem dL_530 : decode code 530 = .ok (.goto (.negSucc 511), 3) := by decide +kernel
theorem dL_533 : decode code 533 = .ok (.iconst (.ofNat 1), 1) := by decide +kernel
theorem dL_534 : decode code 534 = .ok (.ireturn, 1) := by decide +kernel
/-- one call of the class beside the same call of the reference: the answers are one, and what ties the two still holds -/
def lw_case (Rel : tp_S → tp_S → Prop) (MC MM : tp_M) (n : Nat) : Prop := ∀ (σ μ : tp_S) (vs : List Int32), vs.length = n → Rel σ μ → tp_W shC MC 0 (tp_en (tp_ml MC) (.ref 0 :: vs.map .int)) [] σ (tp_Qi fun r σ' => tp_W shM MM 0 (tp_en (tp_ml MM) (.ref 0 :: vs.map .int)) [] μ (tp_Qi fun r' μ' => r = r' ∧ Rel σ' μ'))
theorem lw_ints (ad : Nat → Nat) (vs : List Int32) : (vs.map Value.int).map (tp_cv ad) = vs.map Value.int := by
  induction vs with
  | nil => rfl
  | cons a l ih => simp only [List.map_cons, ih]; rfl
theorem lw_wints (vs : List Int32) : tp_words (vs.map Value.int) = vs.length := by
  induction vs with
  | nil => rfl
  | cons a l ih => simp only [List.map_cons, tp_words, ih, Value.category, List.length_cons]; omega
/-- a call out of the law -/
theorem lw_inv {p : Program} {l : Launch} {e : Env} {s : State} {m : MethodId} {args : Array Value} {below : List Frame} {meth : Method} {c : Code} {H : Heap} {locs : List Loc} {cells slots : Nat} {Q' : State → Prop} {pc : Nat} {ls : Array Slot} {rest : List Value} {A : Nat → Prop} {sh : List tp_E} {M : tp_M} {σ : tp_S} {K : Int32 → tp_S → Prop} {G : tp_G} {idx o : Nat} {q : vw_C} {fs : List (Option Nat)} (vs : List Int32) (hg : tp_good M = true) (hq : tp_cl[o]? = some q) (ha : sh[0]? = some (.inl (o, fs))) (hC : (tp_y M).cls = q.1) (h4 : ∀ w ∈ ([.methodLink R_law idx (tp_y M), .instanceMethod (tp_y M), .selects q.1 (tp_y M) (tp_y M), .initialized q.1] : List Cond), w ∈ tp_Ts) (hy : tp_nMH (tp_y M) vs.length) (hR : tp_f M + 1 ≤ 9 ∧ 8 + (tp_ml M + 11) + tp_w M ≤ 336) (hst : (rest.map fun v => v.category).sum ≤ 8) (hw : 1 + vs.length ≤ tp_ml M) (hd : decode code pc = .ok (.invokevirtual idx, 3))
    (k : tp_W sh M 0 (tp_en (tp_ml M) (.ref 0 :: vs.map .int)) [] σ (tp_Qi K)) (hx : p.tables.exec = Jvm.exec) (hb : c.code = code) (hml : c.maxLocals = 4) (hown : s.vm.findClass R_law = some m.cls) (hts : ∀ w ∈ tp_Ts, w.before args s = true) (hK : tp_Kg G s) (hP : va_P G.1 tp_cl (tp_ws G.2.1 G.2.2 sh σ) H) (hS : va_S A s.heap H locs) (hAs : ∀ q, s.heap.size ≤ q → A q) (hinj : ∀ i j, i < sh.length → j < sh.length → G.2.1 i = G.2.1 j → i = j) (hAin : ∀ i, i < sh.length → A (G.2.1 i)) (hls : ls.size = 4) (hcl : cells ≤ 48) (hsl : slots ≤ 95340)
    (kk : ∀ (r : Int32) (τ : tp_S) (H1 : Heap) (locs1 : List Loc), K r τ → va_P G.1 tp_cl (tp_ws G.2.1 G.2.2 sh τ) H1 → (∀ x : Nat, x < H.size → ¬ va_A (tp_ws G.2.1 G.2.2 sh σ) H.size x → H1[x]? = H[x]?) → va_S A s.heap H1 locs1 → W p l e room_1 s m args below meth c H1 locs1 cells slots Q' (F0 m (pc + 3) ls (.int r :: rest))) : W p l e room_1 s m args below meth c H locs cells slots Q' (F0 m pc ls ((vs.map Value.int).reverse ++ .ref (G.2.1 0) :: rest)) := by
  have hG : GoodIn tp_Ts (wsV R_law idx q.1 (tp_y M) (tp_wd M)) := by
    intro w hw
    rcases List.mem_append.mp hw with h | h
    · exact ⟨h4 w h, good_of_word (tp_Ts_good w (h4 w h))⟩
    · exact tp_GoodIn hg w h
  have hr := va_runV (e := e) (R := room_1) (below := below) (meth := meth) (locs := locs) (cells := cells) (slots := slots) (g := F0 m pc ls ((vs.map Value.int).reverse ++ .ref (G.2.1 0) :: rest)) (nL := 4) (As := vs.map Value.int) (b := G.2.1 0) (rest := rest) (n := vs.length) ⟨hx, hb, hml, hown, hts⟩ (tp_met hg (by simp only [tp_words, lw_wints, Value.category]; exact hw) k l G H.size hinj) (cwV vs.length hts hG rfl rfl rfl ⟨hC, hy⟩ hR) ⟨tp_blind, va_recv hK.1 hP hq (tp_ws_at _ _ _ _ _ _ ha), fun U hU hW => ⟨by rw [List.map_cons, lw_ints]; rfl, by rw [hU], by rw [hU]; exact hP, tp_Kg_moved hW hK⟩⟩ rfl (by simp) hls rfl (lv_room hst) hd ⟨hcl, hsl⟩
  have hAA := tp_A_of (σ := σ) hS hAs hAin
  intro T hT X
  obtain ⟨v, st₀, t, T', L, h0, X', hL, e1, e2, ⟨⟨r, τ, hv, hp, hb'⟩, hz, hk⟩, stp⟩ := hr T hT X
  cases hv
  rw [h0] at hz hk
  cases r with
  | none => exact hp.elim
  | some v => cases v with
    | int x =>
      obtain ⟨t2, a1, b1⟩ := kk x τ T'.heap (locs ++ L) hp (by rw [e1]; exact hb') (fun z h1 h2 => by rw [e1]; exact hk z h1 h2)
        ⟨Nat.le_trans hS.1 (by rw [e1]; exact hz), fun z h1 h2 => by rw [e1, hk z (Nat.lt_of_lt_of_le h1 hS.1) (fun y => h2 (hAA z y))]; exact hS.2.1 z h1 h2, fun z hz => by
          rcases List.mem_append.mp hz with h | h
          · exact hS.2.2 z h
          · exact hAA _ (hL z h)⟩ T' rfl X'
      exact ⟨t2, stp t2 a1, b1⟩
    | _ => exact hp.elim
/-- the other world stays -/
theorem lw_stay {D : va_G} {ad : Nat → Nat} {cA : Nat → ClassId} {shA shB : List tp_E} {fA fB : Nat → Nat} {σ μ : tp_S} {H H1 : Heap} (hP : va_P D tp_cl (tp_ws (fun k => ad (fB k)) cA shB μ) H) (hne : ∀ i j, i < shA.length → j < shB.length → ad (fA i) ≠ ad (fB j)) (hk : ∀ x : Nat, x < H.size → ¬ va_A (tp_ws (fun k => ad (fA k)) cA shA σ) H.size x → H1[x]? = H[x]?) : va_P D tp_cl (tp_ws (fun k => ad (fB k)) cA shB μ) H1 := by
  intro k q hq
  have h := hP k q hq
  have hkl : k < shB.length := by
    have := (List.getElem?_eq_some_iff.mp hq).1
    rwa [tp_ws_len] at this
  have he : ad (fB k) = q.1 := by
    rw [tp_ws_at _ _ _ _ _ _ (List.getElem?_eq_getElem hkl)] at hq
    exact congrArg Prod.fst (Option.some.inj hq)
  refine h.kept (hk q.1 h.lt (fun hx => ?_))
  rcases hx with ⟨j, e, hj⟩ | hx
  · have hjl : j < shA.length := by
      have := (List.getElem?_eq_some_iff.mp hj).1
      rwa [tp_ws_len] at this
    rw [tp_ws_at _ _ _ _ _ _ (List.getElem?_eq_getElem hjl)] at hj
    have : ad (fA j) = q.1 := congrArg Prod.fst (Option.some.inj hj)
    exact hne j k hjl hkl (by rw [this, he])
  · exact absurd h.lt (by omega)
def lw_Hyp (Rel : tp_S → tp_S → Prop) : Prop := lw_case Rel m_Tp_begin m_Mo_begin 1 ∧ lw_case Rel m_Tp_put m_Mo_put 1 ∧ lw_case Rel m_Tp_close m_Mo_close 0 ∧ lw_case Rel m_Tp_clear m_Mo_clear 0 ∧ lw_case Rel m_Tp_token m_Mo_token 1 ∧ lw_case Rel m_Tp_drop m_Mo_drop 0 ∧ lw_case Rel m_Tp_count m_Mo_count 1 ∧ lw_case Rel m_Tp_first m_Mo_first 1 ∧ lw_case Rel m_Tp_state m_Mo_state 2 ∧ lw_case Rel m_Tp_ahead m_Mo_ahead 3 ∧ lw_case Rel m_Tp_comes m_Mo_comes 2 ∧ lw_case Rel m_Tp_row m_Mo_row 2 ∧ lw_case Rel m_Tp_place m_Mo_place 2 ∧ lw_case Rel m_Tp_parse m_Mo_parse 1 ∧ lw_case Rel m_Tp_parsed m_Mo_parsed 1 ∧ lw_case Rel m_Tp_reduction m_Mo_reduction 1 ∧ lw_case Rel m_Tp_check m_Mo_check 0
set_option maxRecDepth 100000 in
theorem lq_Tp_begin : (([.methodLink R_law 13 y_Tp_begin, .instanceMethod y_Tp_begin, .selects R_Tp y_Tp_begin y_Tp_begin, .initialized R_Tp] : List Cond).all tp_in4) = true := by decide +kernel
theorem ln_Tp_begin : tp_nMH (tp_y m_Tp_begin) 1 := by decide +kernel
set_option maxRecDepth 100000 in
theorem lq_Mo_begin : (([.methodLink R_law 17 y_Mo_begin, .instanceMethod y_Mo_begin, .selects R_Mo y_Mo_begin y_Mo_begin, .initialized R_Mo] : List Cond).all tp_in4) = true := by decide +kernel
theorem ln_Mo_begin : tp_nMH (tp_y m_Mo_begin) 1 := by decide +kernel
set_option maxRecDepth 100000 in
theorem lq_Tp_put : (([.methodLink R_law 18 y_Tp_put, .instanceMethod y_Tp_put, .selects R_Tp y_Tp_put y_Tp_put, .initialized R_Tp] : List Cond).all tp_in4) = true := by decide +kernel
theorem ln_Tp_put : tp_nMH (tp_y m_Tp_put) 1 := by decide +kernel
set_option maxRecDepth 100000 in
theorem lq_Mo_put : (([.methodLink R_law 21 y_Mo_put, .instanceMethod y_Mo_put, .selects R_Mo y_Mo_put y_Mo_put, .initialized R_Mo] : List Cond).all tp_in4) = true := by decide +kernel
theorem ln_Mo_put : tp_nMH (tp_y m_Mo_put) 1 := by decide +kernel
set_option maxRecDepth 100000 in
theorem lq_Tp_close : (([.methodLink R_law 22 y_Tp_close, .instanceMethod y_Tp_close, .selects R_Tp y_Tp_close y_Tp_close, .initialized R_Tp] : List Cond).all tp_in4) = true := by decide +kernel
theorem ln_Tp_close : tp_nMH (tp_y m_Tp_close) 0 := by decide +kernel
set_option maxRecDepth 100000 in
theorem lq_Mo_close : (([.methodLink R_law 26 y_Mo_close, .instanceMethod y_Mo_close, .selects R_Mo y_Mo_close y_Mo_close, .initialized R_Mo] : List Cond).all tp_in4) = true := by decide +kernel
theorem ln_Mo_close : tp_nMH (tp_y m_Mo_close) 0 := by decide +kernel
set_option maxRecDepth 100000 in
theorem lq_Tp_clear : (([.methodLink R_law 27 y_Tp_clear, .instanceMethod y_Tp_clear, .selects R_Tp y_Tp_clear y_Tp_clear, .initialized R_Tp] : List Cond).all tp_in4) = true := by decide +kernel
theorem ln_Tp_clear : tp_nMH (tp_y m_Tp_clear) 0 := by decide +kernel
set_option maxRecDepth 100000 in
theorem lq_Mo_clear : (([.methodLink R_law 30 y_Mo_clear, .instanceMethod y_Mo_clear, .selects R_Mo y_Mo_clear y_Mo_clear, .initialized R_Mo] : List Cond).all tp_in4) = true := by decide +kernel
theorem ln_Mo_clear : tp_nMH (tp_y m_Mo_clear) 0 := by decide +kernel
set_option maxRecDepth 100000 in
theorem lq_Tp_token : (([.methodLink R_law 31 y_Tp_token, .instanceMethod y_Tp_token, .selects R_Tp y_Tp_token y_Tp_token, .initialized R_Tp] : List Cond).all tp_in4) = true := by decide +kernel
theorem ln_Tp_token : tp_nMH (tp_y m_Tp_token) 1 := by decide +kernel
set_option maxRecDepth 100000 in
theorem lq_Mo_token : (([.methodLink R_law 34 y_Mo_token, .instanceMethod y_Mo_token, .selects R_Mo y_Mo_token y_Mo_token, .initialized R_Mo] : List Cond).all tp_in4) = true := by decide +kernel
theorem ln_Mo_token : tp_nMH (tp_y m_Mo_token) 1 := by decide +kernel
set_option maxRecDepth 100000 in
theorem lq_Tp_drop : (([.methodLink R_law 35 y_Tp_drop, .instanceMethod y_Tp_drop, .selects R_Tp y_Tp_drop y_Tp_drop, .initialized R_Tp] : List Cond).all tp_in4) = true := by decide +kernel
theorem ln_Tp_drop : tp_nMH (tp_y m_Tp_drop) 0 := by decide +kernel
set_option maxRecDepth 100000 in
theorem lq_Mo_drop : (([.methodLink R_law 38 y_Mo_drop, .instanceMethod y_Mo_drop, .selects R_Mo y_Mo_drop y_Mo_drop, .initialized R_Mo] : List Cond).all tp_in4) = true := by decide +kernel
theorem ln_Mo_drop : tp_nMH (tp_y m_Mo_drop) 0 := by decide +kernel
set_option maxRecDepth 100000 in
theorem lq_Tp_count : (([.methodLink R_law 39 y_Tp_count, .instanceMethod y_Tp_count, .selects R_Tp y_Tp_count y_Tp_count, .initialized R_Tp] : List Cond).all tp_in4) = true := by decide +kernel
theorem ln_Tp_count : tp_nMH (tp_y m_Tp_count) 1 := by decide +kernel
set_option maxRecDepth 100000 in
theorem lq_Mo_count : (([.methodLink R_law 42 y_Mo_count, .instanceMethod y_Mo_count, .selects R_Mo y_Mo_count y_Mo_count, .initialized R_Mo] : List Cond).all tp_in4) = true := by decide +kernel
theorem ln_Mo_count : tp_nMH (tp_y m_Mo_count) 1 := by decide +kernel
set_option maxRecDepth 100000 in
theorem lq_Tp_first : (([.methodLink R_law 43 y_Tp_first, .instanceMethod y_Tp_first, .selects R_Tp y_Tp_first y_Tp_first, .initialized R_Tp] : List Cond).all tp_in4) = true := by decide +kernel
theorem ln_Tp_first : tp_nMH (tp_y m_Tp_first) 1 := by decide +kernel
set_option maxRecDepth 100000 in
theorem lq_Mo_first : (([.methodLink R_law 46 y_Mo_first, .instanceMethod y_Mo_first, .selects R_Mo y_Mo_first y_Mo_first, .initialized R_Mo] : List Cond).all tp_in4) = true := by decide +kernel
theorem ln_Mo_first : tp_nMH (tp_y m_Mo_first) 1 := by decide +kernel
set_option maxRecDepth 100000 in
theorem lq_Tp_state : (([.methodLink R_law 47 y_Tp_state, .instanceMethod y_Tp_state, .selects R_Tp y_Tp_state y_Tp_state, .initialized R_Tp] : List Cond).all tp_in4) = true := by decide +kernel
theorem ln_Tp_state : tp_nMH (tp_y m_Tp_state) 2 := by decide +kernel
set_option maxRecDepth 100000 in
theorem lq_Mo_state : (([.methodLink R_law 51 y_Mo_state, .instanceMethod y_Mo_state, .selects R_Mo y_Mo_state y_Mo_state, .initialized R_Mo] : List Cond).all tp_in4) = true := by decide +kernel
theorem ln_Mo_state : tp_nMH (tp_y m_Mo_state) 2 := by decide +kernel
set_option maxRecDepth 100000 in
theorem lq_Tp_ahead : (([.methodLink R_law 52 y_Tp_ahead, .instanceMethod y_Tp_ahead, .selects R_Tp y_Tp_ahead y_Tp_ahead, .initialized R_Tp] : List Cond).all tp_in4) = true := by decide +kernel
theorem ln_Tp_ahead : tp_nMH (tp_y m_Tp_ahead) 3 := by decide +kernel
set_option maxRecDepth 100000 in
theorem lq_Mo_ahead : (([.methodLink R_law 56 y_Mo_ahead, .instanceMethod y_Mo_ahead, .selects R_Mo y_Mo_ahead y_Mo_ahead, .initialized R_Mo] : List Cond).all tp_in4) = true := by decide +kernel
theorem ln_Mo_ahead : tp_nMH (tp_y m_Mo_ahead) 3 := by decide +kernel
set_option maxRecDepth 100000 in
theorem lq_Tp_comes : (([.methodLink R_law 57 y_Tp_comes, .instanceMethod y_Tp_comes, .selects R_Tp y_Tp_comes y_Tp_comes, .initialized R_Tp] : List Cond).all tp_in4) = true := by decide +kernel
theorem ln_Tp_comes : tp_nMH (tp_y m_Tp_comes) 2 := by decide +kernel
set_option maxRecDepth 100000 in
theorem lq_Mo_comes : (([.methodLink R_law 60 y_Mo_comes, .instanceMethod y_Mo_comes, .selects R_Mo y_Mo_comes y_Mo_comes, .initialized R_Mo] : List Cond).all tp_in4) = true := by decide +kernel
theorem ln_Mo_comes : tp_nMH (tp_y m_Mo_comes) 2 := by decide +kernel
set_option maxRecDepth 100000 in
theorem lq_Tp_row : (([.methodLink R_law 61 y_Tp_row, .instanceMethod y_Tp_row, .selects R_Tp y_Tp_row y_Tp_row, .initialized R_Tp] : List Cond).all tp_in4) = true := by decide +kernel
theorem ln_Tp_row : tp_nMH (tp_y m_Tp_row) 2 := by decide +kernel
set_option maxRecDepth 100000 in
theorem lq_Mo_row : (([.methodLink R_law 64 y_Mo_row, .instanceMethod y_Mo_row, .selects R_Mo y_Mo_row y_Mo_row, .initialized R_Mo] : List Cond).all tp_in4) = true := by decide +kernel
theorem ln_Mo_row : tp_nMH (tp_y m_Mo_row) 2 := by decide +kernel
set_option maxRecDepth 100000 in
theorem lq_Tp_place : (([.methodLink R_law 65 y_Tp_place, .instanceMethod y_Tp_place, .selects R_Tp y_Tp_place y_Tp_place, .initialized R_Tp] : List Cond).all tp_in4) = true := by decide +kernel
theorem ln_Tp_place : tp_nMH (tp_y m_Tp_place) 2 := by decide +kernel
set_option maxRecDepth 100000 in
theorem lq_Mo_place : (([.methodLink R_law 68 y_Mo_place, .instanceMethod y_Mo_place, .selects R_Mo y_Mo_place y_Mo_place, .initialized R_Mo] : List Cond).all tp_in4) = true := by decide +kernel
theorem ln_Mo_place : tp_nMH (tp_y m_Mo_place) 2 := by decide +kernel
set_option maxRecDepth 100000 in
theorem lq_Tp_parse : (([.methodLink R_law 69 y_Tp_parse, .instanceMethod y_Tp_parse, .selects R_Tp y_Tp_parse y_Tp_parse, .initialized R_Tp] : List Cond).all tp_in4) = true := by decide +kernel
theorem ln_Tp_parse : tp_nMH (tp_y m_Tp_parse) 1 := by decide +kernel
set_option maxRecDepth 100000 in
theorem lq_Mo_parse : (([.methodLink R_law 72 y_Mo_parse, .instanceMethod y_Mo_parse, .selects R_Mo y_Mo_parse y_Mo_parse, .initialized R_Mo] : List Cond).all tp_in4) = true := by decide +kernel
theorem ln_Mo_parse : tp_nMH (tp_y m_Mo_parse) 1 := by decide +kernel
set_option maxRecDepth 100000 in
theorem lq_Tp_parsed : (([.methodLink R_law 73 y_Tp_parsed, .instanceMethod y_Tp_parsed, .selects R_Tp y_Tp_parsed y_Tp_parsed, .initialized R_Tp] : List Cond).all tp_in4) = true := by decide +kernel
theorem ln_Tp_parsed : tp_nMH (tp_y m_Tp_parsed) 1 := by decide +kernel
set_option maxRecDepth 100000 in
theorem lq_Mo_parsed : (([.methodLink R_law 76 y_Mo_parsed, .instanceMethod y_Mo_parsed, .selects R_Mo y_Mo_parsed y_Mo_parsed, .initialized R_Mo] : List Cond).all tp_in4) = true := by decide +kernel
theorem ln_Mo_parsed : tp_nMH (tp_y m_Mo_parsed) 1 := by decide +kernel
set_option maxRecDepth 100000 in
theorem lq_Tp_reduction : (([.methodLink R_law 77 y_Tp_reduction, .instanceMethod y_Tp_reduction, .selects R_Tp y_Tp_reduction y_Tp_reduction, .initialized R_Tp] : List Cond).all tp_in4) = true := by decide +kernel
theorem ln_Tp_reduction : tp_nMH (tp_y m_Tp_reduction) 1 := by decide +kernel
set_option maxRecDepth 100000 in
theorem lq_Mo_reduction : (([.methodLink R_law 80 y_Mo_reduction, .instanceMethod y_Mo_reduction, .selects R_Mo y_Mo_reduction y_Mo_reduction, .initialized R_Mo] : List Cond).all tp_in4) = true := by decide +kernel
theorem ln_Mo_reduction : tp_nMH (tp_y m_Mo_reduction) 1 := by decide +kernel
set_option maxRecDepth 100000 in
theorem lq_Tp_check : (([.methodLink R_law 81 y_Tp_check, .instanceMethod y_Tp_check, .selects R_Tp y_Tp_check y_Tp_check, .initialized R_Tp] : List Cond).all tp_in4) = true := by decide +kernel
theorem ln_Tp_check : tp_nMH (tp_y m_Tp_check) 0 := by decide +kernel
set_option maxRecDepth 100000 in
theorem lq_Mo_check : (([.methodLink R_law 84 y_Mo_check, .instanceMethod y_Mo_check, .selects R_Mo y_Mo_check y_Mo_check, .initialized R_Mo] : List Cond).all tp_in4) = true := by decide +kernel
theorem ln_Mo_check : tp_nMH (tp_y m_Mo_check) 0 := by decide +kernel
