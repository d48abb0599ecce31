/-! THE CLAIM OUT OF ONE WALK OF THE LAW'S BODY. Your part is whole_start (and what it stands on); all else here is the same for every law, but numbers. -/
def R_law : String := "RungTouchesLaw"
def lw_P (b : Addr) (xs : List Int32) (args : Array Value) (s : State) : Prop := args = #[.ref b] ∧ s.IntsAt b xs ∧ xs.length ≤ 2048 ∧ (Jvm.Cond.and given_1 narrow_1).before args s = true
def lw_Q (_ : Array Value) (s : State) (o : Outcome) (t : State) : Prop := o = .returned (some (.int 1)) ∧ Framed s o t [] 601024 7293034
def lw_Z (below : List Frame) (a : Array Value) (s : State) : State → Prop := fun t => ∃ o, t.status = .running ∧ Ended t below o ∧ lw_Q a s o t
/-- the law's own end, with 1 on the stack, nothing written that was there before, its room as the claim has it -/
theorem lw_ret {p : Program} {l : Launch} {e : Env} {s : State} {m : MethodId} {below : List Frame} {meth : Method} {c : Code} {b : Nat} (hx : p.tables.exec = Jvm.exec) (hb : c.code = code) (hr : meth.sig.returnType = ret) (hlocks : meth.locks = false) {pc : Nat} {H : Heap} {ls : Array Slot} (hdg : decode code pc = .ok (.ireturn, 1)) : W p l e room_1 s m #[Value.ref b] below meth c H [] 601024 7293034 (lw_Z below #[Value.ref b] s) (F0 m pc ls [.int 1]) := by
  intro T hT X
  obtain ⟨fs, hret, hrun, hended, hW, hframe⟩ := X.leave (v := some (.int 1)) (hlocks := hlocks) (fun h => by rw [hr] at h; cases h)
  have hmeth' : T.vm.method? m = some meth := X.method'
  refine ⟨T.setFrames fs, ?_, .returned (some (.int 1)), hrun, hended, rfl, ⟨_, rfl⟩, hW, hframe⟩
  jvm_step X.here [X.here.top, hx, hb, hdg, hmeth', hr, ret, narrow_b1]
  (try refine ⟨rfl, ?_⟩); (try refine ⟨rfl, ?_⟩)
  first | (intro acts; rw [hret _ acts rfl rfl rfl]) | rw [hret _ _ rfl rfl rfl]
  exact Steps.refl _
/-- what holds at the law's entry: the machine, the code, the tables' words (any of lw_tbl by 'hts w (by decide +kernel)'), the script of L ints xs at the cell b, what the Statement gives of the start (any of its parts by flat_of_before) -/
def lw_At (p : Program) (s : State) (m : MethodId) (meth : Method) (c : Code) (b L : Nat) (xs : Nat → Int32) : Prop :=
  p.tables.exec = Jvm.exec ∧ c.code = code ∧ meth.sig.returnType = ret ∧ c.maxLocals = 7 ∧ s.vm.findClass R_law = some m.cls ∧ (∀ w ∈ lw_tbl, w.before #[Value.ref b] s = true) ∧ va_X b L xs s s.heap ∧ b < s.heap.size ∧ meth.locks = false ∧ (Jvm.Cond.and given_1 narrow_1).before #[Value.ref b] s = true
abbrev b_L_law : ByteArray := code
theorem d_L_law_0 : decode code 0 = .ok (.new 8, 3) := by decide +kernel
theorem d_L_law_3 : decode code 3 = .ok (.dup, 1) := by decide +kernel
theorem d_L_law_4 : decode code 4 = .ok (.invokespecial 35, 3) := by decide +kernel
theorem d_L_law_7 : decode code 7 = .ok (.astore_n 1, 1) := by decide +kernel
theorem d_L_law_8 : decode code 8 = .ok (.new 36, 3) := by decide +kernel
theorem d_L_law_11 : decode code 11 = .ok (.dup, 1) := by decide +kernel
theorem d_L_law_12 : decode code 12 = .ok (.invokespecial 38, 3) := by decide +kernel
theorem d_L_law_15 : decode code 15 = .ok (.astore_n 2, 1) := by decide +kernel
theorem d_L_law_16 : decode code 16 = .ok (.iconst 1, 1) := by decide +kernel
theorem d_L_law_17 : decode code 17 = .ok (.newarray .long, 2) := by decide +kernel
theorem d_L_law_19 : decode code 19 = .ok (.astore_n 3, 1) := by decide +kernel
theorem d_L_law_20 : decode code 20 = .ok (.iconst 0, 1) := by decide +kernel
theorem d_L_law_21 : decode code 21 = .ok (.istore 4, 2) := by decide +kernel
theorem d_L_law_23 : decode code 23 = .ok (.iload 4, 2) := by decide +kernel
theorem d_L_law_25 : decode code 25 = .ok (.aload_n 0, 1) := by decide +kernel
theorem d_L_law_26 : decode code 26 = .ok (.arraylength, 1) := by decide +kernel
theorem d_L_law_27 : decode code 27 = .ok (.iconst 4, 1) := by decide +kernel
theorem d_L_law_28 : decode code 28 = .ok (.isub, 1) := by decide +kernel
theorem d_L_law_29 : decode code 29 = .ok (.if_icmp .gt 872, 3) := by decide +kernel
theorem d_L_law_32 : decode code 32 = .ok (.aload_n 0, 1) := by decide +kernel
theorem d_L_law_33 : decode code 33 = .ok (.iload 4, 2) := by decide +kernel
theorem d_L_law_35 : decode code 35 = .ok (.iaload, 1) := by decide +kernel
theorem d_L_law_36 : decode code 36 = .ok (.bipush 31, 2) := by decide +kernel
theorem d_L_law_38 : decode code 38 = .ok (.iand, 1) := by decide +kernel
theorem d_L_law_39 : decode code 39 = .ok (.tableswitch 856 0 20 #[97, 122, 159, 196, 221, 277, 314, 339, 352, 377, 390, 403, 440, 465, 502, 546, 621, 701, 769, 782, 831], 97) := by decide +kernel
theorem d_L_law_136 : decode code 136 = .ok (.aload_n 1, 1) := by decide +kernel
theorem d_L_law_137 : decode code 137 = .ok (.aload_n 0, 1) := by decide +kernel
theorem d_L_law_138 : decode code 138 = .ok (.iload 4, 2) := by decide +kernel
theorem d_L_law_140 : decode code 140 = .ok (.iconst 1, 1) := by decide +kernel
theorem d_L_law_141 : decode code 141 = .ok (.iadd, 1) := by decide +kernel
theorem d_L_law_142 : decode code 142 = .ok (.iaload, 1) := by decide +kernel
theorem d_L_law_143 : decode code 143 = .ok (.invokevirtual 39, 3) := by decide +kernel
theorem d_L_law_146 : decode code 146 = .ok (.aload_n 2, 1) := by decide +kernel
theorem d_L_law_147 : decode code 147 = .ok (.aload_n 0, 1) := by decide +kernel
theorem d_L_law_148 : decode code 148 = .ok (.iload 4, 2) := by decide +kernel
theorem d_L_law_150 : decode code 150 = .ok (.iconst 1, 1) := by decide +kernel
theorem d_L_law_151 : decode code 151 = .ok (.iadd, 1) := by decide +kernel
theorem d_L_law_152 : decode code 152 = .ok (.iaload, 1) := by decide +kernel
theorem d_L_law_153 : decode code 153 = .ok (.invokevirtual 43, 3) := by decide +kernel
theorem d_L_law_156 : decode code 156 = .ok (.if_icmp .eq 739, 3) := by decide +kernel
theorem d_L_law_159 : decode code 159 = .ok (.iconst 0, 1) := by decide +kernel
theorem d_L_law_160 : decode code 160 = .ok (.ireturn, 1) := by decide +kernel
theorem d_L_law_161 : decode code 161 = .ok (.aload_n 1, 1) := by decide +kernel
theorem d_L_law_162 : decode code 162 = .ok (.aload_n 0, 1) := by decide +kernel
theorem d_L_law_163 : decode code 163 = .ok (.iload 4, 2) := by decide +kernel
theorem d_L_law_165 : decode code 165 = .ok (.iconst 1, 1) := by decide +kernel
theorem d_L_law_166 : decode code 166 = .ok (.iadd, 1) := by decide +kernel
theorem d_L_law_167 : decode code 167 = .ok (.iaload, 1) := by decide +kernel
theorem d_L_law_168 : decode code 168 = .ok (.aload_n 0, 1) := by decide +kernel
theorem d_L_law_169 : decode code 169 = .ok (.iload 4, 2) := by decide +kernel
theorem d_L_law_171 : decode code 171 = .ok (.iconst 2, 1) := by decide +kernel
theorem d_L_law_172 : decode code 172 = .ok (.iadd, 1) := by decide +kernel
theorem d_L_law_173 : decode code 173 = .ok (.iaload, 1) := by decide +kernel
theorem d_L_law_174 : decode code 174 = .ok (.invokevirtual 44, 3) := by decide +kernel
theorem d_L_law_177 : decode code 177 = .ok (.aload_n 2, 1) := by decide +kernel
theorem d_L_law_178 : decode code 178 = .ok (.aload_n 0, 1) := by decide +kernel
theorem d_L_law_179 : decode code 179 = .ok (.iload 4, 2) := by decide +kernel
theorem d_L_law_181 : decode code 181 = .ok (.iconst 1, 1) := by decide +kernel
theorem d_L_law_182 : decode code 182 = .ok (.iadd, 1) := by decide +kernel
theorem d_L_law_183 : decode code 183 = .ok (.iaload, 1) := by decide +kernel
theorem d_L_law_184 : decode code 184 = .ok (.aload_n 0, 1) := by decide +kernel
theorem d_L_law_185 : decode code 185 = .ok (.iload 4, 2) := by decide +kernel
theorem d_L_law_187 : decode code 187 = .ok (.iconst 2, 1) := by decide +kernel
theorem d_L_law_188 : decode code 188 = .ok (.iadd, 1) := by decide +kernel
theorem d_L_law_189 : decode code 189 = .ok (.iaload, 1) := by decide +kernel
theorem d_L_law_190 : decode code 190 = .ok (.invokevirtual 47, 3) := by decide +kernel
theorem d_L_law_193 : decode code 193 = .ok (.if_icmp .eq 702, 3) := by decide +kernel
theorem d_L_law_196 : decode code 196 = .ok (.iconst 0, 1) := by decide +kernel
theorem d_L_law_197 : decode code 197 = .ok (.ireturn, 1) := by decide +kernel
theorem d_L_law_198 : decode code 198 = .ok (.aload_n 1, 1) := by decide +kernel
theorem d_L_law_199 : decode code 199 = .ok (.aload_n 0, 1) := by decide +kernel
theorem d_L_law_200 : decode code 200 = .ok (.iload 4, 2) := by decide +kernel
theorem d_L_law_202 : decode code 202 = .ok (.iconst 1, 1) := by decide +kernel
theorem d_L_law_203 : decode code 203 = .ok (.iadd, 1) := by decide +kernel
theorem d_L_law_204 : decode code 204 = .ok (.iaload, 1) := by decide +kernel
theorem d_L_law_205 : decode code 205 = .ok (.aload_n 0, 1) := by decide +kernel
theorem d_L_law_206 : decode code 206 = .ok (.iload 4, 2) := by decide +kernel
theorem d_L_law_208 : decode code 208 = .ok (.iconst 2, 1) := by decide +kernel
theorem d_L_law_209 : decode code 209 = .ok (.iadd, 1) := by decide +kernel
theorem d_L_law_210 : decode code 210 = .ok (.iaload, 1) := by decide +kernel
theorem d_L_law_211 : decode code 211 = .ok (.invokevirtual 48, 3) := by decide +kernel
theorem d_L_law_214 : decode code 214 = .ok (.aload_n 2, 1) := by decide +kernel
theorem d_L_law_215 : decode code 215 = .ok (.aload_n 0, 1) := by decide +kernel
theorem d_L_law_216 : decode code 216 = .ok (.iload 4, 2) := by decide +kernel
theorem d_L_law_218 : decode code 218 = .ok (.iconst 1, 1) := by decide +kernel
theorem d_L_law_219 : decode code 219 = .ok (.iadd, 1) := by decide +kernel
theorem d_L_law_220 : decode code 220 = .ok (.iaload, 1) := by decide +kernel
theorem d_L_law_221 : decode code 221 = .ok (.aload_n 0, 1) := by decide +kernel
theorem d_L_law_222 : decode code 222 = .ok (.iload 4, 2) := by decide +kernel
theorem d_L_law_224 : decode code 224 = .ok (.iconst 2, 1) := by decide +kernel
theorem d_L_law_225 : decode code 225 = .ok (.iadd, 1) := by decide +kernel
theorem d_L_law_226 : decode code 226 = .ok (.iaload, 1) := by decide +kernel
theorem d_L_law_227 : decode code 227 = .ok (.invokevirtual 51, 3) := by decide +kernel
theorem d_L_law_230 : decode code 230 = .ok (.if_icmp .eq 665, 3) := by decide +kernel
theorem d_L_law_233 : decode code 233 = .ok (.iconst 0, 1) := by decide +kernel
theorem d_L_law_234 : decode code 234 = .ok (.ireturn, 1) := by decide +kernel
theorem d_L_law_235 : decode code 235 = .ok (.aload_n 1, 1) := by decide +kernel
theorem d_L_law_236 : decode code 236 = .ok (.aload_n 0, 1) := by decide +kernel
theorem d_L_law_237 : decode code 237 = .ok (.iload 4, 2) := by decide +kernel
theorem d_L_law_239 : decode code 239 = .ok (.iconst 1, 1) := by decide +kernel
theorem d_L_law_240 : decode code 240 = .ok (.iadd, 1) := by decide +kernel
theorem d_L_law_241 : decode code 241 = .ok (.iaload, 1) := by decide +kernel
theorem d_L_law_242 : decode code 242 = .ok (.invokevirtual 52, 3) := by decide +kernel
theorem d_L_law_245 : decode code 245 = .ok (.aload_n 2, 1) := by decide +kernel
theorem d_L_law_246 : decode code 246 = .ok (.aload_n 0, 1) := by decide +kernel
theorem d_L_law_247 : decode code 247 = .ok (.iload 4, 2) := by decide +kernel
theorem d_L_law_249 : decode code 249 = .ok (.iconst 1, 1) := by decide +kernel
theorem d_L_law_250 : decode code 250 = .ok (.iadd, 1) := by decide +kernel
theorem d_L_law_251 : decode code 251 = .ok (.iaload, 1) := by decide +kernel
theorem d_L_law_252 : decode code 252 = .ok (.invokevirtual 55, 3) := by decide +kernel
theorem d_L_law_255 : decode code 255 = .ok (.if_icmp .eq 640, 3) := by decide +kernel
theorem d_L_law_258 : decode code 258 = .ok (.iconst 0, 1) := by decide +kernel
theorem d_L_law_259 : decode code 259 = .ok (.ireturn, 1) := by decide +kernel
theorem d_L_law_260 : decode code 260 = .ok (.aload_n 1, 1) := by decide +kernel
theorem d_L_law_261 : decode code 261 = .ok (.aload_n 0, 1) := by decide +kernel
theorem d_L_law_262 : decode code 262 = .ok (.iload 4, 2) := by decide +kernel
theorem d_L_law_264 : decode code 264 = .ok (.iconst 1, 1) := by decide +kernel
theorem d_L_law_265 : decode code 265 = .ok (.iadd, 1) := by decide +kernel
theorem d_L_law_266 : decode code 266 = .ok (.iaload, 1) := by decide +kernel
theorem d_L_law_267 : decode code 267 = .ok (.aload_n 3, 1) := by decide +kernel
theorem d_L_law_268 : decode code 268 = .ok (.invokestatic 56, 3) := by decide +kernel
theorem d_L_law_271 : decode code 271 = .ok (.istore 5, 2) := by decide +kernel
theorem d_L_law_273 : decode code 273 = .ok (.aload_n 2, 1) := by decide +kernel
theorem d_L_law_274 : decode code 274 = .ok (.aload_n 0, 1) := by decide +kernel
theorem d_L_law_275 : decode code 275 = .ok (.iload 4, 2) := by decide +kernel
theorem d_L_law_277 : decode code 277 = .ok (.iconst 1, 1) := by decide +kernel
theorem d_L_law_278 : decode code 278 = .ok (.iadd, 1) := by decide +kernel
theorem d_L_law_279 : decode code 279 = .ok (.iaload, 1) := by decide +kernel
theorem d_L_law_280 : decode code 280 = .ok (.invokevirtual 61, 3) := by decide +kernel
theorem d_L_law_283 : decode code 283 = .ok (.istore 6, 2) := by decide +kernel
theorem d_L_law_285 : decode code 285 = .ok (.aload_n 2, 1) := by decide +kernel
theorem d_L_law_286 : decode code 286 = .ok (.invokevirtual 62, 3) := by decide +kernel
theorem d_L_law_289 : decode code 289 = .ok (.iload 5, 2) := by decide +kernel
theorem d_L_law_291 : decode code 291 = .ok (.if_icmp .eq 5, 3) := by decide +kernel
theorem d_L_law_294 : decode code 294 = .ok (.iconst 0, 1) := by decide +kernel
theorem d_L_law_295 : decode code 295 = .ok (.ireturn, 1) := by decide +kernel
theorem d_L_law_296 : decode code 296 = .ok (.iload 5, 2) := by decide +kernel
theorem d_L_law_298 : decode code 298 = .ok (.ifCond .ne 15, 3) := by decide +kernel
theorem d_L_law_301 : decode code 301 = .ok (.aload_n 3, 1) := by decide +kernel
theorem d_L_law_302 : decode code 302 = .ok (.iconst 0, 1) := by decide +kernel
theorem d_L_law_303 : decode code 303 = .ok (.laload, 1) := by decide +kernel
theorem d_L_law_304 : decode code 304 = .ok (.iload 6, 2) := by decide +kernel
theorem d_L_law_306 : decode code 306 = .ok (.i2l, 1) := by decide +kernel
theorem d_L_law_307 : decode code 307 = .ok (.lcmp, 1) := by decide +kernel
theorem d_L_law_308 : decode code 308 = .ok (.ifCond .eq 5, 3) := by decide +kernel
theorem d_L_law_311 : decode code 311 = .ok (.iconst 0, 1) := by decide +kernel
theorem d_L_law_312 : decode code 312 = .ok (.ireturn, 1) := by decide +kernel
theorem d_L_law_313 : decode code 313 = .ok (.goto 582, 3) := by decide +kernel
theorem d_L_law_316 : decode code 316 = .ok (.aload_n 1, 1) := by decide +kernel
theorem d_L_law_317 : decode code 317 = .ok (.aload_n 0, 1) := by decide +kernel
theorem d_L_law_318 : decode code 318 = .ok (.iload 4, 2) := by decide +kernel
theorem d_L_law_320 : decode code 320 = .ok (.iconst 1, 1) := by decide +kernel
theorem d_L_law_321 : decode code 321 = .ok (.iadd, 1) := by decide +kernel
theorem d_L_law_322 : decode code 322 = .ok (.iaload, 1) := by decide +kernel
theorem d_L_law_323 : decode code 323 = .ok (.aload_n 0, 1) := by decide +kernel
theorem d_L_law_324 : decode code 324 = .ok (.iload 4, 2) := by decide +kernel
theorem d_L_law_326 : decode code 326 = .ok (.iconst 2, 1) := by decide +kernel
theorem d_L_law_327 : decode code 327 = .ok (.iadd, 1) := by decide +kernel
theorem d_L_law_328 : decode code 328 = .ok (.iaload, 1) := by decide +kernel
theorem d_L_law_329 : decode code 329 = .ok (.invokevirtual 65, 3) := by decide +kernel
theorem d_L_law_332 : decode code 332 = .ok (.aload_n 2, 1) := by decide +kernel
theorem d_L_law_333 : decode code 333 = .ok (.aload_n 0, 1) := by decide +kernel
theorem d_L_law_334 : decode code 334 = .ok (.iload 4, 2) := by decide +kernel
theorem d_L_law_336 : decode code 336 = .ok (.iconst 1, 1) := by decide +kernel
theorem d_L_law_337 : decode code 337 = .ok (.iadd, 1) := by decide +kernel
theorem d_L_law_338 : decode code 338 = .ok (.iaload, 1) := by decide +kernel
theorem d_L_law_339 : decode code 339 = .ok (.aload_n 0, 1) := by decide +kernel
theorem d_L_law_340 : decode code 340 = .ok (.iload 4, 2) := by decide +kernel
theorem d_L_law_342 : decode code 342 = .ok (.iconst 2, 1) := by decide +kernel
theorem d_L_law_343 : decode code 343 = .ok (.iadd, 1) := by decide +kernel
theorem d_L_law_344 : decode code 344 = .ok (.iaload, 1) := by decide +kernel
theorem d_L_law_345 : decode code 345 = .ok (.invokevirtual 68, 3) := by decide +kernel
theorem d_L_law_348 : decode code 348 = .ok (.if_icmp .eq 547, 3) := by decide +kernel
theorem d_L_law_351 : decode code 351 = .ok (.iconst 0, 1) := by decide +kernel
theorem d_L_law_352 : decode code 352 = .ok (.ireturn, 1) := by decide +kernel
theorem d_L_law_353 : decode code 353 = .ok (.aload_n 1, 1) := by decide +kernel
theorem d_L_law_354 : decode code 354 = .ok (.aload_n 0, 1) := by decide +kernel
theorem d_L_law_355 : decode code 355 = .ok (.iload 4, 2) := by decide +kernel
theorem d_L_law_357 : decode code 357 = .ok (.iconst 1, 1) := by decide +kernel
theorem d_L_law_358 : decode code 358 = .ok (.iadd, 1) := by decide +kernel
theorem d_L_law_359 : decode code 359 = .ok (.iaload, 1) := by decide +kernel
theorem d_L_law_360 : decode code 360 = .ok (.invokevirtual 69, 3) := by decide +kernel
theorem d_L_law_363 : decode code 363 = .ok (.aload_n 2, 1) := by decide +kernel
theorem d_L_law_364 : decode code 364 = .ok (.aload_n 0, 1) := by decide +kernel
theorem d_L_law_365 : decode code 365 = .ok (.iload 4, 2) := by decide +kernel
theorem d_L_law_367 : decode code 367 = .ok (.iconst 1, 1) := by decide +kernel
theorem d_L_law_368 : decode code 368 = .ok (.iadd, 1) := by decide +kernel
theorem d_L_law_369 : decode code 369 = .ok (.iaload, 1) := by decide +kernel
theorem d_L_law_370 : decode code 370 = .ok (.invokevirtual 72, 3) := by decide +kernel
theorem d_L_law_373 : decode code 373 = .ok (.if_icmp .eq 522, 3) := by decide +kernel
theorem d_L_law_376 : decode code 376 = .ok (.iconst 0, 1) := by decide +kernel
theorem d_L_law_377 : decode code 377 = .ok (.ireturn, 1) := by decide +kernel
theorem d_L_law_378 : decode code 378 = .ok (.aload_n 1, 1) := by decide +kernel
theorem d_L_law_379 : decode code 379 = .ok (.invokevirtual 73, 3) := by decide +kernel
theorem d_L_law_382 : decode code 382 = .ok (.aload_n 2, 1) := by decide +kernel
theorem d_L_law_383 : decode code 383 = .ok (.invokevirtual 76, 3) := by decide +kernel
theorem d_L_law_386 : decode code 386 = .ok (.if_icmp .eq 509, 3) := by decide +kernel
theorem d_L_law_389 : decode code 389 = .ok (.iconst 0, 1) := by decide +kernel
theorem d_L_law_390 : decode code 390 = .ok (.ireturn, 1) := by decide +kernel
theorem d_L_law_391 : decode code 391 = .ok (.aload_n 1, 1) := by decide +kernel
theorem d_L_law_392 : decode code 392 = .ok (.aload_n 0, 1) := by decide +kernel
theorem d_L_law_393 : decode code 393 = .ok (.iload 4, 2) := by decide +kernel
theorem d_L_law_395 : decode code 395 = .ok (.iconst 1, 1) := by decide +kernel
theorem d_L_law_396 : decode code 396 = .ok (.iadd, 1) := by decide +kernel
theorem d_L_law_397 : decode code 397 = .ok (.iaload, 1) := by decide +kernel
theorem d_L_law_398 : decode code 398 = .ok (.invokevirtual 77, 3) := by decide +kernel
theorem d_L_law_401 : decode code 401 = .ok (.aload_n 2, 1) := by decide +kernel
theorem d_L_law_402 : decode code 402 = .ok (.aload_n 0, 1) := by decide +kernel
theorem d_L_law_403 : decode code 403 = .ok (.iload 4, 2) := by decide +kernel
theorem d_L_law_405 : decode code 405 = .ok (.iconst 1, 1) := by decide +kernel
theorem d_L_law_406 : decode code 406 = .ok (.iadd, 1) := by decide +kernel
theorem d_L_law_407 : decode code 407 = .ok (.iaload, 1) := by decide +kernel
theorem d_L_law_408 : decode code 408 = .ok (.invokevirtual 80, 3) := by decide +kernel
theorem d_L_law_411 : decode code 411 = .ok (.if_icmp .eq 484, 3) := by decide +kernel
theorem d_L_law_414 : decode code 414 = .ok (.iconst 0, 1) := by decide +kernel
theorem d_L_law_415 : decode code 415 = .ok (.ireturn, 1) := by decide +kernel
theorem d_L_law_416 : decode code 416 = .ok (.aload_n 1, 1) := by decide +kernel
theorem d_L_law_417 : decode code 417 = .ok (.invokevirtual 81, 3) := by decide +kernel
theorem d_L_law_420 : decode code 420 = .ok (.aload_n 2, 1) := by decide +kernel
theorem d_L_law_421 : decode code 421 = .ok (.invokevirtual 84, 3) := by decide +kernel
theorem d_L_law_424 : decode code 424 = .ok (.if_icmp .eq 471, 3) := by decide +kernel
theorem d_L_law_427 : decode code 427 = .ok (.iconst 0, 1) := by decide +kernel
theorem d_L_law_428 : decode code 428 = .ok (.ireturn, 1) := by decide +kernel
theorem d_L_law_429 : decode code 429 = .ok (.aload_n 1, 1) := by decide +kernel
theorem d_L_law_430 : decode code 430 = .ok (.invokevirtual 85, 3) := by decide +kernel
theorem d_L_law_433 : decode code 433 = .ok (.aload_n 2, 1) := by decide +kernel
theorem d_L_law_434 : decode code 434 = .ok (.invokevirtual 88, 3) := by decide +kernel
theorem d_L_law_437 : decode code 437 = .ok (.if_icmp .eq 458, 3) := by decide +kernel
theorem d_L_law_440 : decode code 440 = .ok (.iconst 0, 1) := by decide +kernel
theorem d_L_law_441 : decode code 441 = .ok (.ireturn, 1) := by decide +kernel
theorem d_L_law_442 : decode code 442 = .ok (.aload_n 1, 1) := by decide +kernel
theorem d_L_law_443 : decode code 443 = .ok (.aload_n 0, 1) := by decide +kernel
theorem d_L_law_444 : decode code 444 = .ok (.iload 4, 2) := by decide +kernel
theorem d_L_law_446 : decode code 446 = .ok (.iconst 1, 1) := by decide +kernel
theorem d_L_law_447 : decode code 447 = .ok (.iadd, 1) := by decide +kernel
theorem d_L_law_448 : decode code 448 = .ok (.iaload, 1) := by decide +kernel
theorem d_L_law_449 : decode code 449 = .ok (.aload_n 0, 1) := by decide +kernel
theorem d_L_law_450 : decode code 450 = .ok (.iload 4, 2) := by decide +kernel
theorem d_L_law_452 : decode code 452 = .ok (.iconst 2, 1) := by decide +kernel
theorem d_L_law_453 : decode code 453 = .ok (.iadd, 1) := by decide +kernel
theorem d_L_law_454 : decode code 454 = .ok (.iaload, 1) := by decide +kernel
theorem d_L_law_455 : decode code 455 = .ok (.invokevirtual 89, 3) := by decide +kernel
theorem d_L_law_458 : decode code 458 = .ok (.aload_n 2, 1) := by decide +kernel
theorem d_L_law_459 : decode code 459 = .ok (.aload_n 0, 1) := by decide +kernel
theorem d_L_law_460 : decode code 460 = .ok (.iload 4, 2) := by decide +kernel
theorem d_L_law_462 : decode code 462 = .ok (.iconst 1, 1) := by decide +kernel
theorem d_L_law_463 : decode code 463 = .ok (.iadd, 1) := by decide +kernel
theorem d_L_law_464 : decode code 464 = .ok (.iaload, 1) := by decide +kernel
theorem d_L_law_465 : decode code 465 = .ok (.aload_n 0, 1) := by decide +kernel
theorem d_L_law_466 : decode code 466 = .ok (.iload 4, 2) := by decide +kernel
theorem d_L_law_468 : decode code 468 = .ok (.iconst 2, 1) := by decide +kernel
theorem d_L_law_469 : decode code 469 = .ok (.iadd, 1) := by decide +kernel
theorem d_L_law_470 : decode code 470 = .ok (.iaload, 1) := by decide +kernel
theorem d_L_law_471 : decode code 471 = .ok (.invokevirtual 92, 3) := by decide +kernel
theorem d_L_law_474 : decode code 474 = .ok (.if_icmp .eq 421, 3) := by decide +kernel
theorem d_L_law_477 : decode code 477 = .ok (.iconst 0, 1) := by decide +kernel
theorem d_L_law_478 : decode code 478 = .ok (.ireturn, 1) := by decide +kernel
theorem d_L_law_479 : decode code 479 = .ok (.aload_n 1, 1) := by decide +kernel
theorem d_L_law_480 : decode code 480 = .ok (.aload_n 0, 1) := by decide +kernel
theorem d_L_law_481 : decode code 481 = .ok (.iload 4, 2) := by decide +kernel
theorem d_L_law_483 : decode code 483 = .ok (.iconst 1, 1) := by decide +kernel
theorem d_L_law_484 : decode code 484 = .ok (.iadd, 1) := by decide +kernel
theorem d_L_law_485 : decode code 485 = .ok (.iaload, 1) := by decide +kernel
theorem d_L_law_486 : decode code 486 = .ok (.invokevirtual 93, 3) := by decide +kernel
theorem d_L_law_489 : decode code 489 = .ok (.aload_n 2, 1) := by decide +kernel
theorem d_L_law_490 : decode code 490 = .ok (.aload_n 0, 1) := by decide +kernel
theorem d_L_law_491 : decode code 491 = .ok (.iload 4, 2) := by decide +kernel
theorem d_L_law_493 : decode code 493 = .ok (.iconst 1, 1) := by decide +kernel
theorem d_L_law_494 : decode code 494 = .ok (.iadd, 1) := by decide +kernel
theorem d_L_law_495 : decode code 495 = .ok (.iaload, 1) := by decide +kernel
theorem d_L_law_496 : decode code 496 = .ok (.invokevirtual 96, 3) := by decide +kernel
theorem d_L_law_499 : decode code 499 = .ok (.if_icmp .eq 396, 3) := by decide +kernel
theorem d_L_law_502 : decode code 502 = .ok (.iconst 0, 1) := by decide +kernel
theorem d_L_law_503 : decode code 503 = .ok (.ireturn, 1) := by decide +kernel
theorem d_L_law_504 : decode code 504 = .ok (.aload_n 1, 1) := by decide +kernel
theorem d_L_law_505 : decode code 505 = .ok (.aload_n 0, 1) := by decide +kernel
theorem d_L_law_506 : decode code 506 = .ok (.iload 4, 2) := by decide +kernel
theorem d_L_law_508 : decode code 508 = .ok (.iconst 1, 1) := by decide +kernel
theorem d_L_law_509 : decode code 509 = .ok (.iadd, 1) := by decide +kernel
theorem d_L_law_510 : decode code 510 = .ok (.iaload, 1) := by decide +kernel
theorem d_L_law_511 : decode code 511 = .ok (.aload_n 0, 1) := by decide +kernel
theorem d_L_law_512 : decode code 512 = .ok (.iload 4, 2) := by decide +kernel
theorem d_L_law_514 : decode code 514 = .ok (.iconst 2, 1) := by decide +kernel
theorem d_L_law_515 : decode code 515 = .ok (.iadd, 1) := by decide +kernel
theorem d_L_law_516 : decode code 516 = .ok (.iaload, 1) := by decide +kernel
theorem d_L_law_517 : decode code 517 = .ok (.invokevirtual 97, 3) := by decide +kernel
theorem d_L_law_520 : decode code 520 = .ok (.aload_n 2, 1) := by decide +kernel
theorem d_L_law_521 : decode code 521 = .ok (.aload_n 0, 1) := by decide +kernel
theorem d_L_law_522 : decode code 522 = .ok (.iload 4, 2) := by decide +kernel
theorem d_L_law_524 : decode code 524 = .ok (.iconst 1, 1) := by decide +kernel
theorem d_L_law_525 : decode code 525 = .ok (.iadd, 1) := by decide +kernel
theorem d_L_law_526 : decode code 526 = .ok (.iaload, 1) := by decide +kernel
theorem d_L_law_527 : decode code 527 = .ok (.aload_n 0, 1) := by decide +kernel
theorem d_L_law_528 : decode code 528 = .ok (.iload 4, 2) := by decide +kernel
theorem d_L_law_530 : decode code 530 = .ok (.iconst 2, 1) := by decide +kernel
theorem d_L_law_531 : decode code 531 = .ok (.iadd, 1) := by decide +kernel
theorem d_L_law_532 : decode code 532 = .ok (.iaload, 1) := by decide +kernel
theorem d_L_law_533 : decode code 533 = .ok (.invokevirtual 100, 3) := by decide +kernel
theorem d_L_law_536 : decode code 536 = .ok (.if_icmp .eq 359, 3) := by decide +kernel
theorem d_L_law_539 : decode code 539 = .ok (.iconst 0, 1) := by decide +kernel
theorem d_L_law_540 : decode code 540 = .ok (.ireturn, 1) := by decide +kernel
theorem d_L_law_541 : decode code 541 = .ok (.aload_n 1, 1) := by decide +kernel
theorem d_L_law_542 : decode code 542 = .ok (.aload_n 3, 1) := by decide +kernel
theorem d_L_law_543 : decode code 543 = .ok (.invokestatic 101, 3) := by decide +kernel
theorem d_L_law_546 : decode code 546 = .ok (.istore 5, 2) := by decide +kernel
theorem d_L_law_548 : decode code 548 = .ok (.aload_n 2, 1) := by decide +kernel
theorem d_L_law_549 : decode code 549 = .ok (.invokevirtual 104, 3) := by decide +kernel
theorem d_L_law_552 : decode code 552 = .ok (.istore 6, 2) := by decide +kernel
theorem d_L_law_554 : decode code 554 = .ok (.aload_n 2, 1) := by decide +kernel
theorem d_L_law_555 : decode code 555 = .ok (.invokevirtual 62, 3) := by decide +kernel
theorem d_L_law_558 : decode code 558 = .ok (.iload 5, 2) := by decide +kernel
theorem d_L_law_560 : decode code 560 = .ok (.if_icmp .eq 5, 3) := by decide +kernel
theorem d_L_law_563 : decode code 563 = .ok (.iconst 0, 1) := by decide +kernel
theorem d_L_law_564 : decode code 564 = .ok (.ireturn, 1) := by decide +kernel
theorem d_L_law_565 : decode code 565 = .ok (.iload 5, 2) := by decide +kernel
theorem d_L_law_567 : decode code 567 = .ok (.ifCond .ne 15, 3) := by decide +kernel
theorem d_L_law_570 : decode code 570 = .ok (.aload_n 3, 1) := by decide +kernel
theorem d_L_law_571 : decode code 571 = .ok (.iconst 0, 1) := by decide +kernel
theorem d_L_law_572 : decode code 572 = .ok (.laload, 1) := by decide +kernel
theorem d_L_law_573 : decode code 573 = .ok (.iload 6, 2) := by decide +kernel
theorem d_L_law_575 : decode code 575 = .ok (.i2l, 1) := by decide +kernel
theorem d_L_law_576 : decode code 576 = .ok (.lcmp, 1) := by decide +kernel
theorem d_L_law_577 : decode code 577 = .ok (.ifCond .eq 5, 3) := by decide +kernel
theorem d_L_law_580 : decode code 580 = .ok (.iconst 0, 1) := by decide +kernel
theorem d_L_law_581 : decode code 581 = .ok (.ireturn, 1) := by decide +kernel
theorem d_L_law_582 : decode code 582 = .ok (.goto 313, 3) := by decide +kernel
theorem d_L_law_585 : decode code 585 = .ok (.aload_n 1, 1) := by decide +kernel
theorem d_L_law_586 : decode code 586 = .ok (.aload_n 0, 1) := by decide +kernel
theorem d_L_law_587 : decode code 587 = .ok (.iload 4, 2) := by decide +kernel
theorem d_L_law_589 : decode code 589 = .ok (.iconst 1, 1) := by decide +kernel
theorem d_L_law_590 : decode code 590 = .ok (.iadd, 1) := by decide +kernel
theorem d_L_law_591 : decode code 591 = .ok (.iaload, 1) := by decide +kernel
theorem d_L_law_592 : decode code 592 = .ok (.aload_n 0, 1) := by decide +kernel
theorem d_L_law_593 : decode code 593 = .ok (.iload 4, 2) := by decide +kernel
theorem d_L_law_595 : decode code 595 = .ok (.iconst 2, 1) := by decide +kernel
theorem d_L_law_596 : decode code 596 = .ok (.iadd, 1) := by decide +kernel
theorem d_L_law_597 : decode code 597 = .ok (.iaload, 1) := by decide +kernel
theorem d_L_law_598 : decode code 598 = .ok (.aload_n 3, 1) := by decide +kernel
theorem d_L_law_599 : decode code 599 = .ok (.invokestatic 105, 3) := by decide +kernel
theorem d_L_law_602 : decode code 602 = .ok (.istore 5, 2) := by decide +kernel
theorem d_L_law_604 : decode code 604 = .ok (.aload_n 2, 1) := by decide +kernel
theorem d_L_law_605 : decode code 605 = .ok (.aload_n 0, 1) := by decide +kernel
theorem d_L_law_606 : decode code 606 = .ok (.iload 4, 2) := by decide +kernel
theorem d_L_law_608 : decode code 608 = .ok (.iconst 1, 1) := by decide +kernel
theorem d_L_law_609 : decode code 609 = .ok (.iadd, 1) := by decide +kernel
theorem d_L_law_610 : decode code 610 = .ok (.iaload, 1) := by decide +kernel
theorem d_L_law_611 : decode code 611 = .ok (.aload_n 0, 1) := by decide +kernel
theorem d_L_law_612 : decode code 612 = .ok (.iload 4, 2) := by decide +kernel
theorem d_L_law_614 : decode code 614 = .ok (.iconst 2, 1) := by decide +kernel
theorem d_L_law_615 : decode code 615 = .ok (.iadd, 1) := by decide +kernel
theorem d_L_law_616 : decode code 616 = .ok (.iaload, 1) := by decide +kernel
theorem d_L_law_617 : decode code 617 = .ok (.invokevirtual 108, 3) := by decide +kernel
theorem d_L_law_620 : decode code 620 = .ok (.istore 6, 2) := by decide +kernel
theorem d_L_law_622 : decode code 622 = .ok (.aload_n 2, 1) := by decide +kernel
theorem d_L_law_623 : decode code 623 = .ok (.invokevirtual 62, 3) := by decide +kernel
theorem d_L_law_626 : decode code 626 = .ok (.iload 5, 2) := by decide +kernel
theorem d_L_law_628 : decode code 628 = .ok (.if_icmp .eq 5, 3) := by decide +kernel
theorem d_L_law_631 : decode code 631 = .ok (.iconst 0, 1) := by decide +kernel
theorem d_L_law_632 : decode code 632 = .ok (.ireturn, 1) := by decide +kernel
theorem d_L_law_633 : decode code 633 = .ok (.iload 5, 2) := by decide +kernel
theorem d_L_law_635 : decode code 635 = .ok (.ifCond .ne 22, 3) := by decide +kernel
theorem d_L_law_638 : decode code 638 = .ok (.aload_n 3, 1) := by decide +kernel
theorem d_L_law_639 : decode code 639 = .ok (.iconst 0, 1) := by decide +kernel
theorem d_L_law_640 : decode code 640 = .ok (.laload, 1) := by decide +kernel
theorem d_L_law_641 : decode code 641 = .ok (.iload 6, 2) := by decide +kernel
theorem d_L_law_643 : decode code 643 = .ok (.ifCond .eq 7, 3) := by decide +kernel
theorem d_L_law_646 : decode code 646 = .ok (.lconst 1, 1) := by decide +kernel
theorem d_L_law_647 : decode code 647 = .ok (.goto 4, 3) := by decide +kernel
theorem d_L_law_650 : decode code 650 = .ok (.lconst 0, 1) := by decide +kernel
theorem d_L_law_651 : decode code 651 = .ok (.lcmp, 1) := by decide +kernel
theorem d_L_law_652 : decode code 652 = .ok (.ifCond .eq 5, 3) := by decide +kernel
theorem d_L_law_655 : decode code 655 = .ok (.iconst 0, 1) := by decide +kernel
theorem d_L_law_656 : decode code 656 = .ok (.ireturn, 1) := by decide +kernel
theorem d_L_law_657 : decode code 657 = .ok (.goto 238, 3) := by decide +kernel
theorem d_L_law_660 : decode code 660 = .ok (.aload_n 1, 1) := by decide +kernel
theorem d_L_law_661 : decode code 661 = .ok (.aload_n 0, 1) := by decide +kernel
theorem d_L_law_662 : decode code 662 = .ok (.iload 4, 2) := by decide +kernel
theorem d_L_law_664 : decode code 664 = .ok (.iconst 1, 1) := by decide +kernel
theorem d_L_law_665 : decode code 665 = .ok (.iadd, 1) := by decide +kernel
theorem d_L_law_666 : decode code 666 = .ok (.iaload, 1) := by decide +kernel
theorem d_L_law_667 : decode code 667 = .ok (.aload_n 0, 1) := by decide +kernel
theorem d_L_law_668 : decode code 668 = .ok (.iload 4, 2) := by decide +kernel
theorem d_L_law_670 : decode code 670 = .ok (.iconst 2, 1) := by decide +kernel
theorem d_L_law_671 : decode code 671 = .ok (.iadd, 1) := by decide +kernel
theorem d_L_law_672 : decode code 672 = .ok (.iaload, 1) := by decide +kernel
theorem d_L_law_673 : decode code 673 = .ok (.aload_n 0, 1) := by decide +kernel
theorem d_L_law_674 : decode code 674 = .ok (.iload 4, 2) := by decide +kernel
theorem d_L_law_676 : decode code 676 = .ok (.iconst 3, 1) := by decide +kernel
theorem d_L_law_677 : decode code 677 = .ok (.iadd, 1) := by decide +kernel
theorem d_L_law_678 : decode code 678 = .ok (.iaload, 1) := by decide +kernel
theorem d_L_law_679 : decode code 679 = .ok (.aload_n 3, 1) := by decide +kernel
theorem d_L_law_680 : decode code 680 = .ok (.invokestatic 109, 3) := by decide +kernel
theorem d_L_law_683 : decode code 683 = .ok (.istore 5, 2) := by decide +kernel
theorem d_L_law_685 : decode code 685 = .ok (.aload_n 2, 1) := by decide +kernel
theorem d_L_law_686 : decode code 686 = .ok (.aload_n 0, 1) := by decide +kernel
theorem d_L_law_687 : decode code 687 = .ok (.iload 4, 2) := by decide +kernel
theorem d_L_law_689 : decode code 689 = .ok (.iconst 1, 1) := by decide +kernel
theorem d_L_law_690 : decode code 690 = .ok (.iadd, 1) := by decide +kernel
theorem d_L_law_691 : decode code 691 = .ok (.iaload, 1) := by decide +kernel
theorem d_L_law_692 : decode code 692 = .ok (.aload_n 0, 1) := by decide +kernel
theorem d_L_law_693 : decode code 693 = .ok (.iload 4, 2) := by decide +kernel
theorem d_L_law_695 : decode code 695 = .ok (.iconst 2, 1) := by decide +kernel
theorem d_L_law_696 : decode code 696 = .ok (.iadd, 1) := by decide +kernel
theorem d_L_law_697 : decode code 697 = .ok (.iaload, 1) := by decide +kernel
theorem d_L_law_698 : decode code 698 = .ok (.aload_n 0, 1) := by decide +kernel
theorem d_L_law_699 : decode code 699 = .ok (.iload 4, 2) := by decide +kernel
theorem d_L_law_701 : decode code 701 = .ok (.iconst 3, 1) := by decide +kernel
theorem d_L_law_702 : decode code 702 = .ok (.iadd, 1) := by decide +kernel
theorem d_L_law_703 : decode code 703 = .ok (.iaload, 1) := by decide +kernel
theorem d_L_law_704 : decode code 704 = .ok (.invokevirtual 112, 3) := by decide +kernel
theorem d_L_law_707 : decode code 707 = .ok (.istore 6, 2) := by decide +kernel
theorem d_L_law_709 : decode code 709 = .ok (.aload_n 2, 1) := by decide +kernel
theorem d_L_law_710 : decode code 710 = .ok (.invokevirtual 62, 3) := by decide +kernel
theorem d_L_law_713 : decode code 713 = .ok (.iload 5, 2) := by decide +kernel
theorem d_L_law_715 : decode code 715 = .ok (.if_icmp .eq 5, 3) := by decide +kernel
theorem d_L_law_718 : decode code 718 = .ok (.iconst 0, 1) := by decide +kernel
theorem d_L_law_719 : decode code 719 = .ok (.ireturn, 1) := by decide +kernel
theorem d_L_law_720 : decode code 720 = .ok (.iload 5, 2) := by decide +kernel
theorem d_L_law_722 : decode code 722 = .ok (.ifCond .ne 15, 3) := by decide +kernel
theorem d_L_law_725 : decode code 725 = .ok (.aload_n 3, 1) := by decide +kernel
theorem d_L_law_726 : decode code 726 = .ok (.iconst 0, 1) := by decide +kernel
theorem d_L_law_727 : decode code 727 = .ok (.laload, 1) := by decide +kernel
theorem d_L_law_728 : decode code 728 = .ok (.iload 6, 2) := by decide +kernel
theorem d_L_law_730 : decode code 730 = .ok (.i2l, 1) := by decide +kernel
theorem d_L_law_731 : decode code 731 = .ok (.lcmp, 1) := by decide +kernel
theorem d_L_law_732 : decode code 732 = .ok (.ifCond .eq 5, 3) := by decide +kernel
theorem d_L_law_735 : decode code 735 = .ok (.iconst 0, 1) := by decide +kernel
theorem d_L_law_736 : decode code 736 = .ok (.ireturn, 1) := by decide +kernel
theorem d_L_law_737 : decode code 737 = .ok (.goto 158, 3) := by decide +kernel
theorem d_L_law_740 : decode code 740 = .ok (.aload_n 1, 1) := by decide +kernel
theorem d_L_law_741 : decode code 741 = .ok (.aload_n 0, 1) := by decide +kernel
theorem d_L_law_742 : decode code 742 = .ok (.iload 4, 2) := by decide +kernel
theorem d_L_law_744 : decode code 744 = .ok (.iconst 1, 1) := by decide +kernel
theorem d_L_law_745 : decode code 745 = .ok (.iadd, 1) := by decide +kernel
theorem d_L_law_746 : decode code 746 = .ok (.iaload, 1) := by decide +kernel
theorem d_L_law_747 : decode code 747 = .ok (.aload_n 0, 1) := by decide +kernel
theorem d_L_law_748 : decode code 748 = .ok (.iload 4, 2) := by decide +kernel
theorem d_L_law_750 : decode code 750 = .ok (.iconst 2, 1) := by decide +kernel
theorem d_L_law_751 : decode code 751 = .ok (.iadd, 1) := by decide +kernel
theorem d_L_law_752 : decode code 752 = .ok (.iaload, 1) := by decide +kernel
theorem d_L_law_753 : decode code 753 = .ok (.aload_n 3, 1) := by decide +kernel
theorem d_L_law_754 : decode code 754 = .ok (.invokestatic 113, 3) := by decide +kernel
theorem d_L_law_757 : decode code 757 = .ok (.istore 5, 2) := by decide +kernel
theorem d_L_law_759 : decode code 759 = .ok (.aload_n 2, 1) := by decide +kernel
theorem d_L_law_760 : decode code 760 = .ok (.aload_n 0, 1) := by decide +kernel
theorem d_L_law_761 : decode code 761 = .ok (.iload 4, 2) := by decide +kernel
theorem d_L_law_763 : decode code 763 = .ok (.iconst 1, 1) := by decide +kernel
theorem d_L_law_764 : decode code 764 = .ok (.iadd, 1) := by decide +kernel
theorem d_L_law_765 : decode code 765 = .ok (.iaload, 1) := by decide +kernel
theorem d_L_law_766 : decode code 766 = .ok (.aload_n 0, 1) := by decide +kernel
theorem d_L_law_767 : decode code 767 = .ok (.iload 4, 2) := by decide +kernel
theorem d_L_law_769 : decode code 769 = .ok (.iconst 2, 1) := by decide +kernel
theorem d_L_law_770 : decode code 770 = .ok (.iadd, 1) := by decide +kernel
theorem d_L_law_771 : decode code 771 = .ok (.iaload, 1) := by decide +kernel
theorem d_L_law_772 : decode code 772 = .ok (.invokevirtual 115, 3) := by decide +kernel
theorem d_L_law_775 : decode code 775 = .ok (.istore 6, 2) := by decide +kernel
theorem d_L_law_777 : decode code 777 = .ok (.aload_n 2, 1) := by decide +kernel
theorem d_L_law_778 : decode code 778 = .ok (.invokevirtual 62, 3) := by decide +kernel
theorem d_L_law_781 : decode code 781 = .ok (.iload 5, 2) := by decide +kernel
theorem d_L_law_783 : decode code 783 = .ok (.if_icmp .eq 5, 3) := by decide +kernel
theorem d_L_law_786 : decode code 786 = .ok (.iconst 0, 1) := by decide +kernel
theorem d_L_law_787 : decode code 787 = .ok (.ireturn, 1) := by decide +kernel
theorem d_L_law_788 : decode code 788 = .ok (.iload 5, 2) := by decide +kernel
theorem d_L_law_790 : decode code 790 = .ok (.ifCond .ne 15, 3) := by decide +kernel
theorem d_L_law_793 : decode code 793 = .ok (.aload_n 3, 1) := by decide +kernel
theorem d_L_law_794 : decode code 794 = .ok (.iconst 0, 1) := by decide +kernel
theorem d_L_law_795 : decode code 795 = .ok (.laload, 1) := by decide +kernel
theorem d_L_law_796 : decode code 796 = .ok (.iload 6, 2) := by decide +kernel
theorem d_L_law_798 : decode code 798 = .ok (.i2l, 1) := by decide +kernel
theorem d_L_law_799 : decode code 799 = .ok (.lcmp, 1) := by decide +kernel
theorem d_L_law_800 : decode code 800 = .ok (.ifCond .eq 5, 3) := by decide +kernel
theorem d_L_law_803 : decode code 803 = .ok (.iconst 0, 1) := by decide +kernel
theorem d_L_law_804 : decode code 804 = .ok (.ireturn, 1) := by decide +kernel
theorem d_L_law_805 : decode code 805 = .ok (.goto 90, 3) := by decide +kernel
theorem d_L_law_808 : decode code 808 = .ok (.aload_n 1, 1) := by decide +kernel
theorem d_L_law_809 : decode code 809 = .ok (.invokevirtual 116, 3) := by decide +kernel
theorem d_L_law_812 : decode code 812 = .ok (.aload_n 2, 1) := by decide +kernel
theorem d_L_law_813 : decode code 813 = .ok (.invokevirtual 119, 3) := by decide +kernel
theorem d_L_law_816 : decode code 816 = .ok (.if_icmp .eq 79, 3) := by decide +kernel
theorem d_L_law_819 : decode code 819 = .ok (.iconst 0, 1) := by decide +kernel
theorem d_L_law_820 : decode code 820 = .ok (.ireturn, 1) := by decide +kernel
theorem d_L_law_821 : decode code 821 = .ok (.aload_n 1, 1) := by decide +kernel
theorem d_L_law_822 : decode code 822 = .ok (.aload_n 0, 1) := by decide +kernel
theorem d_L_law_823 : decode code 823 = .ok (.iload 4, 2) := by decide +kernel
theorem d_L_law_825 : decode code 825 = .ok (.iconst 1, 1) := by decide +kernel
theorem d_L_law_826 : decode code 826 = .ok (.iadd, 1) := by decide +kernel
theorem d_L_law_827 : decode code 827 = .ok (.iaload, 1) := by decide +kernel
theorem d_L_law_828 : decode code 828 = .ok (.aload_n 0, 1) := by decide +kernel
theorem d_L_law_829 : decode code 829 = .ok (.iload 4, 2) := by decide +kernel
theorem d_L_law_831 : decode code 831 = .ok (.iconst 2, 1) := by decide +kernel
theorem d_L_law_832 : decode code 832 = .ok (.iadd, 1) := by decide +kernel
theorem d_L_law_833 : decode code 833 = .ok (.iaload, 1) := by decide +kernel
theorem d_L_law_834 : decode code 834 = .ok (.aload_n 0, 1) := by decide +kernel
theorem d_L_law_835 : decode code 835 = .ok (.iload 4, 2) := by decide +kernel
theorem d_L_law_837 : decode code 837 = .ok (.iconst 3, 1) := by decide +kernel
theorem d_L_law_838 : decode code 838 = .ok (.iadd, 1) := by decide +kernel
theorem d_L_law_839 : decode code 839 = .ok (.iaload, 1) := by decide +kernel
theorem d_L_law_840 : decode code 840 = .ok (.invokevirtual 120, 3) := by decide +kernel
theorem d_L_law_843 : decode code 843 = .ok (.aload_n 2, 1) := by decide +kernel
theorem d_L_law_844 : decode code 844 = .ok (.aload_n 0, 1) := by decide +kernel
theorem d_L_law_845 : decode code 845 = .ok (.iload 4, 2) := by decide +kernel
theorem d_L_law_847 : decode code 847 = .ok (.iconst 1, 1) := by decide +kernel
theorem d_L_law_848 : decode code 848 = .ok (.iadd, 1) := by decide +kernel
theorem d_L_law_849 : decode code 849 = .ok (.iaload, 1) := by decide +kernel
theorem d_L_law_850 : decode code 850 = .ok (.aload_n 0, 1) := by decide +kernel
theorem d_L_law_851 : decode code 851 = .ok (.iload 4, 2) := by decide +kernel
theorem d_L_law_853 : decode code 853 = .ok (.iconst 2, 1) := by decide +kernel
theorem d_L_law_854 : decode code 854 = .ok (.iadd, 1) := by decide +kernel
theorem d_L_law_855 : decode code 855 = .ok (.iaload, 1) := by decide +kernel
theorem d_L_law_856 : decode code 856 = .ok (.aload_n 0, 1) := by decide +kernel
theorem d_L_law_857 : decode code 857 = .ok (.iload 4, 2) := by decide +kernel
theorem d_L_law_859 : decode code 859 = .ok (.iconst 3, 1) := by decide +kernel
theorem d_L_law_860 : decode code 860 = .ok (.iadd, 1) := by decide +kernel
theorem d_L_law_861 : decode code 861 = .ok (.iaload, 1) := by decide +kernel
theorem d_L_law_862 : decode code 862 = .ok (.invokevirtual 124, 3) := by decide +kernel
theorem d_L_law_865 : decode code 865 = .ok (.if_icmp .eq 30, 3) := by decide +kernel
theorem d_L_law_868 : decode code 868 = .ok (.iconst 0, 1) := by decide +kernel
theorem d_L_law_869 : decode code 869 = .ok (.ireturn, 1) := by decide +kernel
theorem d_L_law_870 : decode code 870 = .ok (.aload_n 1, 1) := by decide +kernel
theorem d_L_law_871 : decode code 871 = .ok (.aload_n 0, 1) := by decide +kernel
theorem d_L_law_872 : decode code 872 = .ok (.iload 4, 2) := by decide +kernel
theorem d_L_law_874 : decode code 874 = .ok (.iconst 1, 1) := by decide +kernel
theorem d_L_law_875 : decode code 875 = .ok (.iadd, 1) := by decide +kernel
theorem d_L_law_876 : decode code 876 = .ok (.iaload, 1) := by decide +kernel
theorem d_L_law_877 : decode code 877 = .ok (.invokevirtual 125, 3) := by decide +kernel
theorem d_L_law_880 : decode code 880 = .ok (.aload_n 2, 1) := by decide +kernel
theorem d_L_law_881 : decode code 881 = .ok (.aload_n 0, 1) := by decide +kernel
theorem d_L_law_882 : decode code 882 = .ok (.iload 4, 2) := by decide +kernel
theorem d_L_law_884 : decode code 884 = .ok (.iconst 1, 1) := by decide +kernel
theorem d_L_law_885 : decode code 885 = .ok (.iadd, 1) := by decide +kernel
theorem d_L_law_886 : decode code 886 = .ok (.iaload, 1) := by decide +kernel
theorem d_L_law_887 : decode code 887 = .ok (.invokevirtual 128, 3) := by decide +kernel
theorem d_L_law_890 : decode code 890 = .ok (.if_icmp .eq 5, 3) := by decide +kernel
theorem d_L_law_893 : decode code 893 = .ok (.iconst 0, 1) := by decide +kernel
theorem d_L_law_894 : decode code 894 = .ok (.ireturn, 1) := by decide +kernel
theorem d_L_law_895 : decode code 895 = .ok (.iinc 4 4, 3) := by decide +kernel
theorem d_L_law_898 : decode code 898 = .ok (.goto (-875), 3) := by decide +kernel
theorem d_L_law_901 : decode code 901 = .ok (.iconst 1, 1) := by decide +kernel
theorem d_L_law_902 : decode code 902 = .ok (.ireturn, 1) := by decide +kernel
section LWR
variable {p : Program} {l : Launch} {e : Env} {R : Room} {s : State} {m : MethodId} {args : Array Value} {below : List Frame} {meth : Method} {c : Code} {H : Heap} {locs : List Loc} {cells slots : Nat} {Q : State → Prop}
variable {cc : ByteArray} {pc : Nat} {ls : Array Slot} {rest st : List Value} {A : Nat → Prop}
theorem xw_more {g : JFrame} {c2 s2 : Nat} (h1 : cells ≤ c2) (h2 : slots ≤ s2) (k : W p l e R s m args below meth c H locs c2 s2 Q g) : W p l e R s m args below meth c H locs cells slots Q g := fun T hT X =>
  k T hT ⟨X.admits, X.cas, X.clock, X.frames, X.room, X.hears, X.method, X.code, X.here, X.tail, X.warmed, X.limits, X.bytes, X.same.weaken (fun y hy _ => hy) h1 h2⟩
theorem xa_scr {b L : Nat} {xs : Nat → Int32} (hx : p.tables.exec = Jvm.exec) (hb : c.code = cc) (hX : va_X b L xs s s.heap) (hbl : b < s.heap.size) (hbA : ¬ A b) (hS : va_S A s.heap H locs) {j : Nat} (hj : j < L) (hL : L ≤ 2048) (hdg : decode cc pc = .ok (.iaload, 1))
    (kk : W p l e R s m args below meth c H locs cells slots Q (F0 m (pc + 1) ls (.int (xs j) :: rest))) : W p l e R s m args below meth c H locs cells slots Q (F0 m pc ls (.int (nI j) :: .ref b :: rest)) := by
  refine va_sld hx hb hX hbl hbA hS (vp_in_nI hj (by omega)) hdg ?_
  rw [nI_clamp (by omega)]
  exact kk
theorem lg_self (x : Int64) : lg_cmp x x = nI 0 := by
  unfold lg_cmp
  rw [if_neg (fun h => Int64.lt_irrefl h), if_pos rfl]; rfl
theorem lw_gt {i L : Nat} (hi : i < 100000) (hL : L ≤ 2048) : (nI L - nI 4 < nI i ↔ L < i + 4) := by
  rw [Int32.lt_iff_toInt_lt, pk_sub_toInt (by omega) (by decide), nI_toInt (by omega)]
  omega
theorem op_cases (x : Int32) : (okp x = true ∧ x = nI 0) ∨ (okp x = true ∧ x = nI 1) ∨ (okp x = true ∧ x = nI 2) ∨ (okp x = true ∧ x = nI 3) ∨ okp x = false := by
  rcases Bool.eq_false_or_eq_true (okp x) with h | h
  · obtain ⟨w, hw, e⟩ := op_of h
    rcases (show w = 0 ∨ w = 1 ∨ w = 2 ∨ w = 3 by omega) with q | q | q | q <;> subst q
    · exact Or.inl ⟨h, e⟩
    · exact Or.inr (Or.inl ⟨h, e⟩)
    · exact Or.inr (Or.inr (Or.inl ⟨h, e⟩))
    · exact Or.inr (Or.inr (Or.inr (Or.inl ⟨h, e⟩)))
  · exact Or.inr (Or.inr (Or.inr (Or.inr h)))
variable {y : MethodName} {bytes : ByteArray} {maxL nL mc ms n index : Nat} {ret : Option FieldType} {ws ws' : List Cond} {rm : Room} {Pc : Array Value → State → Prop} {Qc : Array Value → State → Outcome → State → Prop} {free : Addr → Prop} {Ts : List Cond} {own : String} {As : List Value} {g : JFrame} {hh : List (Nat × Nat × Nat × Nat)}
theorem va_runSW (S : CallFix p m c cc nL s args Ts own) (hM : Met l y ws rm Pc Qc mc ms free) (hG : GoodIn Ts ws) (hw : ws = Cond.codeWith y bytes maxL ret hh :: ws') (hrc : rm.cells = mc) (hrs : rm.slots = ms) (hini : (Cond.initialized y.cls).before args s = true) (hl : (Cond.methodLink own index y).before args s = true) (hstt : (Cond.static y).before args s = true)
    (hd : y.cls ≠ "java/lang/invoke/MethodHandle" ∧ y.cls ≠ "java/lang/invoke/VarHandle" ∧ (parseMethodDescriptor y.desc).map (fun d => d.parameters.length) = some n) (hR : rm.frames + 1 ≤ R.frames ∧ 8 + (maxL + 11) + rm.locals ≤ R.locals) (hp : PreS s H Pc As)
    (hg : g.method = m) (hn : As.length = n) (hsize : g.locals.size = nL) (hstack : g.stack = As.reverse ++ rest) (hW : 2 * g.monitorRoom + (rest.map fun v => v.category).sum ≤ 8) (hdg : decode cc g.pc = .ok (.invokestatic index, 3)) (hf : cells + mc ≤ R.cells ∧ slots + ms ≤ R.slots) :
    va_Run p l e R s m args below meth c H locs cells slots mc ms g rest (Qc As.toArray) free := by
  obtain ⟨hx, hb, hml, ho, ht⟩ := S
  have hc : Cond.codeWith y bytes maxL ret hh ∈ ws := by rw [hw]; exact List.mem_cons_self
  have hK : Back l R p e below s args y 3 8 (PreOf R mc ms Pc) (PostOf Qc mc ms free) := va_backW (bytes := bytes) (maxL := maxL) (ret := ret) (hh := hh) hM hp.1 hrc hrs hR.1 hR.2 (pay_in ht hG) hc (fun a' U hW => word_at hW (Or.inl (by first | rfl | simp [Cond.onTables, Cond.keeps, Cond.steady])) hini)
  intro T hT X
  obtain ⟨mk, methM, cM, hnamed, hmethM, -, -, -, -, -, -, hsigM⟩ := Cond.codeWith_spec (ht _ (hG _ hc).1)
  obtain ⟨kP, hkP, -⟩ := className_of_methodNamed hnamed
  obtain ⟨vm₁, X₁, hstep₁⟩ := X.invokestatic hx ho hl hnamed hmethM (Cond.static_spec hnamed hmethM hstt) hkP (Cond.initialized_spec (findClass_of_methodNamed hnamed) hkP hini) ⟨hd.1, hd.2.1⟩ (g := g) hg (argsL := As) (rest := rest) (by have h9 := hd.2.2; rw [hsigM] at h9; exact hn.trans (Option.some.inj h9).symm) hstack (by rw [hb]; exact hdg)
  obtain ⟨v, ⟨U', l2, c2, s2⟩, X', ⟨g', mk', t, L, e1, e2, hq, h1, hL, h2, h3⟩, hgo⟩ := hK m meth c ⟨T.setVm vm₁, locs, cells, slots⟩ { g with stack := rest } (.invokestatic index) mk As.toArray X₁ hg (hsize.trans hml.symm) (by rw [hb]; exact hdg) hW (X₁.named hnamed) ⟨hf.1, hf.2, hp.2 (T.setVm vm₁) hT X₁.warmed⟩
  dsimp only [Pt.U, Pt.locs, Pt.cells, Pt.slots] at X' e1 e2 h1 h2 h3 hgo
  subst h1; subst h2; subst h3
  exact ⟨v, (T.setVm vm₁).calling g' mk' As.toArray, t, U', L, hT, X', hL, e1, e2, hq, fun tg h => hstep₁ _ fun acts => by rw [doInvoke_state]; exact hgo.trans h⟩
end LWR
/-- what stays over the law's walk -/
def LCX (p : Program) (l : Launch) (s : State) (m : MethodId) (c : Code) (b L : Nat) (xs : Nat → Int32) (D : va_G) (cI cZ cJ cG : ClassId) (tF : Nat) (A : Nat → Prop) : Prop :=
  p.tables.exec = Jvm.exec ∧ c.code = b_L_law ∧ c.maxLocals = 7 ∧ s.vm.findClass R_L = some m.cls ∧ (∀ w ∈ Cond.tt :: TB, w.before #[Value.ref b] s = true) ∧ va_K D vwCl (TYs cI cZ cJ cG) s ∧ gG tF A s s.heap ∧ (∀ q : Nat, s.heap.size ≤ q → A q) ∧ va_X b L xs s s.heap ∧ b < s.heap.size ∧ ¬ A b ∧ L ≤ 2048 ∧ l.stackTraces = false
/-- the law's world: the class's cells, the reference's, the long's -/
def LWD (cI cZ cJ cG : ClassId) (aX aR aM aG aL aU aP aO aK aS aQ aN aT aP0 aP1 aP2 aP3 xM xK xV xC xH xT xP xB xR xL xN xQ aJ : Nat) (n : Nat) (f : Nat → Int32) (mk : Nat → Int32) (b1 : Int32) (b2 : Int32) (ln : Nat) (rk : Nat → Int32) (nu : Nat → Int32) (z : Nat) (lc : Nat) (le : Nat) (mo : Nat) (bu : Nat) (on : Bool) (la : Nat) (fo : Nat) (sp : Bool) (tl : Nat → Int32) (ct : Nat) (tq : Nat → Int32) (g0 : Nat → Int32) (g1 : Nat → Int32) (g2 : Nat → Int32) (g3 : Nat → Int32) (cd : Int32) (km : Nat → Int32) (gv : Nat → Int32) (cq : Nat → Int32) (hcq : Nat → Int32) (xtq : Nat → Int32) (pq : Nat → Int32) (B : Nat → Int32) (Rk : Nat → Int32) (lq : Nat → Int32) (nx : Nat → Int32) (mq : Nat → Int32) (rp : Bool) (ou : Nat → Int64) : va_W := [(aX, .inr (5, [.ref aR, .ref aM, .ref aG, .ref aL, .ref aU, .ref aP, .int (nI ct)])), (aR, .inr (3, [.ref aO, .int (nI n)])), (aO, .inl (cI, 6, .inl f)), (aM, .inr (1, [.ref aK, .int b1, .int b2, .int (nI ln)])), (aK, .inl (cI, 24, .inl mk)), (aG, .inr (2, [.ref aM, .ref aR, .ref aS])), (aS, .inr (4, [.ref aQ, .ref aN, .int (nI z)])), (aQ, .inl (cI, 720, .inl rk)), (aN, .inl (cI, 720, .inl nu)), (aL, .inr (0, [.ref aM, .ref aG, .ref aT, .int (nI lc), .int (nI le), .int (nI mo), .int (nI bu), .int (nI on.toNat), .int (nI la), .int (nI fo), .int (nI sp.toNat)])), (aT, .inl (cI, 30, .inl tl)), (aU, .inl (cI, 30, .inl tq)), (aP, .inl (cG, 4, .inr (.inr (.inr (.inr (pO aP0 aP1 aP2 aP3)))))), (aP0, .inl (cI, 6, .inl g0)), (aP1, .inl (cI, 6, .inl g1)), (aP2, .inl (cI, 6, .inl g2)), (aP3, .inl (cI, 6, .inl g3)), (xM, .inr (6, [.int cd, .int (nI n), .ref xK, .ref xV, .int (nI ln), .ref xC, .ref xH, .int (nI ct), .ref xT, .ref xP, .int (nI la), .ref xB, .ref xR, .ref xL, .ref xN, .ref xQ, .int (nI rp.toNat)])), (xK, .inl (cI, 24, .inl km)), (xV, .inl (cZ, 24, .inl gv)), (xC, .inl (cI, 3, .inl cq)), (xH, .inl (cZ, 3, .inl hcq)), (xT, .inl (cI, 30, .inl xtq)), (xP, .inl (cI, 24, .inl pq)), (xB, .inl (cI, 4326, .inl B)), (xR, .inl (cI, 721, .inl Rk)), (xL, .inl (cI, 31, .inl lq)), (xN, .inl (cI, 32, .inl nx)), (xQ, .inl (cI, 720, .inl mq)), (aJ, .inl (cJ, 1, .inr (.inl ou)))]
/-- what is owed at the loop's end -/
def LKO (p : Program) (l : Launch) (e : Env) (s : State) (m : MethodId) (below : List Frame) (meth : Method) (c : Code) (b : Nat) (D : va_G) (cI cZ cJ cG : ClassId) (A : Nat → Prop) (aX aR aM aG aL aU aP aO aK aS aQ aN aT aP0 aP1 aP2 aP3 xM xK xV xC xH xT xP xB xR xL xN xQ aJ : Nat) (i cells slots pcq : Nat) : Prop :=
  ∀ (n : Nat) (f : Nat → Int32) (mk : Nat → Int32) (b1 : Int32) (b2 : Int32) (ln : Nat) (rk : Nat → Int32) (nu : Nat → Int32) (z : Nat) (lc : Nat) (le : Nat) (mo : Nat) (bu : Nat) (on : Bool) (la : Nat) (fo : Nat) (sp : Bool) (tl : Nat → Int32) (ct : Nat) (tq : Nat → Int32) (g0 : Nat → Int32) (g1 : Nat → Int32) (g2 : Nat → Int32) (g3 : Nat → Int32) (cd : Int32) (km : Nat → Int32) (gv : Nat → Int32) (cq : Nat → Int32) (hcq : Nat → Int32) (xtq : Nat → Int32) (pq : Nat → Int32) (B : Nat → Int32) (Rk : Nat → Int32) (lq : Nat → Int32) (nx : Nat → Int32) (mq : Nat → Int32) (rp : Bool) (ou : Nat → Int64) (R : Nat → Nat) (ls : Array Slot) (H : Heap) (locs : List Loc), LREL n ln ct mk b1 b2 tq g0 g1 g2 g3 z R rk nu km gv cq hcq xtq pq → lv_has ls 7 [(0, .ref b), (1, .ref aX), (2, .ref xM), (3, .ref aJ), (4, .int (nI i))] → va_P D vwCl [(aX, .inr (5, [.ref aR, .ref aM, .ref aG, .ref aL, .ref aU, .ref aP, .int (nI ct)])), (aR, .inr (3, [.ref aO, .int (nI n)])), (aO, .inl (cI, 6, .inl f)), (aM, .inr (1, [.ref aK, .int b1, .int b2, .int (nI ln)])), (aK, .inl (cI, 24, .inl mk)), (aG, .inr (2, [.ref aM, .ref aR, .ref aS])), (aS, .inr (4, [.ref aQ, .ref aN, .int (nI z)])), (aQ, .inl (cI, 720, .inl rk)), (aN, .inl (cI, 720, .inl nu)), (aL, .inr (0, [.ref aM, .ref aG, .ref aT, .int (nI lc), .int (nI le), .int (nI mo), .int (nI bu), .int (nI on.toNat), .int (nI la), .int (nI fo), .int (nI sp.toNat)])), (aT, .inl (cI, 30, .inl tl)), (aU, .inl (cI, 30, .inl tq)), (aP, .inl (cG, 4, .inr (.inr (.inr (.inr (pO aP0 aP1 aP2 aP3)))))), (aP0, .inl (cI, 6, .inl g0)), (aP1, .inl (cI, 6, .inl g1)), (aP2, .inl (cI, 6, .inl g2)), (aP3, .inl (cI, 6, .inl g3)), (xM, .inr (6, [.int cd, .int (nI n), .ref xK, .ref xV, .int (nI ln), .ref xC, .ref xH, .int (nI ct), .ref xT, .ref xP, .int (nI la), .ref xB, .ref xR, .ref xL, .ref xN, .ref xQ, .int (nI rp.toNat)])), (xK, .inl (cI, 24, .inl km)), (xV, .inl (cZ, 24, .inl gv)), (xC, .inl (cI, 3, .inl cq)), (xH, .inl (cZ, 3, .inl hcq)), (xT, .inl (cI, 30, .inl xtq)), (xP, .inl (cI, 24, .inl pq)), (xB, .inl (cI, 4326, .inl B)), (xR, .inl (cI, 721, .inl Rk)), (xL, .inl (cI, 31, .inl lq)), (xN, .inl (cI, 32, .inl nx)), (xQ, .inl (cI, 720, .inl mq)), (aJ, .inl (cJ, 1, .inr (.inl ou)))] H → va_D A [(aX, .inr (5, [.ref aR, .ref aM, .ref aG, .ref aL, .ref aU, .ref aP, .int (nI ct)])), (aR, .inr (3, [.ref aO, .int (nI n)])), (aO, .inl (cI, 6, .inl f)), (aM, .inr (1, [.ref aK, .int b1, .int b2, .int (nI ln)])), (aK, .inl (cI, 24, .inl mk)), (aG, .inr (2, [.ref aM, .ref aR, .ref aS])), (aS, .inr (4, [.ref aQ, .ref aN, .int (nI z)])), (aQ, .inl (cI, 720, .inl rk)), (aN, .inl (cI, 720, .inl nu)), (aL, .inr (0, [.ref aM, .ref aG, .ref aT, .int (nI lc), .int (nI le), .int (nI mo), .int (nI bu), .int (nI on.toNat), .int (nI la), .int (nI fo), .int (nI sp.toNat)])), (aT, .inl (cI, 30, .inl tl)), (aU, .inl (cI, 30, .inl tq)), (aP, .inl (cG, 4, .inr (.inr (.inr (.inr (pO aP0 aP1 aP2 aP3)))))), (aP0, .inl (cI, 6, .inl g0)), (aP1, .inl (cI, 6, .inl g1)), (aP2, .inl (cI, 6, .inl g2)), (aP3, .inl (cI, 6, .inl g3)), (xM, .inr (6, [.int cd, .int (nI n), .ref xK, .ref xV, .int (nI ln), .ref xC, .ref xH, .int (nI ct), .ref xT, .ref xP, .int (nI la), .ref xB, .ref xR, .ref xL, .ref xN, .ref xQ, .int (nI rp.toNat)])), (xK, .inl (cI, 24, .inl km)), (xV, .inl (cZ, 24, .inl gv)), (xC, .inl (cI, 3, .inl cq)), (xH, .inl (cZ, 3, .inl hcq)), (xT, .inl (cI, 30, .inl xtq)), (xP, .inl (cI, 24, .inl pq)), (xB, .inl (cI, 4326, .inl B)), (xR, .inl (cI, 721, .inl Rk)), (xL, .inl (cI, 31, .inl lq)), (xN, .inl (cI, 32, .inl nx)), (xQ, .inl (cI, 720, .inl mq)), (aJ, .inl (cJ, 1, .inr (.inl ou)))] → va_S A s.heap H locs → W p l e room_1 s m #[Value.ref b] below meth c H locs cells slots (lw_Z below #[Value.ref b] s) (F0 m pcq ls [])
