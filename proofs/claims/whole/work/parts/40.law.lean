def R_law : String := "SleepersPayLaw"
def lw_P (b : Addr) (xs : List Int32) (args : Array Value) (s : State) : Prop := args = #[.ref b] ∧ s.IntsAt b xs ∧ xs.length ≤ 3072 ∧ (Jvm.Cond.and given_1 narrow_1).before args s = true
def lw_Q (_ : Array Value) (s : State) (o : Outcome) (t : State) : Prop := o = .returned (some (.int 1)) ∧ Framed s o t [] 600000 7302250
def lw_Z (below : List Frame) (a : Array Value) (s : State) : State → Prop := fun t => ∃ o, t.status = .running ∧ Ended t below o ∧ lw_Q a s o t
/-- the law's own end, with 1 on the stack, nothing written that was there before, its room as the claim has it -/
theorem lw_ret {p : Program} {l : Launch} {e : Env} {s : State} {m : MethodId} {below : List Frame} {meth : Method} {c : Code} {b : Nat} (hx : p.tables.exec = Jvm.exec) (hb : c.code = code) (hr : meth.sig.returnType = ret) (hlocks : meth.locks = false) {pc : Nat} {H : Heap} {ls : Array Slot} (hdg : decode code pc = .ok (.ireturn, 1)) : W p l e room_1 s m #[Value.ref b] below meth c H [] 600000 7302250 (lw_Z below #[Value.ref b] s) (F0 m pc ls [.int 1]) := by
  intro T hT X
  obtain ⟨fs, hret, hrun, hended, hW, hframe⟩ := X.leave (v := some (.int 1)) (hlocks := hlocks) (fun h => by rw [hr] at h; cases h)
  have hmeth' : T.vm.method? m = some meth := X.method'
  refine ⟨T.setFrames fs, ?_, .returned (some (.int 1)), hrun, hended, rfl, ⟨_, rfl⟩, hW, hframe⟩
  jvm_step X.here [X.here.top, hx, hb, hdg, hmeth', hr, ret, narrow_b1]
  (try refine ⟨rfl, ?_⟩); (try refine ⟨rfl, ?_⟩)
  first | (intro acts; rw [hret _ acts rfl rfl rfl]) | rw [hret _ _ rfl rfl rfl]
  exact Steps.refl _
/-- what holds at the law's entry: the machine, the code, the tables' words (any of lw_tbl by 'hts w (by decide +kernel)'), the script of L ints xs at the cell b, what the Statement gives of the start (any of its parts by flat_of_before) -/
def lw_At (p : Program) (s : State) (m : MethodId) (meth : Method) (c : Code) (b L : Nat) (xs : Nat → Int32) : Prop :=
  p.tables.exec = Jvm.exec ∧ c.code = code ∧ meth.sig.returnType = ret ∧ c.maxLocals = 4 ∧ s.vm.findClass R_law = some m.cls ∧ (∀ w ∈ lw_tbl, w.before #[Value.ref b] s = true) ∧ va_X b L xs s s.heap ∧ b < s.heap.size ∧ meth.locks = false ∧ (Jvm.Cond.and given_1 narrow_1).before #[Value.ref b] s = true
theorem dL_law_0 : decode cL_law 0 = .ok (.new 7, 3) := by decide +kernel
theorem dL_law_3 : decode cL_law 3 = .ok (.dup, 1) := by decide +kernel
theorem dL_law_4 : decode cL_law 4 = .ok (.invokespecial 9, 3) := by decide +kernel
theorem dL_law_7 : decode cL_law 7 = .ok (.astore_n 1, 1) := by decide +kernel
theorem dL_law_8 : decode cL_law 8 = .ok (.new 10, 3) := by decide +kernel
theorem dL_law_11 : decode cL_law 11 = .ok (.dup, 1) := by decide +kernel
theorem dL_law_12 : decode cL_law 12 = .ok (.invokespecial 12, 3) := by decide +kernel
theorem dL_law_15 : decode cL_law 15 = .ok (.astore_n 2, 1) := by decide +kernel
theorem dL_law_16 : decode cL_law 16 = .ok (.iconst 0, 1) := by decide +kernel
theorem dL_law_17 : decode cL_law 17 = .ok (.istore_n 3, 1) := by decide +kernel
theorem dL_law_18 : decode cL_law 18 = .ok (.iload_n 3, 1) := by decide +kernel
theorem dL_law_19 : decode cL_law 19 = .ok (.aload_n 0, 1) := by decide +kernel
theorem dL_law_20 : decode cL_law 20 = .ok (.arraylength, 1) := by decide +kernel
theorem dL_law_21 : decode cL_law 21 = .ok (.bipush 6, 2) := by decide +kernel
theorem dL_law_23 : decode cL_law 23 = .ok (.isub, 1) := by decide +kernel
theorem dL_law_24 : decode cL_law 24 = .ok (.if_icmp .gt 1068, 3) := by decide +kernel
theorem dL_law_27 : decode cL_law 27 = .ok (.aload_n 0, 1) := by decide +kernel
theorem dL_law_28 : decode cL_law 28 = .ok (.iload_n 3, 1) := by decide +kernel
theorem dL_law_29 : decode cL_law 29 = .ok (.iaload, 1) := by decide +kernel
theorem dL_law_30 : decode cL_law 30 = .ok (.bipush 31, 2) := by decide +kernel
theorem dL_law_32 : decode cL_law 32 = .ok (.iand, 1) := by decide +kernel
theorem dL_law_33 : decode cL_law 33 = .ok (.tableswitch 1053 0 27 #[127, 190, 213, 226, 239, 262, 295, 328, 341, 390, 439, 452, 485, 528, 571, 594, 617, 660, 713, 736, 759, 812, 855, 908, 931, 984, 1007, 1030], 127) := by decide +kernel
theorem dL_law_160 : decode cL_law 160 = .ok (.aload_n 1, 1) := by decide +kernel
theorem dL_law_161 : decode cL_law 161 = .ok (.aload_n 0, 1) := by decide +kernel
theorem dL_law_162 : decode cL_law 162 = .ok (.iload_n 3, 1) := by decide +kernel
theorem dL_law_163 : decode cL_law 163 = .ok (.iconst 1, 1) := by decide +kernel
theorem dL_law_164 : decode cL_law 164 = .ok (.iadd, 1) := by decide +kernel
theorem dL_law_165 : decode cL_law 165 = .ok (.iaload, 1) := by decide +kernel
theorem dL_law_166 : decode cL_law 166 = .ok (.aload_n 0, 1) := by decide +kernel
theorem dL_law_167 : decode cL_law 167 = .ok (.iload_n 3, 1) := by decide +kernel
theorem dL_law_168 : decode cL_law 168 = .ok (.iconst 2, 1) := by decide +kernel
theorem dL_law_169 : decode cL_law 169 = .ok (.iadd, 1) := by decide +kernel
theorem dL_law_170 : decode cL_law 170 = .ok (.iaload, 1) := by decide +kernel
theorem dL_law_171 : decode cL_law 171 = .ok (.aload_n 0, 1) := by decide +kernel
theorem dL_law_172 : decode cL_law 172 = .ok (.iload_n 3, 1) := by decide +kernel
theorem dL_law_173 : decode cL_law 173 = .ok (.iconst 3, 1) := by decide +kernel
theorem dL_law_174 : decode cL_law 174 = .ok (.iadd, 1) := by decide +kernel
theorem dL_law_175 : decode cL_law 175 = .ok (.iaload, 1) := by decide +kernel
theorem dL_law_176 : decode cL_law 176 = .ok (.aload_n 0, 1) := by decide +kernel
theorem dL_law_177 : decode cL_law 177 = .ok (.iload_n 3, 1) := by decide +kernel
theorem dL_law_178 : decode cL_law 178 = .ok (.iconst 4, 1) := by decide +kernel
theorem dL_law_179 : decode cL_law 179 = .ok (.iadd, 1) := by decide +kernel
theorem dL_law_180 : decode cL_law 180 = .ok (.iaload, 1) := by decide +kernel
theorem dL_law_181 : decode cL_law 181 = .ok (.aload_n 0, 1) := by decide +kernel
theorem dL_law_182 : decode cL_law 182 = .ok (.iload_n 3, 1) := by decide +kernel
theorem dL_law_183 : decode cL_law 183 = .ok (.iconst 5, 1) := by decide +kernel
theorem dL_law_184 : decode cL_law 184 = .ok (.iadd, 1) := by decide +kernel
theorem dL_law_185 : decode cL_law 185 = .ok (.iaload, 1) := by decide +kernel
theorem dL_law_186 : decode cL_law 186 = .ok (.invokevirtual 13, 3) := by decide +kernel
theorem dL_law_189 : decode cL_law 189 = .ok (.aload_n 2, 1) := by decide +kernel
theorem dL_law_190 : decode cL_law 190 = .ok (.aload_n 0, 1) := by decide +kernel
theorem dL_law_191 : decode cL_law 191 = .ok (.iload_n 3, 1) := by decide +kernel
theorem dL_law_192 : decode cL_law 192 = .ok (.iconst 1, 1) := by decide +kernel
theorem dL_law_193 : decode cL_law 193 = .ok (.iadd, 1) := by decide +kernel
theorem dL_law_194 : decode cL_law 194 = .ok (.iaload, 1) := by decide +kernel
theorem dL_law_195 : decode cL_law 195 = .ok (.aload_n 0, 1) := by decide +kernel
theorem dL_law_196 : decode cL_law 196 = .ok (.iload_n 3, 1) := by decide +kernel
theorem dL_law_197 : decode cL_law 197 = .ok (.iconst 2, 1) := by decide +kernel
theorem dL_law_198 : decode cL_law 198 = .ok (.iadd, 1) := by decide +kernel
theorem dL_law_199 : decode cL_law 199 = .ok (.iaload, 1) := by decide +kernel
theorem dL_law_200 : decode cL_law 200 = .ok (.aload_n 0, 1) := by decide +kernel
theorem dL_law_201 : decode cL_law 201 = .ok (.iload_n 3, 1) := by decide +kernel
theorem dL_law_202 : decode cL_law 202 = .ok (.iconst 3, 1) := by decide +kernel
theorem dL_law_203 : decode cL_law 203 = .ok (.iadd, 1) := by decide +kernel
theorem dL_law_204 : decode cL_law 204 = .ok (.iaload, 1) := by decide +kernel
theorem dL_law_205 : decode cL_law 205 = .ok (.aload_n 0, 1) := by decide +kernel
theorem dL_law_206 : decode cL_law 206 = .ok (.iload_n 3, 1) := by decide +kernel
theorem dL_law_207 : decode cL_law 207 = .ok (.iconst 4, 1) := by decide +kernel
theorem dL_law_208 : decode cL_law 208 = .ok (.iadd, 1) := by decide +kernel
theorem dL_law_209 : decode cL_law 209 = .ok (.iaload, 1) := by decide +kernel
theorem dL_law_210 : decode cL_law 210 = .ok (.aload_n 0, 1) := by decide +kernel
theorem dL_law_211 : decode cL_law 211 = .ok (.iload_n 3, 1) := by decide +kernel
theorem dL_law_212 : decode cL_law 212 = .ok (.iconst 5, 1) := by decide +kernel
theorem dL_law_213 : decode cL_law 213 = .ok (.iadd, 1) := by decide +kernel
theorem dL_law_214 : decode cL_law 214 = .ok (.iaload, 1) := by decide +kernel
theorem dL_law_215 : decode cL_law 215 = .ok (.invokevirtual 17, 3) := by decide +kernel
theorem dL_law_218 : decode cL_law 218 = .ok (.if_icmp .eq 868, 3) := by decide +kernel
theorem dL_law_221 : decode cL_law 221 = .ok (.iconst 0, 1) := by decide +kernel
theorem dL_law_222 : decode cL_law 222 = .ok (.ireturn, 1) := by decide +kernel
theorem dL_law_223 : decode cL_law 223 = .ok (.aload_n 1, 1) := by decide +kernel
theorem dL_law_224 : decode cL_law 224 = .ok (.aload_n 0, 1) := by decide +kernel
theorem dL_law_225 : decode cL_law 225 = .ok (.iload_n 3, 1) := by decide +kernel
theorem dL_law_226 : decode cL_law 226 = .ok (.iconst 1, 1) := by decide +kernel
theorem dL_law_227 : decode cL_law 227 = .ok (.iadd, 1) := by decide +kernel
theorem dL_law_228 : decode cL_law 228 = .ok (.iaload, 1) := by decide +kernel
theorem dL_law_229 : decode cL_law 229 = .ok (.invokevirtual 18, 3) := by decide +kernel
theorem dL_law_232 : decode cL_law 232 = .ok (.aload_n 2, 1) := by decide +kernel
theorem dL_law_233 : decode cL_law 233 = .ok (.aload_n 0, 1) := by decide +kernel
theorem dL_law_234 : decode cL_law 234 = .ok (.iload_n 3, 1) := by decide +kernel
theorem dL_law_235 : decode cL_law 235 = .ok (.iconst 1, 1) := by decide +kernel
theorem dL_law_236 : decode cL_law 236 = .ok (.iadd, 1) := by decide +kernel
theorem dL_law_237 : decode cL_law 237 = .ok (.iaload, 1) := by decide +kernel
theorem dL_law_238 : decode cL_law 238 = .ok (.invokevirtual 22, 3) := by decide +kernel
theorem dL_law_241 : decode cL_law 241 = .ok (.if_icmp .eq 845, 3) := by decide +kernel
theorem dL_law_244 : decode cL_law 244 = .ok (.iconst 0, 1) := by decide +kernel
theorem dL_law_245 : decode cL_law 245 = .ok (.ireturn, 1) := by decide +kernel
theorem dL_law_246 : decode cL_law 246 = .ok (.aload_n 1, 1) := by decide +kernel
theorem dL_law_247 : decode cL_law 247 = .ok (.invokevirtual 23, 3) := by decide +kernel
theorem dL_law_250 : decode cL_law 250 = .ok (.aload_n 2, 1) := by decide +kernel
theorem dL_law_251 : decode cL_law 251 = .ok (.invokevirtual 27, 3) := by decide +kernel
theorem dL_law_254 : decode cL_law 254 = .ok (.if_icmp .eq 832, 3) := by decide +kernel
theorem dL_law_257 : decode cL_law 257 = .ok (.iconst 0, 1) := by decide +kernel
theorem dL_law_258 : decode cL_law 258 = .ok (.ireturn, 1) := by decide +kernel
theorem dL_law_259 : decode cL_law 259 = .ok (.aload_n 1, 1) := by decide +kernel
theorem dL_law_260 : decode cL_law 260 = .ok (.invokevirtual 28, 3) := by decide +kernel
theorem dL_law_263 : decode cL_law 263 = .ok (.aload_n 2, 1) := by decide +kernel
theorem dL_law_264 : decode cL_law 264 = .ok (.invokevirtual 31, 3) := by decide +kernel
theorem dL_law_267 : decode cL_law 267 = .ok (.if_icmp .eq 819, 3) := by decide +kernel
theorem dL_law_270 : decode cL_law 270 = .ok (.iconst 0, 1) := by decide +kernel
theorem dL_law_271 : decode cL_law 271 = .ok (.ireturn, 1) := by decide +kernel
theorem dL_law_272 : decode cL_law 272 = .ok (.aload_n 1, 1) := by decide +kernel
theorem dL_law_273 : decode cL_law 273 = .ok (.aload_n 0, 1) := by decide +kernel
theorem dL_law_274 : decode cL_law 274 = .ok (.iload_n 3, 1) := by decide +kernel
theorem dL_law_275 : decode cL_law 275 = .ok (.iconst 1, 1) := by decide +kernel
theorem dL_law_276 : decode cL_law 276 = .ok (.iadd, 1) := by decide +kernel
theorem dL_law_277 : decode cL_law 277 = .ok (.iaload, 1) := by decide +kernel
theorem dL_law_278 : decode cL_law 278 = .ok (.invokevirtual 32, 3) := by decide +kernel
theorem dL_law_281 : decode cL_law 281 = .ok (.aload_n 2, 1) := by decide +kernel
theorem dL_law_282 : decode cL_law 282 = .ok (.aload_n 0, 1) := by decide +kernel
theorem dL_law_283 : decode cL_law 283 = .ok (.iload_n 3, 1) := by decide +kernel
theorem dL_law_284 : decode cL_law 284 = .ok (.iconst 1, 1) := by decide +kernel
theorem dL_law_285 : decode cL_law 285 = .ok (.iadd, 1) := by decide +kernel
theorem dL_law_286 : decode cL_law 286 = .ok (.iaload, 1) := by decide +kernel
theorem dL_law_287 : decode cL_law 287 = .ok (.invokevirtual 35, 3) := by decide +kernel
theorem dL_law_290 : decode cL_law 290 = .ok (.if_icmp .eq 796, 3) := by decide +kernel
theorem dL_law_293 : decode cL_law 293 = .ok (.iconst 0, 1) := by decide +kernel
theorem dL_law_294 : decode cL_law 294 = .ok (.ireturn, 1) := by decide +kernel
theorem dL_law_295 : decode cL_law 295 = .ok (.aload_n 1, 1) := by decide +kernel
theorem dL_law_296 : decode cL_law 296 = .ok (.aload_n 0, 1) := by decide +kernel
theorem dL_law_297 : decode cL_law 297 = .ok (.iload_n 3, 1) := by decide +kernel
theorem dL_law_298 : decode cL_law 298 = .ok (.iconst 1, 1) := by decide +kernel
theorem dL_law_299 : decode cL_law 299 = .ok (.iadd, 1) := by decide +kernel
theorem dL_law_300 : decode cL_law 300 = .ok (.iaload, 1) := by decide +kernel
theorem dL_law_301 : decode cL_law 301 = .ok (.aload_n 0, 1) := by decide +kernel
theorem dL_law_302 : decode cL_law 302 = .ok (.iload_n 3, 1) := by decide +kernel
theorem dL_law_303 : decode cL_law 303 = .ok (.iconst 2, 1) := by decide +kernel
theorem dL_law_304 : decode cL_law 304 = .ok (.iadd, 1) := by decide +kernel
theorem dL_law_305 : decode cL_law 305 = .ok (.iaload, 1) := by decide +kernel
theorem dL_law_306 : decode cL_law 306 = .ok (.invokevirtual 36, 3) := by decide +kernel
theorem dL_law_309 : decode cL_law 309 = .ok (.aload_n 2, 1) := by decide +kernel
theorem dL_law_310 : decode cL_law 310 = .ok (.aload_n 0, 1) := by decide +kernel
theorem dL_law_311 : decode cL_law 311 = .ok (.iload_n 3, 1) := by decide +kernel
theorem dL_law_312 : decode cL_law 312 = .ok (.iconst 1, 1) := by decide +kernel
theorem dL_law_313 : decode cL_law 313 = .ok (.iadd, 1) := by decide +kernel
theorem dL_law_314 : decode cL_law 314 = .ok (.iaload, 1) := by decide +kernel
theorem dL_law_315 : decode cL_law 315 = .ok (.aload_n 0, 1) := by decide +kernel
theorem dL_law_316 : decode cL_law 316 = .ok (.iload_n 3, 1) := by decide +kernel
theorem dL_law_317 : decode cL_law 317 = .ok (.iconst 2, 1) := by decide +kernel
theorem dL_law_318 : decode cL_law 318 = .ok (.iadd, 1) := by decide +kernel
theorem dL_law_319 : decode cL_law 319 = .ok (.iaload, 1) := by decide +kernel
theorem dL_law_320 : decode cL_law 320 = .ok (.invokevirtual 40, 3) := by decide +kernel
theorem dL_law_323 : decode cL_law 323 = .ok (.if_icmp .eq 763, 3) := by decide +kernel
theorem dL_law_326 : decode cL_law 326 = .ok (.iconst 0, 1) := by decide +kernel
theorem dL_law_327 : decode cL_law 327 = .ok (.ireturn, 1) := by decide +kernel
theorem dL_law_328 : decode cL_law 328 = .ok (.aload_n 1, 1) := by decide +kernel
theorem dL_law_329 : decode cL_law 329 = .ok (.aload_n 0, 1) := by decide +kernel
theorem dL_law_330 : decode cL_law 330 = .ok (.iload_n 3, 1) := by decide +kernel
theorem dL_law_331 : decode cL_law 331 = .ok (.iconst 1, 1) := by decide +kernel
theorem dL_law_332 : decode cL_law 332 = .ok (.iadd, 1) := by decide +kernel
theorem dL_law_333 : decode cL_law 333 = .ok (.iaload, 1) := by decide +kernel
theorem dL_law_334 : decode cL_law 334 = .ok (.aload_n 0, 1) := by decide +kernel
theorem dL_law_335 : decode cL_law 335 = .ok (.iload_n 3, 1) := by decide +kernel
theorem dL_law_336 : decode cL_law 336 = .ok (.iconst 2, 1) := by decide +kernel
theorem dL_law_337 : decode cL_law 337 = .ok (.iadd, 1) := by decide +kernel
theorem dL_law_338 : decode cL_law 338 = .ok (.iaload, 1) := by decide +kernel
theorem dL_law_339 : decode cL_law 339 = .ok (.invokevirtual 41, 3) := by decide +kernel
theorem dL_law_342 : decode cL_law 342 = .ok (.aload_n 2, 1) := by decide +kernel
theorem dL_law_343 : decode cL_law 343 = .ok (.aload_n 0, 1) := by decide +kernel
theorem dL_law_344 : decode cL_law 344 = .ok (.iload_n 3, 1) := by decide +kernel
theorem dL_law_345 : decode cL_law 345 = .ok (.iconst 1, 1) := by decide +kernel
theorem dL_law_346 : decode cL_law 346 = .ok (.iadd, 1) := by decide +kernel
theorem dL_law_347 : decode cL_law 347 = .ok (.iaload, 1) := by decide +kernel
theorem dL_law_348 : decode cL_law 348 = .ok (.aload_n 0, 1) := by decide +kernel
theorem dL_law_349 : decode cL_law 349 = .ok (.iload_n 3, 1) := by decide +kernel
theorem dL_law_350 : decode cL_law 350 = .ok (.iconst 2, 1) := by decide +kernel
theorem dL_law_351 : decode cL_law 351 = .ok (.iadd, 1) := by decide +kernel
theorem dL_law_352 : decode cL_law 352 = .ok (.iaload, 1) := by decide +kernel
theorem dL_law_353 : decode cL_law 353 = .ok (.invokevirtual 44, 3) := by decide +kernel
theorem dL_law_356 : decode cL_law 356 = .ok (.if_icmp .eq 730, 3) := by decide +kernel
theorem dL_law_359 : decode cL_law 359 = .ok (.iconst 0, 1) := by decide +kernel
theorem dL_law_360 : decode cL_law 360 = .ok (.ireturn, 1) := by decide +kernel
theorem dL_law_361 : decode cL_law 361 = .ok (.aload_n 1, 1) := by decide +kernel
theorem dL_law_362 : decode cL_law 362 = .ok (.invokevirtual 45, 3) := by decide +kernel
theorem dL_law_365 : decode cL_law 365 = .ok (.aload_n 2, 1) := by decide +kernel
theorem dL_law_366 : decode cL_law 366 = .ok (.invokevirtual 48, 3) := by decide +kernel
theorem dL_law_369 : decode cL_law 369 = .ok (.if_icmp .eq 717, 3) := by decide +kernel
theorem dL_law_372 : decode cL_law 372 = .ok (.iconst 0, 1) := by decide +kernel
theorem dL_law_373 : decode cL_law 373 = .ok (.ireturn, 1) := by decide +kernel
theorem dL_law_374 : decode cL_law 374 = .ok (.aload_n 1, 1) := by decide +kernel
theorem dL_law_375 : decode cL_law 375 = .ok (.aload_n 0, 1) := by decide +kernel
theorem dL_law_376 : decode cL_law 376 = .ok (.iload_n 3, 1) := by decide +kernel
theorem dL_law_377 : decode cL_law 377 = .ok (.iconst 1, 1) := by decide +kernel
theorem dL_law_378 : decode cL_law 378 = .ok (.iadd, 1) := by decide +kernel
theorem dL_law_379 : decode cL_law 379 = .ok (.iaload, 1) := by decide +kernel
theorem dL_law_380 : decode cL_law 380 = .ok (.aload_n 0, 1) := by decide +kernel
theorem dL_law_381 : decode cL_law 381 = .ok (.iload_n 3, 1) := by decide +kernel
theorem dL_law_382 : decode cL_law 382 = .ok (.iconst 2, 1) := by decide +kernel
theorem dL_law_383 : decode cL_law 383 = .ok (.iadd, 1) := by decide +kernel
theorem dL_law_384 : decode cL_law 384 = .ok (.iaload, 1) := by decide +kernel
theorem dL_law_385 : decode cL_law 385 = .ok (.ifCond .eq 7, 3) := by decide +kernel
theorem dL_law_388 : decode cL_law 388 = .ok (.iconst 1, 1) := by decide +kernel
theorem dL_law_389 : decode cL_law 389 = .ok (.goto 4, 3) := by decide +kernel
theorem dL_law_392 : decode cL_law 392 = .ok (.iconst 0, 1) := by decide +kernel
theorem dL_law_393 : decode cL_law 393 = .ok (.invokevirtual 49, 3) := by decide +kernel
theorem dL_law_396 : decode cL_law 396 = .ok (.aload_n 2, 1) := by decide +kernel
theorem dL_law_397 : decode cL_law 397 = .ok (.aload_n 0, 1) := by decide +kernel
theorem dL_law_398 : decode cL_law 398 = .ok (.iload_n 3, 1) := by decide +kernel
theorem dL_law_399 : decode cL_law 399 = .ok (.iconst 1, 1) := by decide +kernel
theorem dL_law_400 : decode cL_law 400 = .ok (.iadd, 1) := by decide +kernel
theorem dL_law_401 : decode cL_law 401 = .ok (.iaload, 1) := by decide +kernel
theorem dL_law_402 : decode cL_law 402 = .ok (.aload_n 0, 1) := by decide +kernel
theorem dL_law_403 : decode cL_law 403 = .ok (.iload_n 3, 1) := by decide +kernel
theorem dL_law_404 : decode cL_law 404 = .ok (.iconst 2, 1) := by decide +kernel
theorem dL_law_405 : decode cL_law 405 = .ok (.iadd, 1) := by decide +kernel
theorem dL_law_406 : decode cL_law 406 = .ok (.iaload, 1) := by decide +kernel
theorem dL_law_407 : decode cL_law 407 = .ok (.ifCond .eq 7, 3) := by decide +kernel
theorem dL_law_410 : decode cL_law 410 = .ok (.iconst 1, 1) := by decide +kernel
theorem dL_law_411 : decode cL_law 411 = .ok (.goto 4, 3) := by decide +kernel
theorem dL_law_414 : decode cL_law 414 = .ok (.iconst 0, 1) := by decide +kernel
theorem dL_law_415 : decode cL_law 415 = .ok (.invokevirtual 53, 3) := by decide +kernel
theorem dL_law_418 : decode cL_law 418 = .ok (.if_icmp .eq 668, 3) := by decide +kernel
theorem dL_law_421 : decode cL_law 421 = .ok (.iconst 0, 1) := by decide +kernel
theorem dL_law_422 : decode cL_law 422 = .ok (.ireturn, 1) := by decide +kernel
theorem dL_law_423 : decode cL_law 423 = .ok (.aload_n 1, 1) := by decide +kernel
theorem dL_law_424 : decode cL_law 424 = .ok (.aload_n 0, 1) := by decide +kernel
theorem dL_law_425 : decode cL_law 425 = .ok (.iload_n 3, 1) := by decide +kernel
theorem dL_law_426 : decode cL_law 426 = .ok (.iconst 1, 1) := by decide +kernel
theorem dL_law_427 : decode cL_law 427 = .ok (.iadd, 1) := by decide +kernel
theorem dL_law_428 : decode cL_law 428 = .ok (.iaload, 1) := by decide +kernel
theorem dL_law_429 : decode cL_law 429 = .ok (.aload_n 0, 1) := by decide +kernel
theorem dL_law_430 : decode cL_law 430 = .ok (.iload_n 3, 1) := by decide +kernel
theorem dL_law_431 : decode cL_law 431 = .ok (.iconst 2, 1) := by decide +kernel
theorem dL_law_432 : decode cL_law 432 = .ok (.iadd, 1) := by decide +kernel
theorem dL_law_433 : decode cL_law 433 = .ok (.iaload, 1) := by decide +kernel
theorem dL_law_434 : decode cL_law 434 = .ok (.ifCond .eq 7, 3) := by decide +kernel
theorem dL_law_437 : decode cL_law 437 = .ok (.iconst 1, 1) := by decide +kernel
theorem dL_law_438 : decode cL_law 438 = .ok (.goto 4, 3) := by decide +kernel
theorem dL_law_441 : decode cL_law 441 = .ok (.iconst 0, 1) := by decide +kernel
theorem dL_law_442 : decode cL_law 442 = .ok (.invokevirtual 54, 3) := by decide +kernel
theorem dL_law_445 : decode cL_law 445 = .ok (.aload_n 2, 1) := by decide +kernel
theorem dL_law_446 : decode cL_law 446 = .ok (.aload_n 0, 1) := by decide +kernel
theorem dL_law_447 : decode cL_law 447 = .ok (.iload_n 3, 1) := by decide +kernel
theorem dL_law_448 : decode cL_law 448 = .ok (.iconst 1, 1) := by decide +kernel
theorem dL_law_449 : decode cL_law 449 = .ok (.iadd, 1) := by decide +kernel
theorem dL_law_450 : decode cL_law 450 = .ok (.iaload, 1) := by decide +kernel
theorem dL_law_451 : decode cL_law 451 = .ok (.aload_n 0, 1) := by decide +kernel
theorem dL_law_452 : decode cL_law 452 = .ok (.iload_n 3, 1) := by decide +kernel
theorem dL_law_453 : decode cL_law 453 = .ok (.iconst 2, 1) := by decide +kernel
theorem dL_law_454 : decode cL_law 454 = .ok (.iadd, 1) := by decide +kernel
theorem dL_law_455 : decode cL_law 455 = .ok (.iaload, 1) := by decide +kernel
theorem dL_law_456 : decode cL_law 456 = .ok (.ifCond .eq 7, 3) := by decide +kernel
theorem dL_law_459 : decode cL_law 459 = .ok (.iconst 1, 1) := by decide +kernel
theorem dL_law_460 : decode cL_law 460 = .ok (.goto 4, 3) := by decide +kernel
theorem dL_law_463 : decode cL_law 463 = .ok (.iconst 0, 1) := by decide +kernel
theorem dL_law_464 : decode cL_law 464 = .ok (.invokevirtual 57, 3) := by decide +kernel
theorem dL_law_467 : decode cL_law 467 = .ok (.if_icmp .eq 619, 3) := by decide +kernel
theorem dL_law_470 : decode cL_law 470 = .ok (.iconst 0, 1) := by decide +kernel
theorem dL_law_471 : decode cL_law 471 = .ok (.ireturn, 1) := by decide +kernel
theorem dL_law_472 : decode cL_law 472 = .ok (.aload_n 1, 1) := by decide +kernel
theorem dL_law_473 : decode cL_law 473 = .ok (.invokevirtual 58, 3) := by decide +kernel
theorem dL_law_476 : decode cL_law 476 = .ok (.aload_n 2, 1) := by decide +kernel
theorem dL_law_477 : decode cL_law 477 = .ok (.invokevirtual 61, 3) := by decide +kernel
theorem dL_law_480 : decode cL_law 480 = .ok (.if_icmp .eq 606, 3) := by decide +kernel
theorem dL_law_483 : decode cL_law 483 = .ok (.iconst 0, 1) := by decide +kernel
theorem dL_law_484 : decode cL_law 484 = .ok (.ireturn, 1) := by decide +kernel
theorem dL_law_485 : decode cL_law 485 = .ok (.aload_n 1, 1) := by decide +kernel
theorem dL_law_486 : decode cL_law 486 = .ok (.aload_n 0, 1) := by decide +kernel
theorem dL_law_487 : decode cL_law 487 = .ok (.iload_n 3, 1) := by decide +kernel
theorem dL_law_488 : decode cL_law 488 = .ok (.iconst 1, 1) := by decide +kernel
theorem dL_law_489 : decode cL_law 489 = .ok (.iadd, 1) := by decide +kernel
theorem dL_law_490 : decode cL_law 490 = .ok (.iaload, 1) := by decide +kernel
theorem dL_law_491 : decode cL_law 491 = .ok (.aload_n 0, 1) := by decide +kernel
theorem dL_law_492 : decode cL_law 492 = .ok (.iload_n 3, 1) := by decide +kernel
theorem dL_law_493 : decode cL_law 493 = .ok (.iconst 2, 1) := by decide +kernel
theorem dL_law_494 : decode cL_law 494 = .ok (.iadd, 1) := by decide +kernel
theorem dL_law_495 : decode cL_law 495 = .ok (.iaload, 1) := by decide +kernel
theorem dL_law_496 : decode cL_law 496 = .ok (.invokevirtual 62, 3) := by decide +kernel
theorem dL_law_499 : decode cL_law 499 = .ok (.aload_n 2, 1) := by decide +kernel
theorem dL_law_500 : decode cL_law 500 = .ok (.aload_n 0, 1) := by decide +kernel
theorem dL_law_501 : decode cL_law 501 = .ok (.iload_n 3, 1) := by decide +kernel
theorem dL_law_502 : decode cL_law 502 = .ok (.iconst 1, 1) := by decide +kernel
theorem dL_law_503 : decode cL_law 503 = .ok (.iadd, 1) := by decide +kernel
theorem dL_law_504 : decode cL_law 504 = .ok (.iaload, 1) := by decide +kernel
theorem dL_law_505 : decode cL_law 505 = .ok (.aload_n 0, 1) := by decide +kernel
theorem dL_law_506 : decode cL_law 506 = .ok (.iload_n 3, 1) := by decide +kernel
theorem dL_law_507 : decode cL_law 507 = .ok (.iconst 2, 1) := by decide +kernel
theorem dL_law_508 : decode cL_law 508 = .ok (.iadd, 1) := by decide +kernel
theorem dL_law_509 : decode cL_law 509 = .ok (.iaload, 1) := by decide +kernel
theorem dL_law_510 : decode cL_law 510 = .ok (.invokevirtual 65, 3) := by decide +kernel
theorem dL_law_513 : decode cL_law 513 = .ok (.if_icmp .eq 573, 3) := by decide +kernel
theorem dL_law_516 : decode cL_law 516 = .ok (.iconst 0, 1) := by decide +kernel
theorem dL_law_517 : decode cL_law 517 = .ok (.ireturn, 1) := by decide +kernel
theorem dL_law_518 : decode cL_law 518 = .ok (.aload_n 1, 1) := by decide +kernel
theorem dL_law_519 : decode cL_law 519 = .ok (.aload_n 0, 1) := by decide +kernel
theorem dL_law_520 : decode cL_law 520 = .ok (.iload_n 3, 1) := by decide +kernel
theorem dL_law_521 : decode cL_law 521 = .ok (.iconst 1, 1) := by decide +kernel
theorem dL_law_522 : decode cL_law 522 = .ok (.iadd, 1) := by decide +kernel
theorem dL_law_523 : decode cL_law 523 = .ok (.iaload, 1) := by decide +kernel
theorem dL_law_524 : decode cL_law 524 = .ok (.aload_n 0, 1) := by decide +kernel
theorem dL_law_525 : decode cL_law 525 = .ok (.iload_n 3, 1) := by decide +kernel
theorem dL_law_526 : decode cL_law 526 = .ok (.iconst 2, 1) := by decide +kernel
theorem dL_law_527 : decode cL_law 527 = .ok (.iadd, 1) := by decide +kernel
theorem dL_law_528 : decode cL_law 528 = .ok (.iaload, 1) := by decide +kernel
theorem dL_law_529 : decode cL_law 529 = .ok (.aload_n 0, 1) := by decide +kernel
theorem dL_law_530 : decode cL_law 530 = .ok (.iload_n 3, 1) := by decide +kernel
theorem dL_law_531 : decode cL_law 531 = .ok (.iconst 3, 1) := by decide +kernel
theorem dL_law_532 : decode cL_law 532 = .ok (.iadd, 1) := by decide +kernel
theorem dL_law_533 : decode cL_law 533 = .ok (.iaload, 1) := by decide +kernel
theorem dL_law_534 : decode cL_law 534 = .ok (.invokevirtual 66, 3) := by decide +kernel
theorem dL_law_537 : decode cL_law 537 = .ok (.aload_n 2, 1) := by decide +kernel
theorem dL_law_538 : decode cL_law 538 = .ok (.aload_n 0, 1) := by decide +kernel
theorem dL_law_539 : decode cL_law 539 = .ok (.iload_n 3, 1) := by decide +kernel
theorem dL_law_540 : decode cL_law 540 = .ok (.iconst 1, 1) := by decide +kernel
theorem dL_law_541 : decode cL_law 541 = .ok (.iadd, 1) := by decide +kernel
theorem dL_law_542 : decode cL_law 542 = .ok (.iaload, 1) := by decide +kernel
theorem dL_law_543 : decode cL_law 543 = .ok (.aload_n 0, 1) := by decide +kernel
theorem dL_law_544 : decode cL_law 544 = .ok (.iload_n 3, 1) := by decide +kernel
theorem dL_law_545 : decode cL_law 545 = .ok (.iconst 2, 1) := by decide +kernel
theorem dL_law_546 : decode cL_law 546 = .ok (.iadd, 1) := by decide +kernel
theorem dL_law_547 : decode cL_law 547 = .ok (.iaload, 1) := by decide +kernel
theorem dL_law_548 : decode cL_law 548 = .ok (.aload_n 0, 1) := by decide +kernel
theorem dL_law_549 : decode cL_law 549 = .ok (.iload_n 3, 1) := by decide +kernel
theorem dL_law_550 : decode cL_law 550 = .ok (.iconst 3, 1) := by decide +kernel
theorem dL_law_551 : decode cL_law 551 = .ok (.iadd, 1) := by decide +kernel
theorem dL_law_552 : decode cL_law 552 = .ok (.iaload, 1) := by decide +kernel
theorem dL_law_553 : decode cL_law 553 = .ok (.invokevirtual 70, 3) := by decide +kernel
theorem dL_law_556 : decode cL_law 556 = .ok (.if_icmp .eq 530, 3) := by decide +kernel
theorem dL_law_559 : decode cL_law 559 = .ok (.iconst 0, 1) := by decide +kernel
theorem dL_law_560 : decode cL_law 560 = .ok (.ireturn, 1) := by decide +kernel
theorem dL_law_561 : decode cL_law 561 = .ok (.aload_n 1, 1) := by decide +kernel
theorem dL_law_562 : decode cL_law 562 = .ok (.aload_n 0, 1) := by decide +kernel
theorem dL_law_563 : decode cL_law 563 = .ok (.iload_n 3, 1) := by decide +kernel
theorem dL_law_564 : decode cL_law 564 = .ok (.iconst 1, 1) := by decide +kernel
theorem dL_law_565 : decode cL_law 565 = .ok (.iadd, 1) := by decide +kernel
theorem dL_law_566 : decode cL_law 566 = .ok (.iaload, 1) := by decide +kernel
theorem dL_law_567 : decode cL_law 567 = .ok (.aload_n 0, 1) := by decide +kernel
theorem dL_law_568 : decode cL_law 568 = .ok (.iload_n 3, 1) := by decide +kernel
theorem dL_law_569 : decode cL_law 569 = .ok (.iconst 2, 1) := by decide +kernel
theorem dL_law_570 : decode cL_law 570 = .ok (.iadd, 1) := by decide +kernel
theorem dL_law_571 : decode cL_law 571 = .ok (.iaload, 1) := by decide +kernel
theorem dL_law_572 : decode cL_law 572 = .ok (.aload_n 0, 1) := by decide +kernel
theorem dL_law_573 : decode cL_law 573 = .ok (.iload_n 3, 1) := by decide +kernel
theorem dL_law_574 : decode cL_law 574 = .ok (.iconst 3, 1) := by decide +kernel
theorem dL_law_575 : decode cL_law 575 = .ok (.iadd, 1) := by decide +kernel
theorem dL_law_576 : decode cL_law 576 = .ok (.iaload, 1) := by decide +kernel
theorem dL_law_577 : decode cL_law 577 = .ok (.invokevirtual 71, 3) := by decide +kernel
theorem dL_law_580 : decode cL_law 580 = .ok (.aload_n 2, 1) := by decide +kernel
theorem dL_law_581 : decode cL_law 581 = .ok (.aload_n 0, 1) := by decide +kernel
theorem dL_law_582 : decode cL_law 582 = .ok (.iload_n 3, 1) := by decide +kernel
theorem dL_law_583 : decode cL_law 583 = .ok (.iconst 1, 1) := by decide +kernel
theorem dL_law_584 : decode cL_law 584 = .ok (.iadd, 1) := by decide +kernel
theorem dL_law_585 : decode cL_law 585 = .ok (.iaload, 1) := by decide +kernel
theorem dL_law_586 : decode cL_law 586 = .ok (.aload_n 0, 1) := by decide +kernel
theorem dL_law_587 : decode cL_law 587 = .ok (.iload_n 3, 1) := by decide +kernel
theorem dL_law_588 : decode cL_law 588 = .ok (.iconst 2, 1) := by decide +kernel
theorem dL_law_589 : decode cL_law 589 = .ok (.iadd, 1) := by decide +kernel
theorem dL_law_590 : decode cL_law 590 = .ok (.iaload, 1) := by decide +kernel
theorem dL_law_591 : decode cL_law 591 = .ok (.aload_n 0, 1) := by decide +kernel
theorem dL_law_592 : decode cL_law 592 = .ok (.iload_n 3, 1) := by decide +kernel
theorem dL_law_593 : decode cL_law 593 = .ok (.iconst 3, 1) := by decide +kernel
theorem dL_law_594 : decode cL_law 594 = .ok (.iadd, 1) := by decide +kernel
theorem dL_law_595 : decode cL_law 595 = .ok (.iaload, 1) := by decide +kernel
theorem dL_law_596 : decode cL_law 596 = .ok (.invokevirtual 74, 3) := by decide +kernel
theorem dL_law_599 : decode cL_law 599 = .ok (.if_icmp .eq 487, 3) := by decide +kernel
theorem dL_law_602 : decode cL_law 602 = .ok (.iconst 0, 1) := by decide +kernel
theorem dL_law_603 : decode cL_law 603 = .ok (.ireturn, 1) := by decide +kernel
theorem dL_law_604 : decode cL_law 604 = .ok (.aload_n 1, 1) := by decide +kernel
theorem dL_law_605 : decode cL_law 605 = .ok (.aload_n 0, 1) := by decide +kernel
theorem dL_law_606 : decode cL_law 606 = .ok (.iload_n 3, 1) := by decide +kernel
theorem dL_law_607 : decode cL_law 607 = .ok (.iconst 1, 1) := by decide +kernel
theorem dL_law_608 : decode cL_law 608 = .ok (.iadd, 1) := by decide +kernel
theorem dL_law_609 : decode cL_law 609 = .ok (.iaload, 1) := by decide +kernel
theorem dL_law_610 : decode cL_law 610 = .ok (.invokevirtual 75, 3) := by decide +kernel
theorem dL_law_613 : decode cL_law 613 = .ok (.aload_n 2, 1) := by decide +kernel
theorem dL_law_614 : decode cL_law 614 = .ok (.aload_n 0, 1) := by decide +kernel
theorem dL_law_615 : decode cL_law 615 = .ok (.iload_n 3, 1) := by decide +kernel
theorem dL_law_616 : decode cL_law 616 = .ok (.iconst 1, 1) := by decide +kernel
theorem dL_law_617 : decode cL_law 617 = .ok (.iadd, 1) := by decide +kernel
theorem dL_law_618 : decode cL_law 618 = .ok (.iaload, 1) := by decide +kernel
theorem dL_law_619 : decode cL_law 619 = .ok (.invokevirtual 78, 3) := by decide +kernel
theorem dL_law_622 : decode cL_law 622 = .ok (.if_icmp .eq 464, 3) := by decide +kernel
theorem dL_law_625 : decode cL_law 625 = .ok (.iconst 0, 1) := by decide +kernel
theorem dL_law_626 : decode cL_law 626 = .ok (.ireturn, 1) := by decide +kernel
theorem dL_law_627 : decode cL_law 627 = .ok (.aload_n 1, 1) := by decide +kernel
theorem dL_law_628 : decode cL_law 628 = .ok (.aload_n 0, 1) := by decide +kernel
theorem dL_law_629 : decode cL_law 629 = .ok (.iload_n 3, 1) := by decide +kernel
theorem dL_law_630 : decode cL_law 630 = .ok (.iconst 1, 1) := by decide +kernel
theorem dL_law_631 : decode cL_law 631 = .ok (.iadd, 1) := by decide +kernel
theorem dL_law_632 : decode cL_law 632 = .ok (.iaload, 1) := by decide +kernel
theorem dL_law_633 : decode cL_law 633 = .ok (.invokevirtual 79, 3) := by decide +kernel
theorem dL_law_636 : decode cL_law 636 = .ok (.aload_n 2, 1) := by decide +kernel
theorem dL_law_637 : decode cL_law 637 = .ok (.aload_n 0, 1) := by decide +kernel
theorem dL_law_638 : decode cL_law 638 = .ok (.iload_n 3, 1) := by decide +kernel
theorem dL_law_639 : decode cL_law 639 = .ok (.iconst 1, 1) := by decide +kernel
theorem dL_law_640 : decode cL_law 640 = .ok (.iadd, 1) := by decide +kernel
theorem dL_law_641 : decode cL_law 641 = .ok (.iaload, 1) := by decide +kernel
theorem dL_law_642 : decode cL_law 642 = .ok (.invokevirtual 82, 3) := by decide +kernel
theorem dL_law_645 : decode cL_law 645 = .ok (.if_icmp .eq 441, 3) := by decide +kernel
theorem dL_law_648 : decode cL_law 648 = .ok (.iconst 0, 1) := by decide +kernel
theorem dL_law_649 : decode cL_law 649 = .ok (.ireturn, 1) := by decide +kernel
theorem dL_law_650 : decode cL_law 650 = .ok (.aload_n 1, 1) := by decide +kernel
theorem dL_law_651 : decode cL_law 651 = .ok (.aload_n 0, 1) := by decide +kernel
theorem dL_law_652 : decode cL_law 652 = .ok (.iload_n 3, 1) := by decide +kernel
theorem dL_law_653 : decode cL_law 653 = .ok (.iconst 1, 1) := by decide +kernel
theorem dL_law_654 : decode cL_law 654 = .ok (.iadd, 1) := by decide +kernel
theorem dL_law_655 : decode cL_law 655 = .ok (.iaload, 1) := by decide +kernel
theorem dL_law_656 : decode cL_law 656 = .ok (.aload_n 0, 1) := by decide +kernel
theorem dL_law_657 : decode cL_law 657 = .ok (.iload_n 3, 1) := by decide +kernel
theorem dL_law_658 : decode cL_law 658 = .ok (.iconst 2, 1) := by decide +kernel
theorem dL_law_659 : decode cL_law 659 = .ok (.iadd, 1) := by decide +kernel
theorem dL_law_660 : decode cL_law 660 = .ok (.iaload, 1) := by decide +kernel
theorem dL_law_661 : decode cL_law 661 = .ok (.aload_n 0, 1) := by decide +kernel
theorem dL_law_662 : decode cL_law 662 = .ok (.iload_n 3, 1) := by decide +kernel
theorem dL_law_663 : decode cL_law 663 = .ok (.iconst 3, 1) := by decide +kernel
theorem dL_law_664 : decode cL_law 664 = .ok (.iadd, 1) := by decide +kernel
theorem dL_law_665 : decode cL_law 665 = .ok (.iaload, 1) := by decide +kernel
theorem dL_law_666 : decode cL_law 666 = .ok (.invokevirtual 83, 3) := by decide +kernel
theorem dL_law_669 : decode cL_law 669 = .ok (.aload_n 2, 1) := by decide +kernel
theorem dL_law_670 : decode cL_law 670 = .ok (.aload_n 0, 1) := by decide +kernel
theorem dL_law_671 : decode cL_law 671 = .ok (.iload_n 3, 1) := by decide +kernel
theorem dL_law_672 : decode cL_law 672 = .ok (.iconst 1, 1) := by decide +kernel
theorem dL_law_673 : decode cL_law 673 = .ok (.iadd, 1) := by decide +kernel
theorem dL_law_674 : decode cL_law 674 = .ok (.iaload, 1) := by decide +kernel
theorem dL_law_675 : decode cL_law 675 = .ok (.aload_n 0, 1) := by decide +kernel
theorem dL_law_676 : decode cL_law 676 = .ok (.iload_n 3, 1) := by decide +kernel
theorem dL_law_677 : decode cL_law 677 = .ok (.iconst 2, 1) := by decide +kernel
theorem dL_law_678 : decode cL_law 678 = .ok (.iadd, 1) := by decide +kernel
theorem dL_law_679 : decode cL_law 679 = .ok (.iaload, 1) := by decide +kernel
theorem dL_law_680 : decode cL_law 680 = .ok (.aload_n 0, 1) := by decide +kernel
theorem dL_law_681 : decode cL_law 681 = .ok (.iload_n 3, 1) := by decide +kernel
theorem dL_law_682 : decode cL_law 682 = .ok (.iconst 3, 1) := by decide +kernel
theorem dL_law_683 : decode cL_law 683 = .ok (.iadd, 1) := by decide +kernel
theorem dL_law_684 : decode cL_law 684 = .ok (.iaload, 1) := by decide +kernel
theorem dL_law_685 : decode cL_law 685 = .ok (.invokevirtual 86, 3) := by decide +kernel
theorem dL_law_688 : decode cL_law 688 = .ok (.if_icmp .eq 398, 3) := by decide +kernel
theorem dL_law_691 : decode cL_law 691 = .ok (.iconst 0, 1) := by decide +kernel
theorem dL_law_692 : decode cL_law 692 = .ok (.ireturn, 1) := by decide +kernel
theorem dL_law_693 : decode cL_law 693 = .ok (.aload_n 1, 1) := by decide +kernel
theorem dL_law_694 : decode cL_law 694 = .ok (.aload_n 0, 1) := by decide +kernel
theorem dL_law_695 : decode cL_law 695 = .ok (.iload_n 3, 1) := by decide +kernel
theorem dL_law_696 : decode cL_law 696 = .ok (.iconst 1, 1) := by decide +kernel
theorem dL_law_697 : decode cL_law 697 = .ok (.iadd, 1) := by decide +kernel
theorem dL_law_698 : decode cL_law 698 = .ok (.iaload, 1) := by decide +kernel
theorem dL_law_699 : decode cL_law 699 = .ok (.aload_n 0, 1) := by decide +kernel
theorem dL_law_700 : decode cL_law 700 = .ok (.iload_n 3, 1) := by decide +kernel
theorem dL_law_701 : decode cL_law 701 = .ok (.iconst 2, 1) := by decide +kernel
theorem dL_law_702 : decode cL_law 702 = .ok (.iadd, 1) := by decide +kernel
theorem dL_law_703 : decode cL_law 703 = .ok (.iaload, 1) := by decide +kernel
theorem dL_law_704 : decode cL_law 704 = .ok (.aload_n 0, 1) := by decide +kernel
theorem dL_law_705 : decode cL_law 705 = .ok (.iload_n 3, 1) := by decide +kernel
theorem dL_law_706 : decode cL_law 706 = .ok (.iconst 3, 1) := by decide +kernel
theorem dL_law_707 : decode cL_law 707 = .ok (.iadd, 1) := by decide +kernel
theorem dL_law_708 : decode cL_law 708 = .ok (.iaload, 1) := by decide +kernel
theorem dL_law_709 : decode cL_law 709 = .ok (.aload_n 0, 1) := by decide +kernel
theorem dL_law_710 : decode cL_law 710 = .ok (.iload_n 3, 1) := by decide +kernel
theorem dL_law_711 : decode cL_law 711 = .ok (.iconst 4, 1) := by decide +kernel
theorem dL_law_712 : decode cL_law 712 = .ok (.iadd, 1) := by decide +kernel
theorem dL_law_713 : decode cL_law 713 = .ok (.iaload, 1) := by decide +kernel
theorem dL_law_714 : decode cL_law 714 = .ok (.invokevirtual 87, 3) := by decide +kernel
theorem dL_law_717 : decode cL_law 717 = .ok (.aload_n 2, 1) := by decide +kernel
theorem dL_law_718 : decode cL_law 718 = .ok (.aload_n 0, 1) := by decide +kernel
theorem dL_law_719 : decode cL_law 719 = .ok (.iload_n 3, 1) := by decide +kernel
theorem dL_law_720 : decode cL_law 720 = .ok (.iconst 1, 1) := by decide +kernel
theorem dL_law_721 : decode cL_law 721 = .ok (.iadd, 1) := by decide +kernel
theorem dL_law_722 : decode cL_law 722 = .ok (.iaload, 1) := by decide +kernel
theorem dL_law_723 : decode cL_law 723 = .ok (.aload_n 0, 1) := by decide +kernel
theorem dL_law_724 : decode cL_law 724 = .ok (.iload_n 3, 1) := by decide +kernel
theorem dL_law_725 : decode cL_law 725 = .ok (.iconst 2, 1) := by decide +kernel
theorem dL_law_726 : decode cL_law 726 = .ok (.iadd, 1) := by decide +kernel
theorem dL_law_727 : decode cL_law 727 = .ok (.iaload, 1) := by decide +kernel
theorem dL_law_728 : decode cL_law 728 = .ok (.aload_n 0, 1) := by decide +kernel
theorem dL_law_729 : decode cL_law 729 = .ok (.iload_n 3, 1) := by decide +kernel
theorem dL_law_730 : decode cL_law 730 = .ok (.iconst 3, 1) := by decide +kernel
theorem dL_law_731 : decode cL_law 731 = .ok (.iadd, 1) := by decide +kernel
theorem dL_law_732 : decode cL_law 732 = .ok (.iaload, 1) := by decide +kernel
theorem dL_law_733 : decode cL_law 733 = .ok (.aload_n 0, 1) := by decide +kernel
theorem dL_law_734 : decode cL_law 734 = .ok (.iload_n 3, 1) := by decide +kernel
theorem dL_law_735 : decode cL_law 735 = .ok (.iconst 4, 1) := by decide +kernel
theorem dL_law_736 : decode cL_law 736 = .ok (.iadd, 1) := by decide +kernel
theorem dL_law_737 : decode cL_law 737 = .ok (.iaload, 1) := by decide +kernel
theorem dL_law_738 : decode cL_law 738 = .ok (.invokevirtual 91, 3) := by decide +kernel
theorem dL_law_741 : decode cL_law 741 = .ok (.if_icmp .eq 345, 3) := by decide +kernel
theorem dL_law_744 : decode cL_law 744 = .ok (.iconst 0, 1) := by decide +kernel
theorem dL_law_745 : decode cL_law 745 = .ok (.ireturn, 1) := by decide +kernel
theorem dL_law_746 : decode cL_law 746 = .ok (.aload_n 1, 1) := by decide +kernel
theorem dL_law_747 : decode cL_law 747 = .ok (.aload_n 0, 1) := by decide +kernel
theorem dL_law_748 : decode cL_law 748 = .ok (.iload_n 3, 1) := by decide +kernel
theorem dL_law_749 : decode cL_law 749 = .ok (.iconst 1, 1) := by decide +kernel
theorem dL_law_750 : decode cL_law 750 = .ok (.iadd, 1) := by decide +kernel
theorem dL_law_751 : decode cL_law 751 = .ok (.iaload, 1) := by decide +kernel
theorem dL_law_752 : decode cL_law 752 = .ok (.invokevirtual 92, 3) := by decide +kernel
theorem dL_law_755 : decode cL_law 755 = .ok (.aload_n 2, 1) := by decide +kernel
theorem dL_law_756 : decode cL_law 756 = .ok (.aload_n 0, 1) := by decide +kernel
theorem dL_law_757 : decode cL_law 757 = .ok (.iload_n 3, 1) := by decide +kernel
theorem dL_law_758 : decode cL_law 758 = .ok (.iconst 1, 1) := by decide +kernel
theorem dL_law_759 : decode cL_law 759 = .ok (.iadd, 1) := by decide +kernel
theorem dL_law_760 : decode cL_law 760 = .ok (.iaload, 1) := by decide +kernel
theorem dL_law_761 : decode cL_law 761 = .ok (.invokevirtual 95, 3) := by decide +kernel
theorem dL_law_764 : decode cL_law 764 = .ok (.if_icmp .eq 322, 3) := by decide +kernel
theorem dL_law_767 : decode cL_law 767 = .ok (.iconst 0, 1) := by decide +kernel
theorem dL_law_768 : decode cL_law 768 = .ok (.ireturn, 1) := by decide +kernel
theorem dL_law_769 : decode cL_law 769 = .ok (.aload_n 1, 1) := by decide +kernel
theorem dL_law_770 : decode cL_law 770 = .ok (.aload_n 0, 1) := by decide +kernel
theorem dL_law_771 : decode cL_law 771 = .ok (.iload_n 3, 1) := by decide +kernel
theorem dL_law_772 : decode cL_law 772 = .ok (.iconst 1, 1) := by decide +kernel
theorem dL_law_773 : decode cL_law 773 = .ok (.iadd, 1) := by decide +kernel
theorem dL_law_774 : decode cL_law 774 = .ok (.iaload, 1) := by decide +kernel
theorem dL_law_775 : decode cL_law 775 = .ok (.invokevirtual 96, 3) := by decide +kernel
theorem dL_law_778 : decode cL_law 778 = .ok (.aload_n 2, 1) := by decide +kernel
theorem dL_law_779 : decode cL_law 779 = .ok (.aload_n 0, 1) := by decide +kernel
theorem dL_law_780 : decode cL_law 780 = .ok (.iload_n 3, 1) := by decide +kernel
theorem dL_law_781 : decode cL_law 781 = .ok (.iconst 1, 1) := by decide +kernel
theorem dL_law_782 : decode cL_law 782 = .ok (.iadd, 1) := by decide +kernel
theorem dL_law_783 : decode cL_law 783 = .ok (.iaload, 1) := by decide +kernel
theorem dL_law_784 : decode cL_law 784 = .ok (.invokevirtual 99, 3) := by decide +kernel
theorem dL_law_787 : decode cL_law 787 = .ok (.if_icmp .eq 299, 3) := by decide +kernel
theorem dL_law_790 : decode cL_law 790 = .ok (.iconst 0, 1) := by decide +kernel
theorem dL_law_791 : decode cL_law 791 = .ok (.ireturn, 1) := by decide +kernel
theorem dL_law_792 : decode cL_law 792 = .ok (.aload_n 1, 1) := by decide +kernel
theorem dL_law_793 : decode cL_law 793 = .ok (.aload_n 0, 1) := by decide +kernel
theorem dL_law_794 : decode cL_law 794 = .ok (.iload_n 3, 1) := by decide +kernel
theorem dL_law_795 : decode cL_law 795 = .ok (.iconst 1, 1) := by decide +kernel
theorem dL_law_796 : decode cL_law 796 = .ok (.iadd, 1) := by decide +kernel
theorem dL_law_797 : decode cL_law 797 = .ok (.iaload, 1) := by decide +kernel
theorem dL_law_798 : decode cL_law 798 = .ok (.aload_n 0, 1) := by decide +kernel
theorem dL_law_799 : decode cL_law 799 = .ok (.iload_n 3, 1) := by decide +kernel
theorem dL_law_800 : decode cL_law 800 = .ok (.iconst 2, 1) := by decide +kernel
theorem dL_law_801 : decode cL_law 801 = .ok (.iadd, 1) := by decide +kernel
theorem dL_law_802 : decode cL_law 802 = .ok (.iaload, 1) := by decide +kernel
theorem dL_law_803 : decode cL_law 803 = .ok (.aload_n 0, 1) := by decide +kernel
theorem dL_law_804 : decode cL_law 804 = .ok (.iload_n 3, 1) := by decide +kernel
theorem dL_law_805 : decode cL_law 805 = .ok (.iconst 3, 1) := by decide +kernel
theorem dL_law_806 : decode cL_law 806 = .ok (.iadd, 1) := by decide +kernel
theorem dL_law_807 : decode cL_law 807 = .ok (.iaload, 1) := by decide +kernel
theorem dL_law_808 : decode cL_law 808 = .ok (.aload_n 0, 1) := by decide +kernel
theorem dL_law_809 : decode cL_law 809 = .ok (.iload_n 3, 1) := by decide +kernel
theorem dL_law_810 : decode cL_law 810 = .ok (.iconst 4, 1) := by decide +kernel
theorem dL_law_811 : decode cL_law 811 = .ok (.iadd, 1) := by decide +kernel
theorem dL_law_812 : decode cL_law 812 = .ok (.iaload, 1) := by decide +kernel
theorem dL_law_813 : decode cL_law 813 = .ok (.invokevirtual 100, 3) := by decide +kernel
theorem dL_law_816 : decode cL_law 816 = .ok (.aload_n 2, 1) := by decide +kernel
theorem dL_law_817 : decode cL_law 817 = .ok (.aload_n 0, 1) := by decide +kernel
theorem dL_law_818 : decode cL_law 818 = .ok (.iload_n 3, 1) := by decide +kernel
theorem dL_law_819 : decode cL_law 819 = .ok (.iconst 1, 1) := by decide +kernel
theorem dL_law_820 : decode cL_law 820 = .ok (.iadd, 1) := by decide +kernel
theorem dL_law_821 : decode cL_law 821 = .ok (.iaload, 1) := by decide +kernel
theorem dL_law_822 : decode cL_law 822 = .ok (.aload_n 0, 1) := by decide +kernel
theorem dL_law_823 : decode cL_law 823 = .ok (.iload_n 3, 1) := by decide +kernel
theorem dL_law_824 : decode cL_law 824 = .ok (.iconst 2, 1) := by decide +kernel
theorem dL_law_825 : decode cL_law 825 = .ok (.iadd, 1) := by decide +kernel
theorem dL_law_826 : decode cL_law 826 = .ok (.iaload, 1) := by decide +kernel
theorem dL_law_827 : decode cL_law 827 = .ok (.aload_n 0, 1) := by decide +kernel
theorem dL_law_828 : decode cL_law 828 = .ok (.iload_n 3, 1) := by decide +kernel
theorem dL_law_829 : decode cL_law 829 = .ok (.iconst 3, 1) := by decide +kernel
theorem dL_law_830 : decode cL_law 830 = .ok (.iadd, 1) := by decide +kernel
theorem dL_law_831 : decode cL_law 831 = .ok (.iaload, 1) := by decide +kernel
theorem dL_law_832 : decode cL_law 832 = .ok (.aload_n 0, 1) := by decide +kernel
theorem dL_law_833 : decode cL_law 833 = .ok (.iload_n 3, 1) := by decide +kernel
theorem dL_law_834 : decode cL_law 834 = .ok (.iconst 4, 1) := by decide +kernel
theorem dL_law_835 : decode cL_law 835 = .ok (.iadd, 1) := by decide +kernel
theorem dL_law_836 : decode cL_law 836 = .ok (.iaload, 1) := by decide +kernel
theorem dL_law_837 : decode cL_law 837 = .ok (.invokevirtual 103, 3) := by decide +kernel
theorem dL_law_840 : decode cL_law 840 = .ok (.if_icmp .eq 246, 3) := by decide +kernel
theorem dL_law_843 : decode cL_law 843 = .ok (.iconst 0, 1) := by decide +kernel
theorem dL_law_844 : decode cL_law 844 = .ok (.ireturn, 1) := by decide +kernel
theorem dL_law_845 : decode cL_law 845 = .ok (.aload_n 1, 1) := by decide +kernel
theorem dL_law_846 : decode cL_law 846 = .ok (.aload_n 0, 1) := by decide +kernel
theorem dL_law_847 : decode cL_law 847 = .ok (.iload_n 3, 1) := by decide +kernel
theorem dL_law_848 : decode cL_law 848 = .ok (.iconst 1, 1) := by decide +kernel
theorem dL_law_849 : decode cL_law 849 = .ok (.iadd, 1) := by decide +kernel
theorem dL_law_850 : decode cL_law 850 = .ok (.iaload, 1) := by decide +kernel
theorem dL_law_851 : decode cL_law 851 = .ok (.aload_n 0, 1) := by decide +kernel
theorem dL_law_852 : decode cL_law 852 = .ok (.iload_n 3, 1) := by decide +kernel
theorem dL_law_853 : decode cL_law 853 = .ok (.iconst 2, 1) := by decide +kernel
theorem dL_law_854 : decode cL_law 854 = .ok (.iadd, 1) := by decide +kernel
theorem dL_law_855 : decode cL_law 855 = .ok (.iaload, 1) := by decide +kernel
theorem dL_law_856 : decode cL_law 856 = .ok (.aload_n 0, 1) := by decide +kernel
theorem dL_law_857 : decode cL_law 857 = .ok (.iload_n 3, 1) := by decide +kernel
theorem dL_law_858 : decode cL_law 858 = .ok (.iconst 3, 1) := by decide +kernel
theorem dL_law_859 : decode cL_law 859 = .ok (.iadd, 1) := by decide +kernel
theorem dL_law_860 : decode cL_law 860 = .ok (.iaload, 1) := by decide +kernel
theorem dL_law_861 : decode cL_law 861 = .ok (.invokevirtual 104, 3) := by decide +kernel
theorem dL_law_864 : decode cL_law 864 = .ok (.aload_n 2, 1) := by decide +kernel
theorem dL_law_865 : decode cL_law 865 = .ok (.aload_n 0, 1) := by decide +kernel
theorem dL_law_866 : decode cL_law 866 = .ok (.iload_n 3, 1) := by decide +kernel
theorem dL_law_867 : decode cL_law 867 = .ok (.iconst 1, 1) := by decide +kernel
theorem dL_law_868 : decode cL_law 868 = .ok (.iadd, 1) := by decide +kernel
theorem dL_law_869 : decode cL_law 869 = .ok (.iaload, 1) := by decide +kernel
theorem dL_law_870 : decode cL_law 870 = .ok (.aload_n 0, 1) := by decide +kernel
theorem dL_law_871 : decode cL_law 871 = .ok (.iload_n 3, 1) := by decide +kernel
theorem dL_law_872 : decode cL_law 872 = .ok (.iconst 2, 1) := by decide +kernel
theorem dL_law_873 : decode cL_law 873 = .ok (.iadd, 1) := by decide +kernel
theorem dL_law_874 : decode cL_law 874 = .ok (.iaload, 1) := by decide +kernel
theorem dL_law_875 : decode cL_law 875 = .ok (.aload_n 0, 1) := by decide +kernel
theorem dL_law_876 : decode cL_law 876 = .ok (.iload_n 3, 1) := by decide +kernel
theorem dL_law_877 : decode cL_law 877 = .ok (.iconst 3, 1) := by decide +kernel
theorem dL_law_878 : decode cL_law 878 = .ok (.iadd, 1) := by decide +kernel
theorem dL_law_879 : decode cL_law 879 = .ok (.iaload, 1) := by decide +kernel
theorem dL_law_880 : decode cL_law 880 = .ok (.invokevirtual 107, 3) := by decide +kernel
theorem dL_law_883 : decode cL_law 883 = .ok (.if_icmp .eq 203, 3) := by decide +kernel
theorem dL_law_886 : decode cL_law 886 = .ok (.iconst 0, 1) := by decide +kernel
theorem dL_law_887 : decode cL_law 887 = .ok (.ireturn, 1) := by decide +kernel
theorem dL_law_888 : decode cL_law 888 = .ok (.aload_n 1, 1) := by decide +kernel
theorem dL_law_889 : decode cL_law 889 = .ok (.aload_n 0, 1) := by decide +kernel
theorem dL_law_890 : decode cL_law 890 = .ok (.iload_n 3, 1) := by decide +kernel
theorem dL_law_891 : decode cL_law 891 = .ok (.iconst 1, 1) := by decide +kernel
theorem dL_law_892 : decode cL_law 892 = .ok (.iadd, 1) := by decide +kernel
theorem dL_law_893 : decode cL_law 893 = .ok (.iaload, 1) := by decide +kernel
theorem dL_law_894 : decode cL_law 894 = .ok (.aload_n 0, 1) := by decide +kernel
theorem dL_law_895 : decode cL_law 895 = .ok (.iload_n 3, 1) := by decide +kernel
theorem dL_law_896 : decode cL_law 896 = .ok (.iconst 2, 1) := by decide +kernel
theorem dL_law_897 : decode cL_law 897 = .ok (.iadd, 1) := by decide +kernel
theorem dL_law_898 : decode cL_law 898 = .ok (.iaload, 1) := by decide +kernel
theorem dL_law_899 : decode cL_law 899 = .ok (.aload_n 0, 1) := by decide +kernel
theorem dL_law_900 : decode cL_law 900 = .ok (.iload_n 3, 1) := by decide +kernel
theorem dL_law_901 : decode cL_law 901 = .ok (.iconst 3, 1) := by decide +kernel
theorem dL_law_902 : decode cL_law 902 = .ok (.iadd, 1) := by decide +kernel
theorem dL_law_903 : decode cL_law 903 = .ok (.iaload, 1) := by decide +kernel
theorem dL_law_904 : decode cL_law 904 = .ok (.aload_n 0, 1) := by decide +kernel
theorem dL_law_905 : decode cL_law 905 = .ok (.iload_n 3, 1) := by decide +kernel
theorem dL_law_906 : decode cL_law 906 = .ok (.iconst 4, 1) := by decide +kernel
theorem dL_law_907 : decode cL_law 907 = .ok (.iadd, 1) := by decide +kernel
theorem dL_law_908 : decode cL_law 908 = .ok (.iaload, 1) := by decide +kernel
theorem dL_law_909 : decode cL_law 909 = .ok (.invokevirtual 108, 3) := by decide +kernel
theorem dL_law_912 : decode cL_law 912 = .ok (.aload_n 2, 1) := by decide +kernel
theorem dL_law_913 : decode cL_law 913 = .ok (.aload_n 0, 1) := by decide +kernel
theorem dL_law_914 : decode cL_law 914 = .ok (.iload_n 3, 1) := by decide +kernel
theorem dL_law_915 : decode cL_law 915 = .ok (.iconst 1, 1) := by decide +kernel
theorem dL_law_916 : decode cL_law 916 = .ok (.iadd, 1) := by decide +kernel
theorem dL_law_917 : decode cL_law 917 = .ok (.iaload, 1) := by decide +kernel
theorem dL_law_918 : decode cL_law 918 = .ok (.aload_n 0, 1) := by decide +kernel
theorem dL_law_919 : decode cL_law 919 = .ok (.iload_n 3, 1) := by decide +kernel
theorem dL_law_920 : decode cL_law 920 = .ok (.iconst 2, 1) := by decide +kernel
theorem dL_law_921 : decode cL_law 921 = .ok (.iadd, 1) := by decide +kernel
theorem dL_law_922 : decode cL_law 922 = .ok (.iaload, 1) := by decide +kernel
theorem dL_law_923 : decode cL_law 923 = .ok (.aload_n 0, 1) := by decide +kernel
theorem dL_law_924 : decode cL_law 924 = .ok (.iload_n 3, 1) := by decide +kernel
theorem dL_law_925 : decode cL_law 925 = .ok (.iconst 3, 1) := by decide +kernel
theorem dL_law_926 : decode cL_law 926 = .ok (.iadd, 1) := by decide +kernel
theorem dL_law_927 : decode cL_law 927 = .ok (.iaload, 1) := by decide +kernel
theorem dL_law_928 : decode cL_law 928 = .ok (.aload_n 0, 1) := by decide +kernel
theorem dL_law_929 : decode cL_law 929 = .ok (.iload_n 3, 1) := by decide +kernel
theorem dL_law_930 : decode cL_law 930 = .ok (.iconst 4, 1) := by decide +kernel
theorem dL_law_931 : decode cL_law 931 = .ok (.iadd, 1) := by decide +kernel
theorem dL_law_932 : decode cL_law 932 = .ok (.iaload, 1) := by decide +kernel
theorem dL_law_933 : decode cL_law 933 = .ok (.invokevirtual 111, 3) := by decide +kernel
theorem dL_law_936 : decode cL_law 936 = .ok (.if_icmp .eq 150, 3) := by decide +kernel
theorem dL_law_939 : decode cL_law 939 = .ok (.iconst 0, 1) := by decide +kernel
theorem dL_law_940 : decode cL_law 940 = .ok (.ireturn, 1) := by decide +kernel
theorem dL_law_941 : decode cL_law 941 = .ok (.aload_n 1, 1) := by decide +kernel
theorem dL_law_942 : decode cL_law 942 = .ok (.aload_n 0, 1) := by decide +kernel
theorem dL_law_943 : decode cL_law 943 = .ok (.iload_n 3, 1) := by decide +kernel
theorem dL_law_944 : decode cL_law 944 = .ok (.iconst 1, 1) := by decide +kernel
theorem dL_law_945 : decode cL_law 945 = .ok (.iadd, 1) := by decide +kernel
theorem dL_law_946 : decode cL_law 946 = .ok (.iaload, 1) := by decide +kernel
theorem dL_law_947 : decode cL_law 947 = .ok (.invokevirtual 112, 3) := by decide +kernel
theorem dL_law_950 : decode cL_law 950 = .ok (.aload_n 2, 1) := by decide +kernel
theorem dL_law_951 : decode cL_law 951 = .ok (.aload_n 0, 1) := by decide +kernel
theorem dL_law_952 : decode cL_law 952 = .ok (.iload_n 3, 1) := by decide +kernel
theorem dL_law_953 : decode cL_law 953 = .ok (.iconst 1, 1) := by decide +kernel
theorem dL_law_954 : decode cL_law 954 = .ok (.iadd, 1) := by decide +kernel
theorem dL_law_955 : decode cL_law 955 = .ok (.iaload, 1) := by decide +kernel
theorem dL_law_956 : decode cL_law 956 = .ok (.invokevirtual 115, 3) := by decide +kernel
theorem dL_law_959 : decode cL_law 959 = .ok (.if_icmp .eq 127, 3) := by decide +kernel
theorem dL_law_962 : decode cL_law 962 = .ok (.iconst 0, 1) := by decide +kernel
theorem dL_law_963 : decode cL_law 963 = .ok (.ireturn, 1) := by decide +kernel
theorem dL_law_964 : decode cL_law 964 = .ok (.aload_n 1, 1) := by decide +kernel
theorem dL_law_965 : decode cL_law 965 = .ok (.aload_n 0, 1) := by decide +kernel
theorem dL_law_966 : decode cL_law 966 = .ok (.iload_n 3, 1) := by decide +kernel
theorem dL_law_967 : decode cL_law 967 = .ok (.iconst 1, 1) := by decide +kernel
theorem dL_law_968 : decode cL_law 968 = .ok (.iadd, 1) := by decide +kernel
theorem dL_law_969 : decode cL_law 969 = .ok (.iaload, 1) := by decide +kernel
theorem dL_law_970 : decode cL_law 970 = .ok (.aload_n 0, 1) := by decide +kernel
theorem dL_law_971 : decode cL_law 971 = .ok (.iload_n 3, 1) := by decide +kernel
theorem dL_law_972 : decode cL_law 972 = .ok (.iconst 2, 1) := by decide +kernel
theorem dL_law_973 : decode cL_law 973 = .ok (.iadd, 1) := by decide +kernel
theorem dL_law_974 : decode cL_law 974 = .ok (.iaload, 1) := by decide +kernel
theorem dL_law_975 : decode cL_law 975 = .ok (.aload_n 0, 1) := by decide +kernel
theorem dL_law_976 : decode cL_law 976 = .ok (.iload_n 3, 1) := by decide +kernel
theorem dL_law_977 : decode cL_law 977 = .ok (.iconst 3, 1) := by decide +kernel
theorem dL_law_978 : decode cL_law 978 = .ok (.iadd, 1) := by decide +kernel
theorem dL_law_979 : decode cL_law 979 = .ok (.iaload, 1) := by decide +kernel
theorem dL_law_980 : decode cL_law 980 = .ok (.aload_n 0, 1) := by decide +kernel
theorem dL_law_981 : decode cL_law 981 = .ok (.iload_n 3, 1) := by decide +kernel
theorem dL_law_982 : decode cL_law 982 = .ok (.iconst 4, 1) := by decide +kernel
theorem dL_law_983 : decode cL_law 983 = .ok (.iadd, 1) := by decide +kernel
theorem dL_law_984 : decode cL_law 984 = .ok (.iaload, 1) := by decide +kernel
theorem dL_law_985 : decode cL_law 985 = .ok (.invokevirtual 116, 3) := by decide +kernel
theorem dL_law_988 : decode cL_law 988 = .ok (.aload_n 2, 1) := by decide +kernel
theorem dL_law_989 : decode cL_law 989 = .ok (.aload_n 0, 1) := by decide +kernel
theorem dL_law_990 : decode cL_law 990 = .ok (.iload_n 3, 1) := by decide +kernel
theorem dL_law_991 : decode cL_law 991 = .ok (.iconst 1, 1) := by decide +kernel
theorem dL_law_992 : decode cL_law 992 = .ok (.iadd, 1) := by decide +kernel
theorem dL_law_993 : decode cL_law 993 = .ok (.iaload, 1) := by decide +kernel
theorem dL_law_994 : decode cL_law 994 = .ok (.aload_n 0, 1) := by decide +kernel
theorem dL_law_995 : decode cL_law 995 = .ok (.iload_n 3, 1) := by decide +kernel
theorem dL_law_996 : decode cL_law 996 = .ok (.iconst 2, 1) := by decide +kernel
theorem dL_law_997 : decode cL_law 997 = .ok (.iadd, 1) := by decide +kernel
theorem dL_law_998 : decode cL_law 998 = .ok (.iaload, 1) := by decide +kernel
theorem dL_law_999 : decode cL_law 999 = .ok (.aload_n 0, 1) := by decide +kernel
theorem dL_law_1000 : decode cL_law 1000 = .ok (.iload_n 3, 1) := by decide +kernel
theorem dL_law_1001 : decode cL_law 1001 = .ok (.iconst 3, 1) := by decide +kernel
theorem dL_law_1002 : decode cL_law 1002 = .ok (.iadd, 1) := by decide +kernel
theorem dL_law_1003 : decode cL_law 1003 = .ok (.iaload, 1) := by decide +kernel
theorem dL_law_1004 : decode cL_law 1004 = .ok (.aload_n 0, 1) := by decide +kernel
theorem dL_law_1005 : decode cL_law 1005 = .ok (.iload_n 3, 1) := by decide +kernel
theorem dL_law_1006 : decode cL_law 1006 = .ok (.iconst 4, 1) := by decide +kernel
theorem dL_law_1007 : decode cL_law 1007 = .ok (.iadd, 1) := by decide +kernel
theorem dL_law_1008 : decode cL_law 1008 = .ok (.iaload, 1) := by decide +kernel
theorem dL_law_1009 : decode cL_law 1009 = .ok (.invokevirtual 119, 3) := by decide +kernel
theorem dL_law_1012 : decode cL_law 1012 = .ok (.if_icmp .eq 74, 3) := by decide +kernel
theorem dL_law_1015 : decode cL_law 1015 = .ok (.iconst 0, 1) := by decide +kernel
theorem dL_law_1016 : decode cL_law 1016 = .ok (.ireturn, 1) := by decide +kernel
theorem dL_law_1017 : decode cL_law 1017 = .ok (.aload_n 1, 1) := by decide +kernel
theorem dL_law_1018 : decode cL_law 1018 = .ok (.aload_n 0, 1) := by decide +kernel
theorem dL_law_1019 : decode cL_law 1019 = .ok (.iload_n 3, 1) := by decide +kernel
theorem dL_law_1020 : decode cL_law 1020 = .ok (.iconst 1, 1) := by decide +kernel
theorem dL_law_1021 : decode cL_law 1021 = .ok (.iadd, 1) := by decide +kernel
theorem dL_law_1022 : decode cL_law 1022 = .ok (.iaload, 1) := by decide +kernel
theorem dL_law_1023 : decode cL_law 1023 = .ok (.invokevirtual 120, 3) := by decide +kernel
theorem dL_law_1026 : decode cL_law 1026 = .ok (.aload_n 2, 1) := by decide +kernel
theorem dL_law_1027 : decode cL_law 1027 = .ok (.aload_n 0, 1) := by decide +kernel
theorem dL_law_1028 : decode cL_law 1028 = .ok (.iload_n 3, 1) := by decide +kernel
theorem dL_law_1029 : decode cL_law 1029 = .ok (.iconst 1, 1) := by decide +kernel
theorem dL_law_1030 : decode cL_law 1030 = .ok (.iadd, 1) := by decide +kernel
theorem dL_law_1031 : decode cL_law 1031 = .ok (.iaload, 1) := by decide +kernel
theorem dL_law_1032 : decode cL_law 1032 = .ok (.invokevirtual 123, 3) := by decide +kernel
theorem dL_law_1035 : decode cL_law 1035 = .ok (.if_icmp .eq 51, 3) := by decide +kernel
theorem dL_law_1038 : decode cL_law 1038 = .ok (.iconst 0, 1) := by decide +kernel
theorem dL_law_1039 : decode cL_law 1039 = .ok (.ireturn, 1) := by decide +kernel
theorem dL_law_1040 : decode cL_law 1040 = .ok (.aload_n 1, 1) := by decide +kernel
theorem dL_law_1041 : decode cL_law 1041 = .ok (.aload_n 0, 1) := by decide +kernel
theorem dL_law_1042 : decode cL_law 1042 = .ok (.iload_n 3, 1) := by decide +kernel
theorem dL_law_1043 : decode cL_law 1043 = .ok (.iconst 1, 1) := by decide +kernel
theorem dL_law_1044 : decode cL_law 1044 = .ok (.iadd, 1) := by decide +kernel
theorem dL_law_1045 : decode cL_law 1045 = .ok (.iaload, 1) := by decide +kernel
theorem dL_law_1046 : decode cL_law 1046 = .ok (.invokevirtual 124, 3) := by decide +kernel
theorem dL_law_1049 : decode cL_law 1049 = .ok (.aload_n 2, 1) := by decide +kernel
theorem dL_law_1050 : decode cL_law 1050 = .ok (.aload_n 0, 1) := by decide +kernel
theorem dL_law_1051 : decode cL_law 1051 = .ok (.iload_n 3, 1) := by decide +kernel
theorem dL_law_1052 : decode cL_law 1052 = .ok (.iconst 1, 1) := by decide +kernel
theorem dL_law_1053 : decode cL_law 1053 = .ok (.iadd, 1) := by decide +kernel
theorem dL_law_1054 : decode cL_law 1054 = .ok (.iaload, 1) := by decide +kernel
theorem dL_law_1055 : decode cL_law 1055 = .ok (.invokevirtual 127, 3) := by decide +kernel
theorem dL_law_1058 : decode cL_law 1058 = .ok (.if_icmp .eq 28, 3) := by decide +kernel
theorem dL_law_1061 : decode cL_law 1061 = .ok (.iconst 0, 1) := by decide +kernel
theorem dL_law_1062 : decode cL_law 1062 = .ok (.ireturn, 1) := by decide +kernel
theorem dL_law_1063 : decode cL_law 1063 = .ok (.aload_n 1, 1) := by decide +kernel
theorem dL_law_1064 : decode cL_law 1064 = .ok (.aload_n 0, 1) := by decide +kernel
theorem dL_law_1065 : decode cL_law 1065 = .ok (.iload_n 3, 1) := by decide +kernel
theorem dL_law_1066 : decode cL_law 1066 = .ok (.iconst 1, 1) := by decide +kernel
theorem dL_law_1067 : decode cL_law 1067 = .ok (.iadd, 1) := by decide +kernel
theorem dL_law_1068 : decode cL_law 1068 = .ok (.iaload, 1) := by decide +kernel
theorem dL_law_1069 : decode cL_law 1069 = .ok (.invokevirtual 128, 3) := by decide +kernel
theorem dL_law_1072 : decode cL_law 1072 = .ok (.aload_n 2, 1) := by decide +kernel
theorem dL_law_1073 : decode cL_law 1073 = .ok (.aload_n 0, 1) := by decide +kernel
theorem dL_law_1074 : decode cL_law 1074 = .ok (.iload_n 3, 1) := by decide +kernel
theorem dL_law_1075 : decode cL_law 1075 = .ok (.iconst 1, 1) := by decide +kernel
theorem dL_law_1076 : decode cL_law 1076 = .ok (.iadd, 1) := by decide +kernel
theorem dL_law_1077 : decode cL_law 1077 = .ok (.iaload, 1) := by decide +kernel
theorem dL_law_1078 : decode cL_law 1078 = .ok (.invokevirtual 131, 3) := by decide +kernel
theorem dL_law_1081 : decode cL_law 1081 = .ok (.if_icmp .eq 5, 3) := by decide +kernel
theorem dL_law_1084 : decode cL_law 1084 = .ok (.iconst 0, 1) := by decide +kernel
theorem dL_law_1085 : decode cL_law 1085 = .ok (.ireturn, 1) := by decide +kernel
theorem dL_law_1086 : decode cL_law 1086 = .ok (.iinc 3 6, 3) := by decide +kernel
theorem dL_law_1089 : decode cL_law 1089 = .ok (.goto (-1071), 3) := by decide +kernel
theorem dL_law_1092 : decode cL_law 1092 = .ok (.iconst 1, 1) := by decide +kernel
theorem dL_law_1093 : decode cL_law 1093 = .ok (.ireturn, 1) := by decide +kernel
/-- the script, outside the pool -/
def XB (X : XT) (b L : Nat) (xs : Nat → Int32) : Prop := match X with
  | (_, _, _, _, s, _, _, _, _, _, _, _, z0, _) => va_X b L xs s s.heap ∧ b < s.heap.size ∧ z0 = s.heap.size
section LAWR
variable {X : XT} {ex : Prop} {y : MethodName} {cc : ByteArray} {nL : Nat} {ret : Option FieldType} {d mc ms cs ss : Nat} {ρ : Type} {Qf : ρ → SG → State → Prop} {pc : Nat} {lv : List (Nat × Value)} {st : List Value} {u : SG} {fx fy : Option (ρ × SG)}
theorem jf_weak (h : JF X False nL cs ss Qf pc lv st u fx) : JF X ex nL cs ss Qf pc lv st u fx := by
  obtain ⟨p, l, e, R, s, m, args, below, meth, c, D, cT, z0, ks⟩ := X
  intro r u' hf ls H locs hl hH hP hw hex hS
  exact h r u' hf ls H locs hl hH hP hw (fun z => z.elim) hS
theorem jf_sld (hX : Cx X y cc nL ret d mc ms) {b L : Nat} {xs : Nat → Int32} (hB : XB X b L xs) {i : Int32} (hd : decode cc pc = .ok (.iaload, 1)) (h : JF X ex nL cs ss Qf (pc + 1) lv (.int (xs i.toNatClampNeg) :: st) u fx) : JF X ex nL cs ss Qf pc lv (.int i :: .ref b :: st) u (if i < 0 ∨ L ≤ i.toNatClampNeg then none else fx) := by
  obtain ⟨p, l, e, R, s, m, args, below, meth, c, D, cT, z0, ks⟩ := X
  obtain ⟨hx, hb, hml, hown, hts, hKk, hz0, hRf, hRl, hRc, hRs, hSF, hret, hlk, hnm⟩ := hX
  intro r u' hf ls H locs hl hH hP hw hex hS
  obtain ⟨b1, b2, b3⟩ := hB
  by_cases hi : i < 0 ∨ L ≤ i.toNatClampNeg
  · rw [if_pos hi] at hf; cases hf
  · rw [if_neg hi] at hf
    exact va_sld hx hb b1 b2 (by subst b3; exact Nat.not_le.mpr b2) hS hi hd (h r u' hf ls H locs hl hH hP hw hex hS)
theorem jf_slen9 (hX : Cx X y cc nL ret d mc ms) {b L : Nat} {xs : Nat → Int32} (hB : XB X b L xs) (hd : decode cc pc = .ok (.arraylength, 1)) (h : JF X ex nL cs ss Qf (pc + 1) lv (.int (nI L) :: st) u fx) : JF X ex nL cs ss Qf pc lv (.ref b :: st) u fx := by
  obtain ⟨p, l, e, R, s, m, args, below, meth, c, D, cT, z0, ks⟩ := X
  obtain ⟨hx, hb, hml, hown, hts, hKk, hz0, hRf, hRl, hRc, hRs, hSF, hret, hlk, hnm⟩ := hX
  intro r u' hf ls H locs hl hH hP hw hex hS
  obtain ⟨b1, b2, b3⟩ := hB
  exact va_slen hx hb b1 b2 (by subst b3; exact Nat.not_le.mpr b2) hS hd (h r u' hf ls H locs hl hH hP hw hex hS)
end LAWR
/-- what the law's walk must come to -/
def lwQ (X : XT) : Int32 → SG → State → Prop := match X with
  | (_, _, _, _, s, _, args, below, _, _, _, _, _, _) => fun r _ => if r = 1 then lw_Z below args s else fun _ => True
theorem jf_lret0 {X : XT} {ex : Prop} {nL cs ss pc : Nat} {lv : List (Nat × Value)} {st : List Value} {u u2 : SG} : JF X ex nL cs ss (lwQ X) pc lv st u (some ((0 : Int32), u2)) := by
  obtain ⟨p, l, e, R, s, m, args, below, meth, c, D, cT, z0, ks⟩ := X
  intro r u' hf ls H locs hl hH hP hw hex hS
  cases hf
  intro T hT X
  exact ⟨_, Steps.refl _, trivial⟩
theorem jf_lret1 {p : Program} {l : Launch} {e : Env} {s : State} {m : MethodId} {b : Nat} {below : List Frame} {meth : Method} {c : Code} {D : va_G} {cT : Nat → ClassId} {z0 : Nat} {ks : Nat × Nat} {ex : Prop} {nL cs ss d mc ms : Nat} {lv : List (Nat × Value)} {u : SG} (hX : Cx (p, l, e, room_1, s, m, #[.ref b], below, meth, c, D, cT, z0, ks) yL_law code nL ret d mc ms) (hz : z0 = s.heap.size) (hcs : cs ≤ 600000) (hss : ss ≤ 7302250) {pc : Nat} (hd : decode code pc = .ok (.ireturn, 1)) : JF (p, l, e, room_1, s, m, #[.ref b], below, meth, c, D, cT, z0, ks) ex nL cs ss (lwQ (p, l, e, room_1, s, m, #[.ref b], below, meth, c, D, cT, z0, ks)) pc lv [.int 1] u (some ((1 : Int32), u)) := by
  obtain ⟨hx, hb, hml, hown, hts, hKk, hz0, hRf, hRl, hRc, hRs, hSF, hret, hlk, hnm⟩ := hX
  intro r u' hf ls H locs hl hH hP hw hex hS
  cases hf
  refine va_forget (fun q hq => ?_) ?_
  · have := hS.2.2 q hq
    subst hz
    exact this
  · refine W.widen hcs hss ?_
    exact lw_ret hx hb hret hlk hd
set_option maxRecDepth 20000 in
set_option maxHeartbeats 8000000 in
def gL_law_18 (N : Nat) (L : Nat) (xs : Nat → Int32) : Nat → Nat → Nat → Int32 → SG → Option (Int32 × SG)
  | 0, _, _, _, _ => none
  | n + 1, x1, x2, x3, u => if ((nI L) - (6 : Int32)) < x3 then (some ((1 : Int32), u))
  else (if x3 < 0 ∨ L ≤ x3.toNatClampNeg then none else (bs ((xs x3.toNatClampNeg) &&& (31 : Int32)) fun v1 => (if v1 = (0 : Int32) then (if (x3 + (1 : Int32)) < 0 ∨ L ≤ (x3 + (1 : Int32)).toNatClampNeg then none else (if (x3 + (2 : Int32)) < 0 ∨ L ≤ (x3 + (2 : Int32)).toNatClampNeg then none else (if (x3 + (3 : Int32)) < 0 ∨ L ≤ (x3 + (3 : Int32)).toNatClampNeg then none else (if (x3 + (4 : Int32)) < 0 ∨ L ≤ (x3 + (4 : Int32)).toNatClampNeg then none else (if (x3 + (5 : Int32)) < 0 ∨ L ≤ (x3 + (5 : Int32)).toNatClampNeg then none else (if zK u x1 = 11 then cl (fX10_feed N x1 (xs (x3 + (1 : Int32)).toNatClampNeg) (xs (x3 + (2 : Int32)).toNatClampNeg) (xs (x3 + (3 : Int32)).toNatClampNeg) (xs (x3 + (4 : Int32)).toNatClampNeg) (xs (x3 + (5 : Int32)).toNatClampNeg) u) fun r2 u3 => (if (x3 + (1 : Int32)) < 0 ∨ L ≤ (x3 + (1 : Int32)).toNatClampNeg then none else (if (x3 + (2 : Int32)) < 0 ∨ L ≤ (x3 + (2 : Int32)).toNatClampNeg then none else (if (x3 + (3 : Int32)) < 0 ∨ L ≤ (x3 + (3 : Int32)).toNatClampNeg then none else (if (x3 + (4 : Int32)) < 0 ∨ L ≤ (x3 + (4 : Int32)).toNatClampNeg then none else (if (x3 + (5 : Int32)) < 0 ∨ L ≤ (x3 + (5 : Int32)).toNatClampNeg then none else (if zK u3 x2 = 12 then cl (fX11_feed N x2 (xs (x3 + (1 : Int32)).toNatClampNeg) (xs (x3 + (2 : Int32)).toNatClampNeg) (xs (x3 + (3 : Int32)).toNatClampNeg) (xs (x3 + (4 : Int32)).toNatClampNeg) (xs (x3 + (5 : Int32)).toNatClampNeg) u3) fun r4 u5 => (if r2 = r4 then ((gL_law_18 N L xs n) x1 x2 (x3 + (6 : Int32)) u5)
  else (some ((0 : Int32), u5))) else none)))))) else none))))))
  else if v1 = (1 : Int32) then (if (x3 + (1 : Int32)) < 0 ∨ L ≤ (x3 + (1 : Int32)).toNatClampNeg then none else (if zK u x1 = 11 then cl (fX10_end N x1 (xs (x3 + (1 : Int32)).toNatClampNeg) u) fun r6 u7 => (if (x3 + (1 : Int32)) < 0 ∨ L ≤ (x3 + (1 : Int32)).toNatClampNeg then none else (if zK u7 x2 = 12 then cl (fX11_end N x2 (xs (x3 + (1 : Int32)).toNatClampNeg) u7) fun r8 u9 => (if r6 = r8 then ((gL_law_18 N L xs n) x1 x2 (x3 + (6 : Int32)) u9)
  else (some ((0 : Int32), u9))) else none)) else none))
  else if v1 = (2 : Int32) then (if zK u x1 = 11 then cl (fX10_street N x1 u) fun r10 u11 => (if zK u11 x2 = 12 then cl (fX11_street N x2 u11) fun r12 u13 => (if r10 = r12 then ((gL_law_18 N L xs n) x1 x2 (x3 + (6 : Int32)) u13)
  else (some ((0 : Int32), u13))) else none) else none)
  else if v1 = (3 : Int32) then (if zK u x1 = 11 then cl (fX10_rule N x1 u) fun r14 u15 => (if zK u15 x2 = 12 then cl (fX11_rule N x2 u15) fun r16 u17 => (if r14 = r16 then ((gL_law_18 N L xs n) x1 x2 (x3 + (6 : Int32)) u17)
  else (some ((0 : Int32), u17))) else none) else none)
  else if v1 = (4 : Int32) then (if (x3 + (1 : Int32)) < 0 ∨ L ≤ (x3 + (1 : Int32)).toNatClampNeg then none else (if zK u x1 = 11 then cl (fX10_force N x1 (xs (x3 + (1 : Int32)).toNatClampNeg) u) fun r18 u19 => (if (x3 + (1 : Int32)) < 0 ∨ L ≤ (x3 + (1 : Int32)).toNatClampNeg then none else (if zK u19 x2 = 12 then cl (fX11_force N x2 (xs (x3 + (1 : Int32)).toNatClampNeg) u19) fun r20 u21 => (if r18 = r20 then ((gL_law_18 N L xs n) x1 x2 (x3 + (6 : Int32)) u21)
  else (some ((0 : Int32), u21))) else none)) else none))
  else if v1 = (5 : Int32) then (if (x3 + (1 : Int32)) < 0 ∨ L ≤ (x3 + (1 : Int32)).toNatClampNeg then none else (if (x3 + (2 : Int32)) < 0 ∨ L ≤ (x3 + (2 : Int32)).toNatClampNeg then none else (if zK u x1 = 11 then cl (fX10_person N x1 (xs (x3 + (1 : Int32)).toNatClampNeg) (xs (x3 + (2 : Int32)).toNatClampNeg) u) fun r22 u23 => (if (x3 + (1 : Int32)) < 0 ∨ L ≤ (x3 + (1 : Int32)).toNatClampNeg then none else (if (x3 + (2 : Int32)) < 0 ∨ L ≤ (x3 + (2 : Int32)).toNatClampNeg then none else (if zK u23 x2 = 12 then cl (fX11_person N x2 (xs (x3 + (1 : Int32)).toNatClampNeg) (xs (x3 + (2 : Int32)).toNatClampNeg) u23) fun r24 u25 => (if r22 = r24 then ((gL_law_18 N L xs n) x1 x2 (x3 + (6 : Int32)) u25)
  else (some ((0 : Int32), u25))) else none))) else none)))
  else if v1 = (6 : Int32) then (if (x3 + (1 : Int32)) < 0 ∨ L ≤ (x3 + (1 : Int32)).toNatClampNeg then none else (if (x3 + (2 : Int32)) < 0 ∨ L ≤ (x3 + (2 : Int32)).toNatClampNeg then none else (if zK u x1 = 11 then cl (fX10_lamp N x1 (xs (x3 + (1 : Int32)).toNatClampNeg) (xs (x3 + (2 : Int32)).toNatClampNeg) u) fun r26 u27 => (if (x3 + (1 : Int32)) < 0 ∨ L ≤ (x3 + (1 : Int32)).toNatClampNeg then none else (if (x3 + (2 : Int32)) < 0 ∨ L ≤ (x3 + (2 : Int32)).toNatClampNeg then none else (if zK u27 x2 = 12 then cl (fX11_lamp N x2 (xs (x3 + (1 : Int32)).toNatClampNeg) (xs (x3 + (2 : Int32)).toNatClampNeg) u27) fun r28 u29 => (if r26 = r28 then ((gL_law_18 N L xs n) x1 x2 (x3 + (6 : Int32)) u29)
  else (some ((0 : Int32), u29))) else none))) else none)))
  else if v1 = (7 : Int32) then (if zK u x1 = 11 then cl (fX10_hour N x1 u) fun r30 u31 => (if zK u31 x2 = 12 then cl (fX11_hour N x2 u31) fun r32 u33 => (if r30 = r32 then ((gL_law_18 N L xs n) x1 x2 (x3 + (6 : Int32)) u33)
  else (some ((0 : Int32), u33))) else none) else none)
  else if v1 = (8 : Int32) then (if (x3 + (1 : Int32)) < 0 ∨ L ≤ (x3 + (1 : Int32)).toNatClampNeg then none else (if (x3 + (2 : Int32)) < 0 ∨ L ≤ (x3 + (2 : Int32)).toNatClampNeg then none else (if (xs (x3 + (2 : Int32)).toNatClampNeg) = 0 then (if zK u x1 = 11 then cl (fX10_sleep N x1 (xs (x3 + (1 : Int32)).toNatClampNeg) (0 : Int32) u) fun r34 u35 => (if (x3 + (1 : Int32)) < 0 ∨ L ≤ (x3 + (1 : Int32)).toNatClampNeg then none else (if (x3 + (2 : Int32)) < 0 ∨ L ≤ (x3 + (2 : Int32)).toNatClampNeg then none else (if (xs (x3 + (2 : Int32)).toNatClampNeg) = 0 then (if zK u35 x2 = 12 then cl (fX11_sleep N x2 (xs (x3 + (1 : Int32)).toNatClampNeg) (0 : Int32) u35) fun r36 u37 => (if r34 = r36 then ((gL_law_18 N L xs n) x1 x2 (x3 + (6 : Int32)) u37)
  else (some ((0 : Int32), u37))) else none)
  else (if zK u35 x2 = 12 then cl (fX11_sleep N x2 (xs (x3 + (1 : Int32)).toNatClampNeg) (1 : Int32) u35) fun r38 u39 => (if r34 = r38 then ((gL_law_18 N L xs n) x1 x2 (x3 + (6 : Int32)) u39)
  else (some ((0 : Int32), u39))) else none)))) else none)
  else (if zK u x1 = 11 then cl (fX10_sleep N x1 (xs (x3 + (1 : Int32)).toNatClampNeg) (1 : Int32) u) fun r40 u41 => (if (x3 + (1 : Int32)) < 0 ∨ L ≤ (x3 + (1 : Int32)).toNatClampNeg then none else (if (x3 + (2 : Int32)) < 0 ∨ L ≤ (x3 + (2 : Int32)).toNatClampNeg then none else (if (xs (x3 + (2 : Int32)).toNatClampNeg) = 0 then (if zK u41 x2 = 12 then cl (fX11_sleep N x2 (xs (x3 + (1 : Int32)).toNatClampNeg) (0 : Int32) u41) fun r42 u43 => (if r40 = r42 then ((gL_law_18 N L xs n) x1 x2 (x3 + (6 : Int32)) u43)
  else (some ((0 : Int32), u43))) else none)
  else (if zK u41 x2 = 12 then cl (fX11_sleep N x2 (xs (x3 + (1 : Int32)).toNatClampNeg) (1 : Int32) u41) fun r44 u45 => (if r40 = r44 then ((gL_law_18 N L xs n) x1 x2 (x3 + (6 : Int32)) u45)
  else (some ((0 : Int32), u45))) else none)))) else none))))
  else if v1 = (9 : Int32) then (if (x3 + (1 : Int32)) < 0 ∨ L ≤ (x3 + (1 : Int32)).toNatClampNeg then none else (if (x3 + (2 : Int32)) < 0 ∨ L ≤ (x3 + (2 : Int32)).toNatClampNeg then none else (if (xs (x3 + (2 : Int32)).toNatClampNeg) = 0 then (if zK u x1 = 11 then cl (fX10_light N x1 (xs (x3 + (1 : Int32)).toNatClampNeg) (0 : Int32) u) fun r46 u47 => (if (x3 + (1 : Int32)) < 0 ∨ L ≤ (x3 + (1 : Int32)).toNatClampNeg then none else (if (x3 + (2 : Int32)) < 0 ∨ L ≤ (x3 + (2 : Int32)).toNatClampNeg then none else (if (xs (x3 + (2 : Int32)).toNatClampNeg) = 0 then (if zK u47 x2 = 12 then cl (fX11_light N x2 (xs (x3 + (1 : Int32)).toNatClampNeg) (0 : Int32) u47) fun r48 u49 => (if r46 = r48 then ((gL_law_18 N L xs n) x1 x2 (x3 + (6 : Int32)) u49)
  else (some ((0 : Int32), u49))) else none)
  else (if zK u47 x2 = 12 then cl (fX11_light N x2 (xs (x3 + (1 : Int32)).toNatClampNeg) (1 : Int32) u47) fun r50 u51 => (if r46 = r50 then ((gL_law_18 N L xs n) x1 x2 (x3 + (6 : Int32)) u51)
  else (some ((0 : Int32), u51))) else none)))) else none)
  else (if zK u x1 = 11 then cl (fX10_light N x1 (xs (x3 + (1 : Int32)).toNatClampNeg) (1 : Int32) u) fun r52 u53 => (if (x3 + (1 : Int32)) < 0 ∨ L ≤ (x3 + (1 : Int32)).toNatClampNeg then none else (if (x3 + (2 : Int32)) < 0 ∨ L ≤ (x3 + (2 : Int32)).toNatClampNeg then none else (if (xs (x3 + (2 : Int32)).toNatClampNeg) = 0 then (if zK u53 x2 = 12 then cl (fX11_light N x2 (xs (x3 + (1 : Int32)).toNatClampNeg) (0 : Int32) u53) fun r54 u55 => (if r52 = r54 then ((gL_law_18 N L xs n) x1 x2 (x3 + (6 : Int32)) u55)
  else (some ((0 : Int32), u55))) else none)
  else (if zK u53 x2 = 12 then cl (fX11_light N x2 (xs (x3 + (1 : Int32)).toNatClampNeg) (1 : Int32) u53) fun r56 u57 => (if r52 = r56 then ((gL_law_18 N L xs n) x1 x2 (x3 + (6 : Int32)) u57)
  else (some ((0 : Int32), u57))) else none)))) else none))))
  else if v1 = (10 : Int32) then (if zK u x1 = 11 then cl (fX10_undo N x1 u) fun r58 u59 => (if zK u59 x2 = 12 then cl (fX11_undo N x2 u59) fun r60 u61 => (if r58 = r60 then ((gL_law_18 N L xs n) x1 x2 (x3 + (6 : Int32)) u61)
  else (some ((0 : Int32), u61))) else none) else none)
  else if v1 = (11 : Int32) then (if (x3 + (1 : Int32)) < 0 ∨ L ≤ (x3 + (1 : Int32)).toNatClampNeg then none else (if (x3 + (2 : Int32)) < 0 ∨ L ≤ (x3 + (2 : Int32)).toNatClampNeg then none else (if zK u x1 = 11 then cl (fX10_owed N x1 (xs (x3 + (1 : Int32)).toNatClampNeg) (xs (x3 + (2 : Int32)).toNatClampNeg) u) fun r62 u63 => (if (x3 + (1 : Int32)) < 0 ∨ L ≤ (x3 + (1 : Int32)).toNatClampNeg then none else (if (x3 + (2 : Int32)) < 0 ∨ L ≤ (x3 + (2 : Int32)).toNatClampNeg then none else (if zK u63 x2 = 12 then cl (fX11_owed N x2 (xs (x3 + (1 : Int32)).toNatClampNeg) (xs (x3 + (2 : Int32)).toNatClampNeg) u63) fun r64 u65 => (if r62 = r64 then ((gL_law_18 N L xs n) x1 x2 (x3 + (6 : Int32)) u65)
  else (some ((0 : Int32), u65))) else none))) else none)))
  else if v1 = (12 : Int32) then (if (x3 + (1 : Int32)) < 0 ∨ L ≤ (x3 + (1 : Int32)).toNatClampNeg then none else (if (x3 + (2 : Int32)) < 0 ∨ L ≤ (x3 + (2 : Int32)).toNatClampNeg then none else (if (x3 + (3 : Int32)) < 0 ∨ L ≤ (x3 + (3 : Int32)).toNatClampNeg then none else (if zK u x1 = 11 then cl (fX10_ahead N x1 (xs (x3 + (1 : Int32)).toNatClampNeg) (xs (x3 + (2 : Int32)).toNatClampNeg) (xs (x3 + (3 : Int32)).toNatClampNeg) u) fun r66 u67 => (if (x3 + (1 : Int32)) < 0 ∨ L ≤ (x3 + (1 : Int32)).toNatClampNeg then none else (if (x3 + (2 : Int32)) < 0 ∨ L ≤ (x3 + (2 : Int32)).toNatClampNeg then none else (if (x3 + (3 : Int32)) < 0 ∨ L ≤ (x3 + (3 : Int32)).toNatClampNeg then none else (if zK u67 x2 = 12 then cl (fX11_ahead N x2 (xs (x3 + (1 : Int32)).toNatClampNeg) (xs (x3 + (2 : Int32)).toNatClampNeg) (xs (x3 + (3 : Int32)).toNatClampNeg) u67) fun r68 u69 => (if r66 = r68 then ((gL_law_18 N L xs n) x1 x2 (x3 + (6 : Int32)) u69)
  else (some ((0 : Int32), u69))) else none)))) else none))))
  else if v1 = (13 : Int32) then (if (x3 + (1 : Int32)) < 0 ∨ L ≤ (x3 + (1 : Int32)).toNatClampNeg then none else (if (x3 + (2 : Int32)) < 0 ∨ L ≤ (x3 + (2 : Int32)).toNatClampNeg then none else (if (x3 + (3 : Int32)) < 0 ∨ L ≤ (x3 + (3 : Int32)).toNatClampNeg then none else (if zK u x1 = 11 then cl (fX10_cheap N x1 (xs (x3 + (1 : Int32)).toNatClampNeg) (xs (x3 + (2 : Int32)).toNatClampNeg) (xs (x3 + (3 : Int32)).toNatClampNeg) u) fun r70 u71 => (if (x3 + (1 : Int32)) < 0 ∨ L ≤ (x3 + (1 : Int32)).toNatClampNeg then none else (if (x3 + (2 : Int32)) < 0 ∨ L ≤ (x3 + (2 : Int32)).toNatClampNeg then none else (if (x3 + (3 : Int32)) < 0 ∨ L ≤ (x3 + (3 : Int32)).toNatClampNeg then none else (if zK u71 x2 = 12 then cl (fX11_cheap N x2 (xs (x3 + (1 : Int32)).toNatClampNeg) (xs (x3 + (2 : Int32)).toNatClampNeg) (xs (x3 + (3 : Int32)).toNatClampNeg) u71) fun r72 u73 => (if r70 = r72 then ((gL_law_18 N L xs n) x1 x2 (x3 + (6 : Int32)) u73)
  else (some ((0 : Int32), u73))) else none)))) else none))))
  else if v1 = (14 : Int32) then (if (x3 + (1 : Int32)) < 0 ∨ L ≤ (x3 + (1 : Int32)).toNatClampNeg then none else (if zK u x1 = 11 then cl (fX10_rest N x1 (xs (x3 + (1 : Int32)).toNatClampNeg) u) fun r74 u75 => (if (x3 + (1 : Int32)) < 0 ∨ L ≤ (x3 + (1 : Int32)).toNatClampNeg then none else (if zK u75 x2 = 12 then cl (fX11_rest N x2 (xs (x3 + (1 : Int32)).toNatClampNeg) u75) fun r76 u77 => (if r74 = r76 then ((gL_law_18 N L xs n) x1 x2 (x3 + (6 : Int32)) u77)
  else (some ((0 : Int32), u77))) else none)) else none))
  else if v1 = (15 : Int32) then (if (x3 + (1 : Int32)) < 0 ∨ L ≤ (x3 + (1 : Int32)).toNatClampNeg then none else (if zK u x1 = 11 then cl (fX10_dark N x1 (xs (x3 + (1 : Int32)).toNatClampNeg) u) fun r78 u79 => (if (x3 + (1 : Int32)) < 0 ∨ L ≤ (x3 + (1 : Int32)).toNatClampNeg then none else (if zK u79 x2 = 12 then cl (fX11_dark N x2 (xs (x3 + (1 : Int32)).toNatClampNeg) u79) fun r80 u81 => (if r78 = r80 then ((gL_law_18 N L xs n) x1 x2 (x3 + (6 : Int32)) u81)
  else (some ((0 : Int32), u81))) else none)) else none))
  else if v1 = (16 : Int32) then (if (x3 + (1 : Int32)) < 0 ∨ L ≤ (x3 + (1 : Int32)).toNatClampNeg then none else (if (x3 + (2 : Int32)) < 0 ∨ L ≤ (x3 + (2 : Int32)).toNatClampNeg then none else (if (x3 + (3 : Int32)) < 0 ∨ L ≤ (x3 + (3 : Int32)).toNatClampNeg then none else (if zK u x1 = 11 then cl (fX10_guild N x1 (xs (x3 + (1 : Int32)).toNatClampNeg) (xs (x3 + (2 : Int32)).toNatClampNeg) (xs (x3 + (3 : Int32)).toNatClampNeg) u) fun r82 u83 => (if (x3 + (1 : Int32)) < 0 ∨ L ≤ (x3 + (1 : Int32)).toNatClampNeg then none else (if (x3 + (2 : Int32)) < 0 ∨ L ≤ (x3 + (2 : Int32)).toNatClampNeg then none else (if (x3 + (3 : Int32)) < 0 ∨ L ≤ (x3 + (3 : Int32)).toNatClampNeg then none else (if zK u83 x2 = 12 then cl (fX11_guild N x2 (xs (x3 + (1 : Int32)).toNatClampNeg) (xs (x3 + (2 : Int32)).toNatClampNeg) (xs (x3 + (3 : Int32)).toNatClampNeg) u83) fun r84 u85 => (if r82 = r84 then ((gL_law_18 N L xs n) x1 x2 (x3 + (6 : Int32)) u85)
  else (some ((0 : Int32), u85))) else none)))) else none))))
  else if v1 = (17 : Int32) then (if (x3 + (1 : Int32)) < 0 ∨ L ≤ (x3 + (1 : Int32)).toNatClampNeg then none else (if (x3 + (2 : Int32)) < 0 ∨ L ≤ (x3 + (2 : Int32)).toNatClampNeg then none else (if (x3 + (3 : Int32)) < 0 ∨ L ≤ (x3 + (3 : Int32)).toNatClampNeg then none else (if (x3 + (4 : Int32)) < 0 ∨ L ≤ (x3 + (4 : Int32)).toNatClampNeg then none else (if zK u x1 = 11 then cl (fX10_fact N x1 (xs (x3 + (1 : Int32)).toNatClampNeg) (xs (x3 + (2 : Int32)).toNatClampNeg) (xs (x3 + (3 : Int32)).toNatClampNeg) (xs (x3 + (4 : Int32)).toNatClampNeg) u) fun r86 u87 => (if (x3 + (1 : Int32)) < 0 ∨ L ≤ (x3 + (1 : Int32)).toNatClampNeg then none else (if (x3 + (2 : Int32)) < 0 ∨ L ≤ (x3 + (2 : Int32)).toNatClampNeg then none else (if (x3 + (3 : Int32)) < 0 ∨ L ≤ (x3 + (3 : Int32)).toNatClampNeg then none else (if (x3 + (4 : Int32)) < 0 ∨ L ≤ (x3 + (4 : Int32)).toNatClampNeg then none else (if zK u87 x2 = 12 then cl (fX11_fact_ N x2 (xs (x3 + (1 : Int32)).toNatClampNeg) (xs (x3 + (2 : Int32)).toNatClampNeg) (xs (x3 + (3 : Int32)).toNatClampNeg) (xs (x3 + (4 : Int32)).toNatClampNeg) u87) fun r88 u89 => (if r86 = r88 then ((gL_law_18 N L xs n) x1 x2 (x3 + (6 : Int32)) u89)
  else (some ((0 : Int32), u89))) else none))))) else none)))))
  else if v1 = (18 : Int32) then (if (x3 + (1 : Int32)) < 0 ∨ L ≤ (x3 + (1 : Int32)).toNatClampNeg then none else (if zK u x1 = 11 then cl (fX10_slept N x1 (xs (x3 + (1 : Int32)).toNatClampNeg) u) fun r90 u91 => (if (x3 + (1 : Int32)) < 0 ∨ L ≤ (x3 + (1 : Int32)).toNatClampNeg then none else (if zK u91 x2 = 12 then cl (fX11_slept N x2 (xs (x3 + (1 : Int32)).toNatClampNeg) u91) fun r92 u93 => (if r90 = r92 then ((gL_law_18 N L xs n) x1 x2 (x3 + (6 : Int32)) u93)
  else (some ((0 : Int32), u93))) else none)) else none))
  else if v1 = (19 : Int32) then (if (x3 + (1 : Int32)) < 0 ∨ L ≤ (x3 + (1 : Int32)).toNatClampNeg then none else (if zK u x1 = 11 then cl (fX10_ask N x1 (xs (x3 + (1 : Int32)).toNatClampNeg) u) fun r94 u95 => (if (x3 + (1 : Int32)) < 0 ∨ L ≤ (x3 + (1 : Int32)).toNatClampNeg then none else (if zK u95 x2 = 12 then cl (fX11_ask N x2 (xs (x3 + (1 : Int32)).toNatClampNeg) u95) fun r96 u97 => (if r94 = r96 then ((gL_law_18 N L xs n) x1 x2 (x3 + (6 : Int32)) u97)
  else (some ((0 : Int32), u97))) else none)) else none))
  else if v1 = (20 : Int32) then (if (x3 + (1 : Int32)) < 0 ∨ L ≤ (x3 + (1 : Int32)).toNatClampNeg then none else (if (x3 + (2 : Int32)) < 0 ∨ L ≤ (x3 + (2 : Int32)).toNatClampNeg then none else (if (x3 + (3 : Int32)) < 0 ∨ L ≤ (x3 + (3 : Int32)).toNatClampNeg then none else (if (x3 + (4 : Int32)) < 0 ∨ L ≤ (x3 + (4 : Int32)).toNatClampNeg then none else (if zK u x1 = 11 then cl (fX10_nights N x1 (xs (x3 + (1 : Int32)).toNatClampNeg) (xs (x3 + (2 : Int32)).toNatClampNeg) (xs (x3 + (3 : Int32)).toNatClampNeg) (xs (x3 + (4 : Int32)).toNatClampNeg) u) fun r98 u99 => (if (x3 + (1 : Int32)) < 0 ∨ L ≤ (x3 + (1 : Int32)).toNatClampNeg then none else (if (x3 + (2 : Int32)) < 0 ∨ L ≤ (x3 + (2 : Int32)).toNatClampNeg then none else (if (x3 + (3 : Int32)) < 0 ∨ L ≤ (x3 + (3 : Int32)).toNatClampNeg then none else (if (x3 + (4 : Int32)) < 0 ∨ L ≤ (x3 + (4 : Int32)).toNatClampNeg then none else (if zK u99 x2 = 12 then cl (fX11_nights N x2 (xs (x3 + (1 : Int32)).toNatClampNeg) (xs (x3 + (2 : Int32)).toNatClampNeg) (xs (x3 + (3 : Int32)).toNatClampNeg) (xs (x3 + (4 : Int32)).toNatClampNeg) u99) fun r100 u101 => (if r98 = r100 then ((gL_law_18 N L xs n) x1 x2 (x3 + (6 : Int32)) u101)
  else (some ((0 : Int32), u101))) else none))))) else none)))))
  else if v1 = (21 : Int32) then (if (x3 + (1 : Int32)) < 0 ∨ L ≤ (x3 + (1 : Int32)).toNatClampNeg then none else (if (x3 + (2 : Int32)) < 0 ∨ L ≤ (x3 + (2 : Int32)).toNatClampNeg then none else (if (x3 + (3 : Int32)) < 0 ∨ L ≤ (x3 + (3 : Int32)).toNatClampNeg then none else (if zK u x1 = 11 then cl (fX10_turned N x1 (xs (x3 + (1 : Int32)).toNatClampNeg) (xs (x3 + (2 : Int32)).toNatClampNeg) (xs (x3 + (3 : Int32)).toNatClampNeg) u) fun r102 u103 => (if (x3 + (1 : Int32)) < 0 ∨ L ≤ (x3 + (1 : Int32)).toNatClampNeg then none else (if (x3 + (2 : Int32)) < 0 ∨ L ≤ (x3 + (2 : Int32)).toNatClampNeg then none else (if (x3 + (3 : Int32)) < 0 ∨ L ≤ (x3 + (3 : Int32)).toNatClampNeg then none else (if zK u103 x2 = 12 then cl (fX11_turned N x2 (xs (x3 + (1 : Int32)).toNatClampNeg) (xs (x3 + (2 : Int32)).toNatClampNeg) (xs (x3 + (3 : Int32)).toNatClampNeg) u103) fun r104 u105 => (if r102 = r104 then ((gL_law_18 N L xs n) x1 x2 (x3 + (6 : Int32)) u105)
  else (some ((0 : Int32), u105))) else none)))) else none))))
  else if v1 = (22 : Int32) then (if (x3 + (1 : Int32)) < 0 ∨ L ≤ (x3 + (1 : Int32)).toNatClampNeg then none else (if (x3 + (2 : Int32)) < 0 ∨ L ≤ (x3 + (2 : Int32)).toNatClampNeg then none else (if (x3 + (3 : Int32)) < 0 ∨ L ≤ (x3 + (3 : Int32)).toNatClampNeg then none else (if (x3 + (4 : Int32)) < 0 ∨ L ≤ (x3 + (4 : Int32)).toNatClampNeg then none else (if zK u x1 = 11 then cl (fX10_spite N x1 (xs (x3 + (1 : Int32)).toNatClampNeg) (xs (x3 + (2 : Int32)).toNatClampNeg) (xs (x3 + (3 : Int32)).toNatClampNeg) (xs (x3 + (4 : Int32)).toNatClampNeg) u) fun r106 u107 => (if (x3 + (1 : Int32)) < 0 ∨ L ≤ (x3 + (1 : Int32)).toNatClampNeg then none else (if (x3 + (2 : Int32)) < 0 ∨ L ≤ (x3 + (2 : Int32)).toNatClampNeg then none else (if (x3 + (3 : Int32)) < 0 ∨ L ≤ (x3 + (3 : Int32)).toNatClampNeg then none else (if (x3 + (4 : Int32)) < 0 ∨ L ≤ (x3 + (4 : Int32)).toNatClampNeg then none else (if zK u107 x2 = 12 then cl (fX11_spite N x2 (xs (x3 + (1 : Int32)).toNatClampNeg) (xs (x3 + (2 : Int32)).toNatClampNeg) (xs (x3 + (3 : Int32)).toNatClampNeg) (xs (x3 + (4 : Int32)).toNatClampNeg) u107) fun r108 u109 => (if r106 = r108 then ((gL_law_18 N L xs n) x1 x2 (x3 + (6 : Int32)) u109)
  else (some ((0 : Int32), u109))) else none))))) else none)))))
  else if v1 = (23 : Int32) then (if (x3 + (1 : Int32)) < 0 ∨ L ≤ (x3 + (1 : Int32)).toNatClampNeg then none else (if zK u x1 = 11 then cl (fX10_seed N x1 (xs (x3 + (1 : Int32)).toNatClampNeg) u) fun r110 u111 => (if (x3 + (1 : Int32)) < 0 ∨ L ≤ (x3 + (1 : Int32)).toNatClampNeg then none else (if zK u111 x2 = 12 then cl (fX11_seed N x2 (xs (x3 + (1 : Int32)).toNatClampNeg) u111) fun r112 u113 => (if r110 = r112 then ((gL_law_18 N L xs n) x1 x2 (x3 + (6 : Int32)) u113)
  else (some ((0 : Int32), u113))) else none)) else none))
  else if v1 = (24 : Int32) then (if (x3 + (1 : Int32)) < 0 ∨ L ≤ (x3 + (1 : Int32)).toNatClampNeg then none else (if (x3 + (2 : Int32)) < 0 ∨ L ≤ (x3 + (2 : Int32)).toNatClampNeg then none else (if (x3 + (3 : Int32)) < 0 ∨ L ≤ (x3 + (3 : Int32)).toNatClampNeg then none else (if (x3 + (4 : Int32)) < 0 ∨ L ≤ (x3 + (4 : Int32)).toNatClampNeg then none else (if zK u x1 = 11 then cl (fX10_lives N x1 (xs (x3 + (1 : Int32)).toNatClampNeg) (xs (x3 + (2 : Int32)).toNatClampNeg) (xs (x3 + (3 : Int32)).toNatClampNeg) (xs (x3 + (4 : Int32)).toNatClampNeg) u) fun r114 u115 => (if (x3 + (1 : Int32)) < 0 ∨ L ≤ (x3 + (1 : Int32)).toNatClampNeg then none else (if (x3 + (2 : Int32)) < 0 ∨ L ≤ (x3 + (2 : Int32)).toNatClampNeg then none else (if (x3 + (3 : Int32)) < 0 ∨ L ≤ (x3 + (3 : Int32)).toNatClampNeg then none else (if (x3 + (4 : Int32)) < 0 ∨ L ≤ (x3 + (4 : Int32)).toNatClampNeg then none else (if zK u115 x2 = 12 then cl (fX11_lives N x2 (xs (x3 + (1 : Int32)).toNatClampNeg) (xs (x3 + (2 : Int32)).toNatClampNeg) (xs (x3 + (3 : Int32)).toNatClampNeg) (xs (x3 + (4 : Int32)).toNatClampNeg) u115) fun r116 u117 => (if r114 = r116 then ((gL_law_18 N L xs n) x1 x2 (x3 + (6 : Int32)) u117)
  else (some ((0 : Int32), u117))) else none))))) else none)))))
  else if v1 = (25 : Int32) then (if (x3 + (1 : Int32)) < 0 ∨ L ≤ (x3 + (1 : Int32)).toNatClampNeg then none else (if zK u x1 = 11 then cl (fX10_count N x1 (xs (x3 + (1 : Int32)).toNatClampNeg) u) fun r118 u119 => (if (x3 + (1 : Int32)) < 0 ∨ L ≤ (x3 + (1 : Int32)).toNatClampNeg then none else (if zK u119 x2 = 12 then cl (fX11_count N x2 (xs (x3 + (1 : Int32)).toNatClampNeg) u119) fun r120 u121 => (if r118 = r120 then ((gL_law_18 N L xs n) x1 x2 (x3 + (6 : Int32)) u121)
  else (some ((0 : Int32), u121))) else none)) else none))
  else if v1 = (26 : Int32) then (if (x3 + (1 : Int32)) < 0 ∨ L ≤ (x3 + (1 : Int32)).toNatClampNeg then none else (if zK u x1 = 11 then cl (fX10_image N x1 (xs (x3 + (1 : Int32)).toNatClampNeg) u) fun r122 u123 => (if (x3 + (1 : Int32)) < 0 ∨ L ≤ (x3 + (1 : Int32)).toNatClampNeg then none else (if zK u123 x2 = 12 then cl (fX11_image N x2 (xs (x3 + (1 : Int32)).toNatClampNeg) u123) fun r124 u125 => (if r122 = r124 then ((gL_law_18 N L xs n) x1 x2 (x3 + (6 : Int32)) u125)
  else (some ((0 : Int32), u125))) else none)) else none))
  else if v1 = (27 : Int32) then (if (x3 + (1 : Int32)) < 0 ∨ L ≤ (x3 + (1 : Int32)).toNatClampNeg then none else (if zK u x1 = 11 then cl (fX10_back N x1 (xs (x3 + (1 : Int32)).toNatClampNeg) u) fun r126 u127 => (if (x3 + (1 : Int32)) < 0 ∨ L ≤ (x3 + (1 : Int32)).toNatClampNeg then none else (if zK u127 x2 = 12 then cl (fX11_back N x2 (xs (x3 + (1 : Int32)).toNatClampNeg) u127) fun r128 u129 => (if r126 = r128 then ((gL_law_18 N L xs n) x1 x2 (x3 + (6 : Int32)) u129)
  else (some ((0 : Int32), u129))) else none)) else none))
  else ((gL_law_18 N L xs n) x1 x2 (x3 + (6 : Int32)) u))))
set_option maxRecDepth 20000 in
set_option maxHeartbeats 8000000 in
theorem jgL_law_18 {p : Program} {l : Launch} {e : Env} {s : State} {m : MethodId} {b : Nat} {below : List Frame} {meth : Method} {c : Code} {D : va_G} {cT : Nat → ClassId} {z0 : Nat} {ks : Nat × Nat} {L : Nat} {xs : Nat → Int32} (hX : Cx (p, l, e, room_1, s, m, #[.ref b], below, meth, c, D, cT, z0, ks) yL_law code 4 ret 1400 600000 7302250) (hB : XB (p, l, e, room_1, s, m, #[.ref b], below, meth, c, D, cT, z0, ks) b L xs) (hz : z0 = s.heap.size) (N : Nat) : ∀ (n cs ss : Nat), cs + 2 * n ≤ 600000 → ss + 413 * n ≤ 7302250 → ∀ (x1 : Nat) (x2 : Nat) (x3 : Int32) (u : SG), JF (p, l, e, room_1, s, m, #[.ref b], below, meth, c, D, cT, z0, ks) False 4 cs ss (lwQ (p, l, e, room_1, s, m, #[.ref b], below, meth, c, D, cT, z0, ks)) 18 [(0, .ref b), (1, .ref x1), (2, .ref x2), (3, .int x3)] [] u (gL_law_18 N L xs n x1 x2 x3 u) := by
  intro n
  induction n with
  | zero => intros; intro r u9 h9; exact absurd h9 (by simp [gL_law_18])
  | succ n ih =>
    intro cs ss hcs hss x1 x2 x3 u
    have hrec18 := ih
    rw [gL_law_18]
    refine jf_iload_n hX dL_law_18 3 rfl ?_
    refine jf_aload_n hX dL_law_19 0 rfl ?_
    refine jf_slen9 hX hB dL_law_20 ?_
    refine jf_bipush (v := 6) hX dL_law_21 (by decide) ?_
    refine jf_isub hX dL_law_23 ?_
    refine jf_icmp_gt (tgt := 1092) hX dL_law_24 (by decide) ?_ ?_
    · refine jf_iconst (v := 1) hX dL_law_1092 (by decide) ?_
      exact jf_lret1 hX hz (by omega) (by omega) dL_law_1093
    · refine jf_aload_n hX dL_law_27 0 rfl ?_
      refine jf_iload_n hX dL_law_28 3 rfl ?_
      refine jf_sld hX hB dL_law_29 ?_
      refine jf_bipush (v := 31) hX dL_law_30 (by decide) ?_
      refine jf_iand hX dL_law_32 ?_
      refine jf_nmI (fun v1 => ?_)
      refine jf_tcase (k := 0) (kv := 0) (tgt := 160) hX dL_law_33 rfl (by decide) (by decide) rfl (by decide) ?_ (fun hn0 => ?_)
      · refine jf_aload_n hX dL_law_160 1 rfl ?_
        refine jf_aload_n hX dL_law_161 0 rfl ?_
        refine jf_iload_n hX dL_law_162 3 rfl ?_
        refine jf_iconst (v := 1) hX dL_law_163 (by decide) ?_
        refine jf_iadd hX dL_law_164 ?_
        refine jf_sld hX hB dL_law_165 ?_
        refine jf_aload_n hX dL_law_166 0 rfl ?_
        refine jf_iload_n hX dL_law_167 3 rfl ?_
        refine jf_iconst (v := 2) hX dL_law_168 (by decide) ?_
        refine jf_iadd hX dL_law_169 ?_
        refine jf_sld hX hB dL_law_170 ?_
        refine jf_aload_n hX dL_law_171 0 rfl ?_
        refine jf_iload_n hX dL_law_172 3 rfl ?_
        refine jf_iconst (v := 3) hX dL_law_173 (by decide) ?_
        refine jf_iadd hX dL_law_174 ?_
        refine jf_sld hX hB dL_law_175 ?_
        refine jf_aload_n hX dL_law_176 0 rfl ?_
        refine jf_iload_n hX dL_law_177 3 rfl ?_
        refine jf_iconst (v := 4) hX dL_law_178 (by decide) ?_
        refine jf_iadd hX dL_law_179 ?_
        refine jf_sld hX hB dL_law_180 ?_
        refine jf_aload_n hX dL_law_181 0 rfl ?_
        refine jf_iload_n hX dL_law_182 3 rfl ?_
        refine jf_iconst (v := 5) hX dL_law_183 (by decide) ?_
        refine jf_iadd hX dL_law_184 ?_
        refine jf_sld hX hB dL_law_185 ?_
        refine jf_callV (As := [.int (xs (x3 + (1 : Int32)).toNatClampNeg), .int (xs (x3 + (2 : Int32)).toNatClampNeg), .int (xs (x3 + (3 : Int32)).toNatClampNeg), .int (xs (x3 + (4 : Int32)).toNatClampNeg), .int (xs (x3 + (5 : Int32)).toNatClampNeg)]) (st := []) hX mo_X10_feed wml_872 winst_873 wsel_874 10 ck_X10 rfl (fun l D cT z0 ks => kX10_feed N l D cT z0 ks x1 (xs (x3 + (1 : Int32)).toNatClampNeg) (xs (x3 + (2 : Int32)).toNatClampNeg) (xs (x3 + (3 : Int32)).toNatClampNeg) (xs (x3 + (4 : Int32)).toNatClampNeg) (xs (x3 + (5 : Int32)).toNatClampNeg) u) (by decide) (by decide) (by omega) (by omega) (Nat.le_of_ble_eq_true rfl) rfl rfl dL_law_186 (fun r2 u3 => ?_)
        refine jf_aload_n hX dL_law_189 2 rfl ?_
        refine jf_aload_n hX dL_law_190 0 rfl ?_
        refine jf_iload_n hX dL_law_191 3 rfl ?_
        refine jf_iconst (v := 1) hX dL_law_192 (by decide) ?_
        refine jf_iadd hX dL_law_193 ?_
        refine jf_sld hX hB dL_law_194 ?_
        refine jf_aload_n hX dL_law_195 0 rfl ?_
        refine jf_iload_n hX dL_law_196 3 rfl ?_
        refine jf_iconst (v := 2) hX dL_law_197 (by decide) ?_
        refine jf_iadd hX dL_law_198 ?_
        refine jf_sld hX hB dL_law_199 ?_
        refine jf_aload_n hX dL_law_200 0 rfl ?_
        refine jf_iload_n hX dL_law_201 3 rfl ?_
        refine jf_iconst (v := 3) hX dL_law_202 (by decide) ?_
        refine jf_iadd hX dL_law_203 ?_
        refine jf_sld hX hB dL_law_204 ?_
        refine jf_aload_n hX dL_law_205 0 rfl ?_
        refine jf_iload_n hX dL_law_206 3 rfl ?_
        refine jf_iconst (v := 4) hX dL_law_207 (by decide) ?_
        refine jf_iadd hX dL_law_208 ?_
        refine jf_sld hX hB dL_law_209 ?_
        refine jf_aload_n hX dL_law_210 0 rfl ?_
        refine jf_iload_n hX dL_law_211 3 rfl ?_
        refine jf_iconst (v := 5) hX dL_law_212 (by decide) ?_
        refine jf_iadd hX dL_law_213 ?_
        refine jf_sld hX hB dL_law_214 ?_
        refine jf_callV (As := [.int (xs (x3 + (1 : Int32)).toNatClampNeg), .int (xs (x3 + (2 : Int32)).toNatClampNeg), .int (xs (x3 + (3 : Int32)).toNatClampNeg), .int (xs (x3 + (4 : Int32)).toNatClampNeg), .int (xs (x3 + (5 : Int32)).toNatClampNeg)]) (st := [.int r2]) hX mo_X11_feed wml_875 winst_876 wsel_877 11 ck_X11 rfl (fun l D cT z0 ks => kX11_feed N l D cT z0 ks x2 (xs (x3 + (1 : Int32)).toNatClampNeg) (xs (x3 + (2 : Int32)).toNatClampNeg) (xs (x3 + (3 : Int32)).toNatClampNeg) (xs (x3 + (4 : Int32)).toNatClampNeg) (xs (x3 + (5 : Int32)).toNatClampNeg) u3) (by decide) (by decide) (by omega) (by omega) (Nat.le_of_ble_eq_true rfl) rfl rfl dL_law_215 (fun r4 u5 => ?_)
        refine jf_icmp_eq (tgt := 1086) hX dL_law_218 (by decide) ?_ ?_
        · refine jf_iinc (v := 6) (lv' := [(3, .int (x3 + (6 : Int32))), (0, .ref b), (1, .ref x1), (2, .ref x2)]) hX dL_law_1086 3 rfl (by decide) (by decide) rfl ?_
          refine jf_goto (tgt := 18) hX dL_law_1089 (by decide) ?_
          refine jf_lv [1, 2, 3, 0] rfl ?_
          exact hrec18 _ _ (by omega) (by omega) x1 x2 (x3 + (6 : Int32)) u5
        · refine jf_iconst (v := 0) hX dL_law_221 (by decide) ?_
          exact jf_lret0
      refine jf_tcase (k := 1) (kv := 1) (tgt := 223) hX dL_law_33 rfl (by decide) (by decide) rfl (by decide) ?_ (fun hn1 => ?_)
      · refine jf_aload_n hX dL_law_223 1 rfl ?_
        refine jf_aload_n hX dL_law_224 0 rfl ?_
        refine jf_iload_n hX dL_law_225 3 rfl ?_
        refine jf_iconst (v := 1) hX dL_law_226 (by decide) ?_
        refine jf_iadd hX dL_law_227 ?_
        refine jf_sld hX hB dL_law_228 ?_
        refine jf_callV (As := [.int (xs (x3 + (1 : Int32)).toNatClampNeg)]) (st := []) hX mo_X10_end wml_878 winst_879 wsel_880 10 ck_X10 rfl (fun l D cT z0 ks => kX10_end N l D cT z0 ks x1 (xs (x3 + (1 : Int32)).toNatClampNeg) u) (by decide) (by decide) (by omega) (by omega) (Nat.le_of_ble_eq_true rfl) rfl rfl dL_law_229 (fun r6 u7 => ?_)
        refine jf_aload_n hX dL_law_232 2 rfl ?_
        refine jf_aload_n hX dL_law_233 0 rfl ?_
        refine jf_iload_n hX dL_law_234 3 rfl ?_
        refine jf_iconst (v := 1) hX dL_law_235 (by decide) ?_
        refine jf_iadd hX dL_law_236 ?_
        refine jf_sld hX hB dL_law_237 ?_
        refine jf_callV (As := [.int (xs (x3 + (1 : Int32)).toNatClampNeg)]) (st := [.int r6]) hX mo_X11_end wml_881 winst_882 wsel_883 11 ck_X11 rfl (fun l D cT z0 ks => kX11_end N l D cT z0 ks x2 (xs (x3 + (1 : Int32)).toNatClampNeg) u7) (by decide) (by decide) (by omega) (by omega) (Nat.le_of_ble_eq_true rfl) rfl rfl dL_law_238 (fun r8 u9 => ?_)
        refine jf_icmp_eq (tgt := 1086) hX dL_law_241 (by decide) ?_ ?_
        · refine jf_iinc (v := 6) (lv' := [(3, .int (x3 + (6 : Int32))), (0, .ref b), (1, .ref x1), (2, .ref x2)]) hX dL_law_1086 3 rfl (by decide) (by decide) rfl ?_
          refine jf_goto (tgt := 18) hX dL_law_1089 (by decide) ?_
          refine jf_lv [1, 2, 3, 0] rfl ?_
          exact hrec18 _ _ (by omega) (by omega) x1 x2 (x3 + (6 : Int32)) u9
        · refine jf_iconst (v := 0) hX dL_law_244 (by decide) ?_
          exact jf_lret0
      refine jf_tcase (k := 2) (kv := 2) (tgt := 246) hX dL_law_33 rfl (by decide) (by decide) rfl (by decide) ?_ (fun hn2 => ?_)
      · refine jf_aload_n hX dL_law_246 1 rfl ?_
        refine jf_callV (As := []) (st := []) hX mo_X10_street wml_884 winst_885 wsel_886 10 ck_X10 rfl (fun l D cT z0 ks => kX10_street N l D cT z0 ks x1 u) (by decide) (by decide) (by omega) (by omega) (Nat.le_of_ble_eq_true rfl) rfl rfl dL_law_247 (fun r10 u11 => ?_)
        refine jf_aload_n hX dL_law_250 2 rfl ?_
        refine jf_callV (As := []) (st := [.int r10]) hX mo_X11_street wml_887 winst_888 wsel_889 11 ck_X11 rfl (fun l D cT z0 ks => kX11_street N l D cT z0 ks x2 u11) (by decide) (by decide) (by omega) (by omega) (Nat.le_of_ble_eq_true rfl) rfl rfl dL_law_251 (fun r12 u13 => ?_)
        refine jf_icmp_eq (tgt := 1086) hX dL_law_254 (by decide) ?_ ?_
        · refine jf_iinc (v := 6) (lv' := [(3, .int (x3 + (6 : Int32))), (0, .ref b), (1, .ref x1), (2, .ref x2)]) hX dL_law_1086 3 rfl (by decide) (by decide) rfl ?_
          refine jf_goto (tgt := 18) hX dL_law_1089 (by decide) ?_
          refine jf_lv [1, 2, 3, 0] rfl ?_
          exact hrec18 _ _ (by omega) (by omega) x1 x2 (x3 + (6 : Int32)) u13
        · refine jf_iconst (v := 0) hX dL_law_257 (by decide) ?_
          exact jf_lret0
      refine jf_tcase (k := 3) (kv := 3) (tgt := 259) hX dL_law_33 rfl (by decide) (by decide) rfl (by decide) ?_ (fun hn3 => ?_)
      · refine jf_aload_n hX dL_law_259 1 rfl ?_
        refine jf_callVw (As := []) (st := []) hX (fun z => z) mo_X10_rule wml_890 winst_891 wsel_892 10 ck_X10 rfl (fun l D cT z0 ks => kX10_rule N l D cT z0 ks x1 u) (by decide) (by decide) (by omega) (by omega) (Nat.le_of_ble_eq_true rfl) rfl dL_law_260 (fun r14 u15 => ?_)
        refine jf_aload_n hX dL_law_263 2 rfl ?_
        refine jf_callV (As := []) (st := [.int r14]) hX mo_X11_rule wml_893 winst_894 wsel_895 11 ck_X11 rfl (fun l D cT z0 ks => kX11_rule N l D cT z0 ks x2 u15) (by decide) (by decide) (by omega) (by omega) (Nat.le_of_ble_eq_true rfl) rfl rfl dL_law_264 (fun r16 u17 => ?_)
        refine jf_icmp_eq (tgt := 1086) hX dL_law_267 (by decide) ?_ ?_
        · refine jf_iinc (v := 6) (lv' := [(3, .int (x3 + (6 : Int32))), (0, .ref b), (1, .ref x1), (2, .ref x2)]) hX dL_law_1086 3 rfl (by decide) (by decide) rfl ?_
          refine jf_goto (tgt := 18) hX dL_law_1089 (by decide) ?_
          refine jf_lv [1, 2, 3, 0] rfl ?_
          exact hrec18 _ _ (by omega) (by omega) x1 x2 (x3 + (6 : Int32)) u17
        · refine jf_iconst (v := 0) hX dL_law_270 (by decide) ?_
          exact jf_lret0
      refine jf_tcase (k := 4) (kv := 4) (tgt := 272) hX dL_law_33 rfl (by decide) (by decide) rfl (by decide) ?_ (fun hn4 => ?_)
      · refine jf_aload_n hX dL_law_272 1 rfl ?_
        refine jf_aload_n hX dL_law_273 0 rfl ?_
        refine jf_iload_n hX dL_law_274 3 rfl ?_
        refine jf_iconst (v := 1) hX dL_law_275 (by decide) ?_
        refine jf_iadd hX dL_law_276 ?_
        refine jf_sld hX hB dL_law_277 ?_
        refine jf_callV (As := [.int (xs (x3 + (1 : Int32)).toNatClampNeg)]) (st := []) hX mo_X10_force wml_896 winst_897 wsel_898 10 ck_X10 rfl (fun l D cT z0 ks => kX10_force N l D cT z0 ks x1 (xs (x3 + (1 : Int32)).toNatClampNeg) u) (by decide) (by decide) (by omega) (by omega) (Nat.le_of_ble_eq_true rfl) rfl rfl dL_law_278 (fun r18 u19 => ?_)
        refine jf_aload_n hX dL_law_281 2 rfl ?_
        refine jf_aload_n hX dL_law_282 0 rfl ?_
        refine jf_iload_n hX dL_law_283 3 rfl ?_
        refine jf_iconst (v := 1) hX dL_law_284 (by decide) ?_
        refine jf_iadd hX dL_law_285 ?_
        refine jf_sld hX hB dL_law_286 ?_
        refine jf_callV (As := [.int (xs (x3 + (1 : Int32)).toNatClampNeg)]) (st := [.int r18]) hX mo_X11_force wml_899 winst_900 wsel_901 11 ck_X11 rfl (fun l D cT z0 ks => kX11_force N l D cT z0 ks x2 (xs (x3 + (1 : Int32)).toNatClampNeg) u19) (by decide) (by decide) (by omega) (by omega) (Nat.le_of_ble_eq_true rfl) rfl rfl dL_law_287 (fun r20 u21 => ?_)
        refine jf_icmp_eq (tgt := 1086) hX dL_law_290 (by decide) ?_ ?_
        · refine jf_iinc (v := 6) (lv' := [(3, .int (x3 + (6 : Int32))), (0, .ref b), (1, .ref x1), (2, .ref x2)]) hX dL_law_1086 3 rfl (by decide) (by decide) rfl ?_
          refine jf_goto (tgt := 18) hX dL_law_1089 (by decide) ?_
          refine jf_lv [1, 2, 3, 0] rfl ?_
          exact hrec18 _ _ (by omega) (by omega) x1 x2 (x3 + (6 : Int32)) u21
        · refine jf_iconst (v := 0) hX dL_law_293 (by decide) ?_
          exact jf_lret0
      refine jf_tcase (k := 5) (kv := 5) (tgt := 295) hX dL_law_33 rfl (by decide) (by decide) rfl (by decide) ?_ (fun hn5 => ?_)
      · refine jf_aload_n hX dL_law_295 1 rfl ?_
        refine jf_aload_n hX dL_law_296 0 rfl ?_
        refine jf_iload_n hX dL_law_297 3 rfl ?_
        refine jf_iconst (v := 1) hX dL_law_298 (by decide) ?_
        refine jf_iadd hX dL_law_299 ?_
        refine jf_sld hX hB dL_law_300 ?_
        refine jf_aload_n hX dL_law_301 0 rfl ?_
        refine jf_iload_n hX dL_law_302 3 rfl ?_
        refine jf_iconst (v := 2) hX dL_law_303 (by decide) ?_
        refine jf_iadd hX dL_law_304 ?_
        refine jf_sld hX hB dL_law_305 ?_
        refine jf_callV (As := [.int (xs (x3 + (1 : Int32)).toNatClampNeg), .int (xs (x3 + (2 : Int32)).toNatClampNeg)]) (st := []) hX mo_X10_person wml_902 winst_903 wsel_904 10 ck_X10 rfl (fun l D cT z0 ks => kX10_person N l D cT z0 ks x1 (xs (x3 + (1 : Int32)).toNatClampNeg) (xs (x3 + (2 : Int32)).toNatClampNeg) u) (by decide) (by decide) (by omega) (by omega) (Nat.le_of_ble_eq_true rfl) rfl rfl dL_law_306 (fun r22 u23 => ?_)
        refine jf_aload_n hX dL_law_309 2 rfl ?_
        refine jf_aload_n hX dL_law_310 0 rfl ?_
        refine jf_iload_n hX dL_law_311 3 rfl ?_
        refine jf_iconst (v := 1) hX dL_law_312 (by decide) ?_
        refine jf_iadd hX dL_law_313 ?_
        refine jf_sld hX hB dL_law_314 ?_
        refine jf_aload_n hX dL_law_315 0 rfl ?_
        refine jf_iload_n hX dL_law_316 3 rfl ?_
        refine jf_iconst (v := 2) hX dL_law_317 (by decide) ?_
        refine jf_iadd hX dL_law_318 ?_
        refine jf_sld hX hB dL_law_319 ?_
        refine jf_callV (As := [.int (xs (x3 + (1 : Int32)).toNatClampNeg), .int (xs (x3 + (2 : Int32)).toNatClampNeg)]) (st := [.int r22]) hX mo_X11_person wml_905 winst_906 wsel_907 11 ck_X11 rfl (fun l D cT z0 ks => kX11_person N l D cT z0 ks x2 (xs (x3 + (1 : Int32)).toNatClampNeg) (xs (x3 + (2 : Int32)).toNatClampNeg) u23) (by decide) (by decide) (by omega) (by omega) (Nat.le_of_ble_eq_true rfl) rfl rfl dL_law_320 (fun r24 u25 => ?_)
        refine jf_icmp_eq (tgt := 1086) hX dL_law_323 (by decide) ?_ ?_
        · refine jf_iinc (v := 6) (lv' := [(3, .int (x3 + (6 : Int32))), (0, .ref b), (1, .ref x1), (2, .ref x2)]) hX dL_law_1086 3 rfl (by decide) (by decide) rfl ?_
          refine jf_goto (tgt := 18) hX dL_law_1089 (by decide) ?_
          refine jf_lv [1, 2, 3, 0] rfl ?_
          exact hrec18 _ _ (by omega) (by omega) x1 x2 (x3 + (6 : Int32)) u25
        · refine jf_iconst (v := 0) hX dL_law_326 (by decide) ?_
          exact jf_lret0
      refine jf_tcase (k := 6) (kv := 6) (tgt := 328) hX dL_law_33 rfl (by decide) (by decide) rfl (by decide) ?_ (fun hn6 => ?_)
      · refine jf_aload_n hX dL_law_328 1 rfl ?_
        refine jf_aload_n hX dL_law_329 0 rfl ?_
        refine jf_iload_n hX dL_law_330 3 rfl ?_
        refine jf_iconst (v := 1) hX dL_law_331 (by decide) ?_
        refine jf_iadd hX dL_law_332 ?_
        refine jf_sld hX hB dL_law_333 ?_
        refine jf_aload_n hX dL_law_334 0 rfl ?_
        refine jf_iload_n hX dL_law_335 3 rfl ?_
        refine jf_iconst (v := 2) hX dL_law_336 (by decide) ?_
        refine jf_iadd hX dL_law_337 ?_
        refine jf_sld hX hB dL_law_338 ?_
        refine jf_callV (As := [.int (xs (x3 + (1 : Int32)).toNatClampNeg), .int (xs (x3 + (2 : Int32)).toNatClampNeg)]) (st := []) hX mo_X10_lamp wml_908 winst_909 wsel_910 10 ck_X10 rfl (fun l D cT z0 ks => kX10_lamp N l D cT z0 ks x1 (xs (x3 + (1 : Int32)).toNatClampNeg) (xs (x3 + (2 : Int32)).toNatClampNeg) u) (by decide) (by decide) (by omega) (by omega) (Nat.le_of_ble_eq_true rfl) rfl rfl dL_law_339 (fun r26 u27 => ?_)
        refine jf_aload_n hX dL_law_342 2 rfl ?_
        refine jf_aload_n hX dL_law_343 0 rfl ?_
        refine jf_iload_n hX dL_law_344 3 rfl ?_
        refine jf_iconst (v := 1) hX dL_law_345 (by decide) ?_
        refine jf_iadd hX dL_law_346 ?_
        refine jf_sld hX hB dL_law_347 ?_
        refine jf_aload_n hX dL_law_348 0 rfl ?_
        refine jf_iload_n hX dL_law_349 3 rfl ?_
        refine jf_iconst (v := 2) hX dL_law_350 (by decide) ?_
        refine jf_iadd hX dL_law_351 ?_
        refine jf_sld hX hB dL_law_352 ?_
        refine jf_callV (As := [.int (xs (x3 + (1 : Int32)).toNatClampNeg), .int (xs (x3 + (2 : Int32)).toNatClampNeg)]) (st := [.int r26]) hX mo_X11_lamp wml_911 winst_912 wsel_913 11 ck_X11 rfl (fun l D cT z0 ks => kX11_lamp N l D cT z0 ks x2 (xs (x3 + (1 : Int32)).toNatClampNeg) (xs (x3 + (2 : Int32)).toNatClampNeg) u27) (by decide) (by decide) (by omega) (by omega) (Nat.le_of_ble_eq_true rfl) rfl rfl dL_law_353 (fun r28 u29 => ?_)
        refine jf_icmp_eq (tgt := 1086) hX dL_law_356 (by decide) ?_ ?_
        · refine jf_iinc (v := 6) (lv' := [(3, .int (x3 + (6 : Int32))), (0, .ref b), (1, .ref x1), (2, .ref x2)]) hX dL_law_1086 3 rfl (by decide) (by decide) rfl ?_
          refine jf_goto (tgt := 18) hX dL_law_1089 (by decide) ?_
          refine jf_lv [1, 2, 3, 0] rfl ?_
          exact hrec18 _ _ (by omega) (by omega) x1 x2 (x3 + (6 : Int32)) u29
        · refine jf_iconst (v := 0) hX dL_law_359 (by decide) ?_
          exact jf_lret0
      refine jf_tcase (k := 7) (kv := 7) (tgt := 361) hX dL_law_33 rfl (by decide) (by decide) rfl (by decide) ?_ (fun hn7 => ?_)
      · refine jf_aload_n hX dL_law_361 1 rfl ?_
        refine jf_callV (As := []) (st := []) hX mo_X10_hour wml_914 winst_915 wsel_916 10 ck_X10 rfl (fun l D cT z0 ks => kX10_hour N l D cT z0 ks x1 u) (by decide) (by decide) (by omega) (by omega) (Nat.le_of_ble_eq_true rfl) rfl rfl dL_law_362 (fun r30 u31 => ?_)
        refine jf_aload_n hX dL_law_365 2 rfl ?_
        refine jf_callV (As := []) (st := [.int r30]) hX mo_X11_hour wml_917 winst_918 wsel_919 11 ck_X11 rfl (fun l D cT z0 ks => kX11_hour N l D cT z0 ks x2 u31) (by decide) (by decide) (by omega) (by omega) (Nat.le_of_ble_eq_true rfl) rfl rfl dL_law_366 (fun r32 u33 => ?_)
        refine jf_icmp_eq (tgt := 1086) hX dL_law_369 (by decide) ?_ ?_
        · refine jf_iinc (v := 6) (lv' := [(3, .int (x3 + (6 : Int32))), (0, .ref b), (1, .ref x1), (2, .ref x2)]) hX dL_law_1086 3 rfl (by decide) (by decide) rfl ?_
          refine jf_goto (tgt := 18) hX dL_law_1089 (by decide) ?_
          refine jf_lv [1, 2, 3, 0] rfl ?_
          exact hrec18 _ _ (by omega) (by omega) x1 x2 (x3 + (6 : Int32)) u33
        · refine jf_iconst (v := 0) hX dL_law_372 (by decide) ?_
          exact jf_lret0
      refine jf_tcase (k := 8) (kv := 8) (tgt := 374) hX dL_law_33 rfl (by decide) (by decide) rfl (by decide) ?_ (fun hn8 => ?_)
      · refine jf_aload_n hX dL_law_374 1 rfl ?_
        refine jf_aload_n hX dL_law_375 0 rfl ?_
        refine jf_iload_n hX dL_law_376 3 rfl ?_
        refine jf_iconst (v := 1) hX dL_law_377 (by decide) ?_
        refine jf_iadd hX dL_law_378 ?_
        refine jf_sld hX hB dL_law_379 ?_
        refine jf_aload_n hX dL_law_380 0 rfl ?_
        refine jf_iload_n hX dL_law_381 3 rfl ?_
        refine jf_iconst (v := 2) hX dL_law_382 (by decide) ?_
        refine jf_iadd hX dL_law_383 ?_
        refine jf_sld hX hB dL_law_384 ?_
        refine jf_if_eq (tgt := 392) hX dL_law_385 (by decide) ?_ ?_
        · refine jf_iconst (v := 0) hX dL_law_392 (by decide) ?_
          refine jf_callV (As := [.int (xs (x3 + (1 : Int32)).toNatClampNeg), .int (0 : Int32)]) (st := []) hX mo_X10_sleep wml_920 winst_921 wsel_922 10 ck_X10 rfl (fun l D cT z0 ks => kX10_sleep N l D cT z0 ks x1 (xs (x3 + (1 : Int32)).toNatClampNeg) (0 : Int32) u) (by decide) (by decide) (by omega) (by omega) (Nat.le_of_ble_eq_true rfl) rfl rfl dL_law_393 (fun r34 u35 => ?_)
          refine jf_aload_n hX dL_law_396 2 rfl ?_
          refine jf_aload_n hX dL_law_397 0 rfl ?_
          refine jf_iload_n hX dL_law_398 3 rfl ?_
          refine jf_iconst (v := 1) hX dL_law_399 (by decide) ?_
          refine jf_iadd hX dL_law_400 ?_
          refine jf_sld hX hB dL_law_401 ?_
          refine jf_aload_n hX dL_law_402 0 rfl ?_
          refine jf_iload_n hX dL_law_403 3 rfl ?_
          refine jf_iconst (v := 2) hX dL_law_404 (by decide) ?_
          refine jf_iadd hX dL_law_405 ?_
          refine jf_sld hX hB dL_law_406 ?_
          refine jf_if_eq (tgt := 414) hX dL_law_407 (by decide) ?_ ?_
          · refine jf_iconst (v := 0) hX dL_law_414 (by decide) ?_
            refine jf_callV (As := [.int (xs (x3 + (1 : Int32)).toNatClampNeg), .int (0 : Int32)]) (st := [.int r34]) hX mo_X11_sleep wml_923 winst_924 wsel_925 11 ck_X11 rfl (fun l D cT z0 ks => kX11_sleep N l D cT z0 ks x2 (xs (x3 + (1 : Int32)).toNatClampNeg) (0 : Int32) u35) (by decide) (by decide) (by omega) (by omega) (Nat.le_of_ble_eq_true rfl) rfl rfl dL_law_415 (fun r36 u37 => ?_)
            refine jf_icmp_eq (tgt := 1086) hX dL_law_418 (by decide) ?_ ?_
            · refine jf_iinc (v := 6) (lv' := [(3, .int (x3 + (6 : Int32))), (0, .ref b), (1, .ref x1), (2, .ref x2)]) hX dL_law_1086 3 rfl (by decide) (by decide) rfl ?_
              refine jf_goto (tgt := 18) hX dL_law_1089 (by decide) ?_
              refine jf_lv [1, 2, 3, 0] rfl ?_
              exact hrec18 _ _ (by omega) (by omega) x1 x2 (x3 + (6 : Int32)) u37
            · refine jf_iconst (v := 0) hX dL_law_421 (by decide) ?_
              exact jf_lret0
          · refine jf_iconst (v := 1) hX dL_law_410 (by decide) ?_
            refine jf_goto (tgt := 415) hX dL_law_411 (by decide) ?_
            refine jf_callV (As := [.int (xs (x3 + (1 : Int32)).toNatClampNeg), .int (1 : Int32)]) (st := [.int r34]) hX mo_X11_sleep wml_923 winst_924 wsel_925 11 ck_X11 rfl (fun l D cT z0 ks => kX11_sleep N l D cT z0 ks x2 (xs (x3 + (1 : Int32)).toNatClampNeg) (1 : Int32) u35) (by decide) (by decide) (by omega) (by omega) (Nat.le_of_ble_eq_true rfl) rfl rfl dL_law_415 (fun r38 u39 => ?_)
            refine jf_icmp_eq (tgt := 1086) hX dL_law_418 (by decide) ?_ ?_
            · refine jf_iinc (v := 6) (lv' := [(3, .int (x3 + (6 : Int32))), (0, .ref b), (1, .ref x1), (2, .ref x2)]) hX dL_law_1086 3 rfl (by decide) (by decide) rfl ?_
              refine jf_goto (tgt := 18) hX dL_law_1089 (by decide) ?_
              refine jf_lv [1, 2, 3, 0] rfl ?_
              exact hrec18 _ _ (by omega) (by omega) x1 x2 (x3 + (6 : Int32)) u39
            · refine jf_iconst (v := 0) hX dL_law_421 (by decide) ?_
              exact jf_lret0
        · refine jf_iconst (v := 1) hX dL_law_388 (by decide) ?_
          refine jf_goto (tgt := 393) hX dL_law_389 (by decide) ?_
          refine jf_callV (As := [.int (xs (x3 + (1 : Int32)).toNatClampNeg), .int (1 : Int32)]) (st := []) hX mo_X10_sleep wml_920 winst_921 wsel_922 10 ck_X10 rfl (fun l D cT z0 ks => kX10_sleep N l D cT z0 ks x1 (xs (x3 + (1 : Int32)).toNatClampNeg) (1 : Int32) u) (by decide) (by decide) (by omega) (by omega) (Nat.le_of_ble_eq_true rfl) rfl rfl dL_law_393 (fun r40 u41 => ?_)
          refine jf_aload_n hX dL_law_396 2 rfl ?_
          refine jf_aload_n hX dL_law_397 0 rfl ?_
          refine jf_iload_n hX dL_law_398 3 rfl ?_
          refine jf_iconst (v := 1) hX dL_law_399 (by decide) ?_
          refine jf_iadd hX dL_law_400 ?_
          refine jf_sld hX hB dL_law_401 ?_
          refine jf_aload_n hX dL_law_402 0 rfl ?_
          refine jf_iload_n hX dL_law_403 3 rfl ?_
          refine jf_iconst (v := 2) hX dL_law_404 (by decide) ?_
          refine jf_iadd hX dL_law_405 ?_
          refine jf_sld hX hB dL_law_406 ?_
          refine jf_if_eq (tgt := 414) hX dL_law_407 (by decide) ?_ ?_
          · refine jf_iconst (v := 0) hX dL_law_414 (by decide) ?_
            refine jf_callV (As := [.int (xs (x3 + (1 : Int32)).toNatClampNeg), .int (0 : Int32)]) (st := [.int r40]) hX mo_X11_sleep wml_923 winst_924 wsel_925 11 ck_X11 rfl (fun l D cT z0 ks => kX11_sleep N l D cT z0 ks x2 (xs (x3 + (1 : Int32)).toNatClampNeg) (0 : Int32) u41) (by decide) (by decide) (by omega) (by omega) (Nat.le_of_ble_eq_true rfl) rfl rfl dL_law_415 (fun r42 u43 => ?_)
            refine jf_icmp_eq (tgt := 1086) hX dL_law_418 (by decide) ?_ ?_
            · refine jf_iinc (v := 6) (lv' := [(3, .int (x3 + (6 : Int32))), (0, .ref b), (1, .ref x1), (2, .ref x2)]) hX dL_law_1086 3 rfl (by decide) (by decide) rfl ?_
              refine jf_goto (tgt := 18) hX dL_law_1089 (by decide) ?_
              refine jf_lv [1, 2, 3, 0] rfl ?_
              exact hrec18 _ _ (by omega) (by omega) x1 x2 (x3 + (6 : Int32)) u43
            · refine jf_iconst (v := 0) hX dL_law_421 (by decide) ?_
              exact jf_lret0
          · refine jf_iconst (v := 1) hX dL_law_410 (by decide) ?_
            refine jf_goto (tgt := 415) hX dL_law_411 (by decide) ?_
            refine jf_callV (As := [.int (xs (x3 + (1 : Int32)).toNatClampNeg), .int (1 : Int32)]) (st := [.int r40]) hX mo_X11_sleep wml_923 winst_924 wsel_925 11 ck_X11 rfl (fun l D cT z0 ks => kX11_sleep N l D cT z0 ks x2 (xs (x3 + (1 : Int32)).toNatClampNeg) (1 : Int32) u41) (by decide) (by decide) (by omega) (by omega) (Nat.le_of_ble_eq_true rfl) rfl rfl dL_law_415 (fun r44 u45 => ?_)
            refine jf_icmp_eq (tgt := 1086) hX dL_law_418 (by decide) ?_ ?_
            · refine jf_iinc (v := 6) (lv' := [(3, .int (x3 + (6 : Int32))), (0, .ref b), (1, .ref x1), (2, .ref x2)]) hX dL_law_1086 3 rfl (by decide) (by decide) rfl ?_
              refine jf_goto (tgt := 18) hX dL_law_1089 (by decide) ?_
              refine jf_lv [1, 2, 3, 0] rfl ?_
              exact hrec18 _ _ (by omega) (by omega) x1 x2 (x3 + (6 : Int32)) u45
            · refine jf_iconst (v := 0) hX dL_law_421 (by decide) ?_
              exact jf_lret0
      refine jf_tcase (k := 9) (kv := 9) (tgt := 423) hX dL_law_33 rfl (by decide) (by decide) rfl (by decide) ?_ (fun hn9 => ?_)
      · refine jf_aload_n hX dL_law_423 1 rfl ?_
        refine jf_aload_n hX dL_law_424 0 rfl ?_
        refine jf_iload_n hX dL_law_425 3 rfl ?_
        refine jf_iconst (v := 1) hX dL_law_426 (by decide) ?_
        refine jf_iadd hX dL_law_427 ?_
        refine jf_sld hX hB dL_law_428 ?_
        refine jf_aload_n hX dL_law_429 0 rfl ?_
        refine jf_iload_n hX dL_law_430 3 rfl ?_
        refine jf_iconst (v := 2) hX dL_law_431 (by decide) ?_
        refine jf_iadd hX dL_law_432 ?_
        refine jf_sld hX hB dL_law_433 ?_
        refine jf_if_eq (tgt := 441) hX dL_law_434 (by decide) ?_ ?_
        · refine jf_iconst (v := 0) hX dL_law_441 (by decide) ?_
          refine jf_callV (As := [.int (xs (x3 + (1 : Int32)).toNatClampNeg), .int (0 : Int32)]) (st := []) hX mo_X10_light wml_926 winst_927 wsel_928 10 ck_X10 rfl (fun l D cT z0 ks => kX10_light N l D cT z0 ks x1 (xs (x3 + (1 : Int32)).toNatClampNeg) (0 : Int32) u) (by decide) (by decide) (by omega) (by omega) (Nat.le_of_ble_eq_true rfl) rfl rfl dL_law_442 (fun r46 u47 => ?_)
          refine jf_aload_n hX dL_law_445 2 rfl ?_
          refine jf_aload_n hX dL_law_446 0 rfl ?_
          refine jf_iload_n hX dL_law_447 3 rfl ?_
          refine jf_iconst (v := 1) hX dL_law_448 (by decide) ?_
          refine jf_iadd hX dL_law_449 ?_
          refine jf_sld hX hB dL_law_450 ?_
          refine jf_aload_n hX dL_law_451 0 rfl ?_
          refine jf_iload_n hX dL_law_452 3 rfl ?_
          refine jf_iconst (v := 2) hX dL_law_453 (by decide) ?_
          refine jf_iadd hX dL_law_454 ?_
          refine jf_sld hX hB dL_law_455 ?_
          refine jf_if_eq (tgt := 463) hX dL_law_456 (by decide) ?_ ?_
          · refine jf_iconst (v := 0) hX dL_law_463 (by decide) ?_
            refine jf_callV (As := [.int (xs (x3 + (1 : Int32)).toNatClampNeg), .int (0 : Int32)]) (st := [.int r46]) hX mo_X11_light wml_929 winst_930 wsel_931 11 ck_X11 rfl (fun l D cT z0 ks => kX11_light N l D cT z0 ks x2 (xs (x3 + (1 : Int32)).toNatClampNeg) (0 : Int32) u47) (by decide) (by decide) (by omega) (by omega) (Nat.le_of_ble_eq_true rfl) rfl rfl dL_law_464 (fun r48 u49 => ?_)
            refine jf_icmp_eq (tgt := 1086) hX dL_law_467 (by decide) ?_ ?_
            · refine jf_iinc (v := 6) (lv' := [(3, .int (x3 + (6 : Int32))), (0, .ref b), (1, .ref x1), (2, .ref x2)]) hX dL_law_1086 3 rfl (by decide) (by decide) rfl ?_
              refine jf_goto (tgt := 18) hX dL_law_1089 (by decide) ?_
              refine jf_lv [1, 2, 3, 0] rfl ?_
              exact hrec18 _ _ (by omega) (by omega) x1 x2 (x3 + (6 : Int32)) u49
            · refine jf_iconst (v := 0) hX dL_law_470 (by decide) ?_
              exact jf_lret0
          · refine jf_iconst (v := 1) hX dL_law_459 (by decide) ?_
            refine jf_goto (tgt := 464) hX dL_law_460 (by decide) ?_
            refine jf_callV (As := [.int (xs (x3 + (1 : Int32)).toNatClampNeg), .int (1 : Int32)]) (st := [.int r46]) hX mo_X11_light wml_929 winst_930 wsel_931 11 ck_X11 rfl (fun l D cT z0 ks => kX11_light N l D cT z0 ks x2 (xs (x3 + (1 : Int32)).toNatClampNeg) (1 : Int32) u47) (by decide) (by decide) (by omega) (by omega) (Nat.le_of_ble_eq_true rfl) rfl rfl dL_law_464 (fun r50 u51 => ?_)
            refine jf_icmp_eq (tgt := 1086) hX dL_law_467 (by decide) ?_ ?_
            · refine jf_iinc (v := 6) (lv' := [(3, .int (x3 + (6 : Int32))), (0, .ref b), (1, .ref x1), (2, .ref x2)]) hX dL_law_1086 3 rfl (by decide) (by decide) rfl ?_
              refine jf_goto (tgt := 18) hX dL_law_1089 (by decide) ?_
              refine jf_lv [1, 2, 3, 0] rfl ?_
              exact hrec18 _ _ (by omega) (by omega) x1 x2 (x3 + (6 : Int32)) u51
            · refine jf_iconst (v := 0) hX dL_law_470 (by decide) ?_
              exact jf_lret0
        · refine jf_iconst (v := 1) hX dL_law_437 (by decide) ?_
          refine jf_goto (tgt := 442) hX dL_law_438 (by decide) ?_
          refine jf_callV (As := [.int (xs (x3 + (1 : Int32)).toNatClampNeg), .int (1 : Int32)]) (st := []) hX mo_X10_light wml_926 winst_927 wsel_928 10 ck_X10 rfl (fun l D cT z0 ks => kX10_light N l D cT z0 ks x1 (xs (x3 + (1 : Int32)).toNatClampNeg) (1 : Int32) u) (by decide) (by decide) (by omega) (by omega) (Nat.le_of_ble_eq_true rfl) rfl rfl dL_law_442 (fun r52 u53 => ?_)
          refine jf_aload_n hX dL_law_445 2 rfl ?_
          refine jf_aload_n hX dL_law_446 0 rfl ?_
          refine jf_iload_n hX dL_law_447 3 rfl ?_
          refine jf_iconst (v := 1) hX dL_law_448 (by decide) ?_
          refine jf_iadd hX dL_law_449 ?_
          refine jf_sld hX hB dL_law_450 ?_
          refine jf_aload_n hX dL_law_451 0 rfl ?_
          refine jf_iload_n hX dL_law_452 3 rfl ?_
          refine jf_iconst (v := 2) hX dL_law_453 (by decide) ?_
          refine jf_iadd hX dL_law_454 ?_
          refine jf_sld hX hB dL_law_455 ?_
          refine jf_if_eq (tgt := 463) hX dL_law_456 (by decide) ?_ ?_
          · refine jf_iconst (v := 0) hX dL_law_463 (by decide) ?_
            refine jf_callV (As := [.int (xs (x3 + (1 : Int32)).toNatClampNeg), .int (0 : Int32)]) (st := [.int r52]) hX mo_X11_light wml_929 winst_930 wsel_931 11 ck_X11 rfl (fun l D cT z0 ks => kX11_light N l D cT z0 ks x2 (xs (x3 + (1 : Int32)).toNatClampNeg) (0 : Int32) u53) (by decide) (by decide) (by omega) (by omega) (Nat.le_of_ble_eq_true rfl) rfl rfl dL_law_464 (fun r54 u55 => ?_)
            refine jf_icmp_eq (tgt := 1086) hX dL_law_467 (by decide) ?_ ?_
            · refine jf_iinc (v := 6) (lv' := [(3, .int (x3 + (6 : Int32))), (0, .ref b), (1, .ref x1), (2, .ref x2)]) hX dL_law_1086 3 rfl (by decide) (by decide) rfl ?_
              refine jf_goto (tgt := 18) hX dL_law_1089 (by decide) ?_
              refine jf_lv [1, 2, 3, 0] rfl ?_
              exact hrec18 _ _ (by omega) (by omega) x1 x2 (x3 + (6 : Int32)) u55
            · refine jf_iconst (v := 0) hX dL_law_470 (by decide) ?_
              exact jf_lret0
          · refine jf_iconst (v := 1) hX dL_law_459 (by decide) ?_
            refine jf_goto (tgt := 464) hX dL_law_460 (by decide) ?_
            refine jf_callV (As := [.int (xs (x3 + (1 : Int32)).toNatClampNeg), .int (1 : Int32)]) (st := [.int r52]) hX mo_X11_light wml_929 winst_930 wsel_931 11 ck_X11 rfl (fun l D cT z0 ks => kX11_light N l D cT z0 ks x2 (xs (x3 + (1 : Int32)).toNatClampNeg) (1 : Int32) u53) (by decide) (by decide) (by omega) (by omega) (Nat.le_of_ble_eq_true rfl) rfl rfl dL_law_464 (fun r56 u57 => ?_)
            refine jf_icmp_eq (tgt := 1086) hX dL_law_467 (by decide) ?_ ?_
            · refine jf_iinc (v := 6) (lv' := [(3, .int (x3 + (6 : Int32))), (0, .ref b), (1, .ref x1), (2, .ref x2)]) hX dL_law_1086 3 rfl (by decide) (by decide) rfl ?_
              refine jf_goto (tgt := 18) hX dL_law_1089 (by decide) ?_
              refine jf_lv [1, 2, 3, 0] rfl ?_
              exact hrec18 _ _ (by omega) (by omega) x1 x2 (x3 + (6 : Int32)) u57
            · refine jf_iconst (v := 0) hX dL_law_470 (by decide) ?_
              exact jf_lret0
      refine jf_tcase (k := 10) (kv := 10) (tgt := 472) hX dL_law_33 rfl (by decide) (by decide) rfl (by decide) ?_ (fun hn10 => ?_)
      · refine jf_aload_n hX dL_law_472 1 rfl ?_
        refine jf_callV (As := []) (st := []) hX mo_X10_undo wml_932 winst_933 wsel_934 10 ck_X10 rfl (fun l D cT z0 ks => kX10_undo N l D cT z0 ks x1 u) (by decide) (by decide) (by omega) (by omega) (Nat.le_of_ble_eq_true rfl) rfl rfl dL_law_473 (fun r58 u59 => ?_)
        refine jf_aload_n hX dL_law_476 2 rfl ?_
        refine jf_callV (As := []) (st := [.int r58]) hX mo_X11_undo wml_935 winst_936 wsel_937 11 ck_X11 rfl (fun l D cT z0 ks => kX11_undo N l D cT z0 ks x2 u59) (by decide) (by decide) (by omega) (by omega) (Nat.le_of_ble_eq_true rfl) rfl rfl dL_law_477 (fun r60 u61 => ?_)
        refine jf_icmp_eq (tgt := 1086) hX dL_law_480 (by decide) ?_ ?_
        · refine jf_iinc (v := 6) (lv' := [(3, .int (x3 + (6 : Int32))), (0, .ref b), (1, .ref x1), (2, .ref x2)]) hX dL_law_1086 3 rfl (by decide) (by decide) rfl ?_
          refine jf_goto (tgt := 18) hX dL_law_1089 (by decide) ?_
          refine jf_lv [1, 2, 3, 0] rfl ?_
          exact hrec18 _ _ (by omega) (by omega) x1 x2 (x3 + (6 : Int32)) u61
        · refine jf_iconst (v := 0) hX dL_law_483 (by decide) ?_
          exact jf_lret0
      refine jf_tcase (k := 11) (kv := 11) (tgt := 485) hX dL_law_33 rfl (by decide) (by decide) rfl (by decide) ?_ (fun hn11 => ?_)
      · refine jf_aload_n hX dL_law_485 1 rfl ?_
        refine jf_aload_n hX dL_law_486 0 rfl ?_
        refine jf_iload_n hX dL_law_487 3 rfl ?_
        refine jf_iconst (v := 1) hX dL_law_488 (by decide) ?_
        refine jf_iadd hX dL_law_489 ?_
        refine jf_sld hX hB dL_law_490 ?_
        refine jf_aload_n hX dL_law_491 0 rfl ?_
        refine jf_iload_n hX dL_law_492 3 rfl ?_
        refine jf_iconst (v := 2) hX dL_law_493 (by decide) ?_
        refine jf_iadd hX dL_law_494 ?_
        refine jf_sld hX hB dL_law_495 ?_
        refine jf_callV (As := [.int (xs (x3 + (1 : Int32)).toNatClampNeg), .int (xs (x3 + (2 : Int32)).toNatClampNeg)]) (st := []) hX mo_X10_owed wml_938 winst_939 wsel_940 10 ck_X10 rfl (fun l D cT z0 ks => kX10_owed N l D cT z0 ks x1 (xs (x3 + (1 : Int32)).toNatClampNeg) (xs (x3 + (2 : Int32)).toNatClampNeg) u) (by decide) (by decide) (by omega) (by omega) (Nat.le_of_ble_eq_true rfl) rfl rfl dL_law_496 (fun r62 u63 => ?_)
        refine jf_aload_n hX dL_law_499 2 rfl ?_
        refine jf_aload_n hX dL_law_500 0 rfl ?_
        refine jf_iload_n hX dL_law_501 3 rfl ?_
        refine jf_iconst (v := 1) hX dL_law_502 (by decide) ?_
        refine jf_iadd hX dL_law_503 ?_
        refine jf_sld hX hB dL_law_504 ?_
        refine jf_aload_n hX dL_law_505 0 rfl ?_
        refine jf_iload_n hX dL_law_506 3 rfl ?_
        refine jf_iconst (v := 2) hX dL_law_507 (by decide) ?_
        refine jf_iadd hX dL_law_508 ?_
        refine jf_sld hX hB dL_law_509 ?_
        refine jf_callV (As := [.int (xs (x3 + (1 : Int32)).toNatClampNeg), .int (xs (x3 + (2 : Int32)).toNatClampNeg)]) (st := [.int r62]) hX mo_X11_owed wml_941 winst_942 wsel_943 11 ck_X11 rfl (fun l D cT z0 ks => kX11_owed N l D cT z0 ks x2 (xs (x3 + (1 : Int32)).toNatClampNeg) (xs (x3 + (2 : Int32)).toNatClampNeg) u63) (by decide) (by decide) (by omega) (by omega) (Nat.le_of_ble_eq_true rfl) rfl rfl dL_law_510 (fun r64 u65 => ?_)
        refine jf_icmp_eq (tgt := 1086) hX dL_law_513 (by decide) ?_ ?_
        · refine jf_iinc (v := 6) (lv' := [(3, .int (x3 + (6 : Int32))), (0, .ref b), (1, .ref x1), (2, .ref x2)]) hX dL_law_1086 3 rfl (by decide) (by decide) rfl ?_
          refine jf_goto (tgt := 18) hX dL_law_1089 (by decide) ?_
          refine jf_lv [1, 2, 3, 0] rfl ?_
          exact hrec18 _ _ (by omega) (by omega) x1 x2 (x3 + (6 : Int32)) u65
        · refine jf_iconst (v := 0) hX dL_law_516 (by decide) ?_
          exact jf_lret0
      refine jf_tcase (k := 12) (kv := 12) (tgt := 518) hX dL_law_33 rfl (by decide) (by decide) rfl (by decide) ?_ (fun hn12 => ?_)
      · refine jf_aload_n hX dL_law_518 1 rfl ?_
        refine jf_aload_n hX dL_law_519 0 rfl ?_
        refine jf_iload_n hX dL_law_520 3 rfl ?_
        refine jf_iconst (v := 1) hX dL_law_521 (by decide) ?_
        refine jf_iadd hX dL_law_522 ?_
        refine jf_sld hX hB dL_law_523 ?_
        refine jf_aload_n hX dL_law_524 0 rfl ?_
        refine jf_iload_n hX dL_law_525 3 rfl ?_
        refine jf_iconst (v := 2) hX dL_law_526 (by decide) ?_
        refine jf_iadd hX dL_law_527 ?_
        refine jf_sld hX hB dL_law_528 ?_
        refine jf_aload_n hX dL_law_529 0 rfl ?_
        refine jf_iload_n hX dL_law_530 3 rfl ?_
        refine jf_iconst (v := 3) hX dL_law_531 (by decide) ?_
        refine jf_iadd hX dL_law_532 ?_
        refine jf_sld hX hB dL_law_533 ?_
        refine jf_callV (As := [.int (xs (x3 + (1 : Int32)).toNatClampNeg), .int (xs (x3 + (2 : Int32)).toNatClampNeg), .int (xs (x3 + (3 : Int32)).toNatClampNeg)]) (st := []) hX mo_X10_ahead wml_944 winst_945 wsel_946 10 ck_X10 rfl (fun l D cT z0 ks => kX10_ahead N l D cT z0 ks x1 (xs (x3 + (1 : Int32)).toNatClampNeg) (xs (x3 + (2 : Int32)).toNatClampNeg) (xs (x3 + (3 : Int32)).toNatClampNeg) u) (by decide) (by decide) (by omega) (by omega) (Nat.le_of_ble_eq_true rfl) rfl rfl dL_law_534 (fun r66 u67 => ?_)
        refine jf_aload_n hX dL_law_537 2 rfl ?_
        refine jf_aload_n hX dL_law_538 0 rfl ?_
        refine jf_iload_n hX dL_law_539 3 rfl ?_
        refine jf_iconst (v := 1) hX dL_law_540 (by decide) ?_
        refine jf_iadd hX dL_law_541 ?_
        refine jf_sld hX hB dL_law_542 ?_
        refine jf_aload_n hX dL_law_543 0 rfl ?_
        refine jf_iload_n hX dL_law_544 3 rfl ?_
        refine jf_iconst (v := 2) hX dL_law_545 (by decide) ?_
        refine jf_iadd hX dL_law_546 ?_
        refine jf_sld hX hB dL_law_547 ?_
        refine jf_aload_n hX dL_law_548 0 rfl ?_
        refine jf_iload_n hX dL_law_549 3 rfl ?_
        refine jf_iconst (v := 3) hX dL_law_550 (by decide) ?_
        refine jf_iadd hX dL_law_551 ?_
        refine jf_sld hX hB dL_law_552 ?_
        refine jf_callV (As := [.int (xs (x3 + (1 : Int32)).toNatClampNeg), .int (xs (x3 + (2 : Int32)).toNatClampNeg), .int (xs (x3 + (3 : Int32)).toNatClampNeg)]) (st := [.int r66]) hX mo_X11_ahead wml_947 winst_948 wsel_949 11 ck_X11 rfl (fun l D cT z0 ks => kX11_ahead N l D cT z0 ks x2 (xs (x3 + (1 : Int32)).toNatClampNeg) (xs (x3 + (2 : Int32)).toNatClampNeg) (xs (x3 + (3 : Int32)).toNatClampNeg) u67) (by decide) (by decide) (by omega) (by omega) (Nat.le_of_ble_eq_true rfl) rfl rfl dL_law_553 (fun r68 u69 => ?_)
        refine jf_icmp_eq (tgt := 1086) hX dL_law_556 (by decide) ?_ ?_
        · refine jf_iinc (v := 6) (lv' := [(3, .int (x3 + (6 : Int32))), (0, .ref b), (1, .ref x1), (2, .ref x2)]) hX dL_law_1086 3 rfl (by decide) (by decide) rfl ?_
          refine jf_goto (tgt := 18) hX dL_law_1089 (by decide) ?_
          refine jf_lv [1, 2, 3, 0] rfl ?_
          exact hrec18 _ _ (by omega) (by omega) x1 x2 (x3 + (6 : Int32)) u69
        · refine jf_iconst (v := 0) hX dL_law_559 (by decide) ?_
          exact jf_lret0
      refine jf_tcase (k := 13) (kv := 13) (tgt := 561) hX dL_law_33 rfl (by decide) (by decide) rfl (by decide) ?_ (fun hn13 => ?_)
      · refine jf_aload_n hX dL_law_561 1 rfl ?_
        refine jf_aload_n hX dL_law_562 0 rfl ?_
        refine jf_iload_n hX dL_law_563 3 rfl ?_
        refine jf_iconst (v := 1) hX dL_law_564 (by decide) ?_
        refine jf_iadd hX dL_law_565 ?_
        refine jf_sld hX hB dL_law_566 ?_
        refine jf_aload_n hX dL_law_567 0 rfl ?_
        refine jf_iload_n hX dL_law_568 3 rfl ?_
        refine jf_iconst (v := 2) hX dL_law_569 (by decide) ?_
        refine jf_iadd hX dL_law_570 ?_
        refine jf_sld hX hB dL_law_571 ?_
        refine jf_aload_n hX dL_law_572 0 rfl ?_
        refine jf_iload_n hX dL_law_573 3 rfl ?_
        refine jf_iconst (v := 3) hX dL_law_574 (by decide) ?_
        refine jf_iadd hX dL_law_575 ?_
        refine jf_sld hX hB dL_law_576 ?_
        refine jf_callV (As := [.int (xs (x3 + (1 : Int32)).toNatClampNeg), .int (xs (x3 + (2 : Int32)).toNatClampNeg), .int (xs (x3 + (3 : Int32)).toNatClampNeg)]) (st := []) hX mo_X10_cheap wml_950 winst_951 wsel_952 10 ck_X10 rfl (fun l D cT z0 ks => kX10_cheap N l D cT z0 ks x1 (xs (x3 + (1 : Int32)).toNatClampNeg) (xs (x3 + (2 : Int32)).toNatClampNeg) (xs (x3 + (3 : Int32)).toNatClampNeg) u) (by decide) (by decide) (by omega) (by omega) (Nat.le_of_ble_eq_true rfl) rfl rfl dL_law_577 (fun r70 u71 => ?_)
        refine jf_aload_n hX dL_law_580 2 rfl ?_
        refine jf_aload_n hX dL_law_581 0 rfl ?_
        refine jf_iload_n hX dL_law_582 3 rfl ?_
        refine jf_iconst (v := 1) hX dL_law_583 (by decide) ?_
        refine jf_iadd hX dL_law_584 ?_
        refine jf_sld hX hB dL_law_585 ?_
        refine jf_aload_n hX dL_law_586 0 rfl ?_
        refine jf_iload_n hX dL_law_587 3 rfl ?_
        refine jf_iconst (v := 2) hX dL_law_588 (by decide) ?_
        refine jf_iadd hX dL_law_589 ?_
        refine jf_sld hX hB dL_law_590 ?_
        refine jf_aload_n hX dL_law_591 0 rfl ?_
        refine jf_iload_n hX dL_law_592 3 rfl ?_
        refine jf_iconst (v := 3) hX dL_law_593 (by decide) ?_
        refine jf_iadd hX dL_law_594 ?_
        refine jf_sld hX hB dL_law_595 ?_
        refine jf_callV (As := [.int (xs (x3 + (1 : Int32)).toNatClampNeg), .int (xs (x3 + (2 : Int32)).toNatClampNeg), .int (xs (x3 + (3 : Int32)).toNatClampNeg)]) (st := [.int r70]) hX mo_X11_cheap wml_953 winst_954 wsel_955 11 ck_X11 rfl (fun l D cT z0 ks => kX11_cheap N l D cT z0 ks x2 (xs (x3 + (1 : Int32)).toNatClampNeg) (xs (x3 + (2 : Int32)).toNatClampNeg) (xs (x3 + (3 : Int32)).toNatClampNeg) u71) (by decide) (by decide) (by omega) (by omega) (Nat.le_of_ble_eq_true rfl) rfl rfl dL_law_596 (fun r72 u73 => ?_)
        refine jf_icmp_eq (tgt := 1086) hX dL_law_599 (by decide) ?_ ?_
        · refine jf_iinc (v := 6) (lv' := [(3, .int (x3 + (6 : Int32))), (0, .ref b), (1, .ref x1), (2, .ref x2)]) hX dL_law_1086 3 rfl (by decide) (by decide) rfl ?_
          refine jf_goto (tgt := 18) hX dL_law_1089 (by decide) ?_
          refine jf_lv [1, 2, 3, 0] rfl ?_
          exact hrec18 _ _ (by omega) (by omega) x1 x2 (x3 + (6 : Int32)) u73
        · refine jf_iconst (v := 0) hX dL_law_602 (by decide) ?_
          exact jf_lret0
      refine jf_tcase (k := 14) (kv := 14) (tgt := 604) hX dL_law_33 rfl (by decide) (by decide) rfl (by decide) ?_ (fun hn14 => ?_)
      · refine jf_aload_n hX dL_law_604 1 rfl ?_
        refine jf_aload_n hX dL_law_605 0 rfl ?_
        refine jf_iload_n hX dL_law_606 3 rfl ?_
        refine jf_iconst (v := 1) hX dL_law_607 (by decide) ?_
        refine jf_iadd hX dL_law_608 ?_
        refine jf_sld hX hB dL_law_609 ?_
        refine jf_callV (As := [.int (xs (x3 + (1 : Int32)).toNatClampNeg)]) (st := []) hX mo_X10_rest wml_956 winst_957 wsel_958 10 ck_X10 rfl (fun l D cT z0 ks => kX10_rest N l D cT z0 ks x1 (xs (x3 + (1 : Int32)).toNatClampNeg) u) (by decide) (by decide) (by omega) (by omega) (Nat.le_of_ble_eq_true rfl) rfl rfl dL_law_610 (fun r74 u75 => ?_)
        refine jf_aload_n hX dL_law_613 2 rfl ?_
        refine jf_aload_n hX dL_law_614 0 rfl ?_
        refine jf_iload_n hX dL_law_615 3 rfl ?_
        refine jf_iconst (v := 1) hX dL_law_616 (by decide) ?_
        refine jf_iadd hX dL_law_617 ?_
        refine jf_sld hX hB dL_law_618 ?_
        refine jf_callV (As := [.int (xs (x3 + (1 : Int32)).toNatClampNeg)]) (st := [.int r74]) hX mo_X11_rest wml_959 winst_960 wsel_961 11 ck_X11 rfl (fun l D cT z0 ks => kX11_rest N l D cT z0 ks x2 (xs (x3 + (1 : Int32)).toNatClampNeg) u75) (by decide) (by decide) (by omega) (by omega) (Nat.le_of_ble_eq_true rfl) rfl rfl dL_law_619 (fun r76 u77 => ?_)
        refine jf_icmp_eq (tgt := 1086) hX dL_law_622 (by decide) ?_ ?_
        · refine jf_iinc (v := 6) (lv' := [(3, .int (x3 + (6 : Int32))), (0, .ref b), (1, .ref x1), (2, .ref x2)]) hX dL_law_1086 3 rfl (by decide) (by decide) rfl ?_
          refine jf_goto (tgt := 18) hX dL_law_1089 (by decide) ?_
          refine jf_lv [1, 2, 3, 0] rfl ?_
          exact hrec18 _ _ (by omega) (by omega) x1 x2 (x3 + (6 : Int32)) u77
        · refine jf_iconst (v := 0) hX dL_law_625 (by decide) ?_
          exact jf_lret0
      refine jf_tcase (k := 15) (kv := 15) (tgt := 627) hX dL_law_33 rfl (by decide) (by decide) rfl (by decide) ?_ (fun hn15 => ?_)
      · refine jf_aload_n hX dL_law_627 1 rfl ?_
        refine jf_aload_n hX dL_law_628 0 rfl ?_
        refine jf_iload_n hX dL_law_629 3 rfl ?_
        refine jf_iconst (v := 1) hX dL_law_630 (by decide) ?_
        refine jf_iadd hX dL_law_631 ?_
        refine jf_sld hX hB dL_law_632 ?_
        refine jf_callV (As := [.int (xs (x3 + (1 : Int32)).toNatClampNeg)]) (st := []) hX mo_X10_dark wml_962 winst_963 wsel_964 10 ck_X10 rfl (fun l D cT z0 ks => kX10_dark N l D cT z0 ks x1 (xs (x3 + (1 : Int32)).toNatClampNeg) u) (by decide) (by decide) (by omega) (by omega) (Nat.le_of_ble_eq_true rfl) rfl rfl dL_law_633 (fun r78 u79 => ?_)
        refine jf_aload_n hX dL_law_636 2 rfl ?_
        refine jf_aload_n hX dL_law_637 0 rfl ?_
        refine jf_iload_n hX dL_law_638 3 rfl ?_
        refine jf_iconst (v := 1) hX dL_law_639 (by decide) ?_
        refine jf_iadd hX dL_law_640 ?_
        refine jf_sld hX hB dL_law_641 ?_
        refine jf_callV (As := [.int (xs (x3 + (1 : Int32)).toNatClampNeg)]) (st := [.int r78]) hX mo_X11_dark wml_965 winst_966 wsel_967 11 ck_X11 rfl (fun l D cT z0 ks => kX11_dark N l D cT z0 ks x2 (xs (x3 + (1 : Int32)).toNatClampNeg) u79) (by decide) (by decide) (by omega) (by omega) (Nat.le_of_ble_eq_true rfl) rfl rfl dL_law_642 (fun r80 u81 => ?_)
        refine jf_icmp_eq (tgt := 1086) hX dL_law_645 (by decide) ?_ ?_
        · refine jf_iinc (v := 6) (lv' := [(3, .int (x3 + (6 : Int32))), (0, .ref b), (1, .ref x1), (2, .ref x2)]) hX dL_law_1086 3 rfl (by decide) (by decide) rfl ?_
          refine jf_goto (tgt := 18) hX dL_law_1089 (by decide) ?_
          refine jf_lv [1, 2, 3, 0] rfl ?_
          exact hrec18 _ _ (by omega) (by omega) x1 x2 (x3 + (6 : Int32)) u81
        · refine jf_iconst (v := 0) hX dL_law_648 (by decide) ?_
          exact jf_lret0
      refine jf_tcase (k := 16) (kv := 16) (tgt := 650) hX dL_law_33 rfl (by decide) (by decide) rfl (by decide) ?_ (fun hn16 => ?_)
      · refine jf_aload_n hX dL_law_650 1 rfl ?_
        refine jf_aload_n hX dL_law_651 0 rfl ?_
        refine jf_iload_n hX dL_law_652 3 rfl ?_
        refine jf_iconst (v := 1) hX dL_law_653 (by decide) ?_
        refine jf_iadd hX dL_law_654 ?_
        refine jf_sld hX hB dL_law_655 ?_
        refine jf_aload_n hX dL_law_656 0 rfl ?_
        refine jf_iload_n hX dL_law_657 3 rfl ?_
        refine jf_iconst (v := 2) hX dL_law_658 (by decide) ?_
        refine jf_iadd hX dL_law_659 ?_
        refine jf_sld hX hB dL_law_660 ?_
        refine jf_aload_n hX dL_law_661 0 rfl ?_
        refine jf_iload_n hX dL_law_662 3 rfl ?_
        refine jf_iconst (v := 3) hX dL_law_663 (by decide) ?_
        refine jf_iadd hX dL_law_664 ?_
        refine jf_sld hX hB dL_law_665 ?_
        refine jf_callV (As := [.int (xs (x3 + (1 : Int32)).toNatClampNeg), .int (xs (x3 + (2 : Int32)).toNatClampNeg), .int (xs (x3 + (3 : Int32)).toNatClampNeg)]) (st := []) hX mo_X10_guild wml_968 winst_969 wsel_970 10 ck_X10 rfl (fun l D cT z0 ks => kX10_guild N l D cT z0 ks x1 (xs (x3 + (1 : Int32)).toNatClampNeg) (xs (x3 + (2 : Int32)).toNatClampNeg) (xs (x3 + (3 : Int32)).toNatClampNeg) u) (by decide) (by decide) (by omega) (by omega) (Nat.le_of_ble_eq_true rfl) rfl rfl dL_law_666 (fun r82 u83 => ?_)
        refine jf_aload_n hX dL_law_669 2 rfl ?_
        refine jf_aload_n hX dL_law_670 0 rfl ?_
        refine jf_iload_n hX dL_law_671 3 rfl ?_
        refine jf_iconst (v := 1) hX dL_law_672 (by decide) ?_
        refine jf_iadd hX dL_law_673 ?_
        refine jf_sld hX hB dL_law_674 ?_
        refine jf_aload_n hX dL_law_675 0 rfl ?_
        refine jf_iload_n hX dL_law_676 3 rfl ?_
        refine jf_iconst (v := 2) hX dL_law_677 (by decide) ?_
        refine jf_iadd hX dL_law_678 ?_
        refine jf_sld hX hB dL_law_679 ?_
        refine jf_aload_n hX dL_law_680 0 rfl ?_
        refine jf_iload_n hX dL_law_681 3 rfl ?_
        refine jf_iconst (v := 3) hX dL_law_682 (by decide) ?_
        refine jf_iadd hX dL_law_683 ?_
        refine jf_sld hX hB dL_law_684 ?_
        refine jf_callV (As := [.int (xs (x3 + (1 : Int32)).toNatClampNeg), .int (xs (x3 + (2 : Int32)).toNatClampNeg), .int (xs (x3 + (3 : Int32)).toNatClampNeg)]) (st := [.int r82]) hX mo_X11_guild wml_971 winst_972 wsel_973 11 ck_X11 rfl (fun l D cT z0 ks => kX11_guild N l D cT z0 ks x2 (xs (x3 + (1 : Int32)).toNatClampNeg) (xs (x3 + (2 : Int32)).toNatClampNeg) (xs (x3 + (3 : Int32)).toNatClampNeg) u83) (by decide) (by decide) (by omega) (by omega) (Nat.le_of_ble_eq_true rfl) rfl rfl dL_law_685 (fun r84 u85 => ?_)
        refine jf_icmp_eq (tgt := 1086) hX dL_law_688 (by decide) ?_ ?_
        · refine jf_iinc (v := 6) (lv' := [(3, .int (x3 + (6 : Int32))), (0, .ref b), (1, .ref x1), (2, .ref x2)]) hX dL_law_1086 3 rfl (by decide) (by decide) rfl ?_
          refine jf_goto (tgt := 18) hX dL_law_1089 (by decide) ?_
          refine jf_lv [1, 2, 3, 0] rfl ?_
          exact hrec18 _ _ (by omega) (by omega) x1 x2 (x3 + (6 : Int32)) u85
        · refine jf_iconst (v := 0) hX dL_law_691 (by decide) ?_
          exact jf_lret0
      refine jf_tcase (k := 17) (kv := 17) (tgt := 693) hX dL_law_33 rfl (by decide) (by decide) rfl (by decide) ?_ (fun hn17 => ?_)
      · refine jf_aload_n hX dL_law_693 1 rfl ?_
        refine jf_aload_n hX dL_law_694 0 rfl ?_
        refine jf_iload_n hX dL_law_695 3 rfl ?_
        refine jf_iconst (v := 1) hX dL_law_696 (by decide) ?_
        refine jf_iadd hX dL_law_697 ?_
        refine jf_sld hX hB dL_law_698 ?_
        refine jf_aload_n hX dL_law_699 0 rfl ?_
        refine jf_iload_n hX dL_law_700 3 rfl ?_
        refine jf_iconst (v := 2) hX dL_law_701 (by decide) ?_
        refine jf_iadd hX dL_law_702 ?_
        refine jf_sld hX hB dL_law_703 ?_
        refine jf_aload_n hX dL_law_704 0 rfl ?_
        refine jf_iload_n hX dL_law_705 3 rfl ?_
        refine jf_iconst (v := 3) hX dL_law_706 (by decide) ?_
        refine jf_iadd hX dL_law_707 ?_
        refine jf_sld hX hB dL_law_708 ?_
        refine jf_aload_n hX dL_law_709 0 rfl ?_
        refine jf_iload_n hX dL_law_710 3 rfl ?_
        refine jf_iconst (v := 4) hX dL_law_711 (by decide) ?_
        refine jf_iadd hX dL_law_712 ?_
        refine jf_sld hX hB dL_law_713 ?_
        refine jf_callV (As := [.int (xs (x3 + (1 : Int32)).toNatClampNeg), .int (xs (x3 + (2 : Int32)).toNatClampNeg), .int (xs (x3 + (3 : Int32)).toNatClampNeg), .int (xs (x3 + (4 : Int32)).toNatClampNeg)]) (st := []) hX mo_X10_fact wml_974 winst_975 wsel_976 10 ck_X10 rfl (fun l D cT z0 ks => kX10_fact N l D cT z0 ks x1 (xs (x3 + (1 : Int32)).toNatClampNeg) (xs (x3 + (2 : Int32)).toNatClampNeg) (xs (x3 + (3 : Int32)).toNatClampNeg) (xs (x3 + (4 : Int32)).toNatClampNeg) u) (by decide) (by decide) (by omega) (by omega) (Nat.le_of_ble_eq_true rfl) rfl rfl dL_law_714 (fun r86 u87 => ?_)
        refine jf_aload_n hX dL_law_717 2 rfl ?_
        refine jf_aload_n hX dL_law_718 0 rfl ?_
        refine jf_iload_n hX dL_law_719 3 rfl ?_
        refine jf_iconst (v := 1) hX dL_law_720 (by decide) ?_
        refine jf_iadd hX dL_law_721 ?_
        refine jf_sld hX hB dL_law_722 ?_
        refine jf_aload_n hX dL_law_723 0 rfl ?_
        refine jf_iload_n hX dL_law_724 3 rfl ?_
        refine jf_iconst (v := 2) hX dL_law_725 (by decide) ?_
        refine jf_iadd hX dL_law_726 ?_
        refine jf_sld hX hB dL_law_727 ?_
        refine jf_aload_n hX dL_law_728 0 rfl ?_
        refine jf_iload_n hX dL_law_729 3 rfl ?_
        refine jf_iconst (v := 3) hX dL_law_730 (by decide) ?_
        refine jf_iadd hX dL_law_731 ?_
        refine jf_sld hX hB dL_law_732 ?_
        refine jf_aload_n hX dL_law_733 0 rfl ?_
        refine jf_iload_n hX dL_law_734 3 rfl ?_
        refine jf_iconst (v := 4) hX dL_law_735 (by decide) ?_
        refine jf_iadd hX dL_law_736 ?_
        refine jf_sld hX hB dL_law_737 ?_
        refine jf_callV (As := [.int (xs (x3 + (1 : Int32)).toNatClampNeg), .int (xs (x3 + (2 : Int32)).toNatClampNeg), .int (xs (x3 + (3 : Int32)).toNatClampNeg), .int (xs (x3 + (4 : Int32)).toNatClampNeg)]) (st := [.int r86]) hX mo_X11_fact_ wml_977 winst_978 wsel_979 11 ck_X11 rfl (fun l D cT z0 ks => kX11_fact_ N l D cT z0 ks x2 (xs (x3 + (1 : Int32)).toNatClampNeg) (xs (x3 + (2 : Int32)).toNatClampNeg) (xs (x3 + (3 : Int32)).toNatClampNeg) (xs (x3 + (4 : Int32)).toNatClampNeg) u87) (by decide) (by decide) (by omega) (by omega) (Nat.le_of_ble_eq_true rfl) rfl rfl dL_law_738 (fun r88 u89 => ?_)
        refine jf_icmp_eq (tgt := 1086) hX dL_law_741 (by decide) ?_ ?_
        · refine jf_iinc (v := 6) (lv' := [(3, .int (x3 + (6 : Int32))), (0, .ref b), (1, .ref x1), (2, .ref x2)]) hX dL_law_1086 3 rfl (by decide) (by decide) rfl ?_
          refine jf_goto (tgt := 18) hX dL_law_1089 (by decide) ?_
          refine jf_lv [1, 2, 3, 0] rfl ?_
          exact hrec18 _ _ (by omega) (by omega) x1 x2 (x3 + (6 : Int32)) u89
        · refine jf_iconst (v := 0) hX dL_law_744 (by decide) ?_
          exact jf_lret0
      refine jf_tcase (k := 18) (kv := 18) (tgt := 746) hX dL_law_33 rfl (by decide) (by decide) rfl (by decide) ?_ (fun hn18 => ?_)
      · refine jf_aload_n hX dL_law_746 1 rfl ?_
        refine jf_aload_n hX dL_law_747 0 rfl ?_
        refine jf_iload_n hX dL_law_748 3 rfl ?_
        refine jf_iconst (v := 1) hX dL_law_749 (by decide) ?_
        refine jf_iadd hX dL_law_750 ?_
        refine jf_sld hX hB dL_law_751 ?_
        refine jf_callV (As := [.int (xs (x3 + (1 : Int32)).toNatClampNeg)]) (st := []) hX mo_X10_slept wml_980 winst_981 wsel_982 10 ck_X10 rfl (fun l D cT z0 ks => kX10_slept N l D cT z0 ks x1 (xs (x3 + (1 : Int32)).toNatClampNeg) u) (by decide) (by decide) (by omega) (by omega) (Nat.le_of_ble_eq_true rfl) rfl rfl dL_law_752 (fun r90 u91 => ?_)
        refine jf_aload_n hX dL_law_755 2 rfl ?_
        refine jf_aload_n hX dL_law_756 0 rfl ?_
        refine jf_iload_n hX dL_law_757 3 rfl ?_
        refine jf_iconst (v := 1) hX dL_law_758 (by decide) ?_
        refine jf_iadd hX dL_law_759 ?_
        refine jf_sld hX hB dL_law_760 ?_
        refine jf_callV (As := [.int (xs (x3 + (1 : Int32)).toNatClampNeg)]) (st := [.int r90]) hX mo_X11_slept wml_983 winst_984 wsel_985 11 ck_X11 rfl (fun l D cT z0 ks => kX11_slept N l D cT z0 ks x2 (xs (x3 + (1 : Int32)).toNatClampNeg) u91) (by decide) (by decide) (by omega) (by omega) (Nat.le_of_ble_eq_true rfl) rfl rfl dL_law_761 (fun r92 u93 => ?_)
        refine jf_icmp_eq (tgt := 1086) hX dL_law_764 (by decide) ?_ ?_
        · refine jf_iinc (v := 6) (lv' := [(3, .int (x3 + (6 : Int32))), (0, .ref b), (1, .ref x1), (2, .ref x2)]) hX dL_law_1086 3 rfl (by decide) (by decide) rfl ?_
          refine jf_goto (tgt := 18) hX dL_law_1089 (by decide) ?_
          refine jf_lv [1, 2, 3, 0] rfl ?_
          exact hrec18 _ _ (by omega) (by omega) x1 x2 (x3 + (6 : Int32)) u93
        · refine jf_iconst (v := 0) hX dL_law_767 (by decide) ?_
          exact jf_lret0
      refine jf_tcase (k := 19) (kv := 19) (tgt := 769) hX dL_law_33 rfl (by decide) (by decide) rfl (by decide) ?_ (fun hn19 => ?_)
      · refine jf_aload_n hX dL_law_769 1 rfl ?_
        refine jf_aload_n hX dL_law_770 0 rfl ?_
        refine jf_iload_n hX dL_law_771 3 rfl ?_
        refine jf_iconst (v := 1) hX dL_law_772 (by decide) ?_
        refine jf_iadd hX dL_law_773 ?_
        refine jf_sld hX hB dL_law_774 ?_
        refine jf_callV (As := [.int (xs (x3 + (1 : Int32)).toNatClampNeg)]) (st := []) hX mo_X10_ask wml_986 winst_987 wsel_988 10 ck_X10 rfl (fun l D cT z0 ks => kX10_ask N l D cT z0 ks x1 (xs (x3 + (1 : Int32)).toNatClampNeg) u) (by decide) (by decide) (by omega) (by omega) (Nat.le_of_ble_eq_true rfl) rfl rfl dL_law_775 (fun r94 u95 => ?_)
        refine jf_aload_n hX dL_law_778 2 rfl ?_
        refine jf_aload_n hX dL_law_779 0 rfl ?_
        refine jf_iload_n hX dL_law_780 3 rfl ?_
        refine jf_iconst (v := 1) hX dL_law_781 (by decide) ?_
        refine jf_iadd hX dL_law_782 ?_
        refine jf_sld hX hB dL_law_783 ?_
        refine jf_callV (As := [.int (xs (x3 + (1 : Int32)).toNatClampNeg)]) (st := [.int r94]) hX mo_X11_ask wml_989 winst_990 wsel_991 11 ck_X11 rfl (fun l D cT z0 ks => kX11_ask N l D cT z0 ks x2 (xs (x3 + (1 : Int32)).toNatClampNeg) u95) (by decide) (by decide) (by omega) (by omega) (Nat.le_of_ble_eq_true rfl) rfl rfl dL_law_784 (fun r96 u97 => ?_)
        refine jf_icmp_eq (tgt := 1086) hX dL_law_787 (by decide) ?_ ?_
        · refine jf_iinc (v := 6) (lv' := [(3, .int (x3 + (6 : Int32))), (0, .ref b), (1, .ref x1), (2, .ref x2)]) hX dL_law_1086 3 rfl (by decide) (by decide) rfl ?_
          refine jf_goto (tgt := 18) hX dL_law_1089 (by decide) ?_
          refine jf_lv [1, 2, 3, 0] rfl ?_
          exact hrec18 _ _ (by omega) (by omega) x1 x2 (x3 + (6 : Int32)) u97
        · refine jf_iconst (v := 0) hX dL_law_790 (by decide) ?_
          exact jf_lret0
      refine jf_tcase (k := 20) (kv := 20) (tgt := 792) hX dL_law_33 rfl (by decide) (by decide) rfl (by decide) ?_ (fun hn20 => ?_)
      · refine jf_aload_n hX dL_law_792 1 rfl ?_
        refine jf_aload_n hX dL_law_793 0 rfl ?_
        refine jf_iload_n hX dL_law_794 3 rfl ?_
        refine jf_iconst (v := 1) hX dL_law_795 (by decide) ?_
        refine jf_iadd hX dL_law_796 ?_
        refine jf_sld hX hB dL_law_797 ?_
        refine jf_aload_n hX dL_law_798 0 rfl ?_
        refine jf_iload_n hX dL_law_799 3 rfl ?_
        refine jf_iconst (v := 2) hX dL_law_800 (by decide) ?_
        refine jf_iadd hX dL_law_801 ?_
        refine jf_sld hX hB dL_law_802 ?_
        refine jf_aload_n hX dL_law_803 0 rfl ?_
        refine jf_iload_n hX dL_law_804 3 rfl ?_
        refine jf_iconst (v := 3) hX dL_law_805 (by decide) ?_
        refine jf_iadd hX dL_law_806 ?_
        refine jf_sld hX hB dL_law_807 ?_
        refine jf_aload_n hX dL_law_808 0 rfl ?_
        refine jf_iload_n hX dL_law_809 3 rfl ?_
        refine jf_iconst (v := 4) hX dL_law_810 (by decide) ?_
        refine jf_iadd hX dL_law_811 ?_
        refine jf_sld hX hB dL_law_812 ?_
        refine jf_callV (As := [.int (xs (x3 + (1 : Int32)).toNatClampNeg), .int (xs (x3 + (2 : Int32)).toNatClampNeg), .int (xs (x3 + (3 : Int32)).toNatClampNeg), .int (xs (x3 + (4 : Int32)).toNatClampNeg)]) (st := []) hX mo_X10_nights wml_992 winst_993 wsel_994 10 ck_X10 rfl (fun l D cT z0 ks => kX10_nights N l D cT z0 ks x1 (xs (x3 + (1 : Int32)).toNatClampNeg) (xs (x3 + (2 : Int32)).toNatClampNeg) (xs (x3 + (3 : Int32)).toNatClampNeg) (xs (x3 + (4 : Int32)).toNatClampNeg) u) (by decide) (by decide) (by omega) (by omega) (Nat.le_of_ble_eq_true rfl) rfl rfl dL_law_813 (fun r98 u99 => ?_)
        refine jf_aload_n hX dL_law_816 2 rfl ?_
        refine jf_aload_n hX dL_law_817 0 rfl ?_
        refine jf_iload_n hX dL_law_818 3 rfl ?_
        refine jf_iconst (v := 1) hX dL_law_819 (by decide) ?_
        refine jf_iadd hX dL_law_820 ?_
        refine jf_sld hX hB dL_law_821 ?_
        refine jf_aload_n hX dL_law_822 0 rfl ?_
        refine jf_iload_n hX dL_law_823 3 rfl ?_
        refine jf_iconst (v := 2) hX dL_law_824 (by decide) ?_
        refine jf_iadd hX dL_law_825 ?_
        refine jf_sld hX hB dL_law_826 ?_
        refine jf_aload_n hX dL_law_827 0 rfl ?_
        refine jf_iload_n hX dL_law_828 3 rfl ?_
        refine jf_iconst (v := 3) hX dL_law_829 (by decide) ?_
        refine jf_iadd hX dL_law_830 ?_
        refine jf_sld hX hB dL_law_831 ?_
        refine jf_aload_n hX dL_law_832 0 rfl ?_
        refine jf_iload_n hX dL_law_833 3 rfl ?_
        refine jf_iconst (v := 4) hX dL_law_834 (by decide) ?_
        refine jf_iadd hX dL_law_835 ?_
        refine jf_sld hX hB dL_law_836 ?_
        refine jf_callV (As := [.int (xs (x3 + (1 : Int32)).toNatClampNeg), .int (xs (x3 + (2 : Int32)).toNatClampNeg), .int (xs (x3 + (3 : Int32)).toNatClampNeg), .int (xs (x3 + (4 : Int32)).toNatClampNeg)]) (st := [.int r98]) hX mo_X11_nights wml_995 winst_996 wsel_997 11 ck_X11 rfl (fun l D cT z0 ks => kX11_nights N l D cT z0 ks x2 (xs (x3 + (1 : Int32)).toNatClampNeg) (xs (x3 + (2 : Int32)).toNatClampNeg) (xs (x3 + (3 : Int32)).toNatClampNeg) (xs (x3 + (4 : Int32)).toNatClampNeg) u99) (by decide) (by decide) (by omega) (by omega) (Nat.le_of_ble_eq_true rfl) rfl rfl dL_law_837 (fun r100 u101 => ?_)
        refine jf_icmp_eq (tgt := 1086) hX dL_law_840 (by decide) ?_ ?_
        · refine jf_iinc (v := 6) (lv' := [(3, .int (x3 + (6 : Int32))), (0, .ref b), (1, .ref x1), (2, .ref x2)]) hX dL_law_1086 3 rfl (by decide) (by decide) rfl ?_
          refine jf_goto (tgt := 18) hX dL_law_1089 (by decide) ?_
          refine jf_lv [1, 2, 3, 0] rfl ?_
          exact hrec18 _ _ (by omega) (by omega) x1 x2 (x3 + (6 : Int32)) u101
        · refine jf_iconst (v := 0) hX dL_law_843 (by decide) ?_
          exact jf_lret0
      refine jf_tcase (k := 21) (kv := 21) (tgt := 845) hX dL_law_33 rfl (by decide) (by decide) rfl (by decide) ?_ (fun hn21 => ?_)
      · refine jf_aload_n hX dL_law_845 1 rfl ?_
        refine jf_aload_n hX dL_law_846 0 rfl ?_
        refine jf_iload_n hX dL_law_847 3 rfl ?_
        refine jf_iconst (v := 1) hX dL_law_848 (by decide) ?_
        refine jf_iadd hX dL_law_849 ?_
        refine jf_sld hX hB dL_law_850 ?_
        refine jf_aload_n hX dL_law_851 0 rfl ?_
        refine jf_iload_n hX dL_law_852 3 rfl ?_
        refine jf_iconst (v := 2) hX dL_law_853 (by decide) ?_
        refine jf_iadd hX dL_law_854 ?_
        refine jf_sld hX hB dL_law_855 ?_
        refine jf_aload_n hX dL_law_856 0 rfl ?_
        refine jf_iload_n hX dL_law_857 3 rfl ?_
        refine jf_iconst (v := 3) hX dL_law_858 (by decide) ?_
        refine jf_iadd hX dL_law_859 ?_
        refine jf_sld hX hB dL_law_860 ?_
        refine jf_callV (As := [.int (xs (x3 + (1 : Int32)).toNatClampNeg), .int (xs (x3 + (2 : Int32)).toNatClampNeg), .int (xs (x3 + (3 : Int32)).toNatClampNeg)]) (st := []) hX mo_X10_turned wml_998 winst_999 wsel_1000 10 ck_X10 rfl (fun l D cT z0 ks => kX10_turned N l D cT z0 ks x1 (xs (x3 + (1 : Int32)).toNatClampNeg) (xs (x3 + (2 : Int32)).toNatClampNeg) (xs (x3 + (3 : Int32)).toNatClampNeg) u) (by decide) (by decide) (by omega) (by omega) (Nat.le_of_ble_eq_true rfl) rfl rfl dL_law_861 (fun r102 u103 => ?_)
        refine jf_aload_n hX dL_law_864 2 rfl ?_
        refine jf_aload_n hX dL_law_865 0 rfl ?_
        refine jf_iload_n hX dL_law_866 3 rfl ?_
        refine jf_iconst (v := 1) hX dL_law_867 (by decide) ?_
        refine jf_iadd hX dL_law_868 ?_
        refine jf_sld hX hB dL_law_869 ?_
        refine jf_aload_n hX dL_law_870 0 rfl ?_
        refine jf_iload_n hX dL_law_871 3 rfl ?_
        refine jf_iconst (v := 2) hX dL_law_872 (by decide) ?_
        refine jf_iadd hX dL_law_873 ?_
        refine jf_sld hX hB dL_law_874 ?_
        refine jf_aload_n hX dL_law_875 0 rfl ?_
        refine jf_iload_n hX dL_law_876 3 rfl ?_
        refine jf_iconst (v := 3) hX dL_law_877 (by decide) ?_
        refine jf_iadd hX dL_law_878 ?_
        refine jf_sld hX hB dL_law_879 ?_
        refine jf_callV (As := [.int (xs (x3 + (1 : Int32)).toNatClampNeg), .int (xs (x3 + (2 : Int32)).toNatClampNeg), .int (xs (x3 + (3 : Int32)).toNatClampNeg)]) (st := [.int r102]) hX mo_X11_turned wml_1001 winst_1002 wsel_1003 11 ck_X11 rfl (fun l D cT z0 ks => kX11_turned N l D cT z0 ks x2 (xs (x3 + (1 : Int32)).toNatClampNeg) (xs (x3 + (2 : Int32)).toNatClampNeg) (xs (x3 + (3 : Int32)).toNatClampNeg) u103) (by decide) (by decide) (by omega) (by omega) (Nat.le_of_ble_eq_true rfl) rfl rfl dL_law_880 (fun r104 u105 => ?_)
        refine jf_icmp_eq (tgt := 1086) hX dL_law_883 (by decide) ?_ ?_
        · refine jf_iinc (v := 6) (lv' := [(3, .int (x3 + (6 : Int32))), (0, .ref b), (1, .ref x1), (2, .ref x2)]) hX dL_law_1086 3 rfl (by decide) (by decide) rfl ?_
          refine jf_goto (tgt := 18) hX dL_law_1089 (by decide) ?_
          refine jf_lv [1, 2, 3, 0] rfl ?_
          exact hrec18 _ _ (by omega) (by omega) x1 x2 (x3 + (6 : Int32)) u105
        · refine jf_iconst (v := 0) hX dL_law_886 (by decide) ?_
          exact jf_lret0
      refine jf_tcase (k := 22) (kv := 22) (tgt := 888) hX dL_law_33 rfl (by decide) (by decide) rfl (by decide) ?_ (fun hn22 => ?_)
      · refine jf_aload_n hX dL_law_888 1 rfl ?_
        refine jf_aload_n hX dL_law_889 0 rfl ?_
        refine jf_iload_n hX dL_law_890 3 rfl ?_
        refine jf_iconst (v := 1) hX dL_law_891 (by decide) ?_
        refine jf_iadd hX dL_law_892 ?_
        refine jf_sld hX hB dL_law_893 ?_
        refine jf_aload_n hX dL_law_894 0 rfl ?_
        refine jf_iload_n hX dL_law_895 3 rfl ?_
        refine jf_iconst (v := 2) hX dL_law_896 (by decide) ?_
        refine jf_iadd hX dL_law_897 ?_
        refine jf_sld hX hB dL_law_898 ?_
        refine jf_aload_n hX dL_law_899 0 rfl ?_
        refine jf_iload_n hX dL_law_900 3 rfl ?_
        refine jf_iconst (v := 3) hX dL_law_901 (by decide) ?_
        refine jf_iadd hX dL_law_902 ?_
        refine jf_sld hX hB dL_law_903 ?_
        refine jf_aload_n hX dL_law_904 0 rfl ?_
        refine jf_iload_n hX dL_law_905 3 rfl ?_
        refine jf_iconst (v := 4) hX dL_law_906 (by decide) ?_
        refine jf_iadd hX dL_law_907 ?_
        refine jf_sld hX hB dL_law_908 ?_
        refine jf_callV (As := [.int (xs (x3 + (1 : Int32)).toNatClampNeg), .int (xs (x3 + (2 : Int32)).toNatClampNeg), .int (xs (x3 + (3 : Int32)).toNatClampNeg), .int (xs (x3 + (4 : Int32)).toNatClampNeg)]) (st := []) hX mo_X10_spite wml_1004 winst_1005 wsel_1006 10 ck_X10 rfl (fun l D cT z0 ks => kX10_spite N l D cT z0 ks x1 (xs (x3 + (1 : Int32)).toNatClampNeg) (xs (x3 + (2 : Int32)).toNatClampNeg) (xs (x3 + (3 : Int32)).toNatClampNeg) (xs (x3 + (4 : Int32)).toNatClampNeg) u) (by decide) (by decide) (by omega) (by omega) (Nat.le_of_ble_eq_true rfl) rfl rfl dL_law_909 (fun r106 u107 => ?_)
        refine jf_aload_n hX dL_law_912 2 rfl ?_
        refine jf_aload_n hX dL_law_913 0 rfl ?_
        refine jf_iload_n hX dL_law_914 3 rfl ?_
        refine jf_iconst (v := 1) hX dL_law_915 (by decide) ?_
        refine jf_iadd hX dL_law_916 ?_
        refine jf_sld hX hB dL_law_917 ?_
        refine jf_aload_n hX dL_law_918 0 rfl ?_
        refine jf_iload_n hX dL_law_919 3 rfl ?_
        refine jf_iconst (v := 2) hX dL_law_920 (by decide) ?_
        refine jf_iadd hX dL_law_921 ?_
        refine jf_sld hX hB dL_law_922 ?_
        refine jf_aload_n hX dL_law_923 0 rfl ?_
        refine jf_iload_n hX dL_law_924 3 rfl ?_
        refine jf_iconst (v := 3) hX dL_law_925 (by decide) ?_
        refine jf_iadd hX dL_law_926 ?_
        refine jf_sld hX hB dL_law_927 ?_
        refine jf_aload_n hX dL_law_928 0 rfl ?_
        refine jf_iload_n hX dL_law_929 3 rfl ?_
        refine jf_iconst (v := 4) hX dL_law_930 (by decide) ?_
        refine jf_iadd hX dL_law_931 ?_
        refine jf_sld hX hB dL_law_932 ?_
        refine jf_callV (As := [.int (xs (x3 + (1 : Int32)).toNatClampNeg), .int (xs (x3 + (2 : Int32)).toNatClampNeg), .int (xs (x3 + (3 : Int32)).toNatClampNeg), .int (xs (x3 + (4 : Int32)).toNatClampNeg)]) (st := [.int r106]) hX mo_X11_spite wml_1007 winst_1008 wsel_1009 11 ck_X11 rfl (fun l D cT z0 ks => kX11_spite N l D cT z0 ks x2 (xs (x3 + (1 : Int32)).toNatClampNeg) (xs (x3 + (2 : Int32)).toNatClampNeg) (xs (x3 + (3 : Int32)).toNatClampNeg) (xs (x3 + (4 : Int32)).toNatClampNeg) u107) (by decide) (by decide) (by omega) (by omega) (Nat.le_of_ble_eq_true rfl) rfl rfl dL_law_933 (fun r108 u109 => ?_)
        refine jf_icmp_eq (tgt := 1086) hX dL_law_936 (by decide) ?_ ?_
        · refine jf_iinc (v := 6) (lv' := [(3, .int (x3 + (6 : Int32))), (0, .ref b), (1, .ref x1), (2, .ref x2)]) hX dL_law_1086 3 rfl (by decide) (by decide) rfl ?_
          refine jf_goto (tgt := 18) hX dL_law_1089 (by decide) ?_
          refine jf_lv [1, 2, 3, 0] rfl ?_
          exact hrec18 _ _ (by omega) (by omega) x1 x2 (x3 + (6 : Int32)) u109
        · refine jf_iconst (v := 0) hX dL_law_939 (by decide) ?_
          exact jf_lret0
      refine jf_tcase (k := 23) (kv := 23) (tgt := 941) hX dL_law_33 rfl (by decide) (by decide) rfl (by decide) ?_ (fun hn23 => ?_)
      · refine jf_aload_n hX dL_law_941 1 rfl ?_
        refine jf_aload_n hX dL_law_942 0 rfl ?_
        refine jf_iload_n hX dL_law_943 3 rfl ?_
        refine jf_iconst (v := 1) hX dL_law_944 (by decide) ?_
        refine jf_iadd hX dL_law_945 ?_
        refine jf_sld hX hB dL_law_946 ?_
        refine jf_callV (As := [.int (xs (x3 + (1 : Int32)).toNatClampNeg)]) (st := []) hX mo_X10_seed wml_1010 winst_1011 wsel_1012 10 ck_X10 rfl (fun l D cT z0 ks => kX10_seed N l D cT z0 ks x1 (xs (x3 + (1 : Int32)).toNatClampNeg) u) (by decide) (by decide) (by omega) (by omega) (Nat.le_of_ble_eq_true rfl) rfl rfl dL_law_947 (fun r110 u111 => ?_)
        refine jf_aload_n hX dL_law_950 2 rfl ?_
        refine jf_aload_n hX dL_law_951 0 rfl ?_
        refine jf_iload_n hX dL_law_952 3 rfl ?_
        refine jf_iconst (v := 1) hX dL_law_953 (by decide) ?_
        refine jf_iadd hX dL_law_954 ?_
        refine jf_sld hX hB dL_law_955 ?_
        refine jf_callV (As := [.int (xs (x3 + (1 : Int32)).toNatClampNeg)]) (st := [.int r110]) hX mo_X11_seed wml_1013 winst_1014 wsel_1015 11 ck_X11 rfl (fun l D cT z0 ks => kX11_seed N l D cT z0 ks x2 (xs (x3 + (1 : Int32)).toNatClampNeg) u111) (by decide) (by decide) (by omega) (by omega) (Nat.le_of_ble_eq_true rfl) rfl rfl dL_law_956 (fun r112 u113 => ?_)
        refine jf_icmp_eq (tgt := 1086) hX dL_law_959 (by decide) ?_ ?_
        · refine jf_iinc (v := 6) (lv' := [(3, .int (x3 + (6 : Int32))), (0, .ref b), (1, .ref x1), (2, .ref x2)]) hX dL_law_1086 3 rfl (by decide) (by decide) rfl ?_
          refine jf_goto (tgt := 18) hX dL_law_1089 (by decide) ?_
          refine jf_lv [1, 2, 3, 0] rfl ?_
          exact hrec18 _ _ (by omega) (by omega) x1 x2 (x3 + (6 : Int32)) u113
        · refine jf_iconst (v := 0) hX dL_law_962 (by decide) ?_
          exact jf_lret0
      refine jf_tcase (k := 24) (kv := 24) (tgt := 964) hX dL_law_33 rfl (by decide) (by decide) rfl (by decide) ?_ (fun hn24 => ?_)
      · refine jf_aload_n hX dL_law_964 1 rfl ?_
        refine jf_aload_n hX dL_law_965 0 rfl ?_
        refine jf_iload_n hX dL_law_966 3 rfl ?_
        refine jf_iconst (v := 1) hX dL_law_967 (by decide) ?_
        refine jf_iadd hX dL_law_968 ?_
        refine jf_sld hX hB dL_law_969 ?_
        refine jf_aload_n hX dL_law_970 0 rfl ?_
        refine jf_iload_n hX dL_law_971 3 rfl ?_
        refine jf_iconst (v := 2) hX dL_law_972 (by decide) ?_
        refine jf_iadd hX dL_law_973 ?_
        refine jf_sld hX hB dL_law_974 ?_
        refine jf_aload_n hX dL_law_975 0 rfl ?_
        refine jf_iload_n hX dL_law_976 3 rfl ?_
        refine jf_iconst (v := 3) hX dL_law_977 (by decide) ?_
        refine jf_iadd hX dL_law_978 ?_
        refine jf_sld hX hB dL_law_979 ?_
        refine jf_aload_n hX dL_law_980 0 rfl ?_
        refine jf_iload_n hX dL_law_981 3 rfl ?_
        refine jf_iconst (v := 4) hX dL_law_982 (by decide) ?_
        refine jf_iadd hX dL_law_983 ?_
        refine jf_sld hX hB dL_law_984 ?_
        refine jf_callV (As := [.int (xs (x3 + (1 : Int32)).toNatClampNeg), .int (xs (x3 + (2 : Int32)).toNatClampNeg), .int (xs (x3 + (3 : Int32)).toNatClampNeg), .int (xs (x3 + (4 : Int32)).toNatClampNeg)]) (st := []) hX mo_X10_lives wml_1016 winst_1017 wsel_1018 10 ck_X10 rfl (fun l D cT z0 ks => kX10_lives N l D cT z0 ks x1 (xs (x3 + (1 : Int32)).toNatClampNeg) (xs (x3 + (2 : Int32)).toNatClampNeg) (xs (x3 + (3 : Int32)).toNatClampNeg) (xs (x3 + (4 : Int32)).toNatClampNeg) u) (by decide) (by decide) (by omega) (by omega) (Nat.le_of_ble_eq_true rfl) rfl rfl dL_law_985 (fun r114 u115 => ?_)
        refine jf_aload_n hX dL_law_988 2 rfl ?_
        refine jf_aload_n hX dL_law_989 0 rfl ?_
        refine jf_iload_n hX dL_law_990 3 rfl ?_
        refine jf_iconst (v := 1) hX dL_law_991 (by decide) ?_
        refine jf_iadd hX dL_law_992 ?_
        refine jf_sld hX hB dL_law_993 ?_
        refine jf_aload_n hX dL_law_994 0 rfl ?_
        refine jf_iload_n hX dL_law_995 3 rfl ?_
        refine jf_iconst (v := 2) hX dL_law_996 (by decide) ?_
        refine jf_iadd hX dL_law_997 ?_
        refine jf_sld hX hB dL_law_998 ?_
        refine jf_aload_n hX dL_law_999 0 rfl ?_
        refine jf_iload_n hX dL_law_1000 3 rfl ?_
        refine jf_iconst (v := 3) hX dL_law_1001 (by decide) ?_
        refine jf_iadd hX dL_law_1002 ?_
        refine jf_sld hX hB dL_law_1003 ?_
        refine jf_aload_n hX dL_law_1004 0 rfl ?_
        refine jf_iload_n hX dL_law_1005 3 rfl ?_
        refine jf_iconst (v := 4) hX dL_law_1006 (by decide) ?_
        refine jf_iadd hX dL_law_1007 ?_
        refine jf_sld hX hB dL_law_1008 ?_
        refine jf_callV (As := [.int (xs (x3 + (1 : Int32)).toNatClampNeg), .int (xs (x3 + (2 : Int32)).toNatClampNeg), .int (xs (x3 + (3 : Int32)).toNatClampNeg), .int (xs (x3 + (4 : Int32)).toNatClampNeg)]) (st := [.int r114]) hX mo_X11_lives wml_1019 winst_1020 wsel_1021 11 ck_X11 rfl (fun l D cT z0 ks => kX11_lives N l D cT z0 ks x2 (xs (x3 + (1 : Int32)).toNatClampNeg) (xs (x3 + (2 : Int32)).toNatClampNeg) (xs (x3 + (3 : Int32)).toNatClampNeg) (xs (x3 + (4 : Int32)).toNatClampNeg) u115) (by decide) (by decide) (by omega) (by omega) (Nat.le_of_ble_eq_true rfl) rfl rfl dL_law_1009 (fun r116 u117 => ?_)
        refine jf_icmp_eq (tgt := 1086) hX dL_law_1012 (by decide) ?_ ?_
        · refine jf_iinc (v := 6) (lv' := [(3, .int (x3 + (6 : Int32))), (0, .ref b), (1, .ref x1), (2, .ref x2)]) hX dL_law_1086 3 rfl (by decide) (by decide) rfl ?_
          refine jf_goto (tgt := 18) hX dL_law_1089 (by decide) ?_
          refine jf_lv [1, 2, 3, 0] rfl ?_
          exact hrec18 _ _ (by omega) (by omega) x1 x2 (x3 + (6 : Int32)) u117
        · refine jf_iconst (v := 0) hX dL_law_1015 (by decide) ?_
          exact jf_lret0
      refine jf_tcase (k := 25) (kv := 25) (tgt := 1017) hX dL_law_33 rfl (by decide) (by decide) rfl (by decide) ?_ (fun hn25 => ?_)
      · refine jf_aload_n hX dL_law_1017 1 rfl ?_
        refine jf_aload_n hX dL_law_1018 0 rfl ?_
        refine jf_iload_n hX dL_law_1019 3 rfl ?_
        refine jf_iconst (v := 1) hX dL_law_1020 (by decide) ?_
        refine jf_iadd hX dL_law_1021 ?_
        refine jf_sld hX hB dL_law_1022 ?_
        refine jf_callV (As := [.int (xs (x3 + (1 : Int32)).toNatClampNeg)]) (st := []) hX mo_X10_count wml_1022 winst_1023 wsel_1024 10 ck_X10 rfl (fun l D cT z0 ks => kX10_count N l D cT z0 ks x1 (xs (x3 + (1 : Int32)).toNatClampNeg) u) (by decide) (by decide) (by omega) (by omega) (Nat.le_of_ble_eq_true rfl) rfl rfl dL_law_1023 (fun r118 u119 => ?_)
        refine jf_aload_n hX dL_law_1026 2 rfl ?_
        refine jf_aload_n hX dL_law_1027 0 rfl ?_
        refine jf_iload_n hX dL_law_1028 3 rfl ?_
        refine jf_iconst (v := 1) hX dL_law_1029 (by decide) ?_
        refine jf_iadd hX dL_law_1030 ?_
        refine jf_sld hX hB dL_law_1031 ?_
        refine jf_callV (As := [.int (xs (x3 + (1 : Int32)).toNatClampNeg)]) (st := [.int r118]) hX mo_X11_count wml_1025 winst_1026 wsel_1027 11 ck_X11 rfl (fun l D cT z0 ks => kX11_count N l D cT z0 ks x2 (xs (x3 + (1 : Int32)).toNatClampNeg) u119) (by decide) (by decide) (by omega) (by omega) (Nat.le_of_ble_eq_true rfl) rfl rfl dL_law_1032 (fun r120 u121 => ?_)
        refine jf_icmp_eq (tgt := 1086) hX dL_law_1035 (by decide) ?_ ?_
        · refine jf_iinc (v := 6) (lv' := [(3, .int (x3 + (6 : Int32))), (0, .ref b), (1, .ref x1), (2, .ref x2)]) hX dL_law_1086 3 rfl (by decide) (by decide) rfl ?_
          refine jf_goto (tgt := 18) hX dL_law_1089 (by decide) ?_
          refine jf_lv [1, 2, 3, 0] rfl ?_
          exact hrec18 _ _ (by omega) (by omega) x1 x2 (x3 + (6 : Int32)) u121
        · refine jf_iconst (v := 0) hX dL_law_1038 (by decide) ?_
          exact jf_lret0
      refine jf_tcase (k := 26) (kv := 26) (tgt := 1040) hX dL_law_33 rfl (by decide) (by decide) rfl (by decide) ?_ (fun hn26 => ?_)
      · refine jf_aload_n hX dL_law_1040 1 rfl ?_
        refine jf_aload_n hX dL_law_1041 0 rfl ?_
        refine jf_iload_n hX dL_law_1042 3 rfl ?_
        refine jf_iconst (v := 1) hX dL_law_1043 (by decide) ?_
        refine jf_iadd hX dL_law_1044 ?_
        refine jf_sld hX hB dL_law_1045 ?_
        refine jf_callV (As := [.int (xs (x3 + (1 : Int32)).toNatClampNeg)]) (st := []) hX mo_X10_image wml_1028 winst_1029 wsel_1030 10 ck_X10 rfl (fun l D cT z0 ks => kX10_image N l D cT z0 ks x1 (xs (x3 + (1 : Int32)).toNatClampNeg) u) (by decide) (by decide) (by omega) (by omega) (Nat.le_of_ble_eq_true rfl) rfl rfl dL_law_1046 (fun r122 u123 => ?_)
        refine jf_aload_n hX dL_law_1049 2 rfl ?_
        refine jf_aload_n hX dL_law_1050 0 rfl ?_
        refine jf_iload_n hX dL_law_1051 3 rfl ?_
        refine jf_iconst (v := 1) hX dL_law_1052 (by decide) ?_
        refine jf_iadd hX dL_law_1053 ?_
        refine jf_sld hX hB dL_law_1054 ?_
        refine jf_callV (As := [.int (xs (x3 + (1 : Int32)).toNatClampNeg)]) (st := [.int r122]) hX mo_X11_image wml_1031 winst_1032 wsel_1033 11 ck_X11 rfl (fun l D cT z0 ks => kX11_image N l D cT z0 ks x2 (xs (x3 + (1 : Int32)).toNatClampNeg) u123) (by decide) (by decide) (by omega) (by omega) (Nat.le_of_ble_eq_true rfl) rfl rfl dL_law_1055 (fun r124 u125 => ?_)
        refine jf_icmp_eq (tgt := 1086) hX dL_law_1058 (by decide) ?_ ?_
        · refine jf_iinc (v := 6) (lv' := [(3, .int (x3 + (6 : Int32))), (0, .ref b), (1, .ref x1), (2, .ref x2)]) hX dL_law_1086 3 rfl (by decide) (by decide) rfl ?_
          refine jf_goto (tgt := 18) hX dL_law_1089 (by decide) ?_
          refine jf_lv [1, 2, 3, 0] rfl ?_
          exact hrec18 _ _ (by omega) (by omega) x1 x2 (x3 + (6 : Int32)) u125
        · refine jf_iconst (v := 0) hX dL_law_1061 (by decide) ?_
          exact jf_lret0
      refine jf_tcase (k := 27) (kv := 27) (tgt := 1063) hX dL_law_33 rfl (by decide) (by decide) rfl (by decide) ?_ (fun hn27 => ?_)
      · refine jf_aload_n hX dL_law_1063 1 rfl ?_
        refine jf_aload_n hX dL_law_1064 0 rfl ?_
        refine jf_iload_n hX dL_law_1065 3 rfl ?_
        refine jf_iconst (v := 1) hX dL_law_1066 (by decide) ?_
        refine jf_iadd hX dL_law_1067 ?_
        refine jf_sld hX hB dL_law_1068 ?_
        refine jf_callV (As := [.int (xs (x3 + (1 : Int32)).toNatClampNeg)]) (st := []) hX mo_X10_back wml_1034 winst_1035 wsel_1036 10 ck_X10 rfl (fun l D cT z0 ks => kX10_back N l D cT z0 ks x1 (xs (x3 + (1 : Int32)).toNatClampNeg) u) (by decide) (by decide) (by omega) (by omega) (Nat.le_of_ble_eq_true rfl) rfl rfl dL_law_1069 (fun r126 u127 => ?_)
        refine jf_aload_n hX dL_law_1072 2 rfl ?_
        refine jf_aload_n hX dL_law_1073 0 rfl ?_
        refine jf_iload_n hX dL_law_1074 3 rfl ?_
        refine jf_iconst (v := 1) hX dL_law_1075 (by decide) ?_
        refine jf_iadd hX dL_law_1076 ?_
        refine jf_sld hX hB dL_law_1077 ?_
        refine jf_callV (As := [.int (xs (x3 + (1 : Int32)).toNatClampNeg)]) (st := [.int r126]) hX mo_X11_back wml_1037 winst_1038 wsel_1039 11 ck_X11 rfl (fun l D cT z0 ks => kX11_back N l D cT z0 ks x2 (xs (x3 + (1 : Int32)).toNatClampNeg) u127) (by decide) (by decide) (by omega) (by omega) (Nat.le_of_ble_eq_true rfl) rfl rfl dL_law_1078 (fun r128 u129 => ?_)
        refine jf_icmp_eq (tgt := 1086) hX dL_law_1081 (by decide) ?_ ?_
        · refine jf_iinc (v := 6) (lv' := [(3, .int (x3 + (6 : Int32))), (0, .ref b), (1, .ref x1), (2, .ref x2)]) hX dL_law_1086 3 rfl (by decide) (by decide) rfl ?_
          refine jf_goto (tgt := 18) hX dL_law_1089 (by decide) ?_
          refine jf_lv [1, 2, 3, 0] rfl ?_
          exact hrec18 _ _ (by omega) (by omega) x1 x2 (x3 + (6 : Int32)) u129
        · refine jf_iconst (v := 0) hX dL_law_1084 (by decide) ?_
          exact jf_lret0
      refine jf_tdef (tgt := 1086) hX dL_law_33 (by rcases Int.lt_or_le v1.toInt (0) with h9 | h9; exact Or.inl h9; exact Or.inr (istep (istep (istep (istep (istep (istep (istep (istep (istep (istep (istep (istep (istep (istep (istep (istep (istep (istep (istep (istep (istep (istep (istep (istep (istep (istep (istep (istep h9 (lv_neT (a := 0) hn0 rfl)) (lv_neT (a := 1) hn1 rfl)) (lv_neT (a := 2) hn2 rfl)) (lv_neT (a := 3) hn3 rfl)) (lv_neT (a := 4) hn4 rfl)) (lv_neT (a := 5) hn5 rfl)) (lv_neT (a := 6) hn6 rfl)) (lv_neT (a := 7) hn7 rfl)) (lv_neT (a := 8) hn8 rfl)) (lv_neT (a := 9) hn9 rfl)) (lv_neT (a := 10) hn10 rfl)) (lv_neT (a := 11) hn11 rfl)) (lv_neT (a := 12) hn12 rfl)) (lv_neT (a := 13) hn13 rfl)) (lv_neT (a := 14) hn14 rfl)) (lv_neT (a := 15) hn15 rfl)) (lv_neT (a := 16) hn16 rfl)) (lv_neT (a := 17) hn17 rfl)) (lv_neT (a := 18) hn18 rfl)) (lv_neT (a := 19) hn19 rfl)) (lv_neT (a := 20) hn20 rfl)) (lv_neT (a := 21) hn21 rfl)) (lv_neT (a := 22) hn22 rfl)) (lv_neT (a := 23) hn23 rfl)) (lv_neT (a := 24) hn24 rfl)) (lv_neT (a := 25) hn25 rfl)) (lv_neT (a := 26) hn26 rfl)) (lv_neT (a := 27) hn27 rfl))) (by decide) ?_
      refine jf_iinc (v := 6) (lv' := [(3, .int (x3 + (6 : Int32))), (0, .ref b), (1, .ref x1), (2, .ref x2)]) hX dL_law_1086 3 rfl (by decide) (by decide) rfl ?_
      refine jf_goto (tgt := 18) hX dL_law_1089 (by decide) ?_
      refine jf_lv [1, 2, 3, 0] rfl ?_
      exact hrec18 _ _ (by omega) (by omega) x1 x2 (x3 + (6 : Int32)) u
set_option maxRecDepth 20000 in
set_option maxHeartbeats 8000000 in
def fL_law (N L : Nat) (xs : Nat → Int32) (u : SG) : Option (Int32 × SG) := nw u (sNew u 11 0) fun q1 u2 => (cla (u2.1 + 192) (fX10_init N q1 u2) fun r3 u4 => (nw u4 (sNew u4 12 0) fun q5 u6 => (cla (u6.1 + 19) (fX11_init N q5 u6) fun r7 u8 => (gL_law_18 N L xs N q1 q5 (0 : Int32) u8))))
set_option maxRecDepth 20000 in
set_option maxHeartbeats 8000000 in
theorem jL_law {p : Program} {l : Launch} {e : Env} {s : State} {m : MethodId} {b : Nat} {below : List Frame} {meth : Method} {c : Code} {D : va_G} {cT : Nat → ClassId} {z0 : Nat} {ks : Nat × Nat} {L : Nat} {xs : Nat → Int32} (hX : Cx (p, l, e, room_1, s, m, #[.ref b], below, meth, c, D, cT, z0, ks) yL_law code 4 ret 1400 600000 7302250) (hB : XB (p, l, e, room_1, s, m, #[.ref b], below, meth, c, D, cT, z0, ks) b L xs) (hz : z0 = s.heap.size) (N : Nat) (hN1 : 2 * N ≤ 500000) (hN2 : 413 * N ≤ 7000000) (u : SG) : JF (p, l, e, room_1, s, m, #[.ref b], below, meth, c, D, cT, z0, ks) True 4 0 0 (lwQ (p, l, e, room_1, s, m, #[.ref b], below, meth, c, D, cT, z0, ks)) 0 [(0, .ref b)] [] u (fL_law N L xs u) := by
  unfold fL_law
  refine jf_new hX trivial 10 ck_X10 df_X10 wclk_862 winsta_863 wini_864 (by decide) (by decide) dL_law_0 (fun q1 u2 => ?_)
  refine jf_dup hX dL_law_3 rfl ?_
  refine jf_callI (As := []) (st := [.ref q1]) hX mo_X10_init wml_865 winst_866 rfl rfl rfl (fun l D cT z0 ks => kX10_init N l D cT z0 ks q1 u2) (by decide) (by decide) (by omega) (by omega) (Nat.le_of_ble_eq_true rfl) rfl dL_law_4 (fun r3 u4 => ?_)
  refine jf_astore_n (lv' := [(1, .ref q1), (0, .ref b)]) hX dL_law_7 rfl (by decide) rfl ?_
  refine jf_new hX trivial 11 ck_X11 df_X11 wclk_867 winsta_868 wini_869 (by decide) (by decide) dL_law_8 (fun q5 u6 => ?_)
  refine jf_dup hX dL_law_11 rfl ?_
  refine jf_callI (As := []) (st := [.ref q5]) hX mo_X11_init wml_870 winst_871 rfl rfl rfl (fun l D cT z0 ks => kX11_init N l D cT z0 ks q5 u6) (by decide) (by decide) (by omega) (by omega) (Nat.le_of_ble_eq_true rfl) rfl dL_law_12 (fun r7 u8 => ?_)
  refine jf_astore_n (lv' := [(2, .ref q5), (1, .ref q1), (0, .ref b)]) hX dL_law_15 rfl (by decide) rfl ?_
  refine jf_iconst (v := 0) hX dL_law_16 (by decide) ?_
  refine jf_istore_n (lv' := [(3, .int (0 : Int32)), (2, .ref q5), (1, .ref q1), (0, .ref b)]) hX dL_law_17 rfl (by decide) rfl ?_
  refine jf_weak ?_
  refine jf_lv [3, 2, 1, 0] rfl ?_
  exact jgL_law_18 hX hB hz N N _ _ (by omega) (by omega) q1 q5 (0 : Int32) u8
