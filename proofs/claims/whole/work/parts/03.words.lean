theorem m_119 : (.fieldLink "LoopInduction$Tape" 9 "LoopInduction$Tape" "bytes" "[B" : Cond) ∈ allW := mem_all 119 (by decide +kernel) (by decide +kernel)
theorem m_120 : (.fieldLink "LoopInduction$Tape" 13 "LoopInduction$Tape" "size" "I" : Cond) ∈ allW := mem_all 120 (by decide +kernel) (by decide +kernel)
theorem m_121 : (.laysFinal "LoopInduction$Tape" "LoopInduction$Tape" "bytes" "[B" : Cond) ∈ allW := mem_all 121 (by decide +kernel) (by decide +kernel)
theorem m_123 : (.lays "LoopInduction$Tape" "LoopInduction$Tape" "size" "I" : Cond) ∈ allW := mem_all 123 (by decide +kernel) (by decide +kernel)
theorem m_140 : (.laysFinal "LoopInduction$Tokens" "LoopInduction$Tokens" "tape" "LLoopInduction$Tape;" : Cond) ∈ allW := mem_all 140 (by decide +kernel) (by decide +kernel)
theorem m_142 : (.laysFinal "LoopInduction$Tokens" "LoopInduction$Tokens" "kinds" "[I" : Cond) ∈ allW := mem_all 142 (by decide +kernel) (by decide +kernel)
theorem m_144 : (.laysFinal "LoopInduction$Tokens" "LoopInduction$Tokens" "values" "[I" : Cond) ∈ allW := mem_all 144 (by decide +kernel) (by decide +kernel)
theorem m_146 : (.laysFinal "LoopInduction$Tokens" "LoopInduction$Tokens" "places" "[I" : Cond) ∈ allW := mem_all 146 (by decide +kernel) (by decide +kernel)
theorem m_148 : (.lays "LoopInduction$Tokens" "LoopInduction$Tokens" "count" "I" : Cond) ∈ allW := mem_all 148 (by decide +kernel) (by decide +kernel)
theorem m_150 : (.lays "LoopInduction$Tokens" "LoopInduction$Tokens" "start" "I" : Cond) ∈ allW := mem_all 150 (by decide +kernel) (by decide +kernel)
theorem m_152 : (.lays "LoopInduction$Tokens" "LoopInduction$Tokens" "stop" "I" : Cond) ∈ allW := mem_all 152 (by decide +kernel) (by decide +kernel)
theorem m_170 : (.laysFinal "LoopInduction$Code" "LoopInduction$Code" "steps" "[I" : Cond) ∈ allW := mem_all 170 (by decide +kernel) (by decide +kernel)
theorem m_172 : (.laysFinal "LoopInduction$Code" "LoopInduction$Code" "starts" "[I" : Cond) ∈ allW := mem_all 172 (by decide +kernel) (by decide +kernel)
theorem m_174 : (.laysFinal "LoopInduction$Code" "LoopInduction$Code" "stops" "[I" : Cond) ∈ allW := mem_all 174 (by decide +kernel) (by decide +kernel)
theorem m_176 : (.laysFinal "LoopInduction$Code" "LoopInduction$Code" "usedBits" "[I" : Cond) ∈ allW := mem_all 176 (by decide +kernel) (by decide +kernel)
theorem m_178 : (.laysFinal "LoopInduction$Code" "LoopInduction$Code" "stack" "[I" : Cond) ∈ allW := mem_all 178 (by decide +kernel) (by decide +kernel)
theorem m_180 : (.lays "LoopInduction$Code" "LoopInduction$Code" "size" "I" : Cond) ∈ allW := mem_all 180 (by decide +kernel) (by decide +kernel)
theorem m_182 : (.lays "LoopInduction$Code" "LoopInduction$Code" "section" "I" : Cond) ∈ allW := mem_all 182 (by decide +kernel) (by decide +kernel)
theorem m_184 : (.lays "LoopInduction$Code" "LoopInduction$Code" "height" "I" : Cond) ∈ allW := mem_all 184 (by decide +kernel) (by decide +kernel)
theorem m_200 : (.laysFinal "LoopInduction$Parser" "LoopInduction$Parser" "tokens" "LLoopInduction$Tokens;" : Cond) ∈ allW := mem_all 200 (by decide +kernel) (by decide +kernel)
theorem m_202 : (.laysFinal "LoopInduction$Parser" "LoopInduction$Parser" "code" "LLoopInduction$Code;" : Cond) ∈ allW := mem_all 202 (by decide +kernel) (by decide +kernel)
theorem m_204 : (.lays "LoopInduction$Parser" "LoopInduction$Parser" "current" "I" : Cond) ∈ allW := mem_all 204 (by decide +kernel) (by decide +kernel)
theorem m_206 : (.lays "LoopInduction$Parser" "LoopInduction$Parser" "faulty" "Z" : Cond) ∈ allW := mem_all 206 (by decide +kernel) (by decide +kernel)
theorem m_208 : (.lays "LoopInduction$Parser" "LoopInduction$Parser" "unaries" "I" : Cond) ∈ allW := mem_all 208 (by decide +kernel) (by decide +kernel)
theorem m_210 : (.lays "LoopInduction$Parser" "LoopInduction$Parser" "choices" "I" : Cond) ∈ allW := mem_all 210 (by decide +kernel) (by decide +kernel)
theorem m_212 : (.lays "LoopInduction$Parser" "LoopInduction$Parser" "guesses" "I" : Cond) ∈ allW := mem_all 212 (by decide +kernel) (by decide +kernel)
theorem m_227 : (.fieldLink "LoopInduction$Worklist" 9 "LoopInduction$Worklist" "items" "[I" : Cond) ∈ allW := mem_all 227 (by decide +kernel) (by decide +kernel)
theorem m_228 : (.fieldLink "LoopInduction$Worklist" 15 "LoopInduction$Worklist" "size" "I" : Cond) ∈ allW := mem_all 228 (by decide +kernel) (by decide +kernel)
theorem m_229 : (.laysFinal "LoopInduction$Worklist" "LoopInduction$Worklist" "items" "[I" : Cond) ∈ allW := mem_all 229 (by decide +kernel) (by decide +kernel)
theorem m_231 : (.lays "LoopInduction$Worklist" "LoopInduction$Worklist" "size" "I" : Cond) ∈ allW := mem_all 231 (by decide +kernel) (by decide +kernel)
theorem m_237 : (.laysFinal "LoopInduction$Scratch" "LoopInduction$Scratch" "one" "[I" : Cond) ∈ allW := mem_all 237 (by decide +kernel) (by decide +kernel)
theorem m_239 : (.laysFinal "LoopInduction$Scratch" "LoopInduction$Scratch" "two" "[I" : Cond) ∈ allW := mem_all 239 (by decide +kernel) (by decide +kernel)
theorem m_241 : (.laysFinal "LoopInduction$Scratch" "LoopInduction$Scratch" "work" "LLoopInduction$Worklist;" : Cond) ∈ allW := mem_all 241 (by decide +kernel) (by decide +kernel)
theorem m_263 : (.laysFinal "LoopInduction$Loop" "LoopInduction$Loop" "facts" "[I" : Cond) ∈ allW := mem_all 263 (by decide +kernel) (by decide +kernel)
theorem m_265 : (.laysFinal "LoopInduction$Loop" "LoopInduction$Loop" "turns" "[I" : Cond) ∈ allW := mem_all 265 (by decide +kernel) (by decide +kernel)
theorem m_267 : (.laysFinal "LoopInduction$Loop" "LoopInduction$Loop" "firstSources" "[I" : Cond) ∈ allW := mem_all 267 (by decide +kernel) (by decide +kernel)
theorem m_269 : (.laysFinal "LoopInduction$Loop" "LoopInduction$Loop" "sources" "[I" : Cond) ∈ allW := mem_all 269 (by decide +kernel) (by decide +kernel)
theorem m_271 : (.laysFinal "LoopInduction$Loop" "LoopInduction$Loop" "row" "[I" : Cond) ∈ allW := mem_all 271 (by decide +kernel) (by decide +kernel)
theorem m_273 : (.lays "LoopInduction$Loop" "LoopInduction$Loop" "choices" "I" : Cond) ∈ allW := mem_all 273 (by decide +kernel) (by decide +kernel)
theorem m_275 : (.lays "LoopInduction$Loop" "LoopInduction$Loop" "guesses" "I" : Cond) ∈ allW := mem_all 275 (by decide +kernel) (by decide +kernel)
theorem m_277 : (.lays "LoopInduction$Loop" "LoopInduction$Loop" "unaries" "I" : Cond) ∈ allW := mem_all 277 (by decide +kernel) (by decide +kernel)
theorem m_279 : (.lays "LoopInduction$Loop" "LoopInduction$Loop" "ranked" "Z" : Cond) ∈ allW := mem_all 279 (by decide +kernel) (by decide +kernel)
theorem m_306 : (.laysFinal "LoopInduction$Runs" "LoopInduction$Runs" "loop" "LLoopInduction$Loop;" : Cond) ∈ allW := mem_all 306 (by decide +kernel) (by decide +kernel)
theorem m_308 : (.laysFinal "LoopInduction$Runs" "LoopInduction$Runs" "levels" "[I" : Cond) ∈ allW := mem_all 308 (by decide +kernel) (by decide +kernel)
theorem m_310 : (.laysFinal "LoopInduction$Runs" "LoopInduction$Runs" "path" "[I" : Cond) ∈ allW := mem_all 310 (by decide +kernel) (by decide +kernel)
theorem m_312 : (.laysFinal "LoopInduction$Runs" "LoopInduction$Runs" "one" "[I" : Cond) ∈ allW := mem_all 312 (by decide +kernel) (by decide +kernel)
theorem m_314 : (.laysFinal "LoopInduction$Runs" "LoopInduction$Runs" "two" "[I" : Cond) ∈ allW := mem_all 314 (by decide +kernel) (by decide +kernel)
theorem m_316 : (.laysFinal "LoopInduction$Runs" "LoopInduction$Runs" "work" "LLoopInduction$Worklist;" : Cond) ∈ allW := mem_all 316 (by decide +kernel) (by decide +kernel)
theorem m_318 : (.lays "LoopInduction$Runs" "LoopInduction$Runs" "reached" "I" : Cond) ∈ allW := mem_all 318 (by decide +kernel) (by decide +kernel)
theorem m_320 : (.lays "LoopInduction$Runs" "LoopInduction$Runs" "greatestLevel" "I" : Cond) ∈ allW := mem_all 320 (by decide +kernel) (by decide +kernel)
theorem m_322 : (.lays "LoopInduction$Runs" "LoopInduction$Runs" "pathSize" "I" : Cond) ∈ allW := mem_all 322 (by decide +kernel) (by decide +kernel)
theorem m_338 : (.laysFinal "LoopInduction$Guesses" "LoopInduction$Guesses" "loop" "LLoopInduction$Loop;" : Cond) ∈ allW := mem_all 338 (by decide +kernel) (by decide +kernel)
theorem m_340 : (.laysFinal "LoopInduction$Guesses" "LoopInduction$Guesses" "rounds" "[I" : Cond) ∈ allW := mem_all 340 (by decide +kernel) (by decide +kernel)
theorem m_342 : (.laysFinal "LoopInduction$Guesses" "LoopInduction$Guesses" "one" "[I" : Cond) ∈ allW := mem_all 342 (by decide +kernel) (by decide +kernel)
theorem m_344 : (.laysFinal "LoopInduction$Guesses" "LoopInduction$Guesses" "two" "[I" : Cond) ∈ allW := mem_all 344 (by decide +kernel) (by decide +kernel)
theorem m_346 : (.lays "LoopInduction$Guesses" "LoopInduction$Guesses" "left" "I" : Cond) ∈ allW := mem_all 346 (by decide +kernel) (by decide +kernel)
theorem m_362 : (.laysFinal "LoopInduction$Futures" "LoopInduction$Futures" "loop" "LLoopInduction$Loop;" : Cond) ∈ allW := mem_all 362 (by decide +kernel) (by decide +kernel)
theorem m_364 : (.laysFinal "LoopInduction$Futures" "LoopInduction$Futures" "marks" "[I" : Cond) ∈ allW := mem_all 364 (by decide +kernel) (by decide +kernel)
theorem m_366 : (.laysFinal "LoopInduction$Futures" "LoopInduction$Futures" "open" "[I" : Cond) ∈ allW := mem_all 366 (by decide +kernel) (by decide +kernel)
theorem m_368 : (.laysFinal "LoopInduction$Futures" "LoopInduction$Futures" "work" "LLoopInduction$Worklist;" : Cond) ∈ allW := mem_all 368 (by decide +kernel) (by decide +kernel)
theorem m_381 : (.laysFinal "LoopInduction" "LoopInduction" "tape" "LLoopInduction$Tape;" : Cond) ∈ allW := mem_all 381 (by decide +kernel) (by decide +kernel)
theorem m_383 : (.laysFinal "LoopInduction" "LoopInduction" "tokens" "LLoopInduction$Tokens;" : Cond) ∈ allW := mem_all 383 (by decide +kernel) (by decide +kernel)
theorem m_385 : (.laysFinal "LoopInduction" "LoopInduction" "code" "LLoopInduction$Code;" : Cond) ∈ allW := mem_all 385 (by decide +kernel) (by decide +kernel)
theorem m_387 : (.laysFinal "LoopInduction" "LoopInduction" "parser" "LLoopInduction$Parser;" : Cond) ∈ allW := mem_all 387 (by decide +kernel) (by decide +kernel)
theorem m_389 : (.laysFinal "LoopInduction" "LoopInduction" "loop" "LLoopInduction$Loop;" : Cond) ∈ allW := mem_all 389 (by decide +kernel) (by decide +kernel)
theorem m_391 : (.laysFinal "LoopInduction" "LoopInduction" "runs" "LLoopInduction$Runs;" : Cond) ∈ allW := mem_all 391 (by decide +kernel) (by decide +kernel)
theorem m_393 : (.laysFinal "LoopInduction" "LoopInduction" "guesses" "LLoopInduction$Guesses;" : Cond) ∈ allW := mem_all 393 (by decide +kernel) (by decide +kernel)
theorem m_395 : (.laysFinal "LoopInduction" "LoopInduction" "futures" "LLoopInduction$Futures;" : Cond) ∈ allW := mem_all 395 (by decide +kernel) (by decide +kernel)
theorem m_397 : (.lays "LoopInduction" "LoopInduction" "loopGiven" "Z" : Cond) ∈ allW := mem_all 397 (by decide +kernel) (by decide +kernel)
theorem m_399 : (.lays "LoopInduction" "LoopInduction" "faultPlace" "I" : Cond) ∈ allW := mem_all 399 (by decide +kernel) (by decide +kernel)
theorem iC_LI {c0 : Cond} : ∀ w ∈ u_ws "LoopInduction" F_LI 10, w ∈ c0 :: allW := by
  intro w hw
  obtain ⟨k, hk, rfl⟩ := List.mem_map.mp hw
  have hk := List.mem_range.mp hk
  rcases (show k = 0 ∨ k = 1 ∨ k = 2 ∨ k = 3 ∨ k = 4 ∨ k = 5 ∨ k = 6 ∨ k = 7 ∨ k = 8 ∨ k = 9 by omega) with rfl | rfl | rfl | rfl | rfl | rfl | rfl | rfl | rfl | rfl
  · exact List.mem_cons_of_mem _ m_381
  · exact List.mem_cons_of_mem _ m_383
  · exact List.mem_cons_of_mem _ m_385
  · exact List.mem_cons_of_mem _ m_387
  · exact List.mem_cons_of_mem _ m_389
  · exact List.mem_cons_of_mem _ m_391
  · exact List.mem_cons_of_mem _ m_393
  · exact List.mem_cons_of_mem _ m_395
  · exact List.mem_cons_of_mem _ m_397
  · exact List.mem_cons_of_mem _ m_399
theorem iC_Code {c0 : Cond} : ∀ w ∈ u_ws "LoopInduction$Code" F_Code 8, w ∈ c0 :: allW := by
  intro w hw
  obtain ⟨k, hk, rfl⟩ := List.mem_map.mp hw
  have hk := List.mem_range.mp hk
  rcases (show k = 0 ∨ k = 1 ∨ k = 2 ∨ k = 3 ∨ k = 4 ∨ k = 5 ∨ k = 6 ∨ k = 7 by omega) with rfl | rfl | rfl | rfl | rfl | rfl | rfl | rfl
  · exact List.mem_cons_of_mem _ m_170
  · exact List.mem_cons_of_mem _ m_172
  · exact List.mem_cons_of_mem _ m_174
  · exact List.mem_cons_of_mem _ m_176
  · exact List.mem_cons_of_mem _ m_178
  · exact List.mem_cons_of_mem _ m_180
  · exact List.mem_cons_of_mem _ m_182
  · exact List.mem_cons_of_mem _ m_184
theorem iC_Fut {c0 : Cond} : ∀ w ∈ u_ws "LoopInduction$Futures" F_Fut 4, w ∈ c0 :: allW := by
  intro w hw
  obtain ⟨k, hk, rfl⟩ := List.mem_map.mp hw
  have hk := List.mem_range.mp hk
  rcases (show k = 0 ∨ k = 1 ∨ k = 2 ∨ k = 3 by omega) with rfl | rfl | rfl | rfl
  · exact List.mem_cons_of_mem _ m_362
  · exact List.mem_cons_of_mem _ m_364
  · exact List.mem_cons_of_mem _ m_366
  · exact List.mem_cons_of_mem _ m_368
theorem iC_Gues {c0 : Cond} : ∀ w ∈ u_ws "LoopInduction$Guesses" F_Gues 5, w ∈ c0 :: allW := by
  intro w hw
  obtain ⟨k, hk, rfl⟩ := List.mem_map.mp hw
  have hk := List.mem_range.mp hk
  rcases (show k = 0 ∨ k = 1 ∨ k = 2 ∨ k = 3 ∨ k = 4 by omega) with rfl | rfl | rfl | rfl | rfl
  · exact List.mem_cons_of_mem _ m_338
  · exact List.mem_cons_of_mem _ m_340
  · exact List.mem_cons_of_mem _ m_342
  · exact List.mem_cons_of_mem _ m_344
  · exact List.mem_cons_of_mem _ m_346
theorem iC_Loop {c0 : Cond} : ∀ w ∈ u_ws "LoopInduction$Loop" F_Loop 9, w ∈ c0 :: allW := by
  intro w hw
  obtain ⟨k, hk, rfl⟩ := List.mem_map.mp hw
  have hk := List.mem_range.mp hk
  rcases (show k = 0 ∨ k = 1 ∨ k = 2 ∨ k = 3 ∨ k = 4 ∨ k = 5 ∨ k = 6 ∨ k = 7 ∨ k = 8 by omega) with rfl | rfl | rfl | rfl | rfl | rfl | rfl | rfl | rfl
  · exact List.mem_cons_of_mem _ m_263
  · exact List.mem_cons_of_mem _ m_265
  · exact List.mem_cons_of_mem _ m_267
  · exact List.mem_cons_of_mem _ m_269
  · exact List.mem_cons_of_mem _ m_271
  · exact List.mem_cons_of_mem _ m_273
  · exact List.mem_cons_of_mem _ m_275
  · exact List.mem_cons_of_mem _ m_277
  · exact List.mem_cons_of_mem _ m_279
theorem iC_Pars {c0 : Cond} : ∀ w ∈ u_ws "LoopInduction$Parser" F_Pars 7, w ∈ c0 :: allW := by
  intro w hw
  obtain ⟨k, hk, rfl⟩ := List.mem_map.mp hw
  have hk := List.mem_range.mp hk
  rcases (show k = 0 ∨ k = 1 ∨ k = 2 ∨ k = 3 ∨ k = 4 ∨ k = 5 ∨ k = 6 by omega) with rfl | rfl | rfl | rfl | rfl | rfl | rfl
  · exact List.mem_cons_of_mem _ m_200
  · exact List.mem_cons_of_mem _ m_202
  · exact List.mem_cons_of_mem _ m_204
  · exact List.mem_cons_of_mem _ m_206
  · exact List.mem_cons_of_mem _ m_208
  · exact List.mem_cons_of_mem _ m_210
  · exact List.mem_cons_of_mem _ m_212
theorem iC_Runs {c0 : Cond} : ∀ w ∈ u_ws "LoopInduction$Runs" F_Runs 9, w ∈ c0 :: allW := by
  intro w hw
  obtain ⟨k, hk, rfl⟩ := List.mem_map.mp hw
  have hk := List.mem_range.mp hk
  rcases (show k = 0 ∨ k = 1 ∨ k = 2 ∨ k = 3 ∨ k = 4 ∨ k = 5 ∨ k = 6 ∨ k = 7 ∨ k = 8 by omega) with rfl | rfl | rfl | rfl | rfl | rfl | rfl | rfl | rfl
  · exact List.mem_cons_of_mem _ m_306
  · exact List.mem_cons_of_mem _ m_308
  · exact List.mem_cons_of_mem _ m_310
  · exact List.mem_cons_of_mem _ m_312
  · exact List.mem_cons_of_mem _ m_314
  · exact List.mem_cons_of_mem _ m_316
  · exact List.mem_cons_of_mem _ m_318
  · exact List.mem_cons_of_mem _ m_320
  · exact List.mem_cons_of_mem _ m_322
theorem iC_Scr {c0 : Cond} : ∀ w ∈ u_ws "LoopInduction$Scratch" F_Scr 3, w ∈ c0 :: allW := by
  intro w hw
  obtain ⟨k, hk, rfl⟩ := List.mem_map.mp hw
  have hk := List.mem_range.mp hk
  rcases (show k = 0 ∨ k = 1 ∨ k = 2 by omega) with rfl | rfl | rfl
  · exact List.mem_cons_of_mem _ m_237
  · exact List.mem_cons_of_mem _ m_239
  · exact List.mem_cons_of_mem _ m_241
theorem iC_Tape {c0 : Cond} : ∀ w ∈ u_ws "LoopInduction$Tape" F_Tape 2, w ∈ c0 :: allW := by
  intro w hw
  obtain ⟨k, hk, rfl⟩ := List.mem_map.mp hw
  have hk := List.mem_range.mp hk
  rcases (show k = 0 ∨ k = 1 by omega) with rfl | rfl
  · exact List.mem_cons_of_mem _ m_121
  · exact List.mem_cons_of_mem _ m_123
theorem iC_Tok {c0 : Cond} : ∀ w ∈ u_ws "LoopInduction$Tokens" F_Tok 7, w ∈ c0 :: allW := by
  intro w hw
  obtain ⟨k, hk, rfl⟩ := List.mem_map.mp hw
  have hk := List.mem_range.mp hk
  rcases (show k = 0 ∨ k = 1 ∨ k = 2 ∨ k = 3 ∨ k = 4 ∨ k = 5 ∨ k = 6 by omega) with rfl | rfl | rfl | rfl | rfl | rfl | rfl
  · exact List.mem_cons_of_mem _ m_140
  · exact List.mem_cons_of_mem _ m_142
  · exact List.mem_cons_of_mem _ m_144
  · exact List.mem_cons_of_mem _ m_146
  · exact List.mem_cons_of_mem _ m_148
  · exact List.mem_cons_of_mem _ m_150
  · exact List.mem_cons_of_mem _ m_152
theorem iC_Work {c0 : Cond} : ∀ w ∈ u_ws "LoopInduction$Worklist" F_Work 2, w ∈ c0 :: allW := by
  intro w hw
  obtain ⟨k, hk, rfl⟩ := List.mem_map.mp hw
  have hk := List.mem_range.mp hk
  rcases (show k = 0 ∨ k = 1 by omega) with rfl | rfl
  · exact List.mem_cons_of_mem _ m_229
  · exact List.mem_cons_of_mem _ m_231
