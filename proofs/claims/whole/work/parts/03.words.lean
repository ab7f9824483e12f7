theorem m_3 : (.selects "LoopInduction$Tokens" ⟨"LoopInduction$Tokens", "put", "(II)V"⟩ ⟨"LoopInduction$Tokens", "put", "(II)V"⟩ : Cond) ∈ allW := mem_all 3 (by decide +kernel) (by decide +kernel)
theorem m_20 : (.selects "LoopInduction$Loop" ⟨"LoopInduction$Loop", "loadFact", "(LLoopInduction$Code;II)V"⟩ ⟨"LoopInduction$Loop", "loadFact", "(LLoopInduction$Code;II)V"⟩ : Cond) ∈ allW := mem_all 20 (by decide +kernel) (by decide +kernel)
theorem m_21 : (.selects "LoopInduction$Code" ⟨"LoopInduction$Code", "valueIn", "(III)I"⟩ ⟨"LoopInduction$Code", "valueIn", "(III)I"⟩ : Cond) ∈ allW := mem_all 21 (by decide +kernel) (by decide +kernel)
theorem m_22 : (.selects "LoopInduction$Code" ⟨"LoopInduction$Code", "push", "(I)V"⟩ ⟨"LoopInduction$Code", "push", "(I)V"⟩ : Cond) ∈ allW := mem_all 22 (by decide +kernel) (by decide +kernel)
theorem m_23 : (.selects "LoopInduction$Code" ⟨"LoopInduction$Code", "pop", "()I"⟩ ⟨"LoopInduction$Code", "pop", "()I"⟩ : Cond) ∈ allW := mem_all 23 (by decide +kernel) (by decide +kernel)
theorem m_24 : (.selects "LoopInduction$Loop" ⟨"LoopInduction$Loop", "loadChoice", "(LLoopInduction$Code;I)V"⟩ ⟨"LoopInduction$Loop", "loadChoice", "(LLoopInduction$Code;I)V"⟩ : Cond) ∈ allW := mem_all 24 (by decide +kernel) (by decide +kernel)
theorem m_25 : (.selects "LoopInduction$Loop" ⟨"LoopInduction$Loop", "loadAssignment", "(LLoopInduction$Code;II)V"⟩ ⟨"LoopInduction$Loop", "loadAssignment", "(LLoopInduction$Code;II)V"⟩ : Cond) ∈ allW := mem_all 25 (by decide +kernel) (by decide +kernel)
theorem m_26 : (.selects "LoopInduction$Loop" ⟨"LoopInduction$Loop", "markEnds", "()V"⟩ ⟨"LoopInduction$Loop", "markEnds", "()V"⟩ : Cond) ∈ allW := mem_all 26 (by decide +kernel) (by decide +kernel)
theorem m_27 : (.selects "LoopInduction$Loop" ⟨"LoopInduction$Loop", "linkSources", "()V"⟩ ⟨"LoopInduction$Loop", "linkSources", "()V"⟩ : Cond) ∈ allW := mem_all 27 (by decide +kernel) (by decide +kernel)
theorem m_28 : (.selects "LoopInduction$Loop" ⟨"LoopInduction$Loop", "putSource", "(II)V"⟩ ⟨"LoopInduction$Loop", "putSource", "(II)V"⟩ : Cond) ∈ allW := mem_all 28 (by decide +kernel) (by decide +kernel)
theorem m_85 : (.initialized "LoopInduction" : Cond) ∈ allW := mem_all 85 (by decide +kernel) (by decide +kernel)
theorem m_86 : (.initialized "LoopInduction$Tape" : Cond) ∈ allW := mem_all 86 (by decide +kernel) (by decide +kernel)
theorem m_87 : (.initialized "LoopInduction$Tokens" : Cond) ∈ allW := mem_all 87 (by decide +kernel) (by decide +kernel)
theorem m_88 : (.initialized "LoopInduction$Code" : Cond) ∈ allW := mem_all 88 (by decide +kernel) (by decide +kernel)
theorem m_89 : (.initialized "LoopInduction$Parser" : Cond) ∈ allW := mem_all 89 (by decide +kernel) (by decide +kernel)
theorem m_92 : (.initialized "LoopInduction$Loop" : Cond) ∈ allW := mem_all 92 (by decide +kernel) (by decide +kernel)
theorem m_101 : (.initialized "java/lang/Math" : Cond) ∈ allW := mem_all 101 (by decide +kernel) (by decide +kernel)
theorem m_103 : (.initialized "java/util/Arrays" : Cond) ∈ allW := mem_all 103 (by decide +kernel) (by decide +kernel)
theorem m_119 : (.fieldLink "LoopInduction$Tape" 9 "LoopInduction$Tape" "bytes" "[B" : Cond) ∈ allW := mem_all 119 (by decide +kernel) (by decide +kernel)
theorem m_120 : (.fieldLink "LoopInduction$Tape" 13 "LoopInduction$Tape" "size" "I" : Cond) ∈ allW := mem_all 120 (by decide +kernel) (by decide +kernel)
theorem m_121 : (.laysFinal "LoopInduction$Tape" "LoopInduction$Tape" "bytes" "[B" : Cond) ∈ allW := mem_all 121 (by decide +kernel) (by decide +kernel)
theorem m_123 : (.lays "LoopInduction$Tape" "LoopInduction$Tape" "size" "I" : Cond) ∈ allW := mem_all 123 (by decide +kernel) (by decide +kernel)
theorem m_133 : (.fieldLink "LoopInduction$Tokens" 33 "LoopInduction$Tokens" "tape" "LLoopInduction$Tape;" : Cond) ∈ allW := mem_all 133 (by decide +kernel) (by decide +kernel)
theorem m_134 : (.fieldLink "LoopInduction$Tokens" 11 "LoopInduction$Tokens" "kinds" "[I" : Cond) ∈ allW := mem_all 134 (by decide +kernel) (by decide +kernel)
theorem m_135 : (.fieldLink "LoopInduction$Tokens" 17 "LoopInduction$Tokens" "values" "[I" : Cond) ∈ allW := mem_all 135 (by decide +kernel) (by decide +kernel)
theorem m_136 : (.fieldLink "LoopInduction$Tokens" 20 "LoopInduction$Tokens" "places" "[I" : Cond) ∈ allW := mem_all 136 (by decide +kernel) (by decide +kernel)
theorem m_137 : (.fieldLink "LoopInduction$Tokens" 23 "LoopInduction$Tokens" "count" "I" : Cond) ∈ allW := mem_all 137 (by decide +kernel) (by decide +kernel)
theorem m_138 : (.fieldLink "LoopInduction$Tokens" 27 "LoopInduction$Tokens" "start" "I" : Cond) ∈ allW := mem_all 138 (by decide +kernel) (by decide +kernel)
theorem m_139 : (.fieldLink "LoopInduction$Tokens" 30 "LoopInduction$Tokens" "stop" "I" : Cond) ∈ allW := mem_all 139 (by decide +kernel) (by decide +kernel)
theorem m_140 : (.laysFinal "LoopInduction$Tokens" "LoopInduction$Tokens" "tape" "LLoopInduction$Tape;" : Cond) ∈ allW := mem_all 140 (by decide +kernel) (by decide +kernel)
theorem m_142 : (.laysFinal "LoopInduction$Tokens" "LoopInduction$Tokens" "kinds" "[I" : Cond) ∈ allW := mem_all 142 (by decide +kernel) (by decide +kernel)
theorem m_144 : (.laysFinal "LoopInduction$Tokens" "LoopInduction$Tokens" "values" "[I" : Cond) ∈ allW := mem_all 144 (by decide +kernel) (by decide +kernel)
theorem m_146 : (.laysFinal "LoopInduction$Tokens" "LoopInduction$Tokens" "places" "[I" : Cond) ∈ allW := mem_all 146 (by decide +kernel) (by decide +kernel)
theorem m_148 : (.lays "LoopInduction$Tokens" "LoopInduction$Tokens" "count" "I" : Cond) ∈ allW := mem_all 148 (by decide +kernel) (by decide +kernel)
theorem m_150 : (.lays "LoopInduction$Tokens" "LoopInduction$Tokens" "start" "I" : Cond) ∈ allW := mem_all 150 (by decide +kernel) (by decide +kernel)
theorem m_152 : (.lays "LoopInduction$Tokens" "LoopInduction$Tokens" "stop" "I" : Cond) ∈ allW := mem_all 152 (by decide +kernel) (by decide +kernel)
theorem m_162 : (.fieldLink "LoopInduction$Code" 13 "LoopInduction$Code" "steps" "[I" : Cond) ∈ allW := mem_all 162 (by decide +kernel) (by decide +kernel)
theorem m_163 : (.fieldLink "LoopInduction$Code" 17 "LoopInduction$Code" "starts" "[I" : Cond) ∈ allW := mem_all 163 (by decide +kernel) (by decide +kernel)
theorem m_164 : (.fieldLink "LoopInduction$Code" 20 "LoopInduction$Code" "stops" "[I" : Cond) ∈ allW := mem_all 164 (by decide +kernel) (by decide +kernel)
theorem m_165 : (.fieldLink "LoopInduction$Code" 23 "LoopInduction$Code" "usedBits" "[I" : Cond) ∈ allW := mem_all 165 (by decide +kernel) (by decide +kernel)
theorem m_166 : (.fieldLink "LoopInduction$Code" 26 "LoopInduction$Code" "stack" "[I" : Cond) ∈ allW := mem_all 166 (by decide +kernel) (by decide +kernel)
theorem m_167 : (.fieldLink "LoopInduction$Code" 29 "LoopInduction$Code" "size" "I" : Cond) ∈ allW := mem_all 167 (by decide +kernel) (by decide +kernel)
theorem m_168 : (.fieldLink "LoopInduction$Code" 33 "LoopInduction$Code" "section" "I" : Cond) ∈ allW := mem_all 168 (by decide +kernel) (by decide +kernel)
theorem m_169 : (.fieldLink "LoopInduction$Code" 36 "LoopInduction$Code" "height" "I" : Cond) ∈ allW := mem_all 169 (by decide +kernel) (by decide +kernel)
theorem m_170 : (.laysFinal "LoopInduction$Code" "LoopInduction$Code" "steps" "[I" : Cond) ∈ allW := mem_all 170 (by decide +kernel) (by decide +kernel)
theorem m_172 : (.laysFinal "LoopInduction$Code" "LoopInduction$Code" "starts" "[I" : Cond) ∈ allW := mem_all 172 (by decide +kernel) (by decide +kernel)
theorem m_174 : (.laysFinal "LoopInduction$Code" "LoopInduction$Code" "stops" "[I" : Cond) ∈ allW := mem_all 174 (by decide +kernel) (by decide +kernel)
theorem m_176 : (.laysFinal "LoopInduction$Code" "LoopInduction$Code" "usedBits" "[I" : Cond) ∈ allW := mem_all 176 (by decide +kernel) (by decide +kernel)
theorem m_178 : (.laysFinal "LoopInduction$Code" "LoopInduction$Code" "stack" "[I" : Cond) ∈ allW := mem_all 178 (by decide +kernel) (by decide +kernel)
theorem m_180 : (.lays "LoopInduction$Code" "LoopInduction$Code" "size" "I" : Cond) ∈ allW := mem_all 180 (by decide +kernel) (by decide +kernel)
theorem m_182 : (.lays "LoopInduction$Code" "LoopInduction$Code" "section" "I" : Cond) ∈ allW := mem_all 182 (by decide +kernel) (by decide +kernel)
theorem m_184 : (.lays "LoopInduction$Code" "LoopInduction$Code" "height" "I" : Cond) ∈ allW := mem_all 184 (by decide +kernel) (by decide +kernel)
theorem m_200 : (.laysFinal "LoopInduction$Parser" "LoopInduction$Parser" "tokens" "LLoopInduction$Tokens;" : Cond) ∈ allW := mem_all 200 (by decide +kernel) (by decide +kernel)
theorem m_202 : (.laysFinal "LoopInduction$Parser" "LoopInduction$Parser" "code" "LLoopInduction$Code;" : Cond) ∈ allW := mem_all 202 (by decide +kernel) (by decide +kernel)
theorem m_204 : (.lays "LoopInduction$Parser" "LoopInduction$Parser" "current" "I" : Cond) ∈ allW := mem_all 204 (by decide +kernel) (by decide +kernel)
theorem m_206 : (.lays "LoopInduction$Parser" "LoopInduction$Parser" "faulty" "Z" : Cond) ∈ allW := mem_all 206 (by decide +kernel) (by decide +kernel)
theorem m_208 : (.lays "LoopInduction$Parser" "LoopInduction$Parser" "unaries" "I" : Cond) ∈ allW := mem_all 208 (by decide +kernel) (by decide +kernel)
theorem m_210 : (.lays "LoopInduction$Parser" "LoopInduction$Parser" "choices" "I" : Cond) ∈ allW := mem_all 210 (by decide +kernel) (by decide +kernel)
theorem m_212 : (.lays "LoopInduction$Parser" "LoopInduction$Parser" "guesses" "I" : Cond) ∈ allW := mem_all 212 (by decide +kernel) (by decide +kernel)
theorem m_227 : (.fieldLink "LoopInduction$Worklist" 9 "LoopInduction$Worklist" "items" "[I" : Cond) ∈ allW := mem_all 227 (by decide +kernel) (by decide +kernel)
theorem m_228 : (.fieldLink "LoopInduction$Worklist" 15 "LoopInduction$Worklist" "size" "I" : Cond) ∈ allW := mem_all 228 (by decide +kernel) (by decide +kernel)
theorem m_229 : (.laysFinal "LoopInduction$Worklist" "LoopInduction$Worklist" "items" "[I" : Cond) ∈ allW := mem_all 229 (by decide +kernel) (by decide +kernel)
theorem m_231 : (.lays "LoopInduction$Worklist" "LoopInduction$Worklist" "size" "I" : Cond) ∈ allW := mem_all 231 (by decide +kernel) (by decide +kernel)
theorem m_237 : (.laysFinal "LoopInduction$Scratch" "LoopInduction$Scratch" "one" "[I" : Cond) ∈ allW := mem_all 237 (by decide +kernel) (by decide +kernel)
theorem m_239 : (.laysFinal "LoopInduction$Scratch" "LoopInduction$Scratch" "two" "[I" : Cond) ∈ allW := mem_all 239 (by decide +kernel) (by decide +kernel)
theorem m_241 : (.laysFinal "LoopInduction$Scratch" "LoopInduction$Scratch" "work" "LLoopInduction$Worklist;" : Cond) ∈ allW := mem_all 241 (by decide +kernel) (by decide +kernel)
theorem m_254 : (.fieldLink "LoopInduction$Loop" 11 "LoopInduction$Loop" "facts" "[I" : Cond) ∈ allW := mem_all 254 (by decide +kernel) (by decide +kernel)
theorem m_255 : (.fieldLink "LoopInduction$Loop" 15 "LoopInduction$Loop" "turns" "[I" : Cond) ∈ allW := mem_all 255 (by decide +kernel) (by decide +kernel)
theorem m_256 : (.fieldLink "LoopInduction$Loop" 18 "LoopInduction$Loop" "firstSources" "[I" : Cond) ∈ allW := mem_all 256 (by decide +kernel) (by decide +kernel)
theorem m_257 : (.fieldLink "LoopInduction$Loop" 21 "LoopInduction$Loop" "sources" "[I" : Cond) ∈ allW := mem_all 257 (by decide +kernel) (by decide +kernel)
theorem m_258 : (.fieldLink "LoopInduction$Loop" 44 "LoopInduction$Loop" "row" "[I" : Cond) ∈ allW := mem_all 258 (by decide +kernel) (by decide +kernel)
theorem m_259 : (.fieldLink "LoopInduction$Loop" 24 "LoopInduction$Loop" "choices" "I" : Cond) ∈ allW := mem_all 259 (by decide +kernel) (by decide +kernel)
theorem m_260 : (.fieldLink "LoopInduction$Loop" 28 "LoopInduction$Loop" "guesses" "I" : Cond) ∈ allW := mem_all 260 (by decide +kernel) (by decide +kernel)
theorem m_261 : (.fieldLink "LoopInduction$Loop" 31 "LoopInduction$Loop" "unaries" "I" : Cond) ∈ allW := mem_all 261 (by decide +kernel) (by decide +kernel)
theorem m_262 : (.fieldLink "LoopInduction$Loop" 34 "LoopInduction$Loop" "ranked" "Z" : Cond) ∈ allW := mem_all 262 (by decide +kernel) (by decide +kernel)
theorem m_263 : (.laysFinal "LoopInduction$Loop" "LoopInduction$Loop" "facts" "[I" : Cond) ∈ allW := mem_all 263 (by decide +kernel) (by decide +kernel)
theorem m_265 : (.laysFinal "LoopInduction$Loop" "LoopInduction$Loop" "turns" "[I" : Cond) ∈ allW := mem_all 265 (by decide +kernel) (by decide +kernel)
theorem m_267 : (.laysFinal "LoopInduction$Loop" "LoopInduction$Loop" "firstSources" "[I" : Cond) ∈ allW := mem_all 267 (by decide +kernel) (by decide +kernel)
theorem m_269 : (.laysFinal "LoopInduction$Loop" "LoopInduction$Loop" "sources" "[I" : Cond) ∈ allW := mem_all 269 (by decide +kernel) (by decide +kernel)
theorem m_271 : (.laysFinal "LoopInduction$Loop" "LoopInduction$Loop" "row" "[I" : Cond) ∈ allW := mem_all 271 (by decide +kernel) (by decide +kernel)
theorem m_273 : (.lays "LoopInduction$Loop" "LoopInduction$Loop" "choices" "I" : Cond) ∈ allW := mem_all 273 (by decide +kernel) (by decide +kernel)
theorem m_275 : (.lays "LoopInduction$Loop" "LoopInduction$Loop" "guesses" "I" : Cond) ∈ allW := mem_all 275 (by decide +kernel) (by decide +kernel)
theorem m_277 : (.lays "LoopInduction$Loop" "LoopInduction$Loop" "unaries" "I" : Cond) ∈ allW := mem_all 277 (by decide +kernel) (by decide +kernel)
theorem m_279 : (.lays "LoopInduction$Loop" "LoopInduction$Loop" "ranked" "Z" : Cond) ∈ allW := mem_all 279 (by decide +kernel) (by decide +kernel)
theorem m_306 : (.laysFinal "LoopInduction$Runs" "LoopInduction$Runs" "loop" "LLoopInduction$Loop;" : Cond) ∈ allW := mem_all 306 (by decide +kernel) (by decide +kernel)
theorem m_308 : (.laysFinal "LoopInduction$Runs" "LoopInduction$Runs" "levels" "[I" : Cond) ∈ allW := mem_all 308 (by decide +kernel) (by decide +kernel)
theorem m_310 : (.laysFinal "LoopInduction$Runs" "LoopInduction$Runs" "path" "[I" : Cond) ∈ allW := mem_all 310 (by decide +kernel) (by decide +kernel)
theorem m_312 : (.laysFinal "LoopInduction$Runs" "LoopInduction$Runs" "one" "[I" : Cond) ∈ allW := mem_all 312 (by decide +kernel) (by decide +kernel)
theorem m_314 : (.laysFinal "LoopInduction$Runs" "LoopInduction$Runs" "two" "[I" : Cond) ∈ allW := mem_all 314 (by decide +kernel) (by decide +kernel)
theorem m_316 : (.laysFinal "LoopInduction$Runs" "LoopInduction$Runs" "work" "LLoopInduction$Worklist;" : Cond) ∈ allW := mem_all 316 (by decide +kernel) (by decide +kernel)
theorem m_318 : (.lays "LoopInduction$Runs" "LoopInduction$Runs" "reached" "I" : Cond) ∈ allW := mem_all 318 (by decide +kernel) (by decide +kernel)
theorem m_320 : (.lays "LoopInduction$Runs" "LoopInduction$Runs" "greatestLevel" "I" : Cond) ∈ allW := mem_all 320 (by decide +kernel) (by decide +kernel)
theorem m_322 : (.lays "LoopInduction$Runs" "LoopInduction$Runs" "pathSize" "I" : Cond) ∈ allW := mem_all 322 (by decide +kernel) (by decide +kernel)
theorem m_338 : (.laysFinal "LoopInduction$Guesses" "LoopInduction$Guesses" "loop" "LLoopInduction$Loop;" : Cond) ∈ allW := mem_all 338 (by decide +kernel) (by decide +kernel)
theorem m_340 : (.laysFinal "LoopInduction$Guesses" "LoopInduction$Guesses" "rounds" "[I" : Cond) ∈ allW := mem_all 340 (by decide +kernel) (by decide +kernel)
theorem m_342 : (.laysFinal "LoopInduction$Guesses" "LoopInduction$Guesses" "one" "[I" : Cond) ∈ allW := mem_all 342 (by decide +kernel) (by decide +kernel)
theorem m_344 : (.laysFinal "LoopInduction$Guesses" "LoopInduction$Guesses" "two" "[I" : Cond) ∈ allW := mem_all 344 (by decide +kernel) (by decide +kernel)
theorem m_346 : (.lays "LoopInduction$Guesses" "LoopInduction$Guesses" "left" "I" : Cond) ∈ allW := mem_all 346 (by decide +kernel) (by decide +kernel)
theorem m_362 : (.laysFinal "LoopInduction$Futures" "LoopInduction$Futures" "loop" "LLoopInduction$Loop;" : Cond) ∈ allW := mem_all 362 (by decide +kernel) (by decide +kernel)
theorem m_364 : (.laysFinal "LoopInduction$Futures" "LoopInduction$Futures" "marks" "[I" : Cond) ∈ allW := mem_all 364 (by decide +kernel) (by decide +kernel)
theorem m_366 : (.laysFinal "LoopInduction$Futures" "LoopInduction$Futures" "open" "[I" : Cond) ∈ allW := mem_all 366 (by decide +kernel) (by decide +kernel)
theorem m_368 : (.laysFinal "LoopInduction$Futures" "LoopInduction$Futures" "work" "LLoopInduction$Worklist;" : Cond) ∈ allW := mem_all 368 (by decide +kernel) (by decide +kernel)
theorem m_381 : (.laysFinal "LoopInduction" "LoopInduction" "tape" "LLoopInduction$Tape;" : Cond) ∈ allW := mem_all 381 (by decide +kernel) (by decide +kernel)
theorem m_383 : (.laysFinal "LoopInduction" "LoopInduction" "tokens" "LLoopInduction$Tokens;" : Cond) ∈ allW := mem_all 383 (by decide +kernel) (by decide +kernel)
theorem m_385 : (.laysFinal "LoopInduction" "LoopInduction" "code" "LLoopInduction$Code;" : Cond) ∈ allW := mem_all 385 (by decide +kernel) (by decide +kernel)
theorem m_387 : (.laysFinal "LoopInduction" "LoopInduction" "parser" "LLoopInduction$Parser;" : Cond) ∈ allW := mem_all 387 (by decide +kernel) (by decide +kernel)
theorem m_389 : (.laysFinal "LoopInduction" "LoopInduction" "loop" "LLoopInduction$Loop;" : Cond) ∈ allW := mem_all 389 (by decide +kernel) (by decide +kernel)
theorem m_391 : (.laysFinal "LoopInduction" "LoopInduction" "runs" "LLoopInduction$Runs;" : Cond) ∈ allW := mem_all 391 (by decide +kernel) (by decide +kernel)
theorem m_393 : (.laysFinal "LoopInduction" "LoopInduction" "guesses" "LLoopInduction$Guesses;" : Cond) ∈ allW := mem_all 393 (by decide +kernel) (by decide +kernel)
theorem m_395 : (.laysFinal "LoopInduction" "LoopInduction" "futures" "LLoopInduction$Futures;" : Cond) ∈ allW := mem_all 395 (by decide +kernel) (by decide +kernel)
theorem m_397 : (.lays "LoopInduction" "LoopInduction" "loopGiven" "Z" : Cond) ∈ allW := mem_all 397 (by decide +kernel) (by decide +kernel)
theorem m_399 : (.lays "LoopInduction" "LoopInduction" "faultPlace" "I" : Cond) ∈ allW := mem_all 399 (by decide +kernel) (by decide +kernel)
theorem m_415 : (.instanceMethod ⟨"LoopInduction$Tape", "size", "()I"⟩ : Cond) ∈ allW := mem_all 415 (by decide +kernel) (by decide +kernel)
theorem m_416 : (.selects "LoopInduction$Tape" ⟨"LoopInduction$Tape", "size", "()I"⟩ ⟨"LoopInduction$Tape", "size", "()I"⟩ : Cond) ∈ allW := mem_all 416 (by decide +kernel) (by decide +kernel)
theorem m_417 : (.code ⟨"LoopInduction$Tape", "size", "()I"⟩ prog_9_method_6_code 1 (some .int) : Cond) ∈ allW := mem_all 417 (by decide +kernel) (by decide +kernel)
theorem m_438 : (.methodLink "LoopInduction$Tokens" 40 ⟨"LoopInduction$Tape", "size", "()I"⟩ : Cond) ∈ allW := mem_all 438 (by decide +kernel) (by decide +kernel)
theorem m_439 : (.methodLink "LoopInduction$Tokens" 51 ⟨"LoopInduction$Tape", "byteAt", "(I)I"⟩ : Cond) ∈ allW := mem_all 439 (by decide +kernel) (by decide +kernel)
theorem m_440 : (.instanceMethod ⟨"LoopInduction$Tape", "byteAt", "(I)I"⟩ : Cond) ∈ allW := mem_all 440 (by decide +kernel) (by decide +kernel)
theorem m_441 : (.selects "LoopInduction$Tape" ⟨"LoopInduction$Tape", "byteAt", "(I)I"⟩ ⟨"LoopInduction$Tape", "byteAt", "(I)I"⟩ : Cond) ∈ allW := mem_all 441 (by decide +kernel) (by decide +kernel)
theorem m_442 : (.code ⟨"LoopInduction$Tape", "byteAt", "(I)I"⟩ prog_9_method_7_code 2 (some .int) : Cond) ∈ allW := mem_all 442 (by decide +kernel) (by decide +kernel)
theorem m_443 : (.methodLink "LoopInduction$Tokens" 55 ⟨"LoopInduction$Tokens", "isBlank", "(I)Z"⟩ : Cond) ∈ allW := mem_all 443 (by decide +kernel) (by decide +kernel)
theorem m_444 : (.static ⟨"LoopInduction$Tokens", "isBlank", "(I)Z"⟩ : Cond) ∈ allW := mem_all 444 (by decide +kernel) (by decide +kernel)
theorem m_445 : (.code ⟨"LoopInduction$Tokens", "isBlank", "(I)Z"⟩ prog_10_method_13_code 1 (some .boolean) : Cond) ∈ allW := mem_all 445 (by decide +kernel) (by decide +kernel)
theorem m_457 : (.methodLink "LoopInduction$Tokens" 47 ⟨"LoopInduction$Tokens", "put", "(II)V"⟩ : Cond) ∈ allW := mem_all 457 (by decide +kernel) (by decide +kernel)
theorem m_459 : (.instanceMethod ⟨"LoopInduction$Tokens", "put", "(II)V"⟩ : Cond) ∈ allW := mem_all 459 (by decide +kernel) (by decide +kernel)
theorem m_460 : (.code ⟨"LoopInduction$Tokens", "put", "(II)V"⟩ prog_10_method_6_code 3 none : Cond) ∈ allW := mem_all 460 (by decide +kernel) (by decide +kernel)
theorem m_526 : (.methodLink "LoopInduction$Tokens" 65 ⟨"LoopInduction$Tokens", "isDigit", "(I)Z"⟩ : Cond) ∈ allW := mem_all 526 (by decide +kernel) (by decide +kernel)
theorem m_527 : (.static ⟨"LoopInduction$Tokens", "isDigit", "(I)Z"⟩ : Cond) ∈ allW := mem_all 527 (by decide +kernel) (by decide +kernel)
theorem m_528 : (.code ⟨"LoopInduction$Tokens", "isDigit", "(I)Z"⟩ prog_10_method_15_code 1 (some .boolean) : Cond) ∈ allW := mem_all 528 (by decide +kernel) (by decide +kernel)
theorem m_533 : (.methodLink "LoopInduction$Tokens" 110 ⟨"java/lang/Math", "min", "(II)I"⟩ : Cond) ∈ allW := mem_all 533 (by decide +kernel) (by decide +kernel)
theorem m_534 : (.static ⟨"java/lang/Math", "min", "(II)I"⟩ : Cond) ∈ allW := mem_all 534 (by decide +kernel) (by decide +kernel)
theorem m_535 : (.code ⟨"java/lang/Math", "min", "(II)I"⟩ prog_15_method_69_code 2 (some .int) : Cond) ∈ allW := mem_all 535 (by decide +kernel) (by decide +kernel)
theorem m_610 : (.methodLink "LoopInduction$Code" 39 ⟨"java/util/Arrays", "fill", "([II)V"⟩ : Cond) ∈ allW := mem_all 610 (by decide +kernel) (by decide +kernel)
theorem m_611 : (.static ⟨"java/util/Arrays", "fill", "([II)V"⟩ : Cond) ∈ allW := mem_all 611 (by decide +kernel) (by decide +kernel)
theorem m_612 : (.code ⟨"java/util/Arrays", "fill", "([II)V"⟩ prog_20_method_103_code 4 none : Cond) ∈ allW := mem_all 612 (by decide +kernel) (by decide +kernel)
theorem m_650 : (.instanceMethod ⟨"LoopInduction$Code", "add", "(I)V"⟩ : Cond) ∈ allW := mem_all 650 (by decide +kernel) (by decide +kernel)
theorem m_651 : (.selects "LoopInduction$Code" ⟨"LoopInduction$Code", "add", "(I)V"⟩ ⟨"LoopInduction$Code", "add", "(I)V"⟩ : Cond) ∈ allW := mem_all 651 (by decide +kernel) (by decide +kernel)
theorem m_652 : (.code ⟨"LoopInduction$Code", "add", "(I)V"⟩ prog_2_method_7_code 2 none : Cond) ∈ allW := mem_all 652 (by decide +kernel) (by decide +kernel)
theorem m_673 : (.methodLink "LoopInduction$Code" 45 ⟨"LoopInduction$Code", "add", "(I)V"⟩ : Cond) ∈ allW := mem_all 673 (by decide +kernel) (by decide +kernel)
theorem m_687 : (.instanceMethod ⟨"LoopInduction$Code", "isTold", "(I)Z"⟩ : Cond) ∈ allW := mem_all 687 (by decide +kernel) (by decide +kernel)
theorem m_688 : (.selects "LoopInduction$Code" ⟨"LoopInduction$Code", "isTold", "(I)Z"⟩ ⟨"LoopInduction$Code", "isTold", "(I)Z"⟩ : Cond) ∈ allW := mem_all 688 (by decide +kernel) (by decide +kernel)
theorem m_689 : (.code ⟨"LoopInduction$Code", "isTold", "(I)Z"⟩ prog_2_method_5_code 2 (some .boolean) : Cond) ∈ allW := mem_all 689 (by decide +kernel) (by decide +kernel)
theorem m_702 : (.methodLink "LoopInduction$Loop" 59 ⟨"LoopInduction$Parser", "choices", "()I"⟩ : Cond) ∈ allW := mem_all 702 (by decide +kernel) (by decide +kernel)
theorem m_703 : (.instanceMethod ⟨"LoopInduction$Parser", "choices", "()I"⟩ : Cond) ∈ allW := mem_all 703 (by decide +kernel) (by decide +kernel)
theorem m_704 : (.selects "LoopInduction$Parser" ⟨"LoopInduction$Parser", "choices", "()I"⟩ ⟨"LoopInduction$Parser", "choices", "()I"⟩ : Cond) ∈ allW := mem_all 704 (by decide +kernel) (by decide +kernel)
theorem m_705 : (.code ⟨"LoopInduction$Parser", "choices", "()I"⟩ prog_6_method_3_code 1 (some .int) : Cond) ∈ allW := mem_all 705 (by decide +kernel) (by decide +kernel)
theorem m_706 : (.methodLink "LoopInduction$Loop" 64 ⟨"LoopInduction$Parser", "guesses", "()I"⟩ : Cond) ∈ allW := mem_all 706 (by decide +kernel) (by decide +kernel)
theorem m_707 : (.instanceMethod ⟨"LoopInduction$Parser", "guesses", "()I"⟩ : Cond) ∈ allW := mem_all 707 (by decide +kernel) (by decide +kernel)
theorem m_708 : (.selects "LoopInduction$Parser" ⟨"LoopInduction$Parser", "guesses", "()I"⟩ ⟨"LoopInduction$Parser", "guesses", "()I"⟩ : Cond) ∈ allW := mem_all 708 (by decide +kernel) (by decide +kernel)
theorem m_709 : (.code ⟨"LoopInduction$Parser", "guesses", "()I"⟩ prog_6_method_4_code 1 (some .int) : Cond) ∈ allW := mem_all 709 (by decide +kernel) (by decide +kernel)
theorem m_710 : (.methodLink "LoopInduction$Loop" 66 ⟨"LoopInduction$Parser", "unaries", "()I"⟩ : Cond) ∈ allW := mem_all 710 (by decide +kernel) (by decide +kernel)
theorem m_711 : (.instanceMethod ⟨"LoopInduction$Parser", "unaries", "()I"⟩ : Cond) ∈ allW := mem_all 711 (by decide +kernel) (by decide +kernel)
theorem m_712 : (.selects "LoopInduction$Parser" ⟨"LoopInduction$Parser", "unaries", "()I"⟩ ⟨"LoopInduction$Parser", "unaries", "()I"⟩ : Cond) ∈ allW := mem_all 712 (by decide +kernel) (by decide +kernel)
theorem m_713 : (.code ⟨"LoopInduction$Parser", "unaries", "()I"⟩ prog_6_method_2_code 1 (some .int) : Cond) ∈ allW := mem_all 713 (by decide +kernel) (by decide +kernel)
theorem m_714 : (.methodLink "LoopInduction$Loop" 70 ⟨"LoopInduction$Code", "isTold", "(I)Z"⟩ : Cond) ∈ allW := mem_all 714 (by decide +kernel) (by decide +kernel)
theorem m_715 : (.methodLink "LoopInduction$Loop" 73 ⟨"java/util/Arrays", "fill", "([II)V"⟩ : Cond) ∈ allW := mem_all 715 (by decide +kernel) (by decide +kernel)
theorem m_716 : (.methodLink "LoopInduction$Loop" 79 ⟨"LoopInduction$Loop", "loadFact", "(LLoopInduction$Code;II)V"⟩ : Cond) ∈ allW := mem_all 716 (by decide +kernel) (by decide +kernel)
theorem m_718 : (.instanceMethod ⟨"LoopInduction$Loop", "loadFact", "(LLoopInduction$Code;II)V"⟩ : Cond) ∈ allW := mem_all 718 (by decide +kernel) (by decide +kernel)
theorem m_719 : (.code ⟨"LoopInduction$Loop", "loadFact", "(LLoopInduction$Code;II)V"⟩ prog_5_method_17_code 5 none : Cond) ∈ allW := mem_all 719 (by decide +kernel) (by decide +kernel)
theorem m_720 : (.methodLink "LoopInduction$Loop" 93 ⟨"LoopInduction$Code", "tabulate", "(I[I)V"⟩ : Cond) ∈ allW := mem_all 720 (by decide +kernel) (by decide +kernel)
theorem m_721 : (.instanceMethod ⟨"LoopInduction$Code", "tabulate", "(I[I)V"⟩ : Cond) ∈ allW := mem_all 721 (by decide +kernel) (by decide +kernel)
theorem m_722 : (.selects "LoopInduction$Code" ⟨"LoopInduction$Code", "tabulate", "(I[I)V"⟩ ⟨"LoopInduction$Code", "tabulate", "(I[I)V"⟩ : Cond) ∈ allW := mem_all 722 (by decide +kernel) (by decide +kernel)
theorem m_723 : (.code ⟨"LoopInduction$Code", "tabulate", "(I[I)V"⟩ prog_2_method_8_code 6 none : Cond) ∈ allW := mem_all 723 (by decide +kernel) (by decide +kernel)
theorem m_724 : (.methodLink "LoopInduction$Code" 49 ⟨"LoopInduction$Code", "isTold", "(I)Z"⟩ : Cond) ∈ allW := mem_all 724 (by decide +kernel) (by decide +kernel)
theorem m_725 : (.methodLink "LoopInduction$Code" 53 ⟨"LoopInduction$Code", "valueIn", "(III)I"⟩ : Cond) ∈ allW := mem_all 725 (by decide +kernel) (by decide +kernel)
theorem m_727 : (.instanceMethod ⟨"LoopInduction$Code", "valueIn", "(III)I"⟩ : Cond) ∈ allW := mem_all 727 (by decide +kernel) (by decide +kernel)
theorem m_728 : (.code ⟨"LoopInduction$Code", "valueIn", "(III)I"⟩ prog_2_method_9_code 7 (some .int) : Cond) ∈ allW := mem_all 728 (by decide +kernel) (by decide +kernel)
theorem m_729 : (.methodLink "LoopInduction$Code" 57 ⟨"LoopInduction$Code", "push", "(I)V"⟩ : Cond) ∈ allW := mem_all 729 (by decide +kernel) (by decide +kernel)
theorem m_731 : (.instanceMethod ⟨"LoopInduction$Code", "push", "(I)V"⟩ : Cond) ∈ allW := mem_all 731 (by decide +kernel) (by decide +kernel)
theorem m_732 : (.code ⟨"LoopInduction$Code", "push", "(I)V"⟩ prog_2_method_10_code 2 none : Cond) ∈ allW := mem_all 732 (by decide +kernel) (by decide +kernel)
theorem m_733 : (.methodLink "LoopInduction$Code" 60 ⟨"LoopInduction$Code", "pop", "()I"⟩ : Cond) ∈ allW := mem_all 733 (by decide +kernel) (by decide +kernel)
theorem m_735 : (.instanceMethod ⟨"LoopInduction$Code", "pop", "()I"⟩ : Cond) ∈ allW := mem_all 735 (by decide +kernel) (by decide +kernel)
theorem m_736 : (.code ⟨"LoopInduction$Code", "pop", "()I"⟩ prog_2_method_11_code 1 (some .int) : Cond) ∈ allW := mem_all 736 (by decide +kernel) (by decide +kernel)
theorem m_737 : (.methodLink "LoopInduction$Code" 66 ⟨"LoopInduction$Code", "joined", "(III)I"⟩ : Cond) ∈ allW := mem_all 737 (by decide +kernel) (by decide +kernel)
theorem m_738 : (.static ⟨"LoopInduction$Code", "joined", "(III)I"⟩ : Cond) ∈ allW := mem_all 738 (by decide +kernel) (by decide +kernel)
theorem m_739 : (.code ⟨"LoopInduction$Code", "joined", "(III)I"⟩ prog_2_method_12_code 3 (some .int) : Cond) ∈ allW := mem_all 739 (by decide +kernel) (by decide +kernel)
theorem m_740 : (.methodLink "LoopInduction$Loop" 83 ⟨"LoopInduction$Loop", "loadChoice", "(LLoopInduction$Code;I)V"⟩ : Cond) ∈ allW := mem_all 740 (by decide +kernel) (by decide +kernel)
theorem m_742 : (.instanceMethod ⟨"LoopInduction$Loop", "loadChoice", "(LLoopInduction$Code;I)V"⟩ : Cond) ∈ allW := mem_all 742 (by decide +kernel) (by decide +kernel)
theorem m_743 : (.code ⟨"LoopInduction$Loop", "loadChoice", "(LLoopInduction$Code;I)V"⟩ prog_5_method_18_code 5 none : Cond) ∈ allW := mem_all 743 (by decide +kernel) (by decide +kernel)
theorem m_744 : (.methodLink "LoopInduction$Loop" 97 ⟨"LoopInduction$Loop", "loadAssignment", "(LLoopInduction$Code;II)V"⟩ : Cond) ∈ allW := mem_all 744 (by decide +kernel) (by decide +kernel)
theorem m_746 : (.instanceMethod ⟨"LoopInduction$Loop", "loadAssignment", "(LLoopInduction$Code;II)V"⟩ : Cond) ∈ allW := mem_all 746 (by decide +kernel) (by decide +kernel)
theorem m_747 : (.code ⟨"LoopInduction$Loop", "loadAssignment", "(LLoopInduction$Code;II)V"⟩ prog_5_method_19_code 8 none : Cond) ∈ allW := mem_all 747 (by decide +kernel) (by decide +kernel)
theorem m_748 : (.methodLink "LoopInduction$Loop" 87 ⟨"LoopInduction$Loop", "markEnds", "()V"⟩ : Cond) ∈ allW := mem_all 748 (by decide +kernel) (by decide +kernel)
theorem m_750 : (.instanceMethod ⟨"LoopInduction$Loop", "markEnds", "()V"⟩ : Cond) ∈ allW := mem_all 750 (by decide +kernel) (by decide +kernel)
theorem m_751 : (.code ⟨"LoopInduction$Loop", "markEnds", "()V"⟩ prog_5_method_20_code 2 none : Cond) ∈ allW := mem_all 751 (by decide +kernel) (by decide +kernel)
theorem m_752 : (.methodLink "LoopInduction$Loop" 100 ⟨"LoopInduction$Loop", "countTurns", "([I)V"⟩ : Cond) ∈ allW := mem_all 752 (by decide +kernel) (by decide +kernel)
theorem m_753 : (.instanceMethod ⟨"LoopInduction$Loop", "countTurns", "([I)V"⟩ : Cond) ∈ allW := mem_all 753 (by decide +kernel) (by decide +kernel)
theorem m_754 : (.selects "LoopInduction$Loop" ⟨"LoopInduction$Loop", "countTurns", "([I)V"⟩ ⟨"LoopInduction$Loop", "countTurns", "([I)V"⟩ : Cond) ∈ allW := mem_all 754 (by decide +kernel) (by decide +kernel)
theorem m_755 : (.code ⟨"LoopInduction$Loop", "countTurns", "([I)V"⟩ prog_5_method_15_code 4 none : Cond) ∈ allW := mem_all 755 (by decide +kernel) (by decide +kernel)
theorem m_756 : (.methodLink "LoopInduction$Loop" 55 ⟨"LoopInduction$Loop", "turn", "(II)I"⟩ : Cond) ∈ allW := mem_all 756 (by decide +kernel) (by decide +kernel)
theorem m_757 : (.instanceMethod ⟨"LoopInduction$Loop", "turn", "(II)I"⟩ : Cond) ∈ allW := mem_all 757 (by decide +kernel) (by decide +kernel)
theorem m_758 : (.selects "LoopInduction$Loop" ⟨"LoopInduction$Loop", "turn", "(II)I"⟩ ⟨"LoopInduction$Loop", "turn", "(II)I"⟩ : Cond) ∈ allW := mem_all 758 (by decide +kernel) (by decide +kernel)
theorem m_759 : (.code ⟨"LoopInduction$Loop", "turn", "(II)I"⟩ prog_5_method_10_code 3 (some .int) : Cond) ∈ allW := mem_all 759 (by decide +kernel) (by decide +kernel)
theorem m_761 : (.static ⟨"LoopInduction", "isState", "(I)Z"⟩ : Cond) ∈ allW := mem_all 761 (by decide +kernel) (by decide +kernel)
theorem m_762 : (.code ⟨"LoopInduction", "isState", "(I)Z"⟩ prog_1_method_20_code 1 (some .boolean) : Cond) ∈ allW := mem_all 762 (by decide +kernel) (by decide +kernel)
theorem m_763 : (.methodLink "LoopInduction$Loop" 90 ⟨"LoopInduction$Loop", "linkSources", "()V"⟩ : Cond) ∈ allW := mem_all 763 (by decide +kernel) (by decide +kernel)
theorem m_765 : (.instanceMethod ⟨"LoopInduction$Loop", "linkSources", "()V"⟩ : Cond) ∈ allW := mem_all 765 (by decide +kernel) (by decide +kernel)
theorem m_766 : (.code ⟨"LoopInduction$Loop", "linkSources", "()V"⟩ prog_5_method_21_code 4 none : Cond) ∈ allW := mem_all 766 (by decide +kernel) (by decide +kernel)
theorem m_767 : (.methodLink "LoopInduction$Loop" 104 ⟨"LoopInduction$Loop", "putSource", "(II)V"⟩ : Cond) ∈ allW := mem_all 767 (by decide +kernel) (by decide +kernel)
theorem m_769 : (.instanceMethod ⟨"LoopInduction$Loop", "putSource", "(II)V"⟩ : Cond) ∈ allW := mem_all 769 (by decide +kernel) (by decide +kernel)
theorem m_770 : (.code ⟨"LoopInduction$Loop", "putSource", "(II)V"⟩ prog_5_method_22_code 4 none : Cond) ∈ allW := mem_all 770 (by decide +kernel) (by decide +kernel)
theorem m_785 : (.instanceMethod ⟨"LoopInduction$Loop", "hasAll", "(II)Z"⟩ : Cond) ∈ allW := mem_all 785 (by decide +kernel) (by decide +kernel)
theorem m_786 : (.selects "LoopInduction$Loop" ⟨"LoopInduction$Loop", "hasAll", "(II)Z"⟩ ⟨"LoopInduction$Loop", "hasAll", "(II)Z"⟩ : Cond) ∈ allW := mem_all 786 (by decide +kernel) (by decide +kernel)
theorem m_787 : (.code ⟨"LoopInduction$Loop", "hasAll", "(II)Z"⟩ prog_5_method_6_code 3 (some .boolean) : Cond) ∈ allW := mem_all 787 (by decide +kernel) (by decide +kernel)
theorem m_931 : (.methodLink "LoopInduction$Loop" 51 ⟨"LoopInduction$Loop", "hasAll", "(II)Z"⟩ : Cond) ∈ allW := mem_all 931 (by decide +kernel) (by decide +kernel)
theorem iC_LI {c0 : Cond} : ∀ w ∈ u_ws "LoopInduction" F_LI 10, w ∈ c0 :: allW := by
  intro w hw
  obtain ⟨k, hk, rfl⟩ := List.mem_map.mp hw
  have hk := List.mem_range.mp hk
  rcases (show k = 0 ∨ k = 1 ∨ k = 2 ∨ k = 3 ∨ k = 4 ∨ k = 5 ∨ k = 6 ∨ k = 7 ∨ k = 8 ∨ k = 9 by omega) with rfl | rfl | rfl | rfl | rfl | rfl | rfl | rfl | rfl | rfl
  · exact List.mem_cons_of_mem _ m_381
  · exact List.mem_cons_of_mem _ m_383
  · exact List.mem_cons_of_mem _ m_385
  · exact List.mem_cons_of_mem _ m_387
  · exact List.mem_cons_of_mem _ m_389
  · exact List.mem_cons_of_mem _ m_391
  · exact List.mem_cons_of_mem _ m_393
  · exact List.mem_cons_of_mem _ m_395
  · exact List.mem_cons_of_mem _ m_397
  · exact List.mem_cons_of_mem _ m_399
theorem iC_Code {c0 : Cond} : ∀ w ∈ u_ws "LoopInduction$Code" F_Code 8, w ∈ c0 :: allW := by
  intro w hw
  obtain ⟨k, hk, rfl⟩ := List.mem_map.mp hw
  have hk := List.mem_range.mp hk
  rcases (show k = 0 ∨ k = 1 ∨ k = 2 ∨ k = 3 ∨ k = 4 ∨ k = 5 ∨ k = 6 ∨ k = 7 by omega) with rfl | rfl | rfl | rfl | rfl | rfl | rfl | rfl
  · exact List.mem_cons_of_mem _ m_170
  · exact List.mem_cons_of_mem _ m_172
  · exact List.mem_cons_of_mem _ m_174
  · exact List.mem_cons_of_mem _ m_176
  · exact List.mem_cons_of_mem _ m_178
  · exact List.mem_cons_of_mem _ m_180
  · exact List.mem_cons_of_mem _ m_182
  · exact List.mem_cons_of_mem _ m_184
theorem iC_Fut {c0 : Cond} : ∀ w ∈ u_ws "LoopInduction$Futures" F_Fut 4, w ∈ c0 :: allW := by
  intro w hw
  obtain ⟨k, hk, rfl⟩ := List.mem_map.mp hw
  have hk := List.mem_range.mp hk
  rcases (show k = 0 ∨ k = 1 ∨ k = 2 ∨ k = 3 by omega) with rfl | rfl | rfl | rfl
  · exact List.mem_cons_of_mem _ m_362
  · exact List.mem_cons_of_mem _ m_364
  · exact List.mem_cons_of_mem _ m_366
  · exact List.mem_cons_of_mem _ m_368
theorem iC_Gues {c0 : Cond} : ∀ w ∈ u_ws "LoopInduction$Guesses" F_Gues 5, w ∈ c0 :: allW := by
  intro w hw
  obtain ⟨k, hk, rfl⟩ := List.mem_map.mp hw
  have hk := List.mem_range.mp hk
  rcases (show k = 0 ∨ k = 1 ∨ k = 2 ∨ k = 3 ∨ k = 4 by omega) with rfl | rfl | rfl | rfl | rfl
  · exact List.mem_cons_of_mem _ m_338
  · exact List.mem_cons_of_mem _ m_340
  · exact List.mem_cons_of_mem _ m_342
  · exact List.mem_cons_of_mem _ m_344
  · exact List.mem_cons_of_mem _ m_346
theorem iC_Loop {c0 : Cond} : ∀ w ∈ u_ws "LoopInduction$Loop" F_Loop 9, w ∈ c0 :: allW := by
  intro w hw
  obtain ⟨k, hk, rfl⟩ := List.mem_map.mp hw
  have hk := List.mem_range.mp hk
  rcases (show k = 0 ∨ k = 1 ∨ k = 2 ∨ k = 3 ∨ k = 4 ∨ k = 5 ∨ k = 6 ∨ k = 7 ∨ k = 8 by omega) with rfl | rfl | rfl | rfl | rfl | rfl | rfl | rfl | rfl
  · exact List.mem_cons_of_mem _ m_263
  · exact List.mem_cons_of_mem _ m_265
  · exact List.mem_cons_of_mem _ m_267
  · exact List.mem_cons_of_mem _ m_269
  · exact List.mem_cons_of_mem _ m_271
  · exact List.mem_cons_of_mem _ m_273
  · exact List.mem_cons_of_mem _ m_275
  · exact List.mem_cons_of_mem _ m_277
  · exact List.mem_cons_of_mem _ m_279
theorem iC_Pars {c0 : Cond} : ∀ w ∈ u_ws "LoopInduction$Parser" F_Pars 7, w ∈ c0 :: allW := by
  intro w hw
  obtain ⟨k, hk, rfl⟩ := List.mem_map.mp hw
  have hk := List.mem_range.mp hk
  rcases (show k = 0 ∨ k = 1 ∨ k = 2 ∨ k = 3 ∨ k = 4 ∨ k = 5 ∨ k = 6 by omega) with rfl | rfl | rfl | rfl | rfl | rfl | rfl
  · exact List.mem_cons_of_mem _ m_200
  · exact List.mem_cons_of_mem _ m_202
  · exact List.mem_cons_of_mem _ m_204
  · exact List.mem_cons_of_mem _ m_206
  · exact List.mem_cons_of_mem _ m_208
  · exact List.mem_cons_of_mem _ m_210
  · exact List.mem_cons_of_mem _ m_212
theorem iC_Runs {c0 : Cond} : ∀ w ∈ u_ws "LoopInduction$Runs" F_Runs 9, w ∈ c0 :: allW := by
  intro w hw
  obtain ⟨k, hk, rfl⟩ := List.mem_map.mp hw
  have hk := List.mem_range.mp hk
  rcases (show k = 0 ∨ k = 1 ∨ k = 2 ∨ k = 3 ∨ k = 4 ∨ k = 5 ∨ k = 6 ∨ k = 7 ∨ k = 8 by omega) with rfl | rfl | rfl | rfl | rfl | rfl | rfl | rfl | rfl
  · exact List.mem_cons_of_mem _ m_306
  · exact List.mem_cons_of_mem _ m_308
  · exact List.mem_cons_of_mem _ m_310
  · exact List.mem_cons_of_mem _ m_312
  · exact List.mem_cons_of_mem _ m_314
  · exact List.mem_cons_of_mem _ m_316
  · exact List.mem_cons_of_mem _ m_318
  · exact List.mem_cons_of_mem _ m_320
  · exact List.mem_cons_of_mem _ m_322
theorem iC_Scr {c0 : Cond} : ∀ w ∈ u_ws "LoopInduction$Scratch" F_Scr 3, w ∈ c0 :: allW := by
  intro w hw
  obtain ⟨k, hk, rfl⟩ := List.mem_map.mp hw
  have hk := List.mem_range.mp hk
  rcases (show k = 0 ∨ k = 1 ∨ k = 2 by omega) with rfl | rfl | rfl
  · exact List.mem_cons_of_mem _ m_237
  · exact List.mem_cons_of_mem _ m_239
  · exact List.mem_cons_of_mem _ m_241
theorem iC_Tape {c0 : Cond} : ∀ w ∈ u_ws "LoopInduction$Tape" F_Tape 2, w ∈ c0 :: allW := by
  intro w hw
  obtain ⟨k, hk, rfl⟩ := List.mem_map.mp hw
  have hk := List.mem_range.mp hk
  rcases (show k = 0 ∨ k = 1 by omega) with rfl | rfl
  · exact List.mem_cons_of_mem _ m_121
  · exact List.mem_cons_of_mem _ m_123
theorem iC_Tok {c0 : Cond} : ∀ w ∈ u_ws "LoopInduction$Tokens" F_Tok 7, w ∈ c0 :: allW := by
  intro w hw
  obtain ⟨k, hk, rfl⟩ := List.mem_map.mp hw
  have hk := List.mem_range.mp hk
  rcases (show k = 0 ∨ k = 1 ∨ k = 2 ∨ k = 3 ∨ k = 4 ∨ k = 5 ∨ k = 6 by omega) with rfl | rfl | rfl | rfl | rfl | rfl | rfl
  · exact List.mem_cons_of_mem _ m_140
  · exact List.mem_cons_of_mem _ m_142
  · exact List.mem_cons_of_mem _ m_144
  · exact List.mem_cons_of_mem _ m_146
  · exact List.mem_cons_of_mem _ m_148
  · exact List.mem_cons_of_mem _ m_150
  · exact List.mem_cons_of_mem _ m_152
theorem iC_Work {c0 : Cond} : ∀ w ∈ u_ws "LoopInduction$Worklist" F_Work 2, w ∈ c0 :: allW := by
  intro w hw
  obtain ⟨k, hk, rfl⟩ := List.mem_map.mp hw
  have hk := List.mem_range.mp hk
  rcases (show k = 0 ∨ k = 1 by omega) with rfl | rfl
  · exact List.mem_cons_of_mem _ m_229
  · exact List.mem_cons_of_mem _ m_231
